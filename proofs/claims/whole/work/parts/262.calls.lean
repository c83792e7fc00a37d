/-! ===== text ===== -/
theorem CF_0 : CF 3 16 2 0 1 0 := ⟨⟨by decide, by decide⟩, ⟨by decide, by decide⟩, Or.inl rfl, by decide, by decide, by decide⟩
theorem begin_c {n : Nat} (a1 a2 a3 a4 a5 a6 a7 : Int32) (im re : Nat → Int32) (b1 b2 b3 b4 b5 b6 b7 b8 b9 : Int32) (sh : Nat → Int32) : ∃ im' re' st sh', fX4_begin a1 a2 a3 a4 a5 a6 a7 im re b1 b2 b3 b4 b5 b6 b7 b8 b9 sh (nI n) = some (0, -1, 0, 0, 0, nI n, 0, im', re', nI (2 ^ 3), nI 3, nI 16, nI (lmN 16), nI 2, nI 0, nI 1, nI 0, st, sh') ∧ ∀ p, p < 32 → re' p = 0 ∧ im' p = 0 := by
  obtain ⟨sh', d1, -⟩ := takeShape_eq (M := 3) (rad := 2) (ord := 0) CF_0.1 (Or.inl rfl) (by decide) b5 b6 b9 sh
  have hd : fX8_takeDefaults b1 b2 b3 b4 b5 b6 b7 b8 b9 sh = some (nI (2 ^ 3), nI 3, nI 16, nI (lmN 16), nI 2, nI 0, nI 1, nI 0, nI (nst 3 2), sh') := by
    unfold fX8_takeDefaults
    rw [show fX8_takeSize b1 b2 8 = _ from takeSize_eq (M := 3) CF_0.1 b1 b2, bd2_s, show fX8_takeBits b3 b4 16 = _ from takeBits_eq (b := 16) ⟨by decide, by decide⟩ b3 b4, bd2_s, show fX8_takeShape (nI 3) b5 b6 b9 sh 2 0 = _ from d1, bd4_s]
    rfl
  unfold fX4_begin
  rw [hd, bd10_s]
  have hh := loopX (fun f i (y : (Nat → Int32) × (Nat → Int32)) => fX4_begin_9 f a1 a2 a3 a4 a5 a6 a7 y.1 y.2 (nI (2 ^ 3)) (nI 3) (nI 16) (nI (lmN 16)) (nI 2) (nI 0) (nI 1) (nI 0) (nI (nst 3 2)) sh' (nI n) (nI i)) (fun i y => ∀ p, p < i → y.2 p = 0 ∧ y.1 p = 0) 32 (fun y => fX4_begin_35 a1 a2 a3 a4 a5 a6 a7 y.1 y.2 (nI (2 ^ 3)) (nI 3) (nI 16) (nI (lmN 16)) (nI 2) (nI 0) (nI 1) (nI 0) (nI (nst 3 2)) sh' (nI n)) ?_ ?_ 32 FU 0 (im, re) (by omega) (FU_pos (by omega)) (fun j hj => by omega)
  · obtain ⟨y, c1, c2⟩ := hh
    exact ⟨y.1, y.2, nI (nst 3 2), sh', c2, c1⟩
  · intro f i y hi hJ
    refine ⟨(upd y.1 i 0, upd y.2 i 0), fun p hp => ?_, ?_⟩
    · dsimp only
      by_cases e : p = i
      · subst e; exact ⟨pk_us, pk_us⟩
      · rw [pk_un e, pk_un e]; exact hJ p (by omega)
    · rw [fX4_begin_9.eq_2, if_neg (show ¬ ((32 : Int32) ≤ nI i) from nI_ge hi (by decide)), gd_t (inb_nI hi (by decide)), nm, gd_t (inb_nI hi (by decide)), nm, nm, nI_clamp (by omega), nI_1]
  · intro f y hJ
    rw [fX4_begin_9.eq_2, if_pos (show (32 : Int32) ≤ nI 32 by decide)]
theorem plain_m (pr : Int32) (isP isT told tW : Nat → Int32) : ∃ isP' isT' told' tW', fX10_plain pr isP isT told tW = some (0, isP', isT', told', tW') ∧ (∀ j, j < 6 → isT' j = 0) ∧ (∀ p, p < 64 → isP' p = 0 ∧ tW' (64 + p) = 0) ∧ (∀ j, j < 6 → told' j = told j) ∧ told' 6 = nI (2 ^ 3) ∧ told' 7 = nI 16 ∧ told' 8 = nI 2 ∧ told' 9 = nI 0 ∧ told' 10 = nI 1 ∧ told' 11 = nI 0 := by
  obtain ⟨td, etd⟩ : ∃ td, td = upd (upd (upd (upd (upd (upd told 6 8) 7 16) 8 2) 9 0) 10 1) 11 0 := ⟨_, rfl⟩
  have hh := loopX (fun f i (y : Nat → Int32) => fX10_plain_52 f pr isP y td tW (nI i)) (fun i y => ∀ j, j < i → y j = 0) 6 (fun y => fX10_plain_71 pr isP y td tW) ?_ ?_ 6 FU 0 isT (by omega) (FU_pos (by omega)) (fun j hj => by omega)
  · obtain ⟨it, i1, i2⟩ := hh
    have h73 := loopX (fun f i (y : (Nat → Int32) × (Nat → Int32)) => fX10_plain_73 f pr y.1 it td y.2 (nI i)) (fun i y => ∀ p, p < i → y.1 p = 0 ∧ y.2 (64 + p) = 0) 64 (fun y => fX10_plain_102 pr y.1 it td y.2) ?_ ?_ 64 FU 0 (isP, tW) (by omega) (FU_pos (by omega)) (fun j hj => by omega)
    · obtain ⟨y, y1, y2⟩ := h73
      refine ⟨y.1, it, td, y.2, ?_, i1, y1, fun j hj => ?_, ?_, ?_, ?_, ?_, ?_, ?_⟩
      · unfold fX10_plain
        simp only [nm, gd_t (show inb (6 : Int32) 12 = true by decide), gd_t (show inb (7 : Int32) 12 = true by decide), gd_t (show inb (8 : Int32) 12 = true by decide), gd_t (show inb (9 : Int32) 12 = true by decide), gd_t (show inb (10 : Int32) 12 = true by decide), gd_t (show inb (11 : Int32) 12 = true by decide), show Int32.toNatClampNeg 6 = 6 from rfl, show Int32.toNatClampNeg 7 = 7 from rfl, show Int32.toNatClampNeg 8 = 8 from rfl, show Int32.toNatClampNeg 9 = 9 from rfl, show Int32.toNatClampNeg 10 = 10 from rfl, show Int32.toNatClampNeg 11 = 11 from rfl]
        rw [← etd]
        refine (show fX10_plain_52 FU pr isP isT td tW 0 = _ from i2).trans ?_
        unfold fX10_plain_71
        exact y2
      · rw [etd, pk_un (by omega), pk_un (by omega), pk_un (by omega), pk_un (by omega), pk_un (by omega), pk_un (by omega)]
      · rw [etd]; rfl
      · rw [etd]; rfl
      · rw [etd]; rfl
      · rw [etd]; rfl
      · rw [etd]; rfl
      · rw [etd]; rfl
    · intro f i y hi hJ
      refine ⟨(upd y.1 i 0, upd y.2 (64 + i) 0), fun p hp => ?_, ?_⟩
      · dsimp only
        by_cases e : p = i
        · subst e; exact ⟨pk_us, pk_us⟩
        · rw [pk_un e, pk_un (show 64 + p ≠ 64 + i by omega)]; exact hJ p (by omega)
      · rw [fX10_plain_73.eq_2, if_neg (show ¬ ((64 : Int32) ≤ nI i) from nI_ge hi (by decide)), show (64 : Int32) + nI i = nI (64 + i) from nI_add 64 i, gd_t (inb_nI (show 64 + i < 128 by omega) (by decide)), nm, gd_t (inb_nI hi (by decide)), nm, nm, nI_clamp (by omega), nI_clamp (by omega), nI_1]
        rfl
    · intro f y hJ
      rw [fX10_plain_73.eq_2, if_pos (show (64 : Int32) ≤ nI 64 by decide)]
  · intro f i y hi hJ
    refine ⟨upd y i 0, fun p hp => ?_, ?_⟩
    · by_cases e : p = i
      · subst e; exact pk_us
      · rw [pk_un e]; exact hJ p (by omega)
    · rw [fX10_plain_52.eq_2, if_neg (show ¬ ((6 : Int32) ≤ nI i) from nI_ge hi (by decide)), gd_t (inb_nI hi (by decide)), nm, nm, nI_clamp (by omega), nI_1]
      rfl
  · intro f y hJ
    rw [fX10_plain_52.eq_2, if_pos (show (6 : Int32) ≤ nI 6 by decide)]
theorem takeOver_c {M bits rad ord nr sd : Nat} (hC : CF M bits rad ord nr sd) {re im : Nat → Int32} (c1 c2 c3 c4 c5 c6 c7 c8 c9 c10 c11 c12 c13 c14 c15 c16 c17 c18 : Int32) (d1 d2 d3 d4 d5 d6 d7 d8 : Nat → Int32) :
    ∃ pw' co' si' im' re' wi' wr' sh', fX9_takeOver c1 c2 c3 c4 c5 c6 c7 c8 c9 c10 c11 c12 c13 c14 c15 c16 c17 c18 im re (nI (2 ^ M)) (nI M) (nI bits) (nI rad) (nI ord) (nI nr) (nI sd) d1 d2 d3 d4 d5 d6 d7 d8 = some (0, 0, -1, 0, nI (2 ^ M), nI M, 0, 0, 0, nI (2 ^ M), nI M, nI bits, nI (lmN bits), nI rad, nI ord, nI nr, nI sd, nI (nst M rad), pw', co', si', im', re', wi', wr', sh') ∧ SHF M rad ord sh' ∧ TRN M co' si' ∧ RNGR M (nI (2 ^ M)) (nI M) pw' ∧ RE32 (re', im') (re, im) ∧ RE32 (wr', wi') (re, im) := by
  obtain ⟨sh', s1, s2⟩ := copyFrom_eq hC c10 c11 c12 c13 c14 c15 c16 c17 c18 d8
  obtain ⟨co', si', f1, f2⟩ := fit_c hC.1 d2 d3
  obtain ⟨pw', r1, r2⟩ := rfit_c hC.1 c5 c6 d1
  have hck : cpok 0 0 32 32 32 = true := by decide
  refine ⟨pw', co', si', va_cpy im d4 0 0 32, va_cpy re d5 0 0 32, va_cpy (va_cpy im d4 0 0 32) d6 0 0 32, va_cpy (va_cpy re d5 0 0 32) d7 0 0 32, sh', ?_, s2, f2, r2, fun p hp => ⟨sb_cpy0 hp, sb_cpy0 hp⟩, fun p hp => ⟨(sb_cpy0 hp).trans (sb_cpy0 hp), (sb_cpy0 hp).trans (sb_cpy0 hp)⟩⟩
  unfold fX9_takeOver fX7_begin fX7_settle fX2_forgetAll fX3_forgetAll
  rw [s1, bd10_s, f1, bd2_s, r1, bd3_s]
  simp only [gd_t hck, nm, bd5_s, bd2_s, bd1_s]
  rfl
theorem k_text {o_imageKept : Int32} {o_taped : Int32} {o_way_size : Int32} {o_way_log : Int32} {o_way_wordBits : Int32} {o_way_limit : Int32} {o_way_radix : Int32} {o_way_order : Int32} {o_way_near : Int32} {o_way_seed : Int32} {o_way_stages : Int32} {o_way_shifts : Nat → Int32} {o_wave_exp : Int32} {o_wave_done : Int32} {o_wave_backward : Int32} {o_wave_re : Nat → Int32} {o_wave_im : Nat → Int32} {o_wave_wasRe : Nat → Int32} {o_wave_wasIm : Nat → Int32} {o_wave_halved : Nat → Int32} {o_past_next : Int32} {o_past_held : Int32} {o_past_cells : Nat → Int32} {o_notes_total : Int32} {o_notes_knownBy : Int32} {o_notes_kinds : Nat → Int32} {o_notes_targets : Nat → Int32} {o_notes_bins : Nat → Int32} {o_ring_size : Int32} {o_ring_log : Int32} {o_ring_powers : Nat → Int32} {o_turns_cos : Nat → Int32} {o_turns_sin : Nat → Int32} {o_reader_fault : Int32} {o_reader_faultPlace : Int32} {o_image : Nat → Int32} {o_tape : Nat → Int32} {m_tapeSize : Int32} {m_fault : Int32} {m_faultPlace : Int32} {m_bank : Int32} {m_isImage : Int32} {m_undos : Int32} {m_runRadix : Int32} {m_runOrder : Int32} {m_runNear : Int32} {m_runLimit : Int32} {m_runHalves : Int32} {m_power : Int32} {m_notedMany : Int32} {m_knownTold : Int32} {m_tape : Nat → Int32} {m_words : Nat → Int32} {m_told : Nat → Int32} {m_all : Nat → Int32} {m_quarter : Nat → Int32} {m_roots : Nat → Int32} {m_noted1 : Nat → Int32} (hR : REL o_imageKept o_taped o_way_size o_way_log o_way_wordBits o_way_limit o_way_radix o_way_order o_way_near o_way_seed o_way_stages o_way_shifts o_wave_exp o_wave_done o_wave_backward o_wave_re o_wave_im o_wave_wasRe o_wave_wasIm o_wave_halved o_past_next o_past_held o_past_cells o_notes_total o_notes_knownBy o_notes_kinds o_notes_targets o_notes_bins o_ring_size o_ring_log o_ring_powers o_turns_cos o_turns_sin o_reader_fault o_reader_faultPlace o_image o_tape m_tapeSize m_fault m_faultPlace m_bank m_isImage m_undos m_runRadix m_runOrder m_runNear m_runLimit m_runHalves m_power m_notedMany m_knownTold m_tape m_words m_told m_all m_quarter m_roots m_noted1) (p1 : Int32)  (o_reader_toldWords : Int32) (o_reader_toldRe : Int32) (o_reader_toldIm : Int32) (o_reader_length : Int32) (o_reader_place : Int32) (o_reader_kind : Int32) (o_reader_start : Int32) (o_reader_number : Int32) (o_reader_im : Nat → Int32) (o_reader_re : Nat → Int32) (o_reader_way_size : Int32) (o_reader_way_log : Int32) (o_reader_way_wordBits : Int32) (o_reader_way_limit : Int32) (o_reader_way_radix : Int32) (o_reader_way_order : Int32) (o_reader_way_near : Int32) (o_reader_way_seed : Int32) (o_reader_way_stages : Int32) (o_reader_way_shifts : Nat → Int32) (m_thrown : Int32) (m_stop : Int32) (m_next : Int32) (m_kind : Int32) (m_which : Int32) (m_at : Int32) (m_pointsRead : Int32) (m_isPoint : Nat → Int32) (m_isTold : Nat → Int32) (m_toldWave : Nat → Int32) :
    ∃ (r : Int32) (out_o_imageKept : Int32) (out_o_taped : Int32) (out_o_notes_total : Int32) (out_o_notes_knownBy : Int32) (out_o_past_held : Int32) (out_o_reader_fault : Int32) (out_o_reader_faultPlace : Int32) (out_o_reader_toldWords : Int32) (out_o_reader_toldRe : Int32) (out_o_reader_toldIm : Int32) (out_o_reader_length : Int32) (out_o_reader_place : Int32) (out_o_reader_kind : Int32) (out_o_reader_start : Int32) (out_o_reader_number : Int32) (out_o_ring_size : Int32) (out_o_ring_log : Int32) (out_o_wave_exp : Int32) (out_o_wave_done : Int32) (out_o_wave_backward : Int32) (out_o_way_size : Int32) (out_o_way_log : Int32) (out_o_way_wordBits : Int32) (out_o_way_limit : Int32) (out_o_way_radix : Int32) (out_o_way_order : Int32) (out_o_way_near : Int32) (out_o_way_seed : Int32) (out_o_way_stages : Int32) (out_o_reader_im : Nat → Int32) (out_o_reader_re : Nat → Int32) (out_o_reader_way_size : Int32) (out_o_reader_way_log : Int32) (out_o_reader_way_wordBits : Int32) (out_o_reader_way_limit : Int32) (out_o_reader_way_radix : Int32) (out_o_reader_way_order : Int32) (out_o_reader_way_near : Int32) (out_o_reader_way_seed : Int32) (out_o_reader_way_stages : Int32) (out_o_ring_powers : Nat → Int32) (out_o_turns_cos : Nat → Int32) (out_o_turns_sin : Nat → Int32) (out_o_wave_im : Nat → Int32) (out_o_wave_re : Nat → Int32) (out_o_wave_wasIm : Nat → Int32) (out_o_wave_wasRe : Nat → Int32) (out_o_way_shifts : Nat → Int32) (out_o_reader_way_shifts : Nat → Int32) (out_m_tapeSize : Int32) (out_m_thrown : Int32) (out_m_fault : Int32) (out_m_faultPlace : Int32) (out_m_stop : Int32) (out_m_next : Int32) (out_m_kind : Int32) (out_m_which : Int32) (out_m_at : Int32) (out_m_pointsRead : Int32) (out_m_bank : Int32) (out_m_isImage : Int32) (out_m_undos : Int32) (out_m_runRadix : Int32) (out_m_runOrder : Int32) (out_m_runNear : Int32) (out_m_runLimit : Int32) (out_m_runHalves : Int32) (out_m_power : Int32) (out_m_notedMany : Int32) (out_m_knownTold : Int32) (out_m_all : Nat → Int32) (out_m_isPoint : Nat → Int32) (out_m_isTold : Nat → Int32) (out_m_roots : Nat → Int32) (out_m_told : Nat → Int32) (out_m_toldWave : Nat → Int32), fX9_text o_imageKept o_taped o_notes_total o_notes_knownBy o_past_held o_reader_fault o_reader_faultPlace o_reader_toldWords o_reader_toldRe o_reader_toldIm o_reader_length o_reader_place o_reader_kind o_reader_start o_reader_number o_ring_size o_ring_log o_tape o_wave_exp o_wave_done o_wave_backward o_way_size o_way_log o_way_wordBits o_way_limit o_way_radix o_way_order o_way_near o_way_seed o_way_stages o_reader_im o_reader_re o_reader_way_size o_reader_way_log o_reader_way_wordBits o_reader_way_limit o_reader_way_radix o_reader_way_order o_reader_way_near o_reader_way_seed o_reader_way_stages o_ring_powers o_turns_cos o_turns_sin o_wave_im o_wave_re o_wave_wasIm o_wave_wasRe o_way_shifts o_reader_way_shifts p1 = some (r, out_o_imageKept, out_o_taped, out_o_notes_total, out_o_notes_knownBy, out_o_past_held, out_o_reader_fault, out_o_reader_faultPlace, out_o_reader_toldWords, out_o_reader_toldRe, out_o_reader_toldIm, out_o_reader_length, out_o_reader_place, out_o_reader_kind, out_o_reader_start, out_o_reader_number, out_o_ring_size, out_o_ring_log, out_o_wave_exp, out_o_wave_done, out_o_wave_backward, out_o_way_size, out_o_way_log, out_o_way_wordBits, out_o_way_limit, out_o_way_radix, out_o_way_order, out_o_way_near, out_o_way_seed, out_o_way_stages, out_o_reader_im, out_o_reader_re, out_o_reader_way_size, out_o_reader_way_log, out_o_reader_way_wordBits, out_o_reader_way_limit, out_o_reader_way_radix, out_o_reader_way_order, out_o_reader_way_near, out_o_reader_way_seed, out_o_reader_way_stages, out_o_ring_powers, out_o_turns_cos, out_o_turns_sin, out_o_wave_im, out_o_wave_re, out_o_wave_wasIm, out_o_wave_wasRe, out_o_way_shifts, out_o_reader_way_shifts) ∧ fX10_text m_tapeSize m_thrown m_fault m_faultPlace m_stop m_next m_kind m_which m_at m_pointsRead m_bank m_isImage m_undos m_runRadix m_runOrder m_runNear m_runLimit m_runHalves m_power m_notedMany m_knownTold m_all m_isPoint m_isTold m_roots m_tape m_told m_toldWave m_words p1 = some (r, out_m_tapeSize, out_m_thrown, out_m_fault, out_m_faultPlace, out_m_stop, out_m_next, out_m_kind, out_m_which, out_m_at, out_m_pointsRead, out_m_bank, out_m_isImage, out_m_undos, out_m_runRadix, out_m_runOrder, out_m_runNear, out_m_runLimit, out_m_runHalves, out_m_power, out_m_notedMany, out_m_knownTold, out_m_all, out_m_isPoint, out_m_isTold, out_m_roots, out_m_told, out_m_toldWave) ∧ REL out_o_imageKept out_o_taped out_o_way_size out_o_way_log out_o_way_wordBits out_o_way_limit out_o_way_radix out_o_way_order out_o_way_near out_o_way_seed out_o_way_stages out_o_way_shifts out_o_wave_exp out_o_wave_done out_o_wave_backward out_o_wave_re out_o_wave_im out_o_wave_wasRe out_o_wave_wasIm o_wave_halved o_past_next out_o_past_held o_past_cells out_o_notes_total out_o_notes_knownBy o_notes_kinds o_notes_targets o_notes_bins out_o_ring_size out_o_ring_log out_o_ring_powers out_o_turns_cos out_o_turns_sin out_o_reader_fault out_o_reader_faultPlace o_image o_tape out_m_tapeSize out_m_fault out_m_faultPlace out_m_bank out_m_isImage out_m_undos out_m_runRadix out_m_runOrder out_m_runNear out_m_runLimit out_m_runHalves out_m_power out_m_notedMany out_m_knownTold m_tape m_words out_m_told out_m_all m_quarter out_m_roots m_noted1 := by
  have hR0 := hR
  obtain ⟨M, bits, rad, ord, nr, sd, hC, hW, hT, hG, hm, hV, hP, hI, hN, hA, hF1, hF2⟩ := hR
  obtain ⟨hM, hbits, hr, ho, hn, hsd⟩ := id hC
  obtain ⟨rfl, rfl, rfl, rfl, rfl, rfl, rfl, rfl, rfl, hSH⟩ := hW
  obtain ⟨rfl, rfl, rfl, rfl, rfl, rfl, rfl, rfl, rfl, t0, t1, t2, t3, t4, t5, hrt⟩ := hm
  have hN2 := isM_pow hM
  have hns := nst_le hM hr
  have hlm := lm_x hbits
  have hCG := CF_c hC
  obtain ⟨tn, a1, rfl, rfl, a4⟩ := id hA
  unfold fX9_text fX10_text
  by_cases h0 : p1 < 0
  · rw [if_pos h0, if_pos h0]
    exact ⟨_, _, _, _, _, _, _, _, _, _, _, _, _, _, _, _, _, _, _, _, _, _, _, _, _, _, _, _, _, _, _, _, _, _, _, _, _, _, _, _, _, _, _, _, _, _, _, _, _, _, _, _, _, _, _, _, _, _, _, _, _, _, _, _, _, _, _, _, _, _, _, _, _, _, _, _, _, rfl, rfl, hR0⟩
  · obtain ⟨n, hn, rfl⟩ := nI_of h0
    rw [if_neg h0, if_neg h0]
    by_cases hle : n ≤ tn
    · rw [if_pos (nI_le hle (by omega)), if_pos (nI_le hle (by omega))]
      have hn7 : n ≤ 700 := by omega
      have hTT : ∀ j, j < n → o_tape j = m_tape j := fun j hj => a4 j (by omega)
      obtain ⟨im0, re0, st0, sh0, b1, b2⟩ := begin_c (n := n) o_reader_fault o_reader_faultPlace o_reader_toldWords o_reader_toldRe o_reader_toldIm o_reader_length o_reader_place o_reader_im o_reader_re o_reader_way_size o_reader_way_log o_reader_way_wordBits o_reader_way_limit o_reader_way_radix o_reader_way_order o_reader_way_near o_reader_way_seed o_reader_way_stages o_reader_way_shifts
      obtain ⟨isP, isT, td, tW, q1, q2, q3, q4, q6, q7, q8, q9, q10, q11⟩ := plain_m m_pointsRead m_isPoint m_isTold m_told m_toldWave
      obtain ⟨place, kind, start, number, next, mkind, which, mat, g1, g2, g3⟩ := token_both hn7 (Nat.zero_le n) hTT o_reader_kind o_reader_start o_reader_number m_kind m_which m_at
      have hRD : RD 0 (nI (2 ^ 3)) (nI 3) (nI 16) (nI (lmN 16)) (nI 2) (nI 0) (nI 1) (nI 0) re0 im0 0 0 0 0 isP isT td tW := by
        refine ⟨3, 16, 2, 0, 1, 0, 0, CF_0, rfl, rfl, rfl, rfl, rfl, rfl, rfl, rfl, q6, q7, q8, q9, q10, q11, fun j hj => ?_, fun p hp => ?_, fun p hp => ?_, fun p hp => ?_, fun p h1 h2 => ?_, Nat.le_refl _, rfl, fun _ => ⟨rfl, rfl, b2⟩, fun q => by omega⟩
        · rw [q2 j hj, tb_0 j (by omega)]; rfl
        · rw [(q3 p (by omega)).1, (q3 (32 + p) (by omega)).1, tb_0 p hp]; exact ⟨rfl, rfl⟩
        · rw [(q3 p (by omega)).2, show 96 + p = 64 + (32 + p) by omega, (q3 (32 + p) (by omega)).2, (b2 p hp).1, (b2 p hp).2]; exact ⟨rfl, rfl⟩
        · have := b2 p (by have := isM_pow CF_0.1; omega)
          dsimp only
          rw [this.1, this.2, ab_0]; omega
        · exact b2 p h2
      have eR : fX4_readAll o_reader_fault o_reader_faultPlace o_reader_toldWords o_reader_toldRe o_reader_toldIm o_reader_length o_reader_place o_reader_kind o_reader_start o_reader_number o_tape o_reader_im o_reader_re o_reader_way_size o_reader_way_log o_reader_way_wordBits o_reader_way_limit o_reader_way_radix o_reader_way_order o_reader_way_near o_reader_way_seed o_reader_way_stages o_reader_way_shifts (nI n) = fX4_readAll_12 o_tape FU 0 (-1) 0 0 0 (nI n) place kind start number im0 re0 (nI (2 ^ 3)) (nI 3) (nI 16) (nI (lmN 16)) (nI 2) (nI 0) (nI 1) (nI 0) st0 sh0 0 := by
        unfold fX4_readAll
        rw [b1, bd19_s, show fX4_nextToken (nI n) 0 o_reader_kind o_reader_start o_reader_number o_tape = _ from g1, bd4_s]
      rw [eR, q1, bd5_s, show fX10_token (nI n) 0 m_kind m_which m_at m_tape mX10_52 = _ from g2, bd4_s]
      rcases lines_both (T0 := m_told) hn7 hTT st0 sh0 0 0 0 (-1) 0 m_isImage m_undos (nI rad) (nI ord) (nI nr) (nI (lmN bits)) 1 (nI M) m_notedMany m_knownTold m_all m_roots (n - 0) FU FU 0 0 _ _ _ _ _ _ _ _ _ _ _ _ _ _ _ _ _ _ _ _ _ _ _ _ _ _ rfl (Nat.zero_le n) (FU_pos (by omega)) (FU_pos (by omega)) (Nat.le_refl _) hRD q4 g3 with ⟨fl, fpl, ⟨a1, a2, a3, a4, a5, a6, a7, a8, a9, a10, a11, a12, a13, a14, a15, a16, a17, a18, a19, a20⟩, y1, y2, y3, y4, y5, y6, y7, told', y9, k1, k2, k3⟩ | ⟨l', tw', tr', ti', place', kind', start', number', im', re', size', log', wb', lim', rad', ord', near', seed', pr', isP', isT', told', tW', next', mkind', which', mat', k0, k1, k2, k3, k4⟩
      · rw [show fX4_readAll_12 o_tape FU 0 (-1) 0 0 0 (nI n) place kind start number im0 re0 (nI (2 ^ 3)) (nI 3) (nI 16) (nI (lmN 16)) (nI 2) (nI 0) (nI 1) (nI 0) st0 sh0 0 = _ from k1, bd23_s, if_pos rfl, show fX10_text_55 m_tape mX10_52 FU 0 0 0 (-1) (nI n) next mkind which mat 0 0 m_isImage m_undos (nI rad) (nI ord) (nI nr) (nI (lmN bits)) 1 (nI M) m_notedMany m_knownTold m_all isP isT m_roots td tW 0 = _ from k2]
        exact ⟨_, _, _, _, _, _, _, _, _, _, _, _, _, _, _, _, _, _, _, _, _, _, _, _, _, _, _, _, _, _, _, _, _, _, _, _, _, _, _, _, _, _, _, _, _, _, _, _, _, _, _, _, _, _, _, _, _, _, _, _, _, _, _, _, _, _, _, _, _, _, _, _, _, _, _, _, _, rfl, rfl, M, bits, rad, ord, nr, sd, hC, ⟨rfl, rfl, rfl, rfl, rfl, rfl, rfl, rfl, rfl, hSH⟩, hT, hG, ⟨rfl, rfl, rfl, rfl, rfl, rfl, rfl, rfl, rfl, (k3 0 (by decide)).trans t0, (k3 1 (by decide)).trans t1, (k3 2 (by decide)).trans t2, (k3 3 (by decide)).trans t3, (k3 4 (by decide)).trans t4, (k3 5 (by decide)).trans t5, hrt⟩, hV, hP, hI, hN, ⟨0, by omega, rfl, rfl, fun j hj => by omega⟩, rfl, rfl⟩
      · obtain ⟨M', bits', rad2, ord2, nr2, sd2, np, hC2, rfl, rfl, rfl, rfl, rfl, rfl, rfl, rfl, t6, t7, t8, t9, t10, t11, -, -, hW, hB, hZ, -⟩ := k3
        obtain ⟨pw2, co2, si2, im2, re2, wi2, wr2, sh2, f1, f2, f3, f4, f5, f6⟩ := takeOver_c (re := re') (im := im') hC2 o_imageKept (o_notes_total) o_notes_knownBy o_past_held o_ring_size o_ring_log o_wave_exp o_wave_done o_wave_backward (nI (2 ^ M)) (nI M) (nI bits) (nI (lmN bits)) (nI rad) (nI ord) (nI nr) (nI sd) (nI (nst M rad)) o_ring_powers o_turns_cos o_turns_sin o_wave_im o_wave_re o_wave_wasIm o_wave_wasRe o_way_shifts
        obtain ⟨all2, roots2, told2, tW2, m1, m2, m3, m4, m5⟩ := keepText_m hC2 t6 t7 t8 t9 t10 t11 hW 0 m_isImage m_undos (nI rad) (nI ord) (nI nr) (nI (lmN bits)) 1 (nI M) m_notedMany m_knownTold m_all m_roots o_wave_halved
        have hne : ¬ (nI l' = (-1 : Int32)) := ne_m1 (by omega)
        rw [show fX4_readAll_12 o_tape FU 0 (-1) 0 0 0 (nI n) place kind start number im0 re0 (nI (2 ^ 3)) (nI 3) (nI 16) (nI (lmN 16)) (nI 2) (nI 0) (nI 1) (nI 0) st0 sh0 0 = _ from k1, bd23_s, if_neg hne, f1, bd26_s, show fX10_text_55 m_tape mX10_52 FU 0 0 0 (-1) (nI n) next mkind which mat 0 0 m_isImage m_undos (nI rad) (nI ord) (nI nr) (nI (lmN bits)) 1 (nI M) m_notedMany m_knownTold m_all isP isT m_roots td tW 0 = _ from k2, fX10_text_77, m1, bd15_s]
        have hlm2 := lm_x hC2.2.1
        have hz : RE32 (re2, im2) (re', im') := f5
        have hB2 : BDz M' (re2, im2) (lmN bits') := BD_z hC2.1 f5 hB
        have hB3 : BDz M' (wr2, wi2) (lmN bits') := BD_z hC2.1 f6 hB
        have hB16 : BDz M' (re2, im2) (2 ^ 16) := fun p hp => by have := hB2 p hp; omega
        obtain ⟨nx, hh, c1, c2, c3, -⟩ := hP
        refine ⟨_, _, _, _, _, _, _, _, _, _, _, _, _, _, _, _, _, _, _, _, _, _, _, _, _, _, _, _, _, _, _, _, _, _, _, _, _, _, _, _, _, _, _, _, _, _, _, _, _, _, _, _, _, _, _, _, _, _, _, _, _, _, _, _, _, _, _, _, _, _, _, _, _, _, _, _, _, rfl, rfl, M', bits', rad2, ord2, nr2, sd2, hC2, ⟨rfl, rfl, rfl, rfl, rfl, rfl, rfl, rfl, rfl, f2⟩, f3, f4, ⟨rfl, rfl, rfl, rfl, rfl, rfl, rfl, rfl, rfl, (m2 0 (by decide)).trans t6, (m2 1 (by decide)).trans t7, (m2 2 (by decide)).trans t8, (m2 3 (by decide)).trans t9, (m2 4 (by decide)).trans t10, (m2 5 (by decide)).trans t11, m3⟩, ⟨0, 0, rfl, rfl, RWS_z f5 (fun _ _ => rfl) m4, WASR_z f6 m5, Nat.zero_le _, by decide, ZR_z f5 hZ, ZR_z f6 hZ, hB16, hB3, fun _ _ => ⟨rfl, hB2⟩, fun _ => ⟨0, rfl, B_SB hB16⟩⟩, ⟨nx, 0, c1, c2, rfl, by omega, rfl, fun j hj => by omega⟩, Or.inl ⟨rfl, rfl⟩, ⟨0, rfl, by omega, rfl, rfl, Or.inl rfl, fun i hi => by omega⟩, ⟨0, by omega, rfl, rfl, fun j hj => by omega⟩, rfl, rfl⟩
    · rw [if_neg (nI_ge (by omega) (by omega)), if_neg (nI_ge (by omega) (by omega))]
      exact ⟨_, _, _, _, _, _, _, _, _, _, _, _, _, _, _, _, _, _, _, _, _, _, _, _, _, _, _, _, _, _, _, _, _, _, _, _, _, _, _, _, _, _, _, _, _, _, _, _, _, _, _, _, _, _, _, _, _, _, _, _, _, _, _, _, _, _, _, _, _, _, _, _, _, _, _, _, _, rfl, rfl, hR0⟩
