/-! ===== stages, undo, image ===== -/
theorem WVI_s {bits M rad ord nr sd k bk : Nat} {z w : RowZ} {x : Int32} {c s : Nat → Int32} (hC : CF M bits rad ord nr sd) (hT : TBB c s) (hk : k < nst M rad) (h : WVI M rad (lmN bits) z w x k bk) : WVI M rad (lmN bits) (stE 1 bk M rad ord nr (lmN bits) k c s z) w (stX bk M rad k x (stN 1 M rad ord nr (lmN bits) k z)) (k + 1) bk := by
  obtain ⟨h1, h2, h3, h4, h5, h6, h7, h8⟩ := h
  have hCG := CF_c hC
  refine ⟨hk, h2, OUT_Z stE_out h3, h4, RB_s (hl := 1) (by decide) hCG hk hT (fun _ => h5) (by decide), h6, fun q => absurd q (by omega), fun hb => ?_⟩
  obtain ⟨S, s1, s2⟩ := h8 hb
  refine ⟨S + stN 1 M rad ord nr (lmN bits) k z, ?_, SB_s hCG hk hT s2⟩
  unfold stX
  rw [if_neg (by omega), s1, nI_add]
theorem WVI_run {bits M rad ord nr sd bk : Nat} {w : RowZ} {c s : Nat → Int32} (hC : CF M bits rad ord nr sd) (hT : TBB c s) : ∀ d k (y : RunZ), k + d ≤ nst M rad → WVI M rad (lmN bits) y.1 w y.2.1 k bk → WVI M rad (lmN bits) (itr (stp 1 bk M rad ord nr (lmN bits) c s) k d y).1 w (itr (stp 1 bk M rad ord nr (lmN bits) c s) k d y).2.1 (k + d) bk := by
  intro d
  induction d with
  | zero => intro k y _ h; exact h
  | succ d ih =>
    intro k y hk h
    have := ih (k + 1) (stp 1 bk M rad ord nr (lmN bits) c s k y) (by omega) (WVI_s hC hT (by omega) h)
    rw [show k + 1 + d = k + (d + 1) by omega] at this
    exact this
theorem WASR_f {all all' : Nat → Int32} {b : Nat} {w : RowZ} (hF : FRB all all' b) (h : WASR all b w) : WASR all' b w := fun p hp => by
  rw [hF _ (by omega), hF _ (by omega)]
  exact h p hp
theorem k_beat {o_imageKept : Int32} {o_taped : Int32} {o_way_size : Int32} {o_way_log : Int32} {o_way_wordBits : Int32} {o_way_limit : Int32} {o_way_radix : Int32} {o_way_order : Int32} {o_way_near : Int32} {o_way_seed : Int32} {o_way_stages : Int32} {o_way_shifts : Nat → Int32} {o_wave_exp : Int32} {o_wave_done : Int32} {o_wave_backward : Int32} {o_wave_re : Nat → Int32} {o_wave_im : Nat → Int32} {o_wave_wasRe : Nat → Int32} {o_wave_wasIm : Nat → Int32} {o_wave_halved : Nat → Int32} {o_past_next : Int32} {o_past_held : Int32} {o_past_cells : Nat → Int32} {o_notes_total : Int32} {o_notes_knownBy : Int32} {o_notes_kinds : Nat → Int32} {o_notes_targets : Nat → Int32} {o_notes_bins : Nat → Int32} {o_ring_size : Int32} {o_ring_log : Int32} {o_ring_powers : Nat → Int32} {o_turns_cos : Nat → Int32} {o_turns_sin : Nat → Int32} {o_reader_fault : Int32} {o_reader_faultPlace : Int32} {o_image : Nat → Int32} {o_tape : Nat → Int32} {m_tapeSize : Int32} {m_fault : Int32} {m_faultPlace : Int32} {m_bank : Int32} {m_isImage : Int32} {m_undos : Int32} {m_runRadix : Int32} {m_runOrder : Int32} {m_runNear : Int32} {m_runLimit : Int32} {m_runHalves : Int32} {m_power : Int32} {m_notedMany : Int32} {m_knownTold : Int32} {m_tape : Nat → Int32} {m_words : Nat → Int32} {m_told : Nat → Int32} {m_all : Nat → Int32} {m_quarter : Nat → Int32} {m_roots : Nat → Int32} {m_noted1 : Nat → Int32} (hR : REL o_imageKept o_taped o_way_size o_way_log o_way_wordBits o_way_limit o_way_radix o_way_order o_way_near o_way_seed o_way_stages o_way_shifts o_wave_exp o_wave_done o_wave_backward o_wave_re o_wave_im o_wave_wasRe o_wave_wasIm o_wave_halved o_past_next o_past_held o_past_cells o_notes_total o_notes_knownBy o_notes_kinds o_notes_targets o_notes_bins o_ring_size o_ring_log o_ring_powers o_turns_cos o_turns_sin o_reader_fault o_reader_faultPlace o_image o_tape m_tapeSize m_fault m_faultPlace m_bank m_isImage m_undos m_runRadix m_runOrder m_runNear m_runLimit m_runHalves m_power m_notedMany m_knownTold m_tape m_words m_told m_all m_quarter m_roots m_noted1)   (o_beater_spareIm : Nat → Int32) (o_beater_spareRe : Nat → Int32) (o_beater_wingIm : Nat → Int32) (o_beater_wingRe : Nat → Int32) (m_thrown : Int32) (m_laidIm : Nat → Int32) (m_laidRe : Nat → Int32) :
    ∃ (r : Int32) (out_o_past_next : Int32) (out_o_past_held : Int32) (out_o_wave_exp : Int32) (out_o_wave_done : Int32) (out_o_beater_spareIm : Nat → Int32) (out_o_beater_spareRe : Nat → Int32) (out_o_beater_wingIm : Nat → Int32) (out_o_beater_wingRe : Nat → Int32) (out_o_past_cells : Nat → Int32) (out_o_wave_halved : Nat → Int32) (out_o_wave_im : Nat → Int32) (out_o_wave_re : Nat → Int32) (out_m_thrown : Int32) (out_m_undos : Int32) (out_m_all : Nat → Int32) (out_m_laidIm : Nat → Int32) (out_m_laidRe : Nat → Int32), fX9_beat o_past_next o_past_held o_wave_exp o_wave_done o_wave_backward o_way_size o_way_log o_way_limit o_way_order o_way_near o_way_stages o_beater_spareIm o_beater_spareRe o_beater_wingIm o_beater_wingRe o_past_cells o_turns_cos o_turns_sin o_wave_halved o_wave_im o_wave_re o_wave_wasIm o_wave_wasRe o_way_shifts = some (r, out_o_past_next, out_o_past_held, out_o_wave_exp, out_o_wave_done, out_o_beater_spareIm, out_o_beater_spareRe, out_o_beater_wingIm, out_o_beater_wingRe, out_o_past_cells, out_o_wave_halved, out_o_wave_im, out_o_wave_re) ∧ fX10_beat m_thrown m_bank m_undos m_runRadix m_runOrder m_runNear m_runLimit m_runHalves m_power m_all m_laidIm m_laidRe m_quarter m_told = some (r, out_m_thrown, out_m_undos, out_m_all, out_m_laidIm, out_m_laidRe) ∧ REL o_imageKept o_taped o_way_size o_way_log o_way_wordBits o_way_limit o_way_radix o_way_order o_way_near o_way_seed o_way_stages o_way_shifts out_o_wave_exp out_o_wave_done o_wave_backward out_o_wave_re out_o_wave_im o_wave_wasRe o_wave_wasIm out_o_wave_halved out_o_past_next out_o_past_held out_o_past_cells o_notes_total o_notes_knownBy o_notes_kinds o_notes_targets o_notes_bins o_ring_size o_ring_log o_ring_powers o_turns_cos o_turns_sin o_reader_fault o_reader_faultPlace o_image o_tape m_tapeSize m_fault m_faultPlace m_bank m_isImage out_m_undos m_runRadix m_runOrder m_runNear m_runLimit m_runHalves m_power m_notedMany m_knownTold m_tape m_words m_told out_m_all m_quarter m_roots m_noted1 := by
  have hR0 := hR
  obtain ⟨M, bits, rad, ord, nr, sd, hC, hW, hT, hG, hm, hV, hP, hI, hN, hA, hF1, hF2⟩ := hR
  obtain ⟨hM, hbits, hr, ho, hn, hsd⟩ := id hC
  obtain ⟨rfl, rfl, rfl, rfl, rfl, rfl, rfl, rfl, rfl, hSH⟩ := hW
  obtain ⟨rfl, rfl, rfl, rfl, rfl, rfl, rfl, rfl, rfl, t0, t1, t2, t3, t4, t5, hrt⟩ := hm
  have hN2 := isM_pow hM
  have hns := nst_le hM hr
  have hlm := lm_x hbits
  have hCG := CF_c hC
  have hV0 := hV
  obtain ⟨k, bk, rfl, rfl, hw, hws, hwi⟩ := hV
  have hMO := TRN_m hM hT t0
  have hTB := TRN_B hM hT
  unfold fX9_beat fX10_beat
  rw [show fX10_isDone 0 (nI rad) (nI M) m_all = _ from isDone_eq (b := 0) (by decide) hM hr hwi.1 hw, bd1_s]
  by_cases hk : k = nst M rad
  · rw [if_pos hk, if_neg (show ¬ ((1 : Int32) = 0) by decide), if_neg (nI_nlt (by omega) (by omega))]
    exact ⟨_, _, _, _, _, _, _, _, _, _, _, _, _, _, _, _, _, _, rfl, rfl, hR0⟩
  · have hk2 : k < nst M rad := by have := hwi.1; omega
    rw [if_neg hk, if_pos (show (0 : Int32) = 0 from rfl), if_pos (nI_lt hk2 (by omega))]
    obtain ⟨nx', hd', ce', un', al', r1, r2, r3, r4⟩ := remember_x hV0 hP
    have hw' : RWS al' 0 (o_wave_re, o_wave_im) o_wave_exp k bk o_wave_halved := RWS_c (fun j h1 h2 => r4 j (by omega)) hw
    have hws' : WASR al' 0 (o_wave_wasRe, o_wave_wasIm) := WASR_c (fun j h1 h2 => r4 j (by omega)) hws
    obtain ⟨al2, li2, lr2, e1, g1, g2⟩ := beats_x (hl := 1) (b := 0) (c := o_turns_cos) (s := o_turns_sin) (by decide) (by decide) hwi.2.1 hCG hk2 hMO hw' hwi.2.2.1 (fun _ => hwi.2.2.2.2.1) m_laidIm m_laidRe
    obtain ⟨si, sr, wi, wr, e2⟩ := doStage_eq (hl := 1) (by decide) hwi.2.1 hM hr ho hn hlm.1 (show lmN bits < 2 ^ 20 by omega) hk2 hSH (show 1 ≤ 2 ^ 16 by decide) (show 2 ^ 16 ≤ 2 ^ 20 by decide) (o_wave_re, o_wave_im) (fun _ => hwi.2.2.2.2.1) o_wave_exp o_wave_halved o_beater_spareIm o_beater_spareRe o_beater_wingIm o_beater_wingRe o_turns_cos o_turns_sin
    rw [r1, r2, bd3_s, bd2_s]
    rw [show fX10_beats 0 (nI rad) (nI ord) (nI nr) (nI (lmN bits)) 1 (nI M) al' m_laidIm m_laidRe mX10_61 m_told = _ from e1, bd4_s]
    rw [show fX0_doStage o_wave_exp (nI k) (nI bk) (nI (2 ^ M)) (nI M) (nI (lmN bits)) (nI ord) (nI nr) (nI (nst M rad)) o_wave_halved o_wave_im o_wave_re o_way_shifts o_beater_spareIm o_beater_spareRe o_beater_wingIm o_beater_wingRe o_turns_cos o_turns_sin 1 = _ from e2, bd10_s]
    exact ⟨_, _, _, _, _, _, _, _, _, _, _, _, _, _, _, _, _, _, rfl, rfl, M, bits, rad, ord, nr, sd, hC, ⟨rfl, rfl, rfl, rfl, rfl, rfl, rfl, rfl, rfl, hSH⟩, hT, hG, ⟨rfl, rfl, rfl, rfl, rfl, rfl, rfl, rfl, rfl, t0, t1, t2, t3, t4, t5, hrt⟩, ⟨k + 1, bk, rfl, rfl, g1, WASR_f g2 hws', WVI_s hC hTB hk2 hwi⟩, PSTR_c (fun i hi => g2 i (by omega)) r3, IMGR_c (fun i h1 h2 => by rw [g2 i (by omega), r4 i (by omega)]) hI, hN, hA, hF1, hF2⟩
theorem k_beatAll {o_imageKept : Int32} {o_taped : Int32} {o_way_size : Int32} {o_way_log : Int32} {o_way_wordBits : Int32} {o_way_limit : Int32} {o_way_radix : Int32} {o_way_order : Int32} {o_way_near : Int32} {o_way_seed : Int32} {o_way_stages : Int32} {o_way_shifts : Nat → Int32} {o_wave_exp : Int32} {o_wave_done : Int32} {o_wave_backward : Int32} {o_wave_re : Nat → Int32} {o_wave_im : Nat → Int32} {o_wave_wasRe : Nat → Int32} {o_wave_wasIm : Nat → Int32} {o_wave_halved : Nat → Int32} {o_past_next : Int32} {o_past_held : Int32} {o_past_cells : Nat → Int32} {o_notes_total : Int32} {o_notes_knownBy : Int32} {o_notes_kinds : Nat → Int32} {o_notes_targets : Nat → Int32} {o_notes_bins : Nat → Int32} {o_ring_size : Int32} {o_ring_log : Int32} {o_ring_powers : Nat → Int32} {o_turns_cos : Nat → Int32} {o_turns_sin : Nat → Int32} {o_reader_fault : Int32} {o_reader_faultPlace : Int32} {o_image : Nat → Int32} {o_tape : Nat → Int32} {m_tapeSize : Int32} {m_fault : Int32} {m_faultPlace : Int32} {m_bank : Int32} {m_isImage : Int32} {m_undos : Int32} {m_runRadix : Int32} {m_runOrder : Int32} {m_runNear : Int32} {m_runLimit : Int32} {m_runHalves : Int32} {m_power : Int32} {m_notedMany : Int32} {m_knownTold : Int32} {m_tape : Nat → Int32} {m_words : Nat → Int32} {m_told : Nat → Int32} {m_all : Nat → Int32} {m_quarter : Nat → Int32} {m_roots : Nat → Int32} {m_noted1 : Nat → Int32} (hR : REL o_imageKept o_taped o_way_size o_way_log o_way_wordBits o_way_limit o_way_radix o_way_order o_way_near o_way_seed o_way_stages o_way_shifts o_wave_exp o_wave_done o_wave_backward o_wave_re o_wave_im o_wave_wasRe o_wave_wasIm o_wave_halved o_past_next o_past_held o_past_cells o_notes_total o_notes_knownBy o_notes_kinds o_notes_targets o_notes_bins o_ring_size o_ring_log o_ring_powers o_turns_cos o_turns_sin o_reader_fault o_reader_faultPlace o_image o_tape m_tapeSize m_fault m_faultPlace m_bank m_isImage m_undos m_runRadix m_runOrder m_runNear m_runLimit m_runHalves m_power m_notedMany m_knownTold m_tape m_words m_told m_all m_quarter m_roots m_noted1)   (o_beater_spareIm : Nat → Int32) (o_beater_spareRe : Nat → Int32) (o_beater_wingIm : Nat → Int32) (o_beater_wingRe : Nat → Int32) (m_thrown : Int32) (m_laidIm : Nat → Int32) (m_laidRe : Nat → Int32) :
    ∃ (r : Int32) (out_o_past_held : Int32) (out_o_wave_exp : Int32) (out_o_wave_done : Int32) (out_o_beater_spareIm : Nat → Int32) (out_o_beater_spareRe : Nat → Int32) (out_o_beater_wingIm : Nat → Int32) (out_o_beater_wingRe : Nat → Int32) (out_o_wave_halved : Nat → Int32) (out_o_wave_im : Nat → Int32) (out_o_wave_re : Nat → Int32) (out_m_thrown : Int32) (out_m_undos : Int32) (out_m_all : Nat → Int32) (out_m_laidIm : Nat → Int32) (out_m_laidRe : Nat → Int32), fX9_beatAll o_past_held o_wave_exp o_wave_done o_wave_backward o_way_size o_way_log o_way_limit o_way_order o_way_near o_way_stages o_beater_spareIm o_beater_spareRe o_beater_wingIm o_beater_wingRe o_turns_cos o_turns_sin o_wave_halved o_wave_im o_wave_re o_way_shifts = some (r, out_o_past_held, out_o_wave_exp, out_o_wave_done, out_o_beater_spareIm, out_o_beater_spareRe, out_o_beater_wingIm, out_o_beater_wingRe, out_o_wave_halved, out_o_wave_im, out_o_wave_re) ∧ fX10_beatAll m_thrown m_bank m_undos m_runRadix m_runOrder m_runNear m_runLimit m_runHalves m_power m_all m_laidIm m_laidRe m_quarter m_told = some (r, out_m_thrown, out_m_undos, out_m_all, out_m_laidIm, out_m_laidRe) ∧ REL o_imageKept o_taped o_way_size o_way_log o_way_wordBits o_way_limit o_way_radix o_way_order o_way_near o_way_seed o_way_stages o_way_shifts out_o_wave_exp out_o_wave_done o_wave_backward out_o_wave_re out_o_wave_im o_wave_wasRe o_wave_wasIm out_o_wave_halved o_past_next out_o_past_held o_past_cells o_notes_total o_notes_knownBy o_notes_kinds o_notes_targets o_notes_bins o_ring_size o_ring_log o_ring_powers o_turns_cos o_turns_sin o_reader_fault o_reader_faultPlace o_image o_tape m_tapeSize m_fault m_faultPlace m_bank m_isImage out_m_undos m_runRadix m_runOrder m_runNear m_runLimit m_runHalves m_power m_notedMany m_knownTold m_tape m_words m_told out_m_all m_quarter m_roots m_noted1 := by
  have hR0 := hR
  obtain ⟨M, bits, rad, ord, nr, sd, hC, hW, hT, hG, hm, hV, hP, hI, hN, hA, hF1, hF2⟩ := hR
  obtain ⟨hM, hbits, hr, ho, hn, hsd⟩ := id hC
  obtain ⟨rfl, rfl, rfl, rfl, rfl, rfl, rfl, rfl, rfl, hSH⟩ := hW
  obtain ⟨rfl, rfl, rfl, rfl, rfl, rfl, rfl, rfl, rfl, t0, t1, t2, t3, t4, t5, hrt⟩ := hm
  have hN2 := isM_pow hM
  have hns := nst_le hM hr
  have hlm := lm_x hbits
  have hCG := CF_c hC
  obtain ⟨k, bk, rfl, rfl, hw, hws, hwi⟩ := hV
  have hMO := TRN_m hM hT t0
  have hTB := TRN_B hM hT
  unfold fX9_beatAll fX10_beatAll
  obtain ⟨al2, li2, lr2, e1, g1, g2⟩ := beatsAll_eq (hl := 1) (b := 0) (c := o_turns_cos) (s := o_turns_sin) (by decide) (by decide) hwi.2.1 hCG hwi.1 hMO hTB hw hwi.2.2.1 (fun _ => hwi.2.2.2.2.1) 0 m_laidIm m_laidRe
  obtain ⟨si, sr, wi, wr, e2⟩ := doStages_eq (hl := 1) (m := 5) (by decide) hwi.2.1 hCG hwi.1 (by decide) hSH hTB (o_wave_re, o_wave_im) (fun _ => hwi.2.2.2.2.1) o_wave_exp o_wave_halved o_beater_spareIm o_beater_spareRe o_beater_wingIm o_beater_wingRe
  have hmin : min 5 (nst M rad - k) = nst M rad - k := by omega
  rw [hmin] at e2
  have hkd : k + (nst M rad - k) = nst M rad := by have := hwi.1; omega
  have hW := WVI_run (bk := bk) (w := (o_wave_wasRe, o_wave_wasIm)) hC hTB (nst M rad - k) k ((o_wave_re, o_wave_im), o_wave_exp, 0, o_wave_halved) (by omega) hwi
  rw [show fX10_beatsAll 0 (nI rad) (nI ord) (nI nr) (nI (lmN bits)) 1 (nI M) m_all m_laidIm m_laidRe mX10_61 m_told = _ from e1, bd3_s]
  rw [show fX0_doStages o_wave_exp (nI k) (nI bk) (nI (2 ^ M)) (nI M) (nI (lmN bits)) (nI ord) (nI nr) (nI (nst M rad)) o_wave_halved o_wave_im o_wave_re o_way_shifts o_beater_spareIm o_beater_spareRe o_beater_wingIm o_beater_wingRe o_turns_cos o_turns_sin 5 1 = _ from e2, bd10_s]
  rw [show (128 : Int32) = nI 128 from rfl, of0 (by decide), bd1_s, (RWS_0 g1).2.1, fX3_forgetAll, bd1_s]
  rw [hkd] at hW ⊢
  obtain ⟨nx, h, rfl, p2, rfl, p4, rfl, p6⟩ := hP
  exact ⟨_, _, _, _, _, _, _, _, _, _, _, _, _, _, _, _, rfl, rfl, M, bits, rad, ord, nr, sd, hC, ⟨rfl, rfl, rfl, rfl, rfl, rfl, rfl, rfl, rfl, hSH⟩, hT, hG, ⟨rfl, rfl, rfl, rfl, rfl, rfl, rfl, rfl, rfl, t0, t1, t2, t3, t4, t5, hrt⟩, ⟨nst M rad, bk, rfl, rfl, g1, WASR_f g2 hws, hW⟩, ⟨nx, 0, rfl, p2, rfl, by omega, rfl, fun j hj => absurd hj (by omega)⟩, IMGR_c (fun i h1 h2 => g2 i (by omega)) hI, hN, hA, hF1, hF2⟩
theorem goesBack_x {b M k bk : Nat} {all ha : Nat → Int32} {z : RowZ} {x : Int32} (hb : b ≤ 22) (hw : RWS all b z x k bk ha) (hZ : ZR M z) (ha' : Nat → Int32) : ∃ all', fX10_goesBack (nI b) all = some all' ∧ RWS all' b (opNg M z) x 0 1 ha' ∧ FRB all all' b := by
  obtain ⟨w1, w2, w3, w4, w5⟩ := hw
  obtain ⟨A, e, hA, hF⟩ := turnsOver_x (M := M) hb w1 hZ
  unfold fX10_goesBack
  rw [e, bd1_s, show (130 : Int32) = nI 130 from rfl, show (129 : Int32) = nI 129 from rfl, lay_eq hb (by decide), bd1_s, lay_eq hb (by decide), bd1_s, noneHalved_eq hb, bd1_s]
  refine ⟨_, rfl, ⟨fun p hp => ?_, ?_, ?_, ?_, fun j hj => ?_⟩, fun j hj => ?_⟩
  · rw [blk_out (by omega), blk_out (by omega), pk_un (by omega), pk_un (by omega), pk_un (by omega), pk_un (by omega)]
    exact hA p hp
  · rw [blk_out (by omega), pk_un (by omega), pk_un (by omega), hF _ (Or.inr (by omega)), w2]
  · rw [blk_out (by omega), pk_us]; rfl
  · rw [blk_out (by omega), pk_un (by omega), pk_us]; rfl
  · rw [← Nat.add_assoc, blk_at hj, if_neg (by omega)]
  · rw [blk_out (by omega), pk_un (by omega), pk_un (by omega), hF _ (by omega)]
theorem k_turnBack {o_imageKept : Int32} {o_taped : Int32} {o_way_size : Int32} {o_way_log : Int32} {o_way_wordBits : Int32} {o_way_limit : Int32} {o_way_radix : Int32} {o_way_order : Int32} {o_way_near : Int32} {o_way_seed : Int32} {o_way_stages : Int32} {o_way_shifts : Nat → Int32} {o_wave_exp : Int32} {o_wave_done : Int32} {o_wave_backward : Int32} {o_wave_re : Nat → Int32} {o_wave_im : Nat → Int32} {o_wave_wasRe : Nat → Int32} {o_wave_wasIm : Nat → Int32} {o_wave_halved : Nat → Int32} {o_past_next : Int32} {o_past_held : Int32} {o_past_cells : Nat → Int32} {o_notes_total : Int32} {o_notes_knownBy : Int32} {o_notes_kinds : Nat → Int32} {o_notes_targets : Nat → Int32} {o_notes_bins : Nat → Int32} {o_ring_size : Int32} {o_ring_log : Int32} {o_ring_powers : Nat → Int32} {o_turns_cos : Nat → Int32} {o_turns_sin : Nat → Int32} {o_reader_fault : Int32} {o_reader_faultPlace : Int32} {o_image : Nat → Int32} {o_tape : Nat → Int32} {m_tapeSize : Int32} {m_fault : Int32} {m_faultPlace : Int32} {m_bank : Int32} {m_isImage : Int32} {m_undos : Int32} {m_runRadix : Int32} {m_runOrder : Int32} {m_runNear : Int32} {m_runLimit : Int32} {m_runHalves : Int32} {m_power : Int32} {m_notedMany : Int32} {m_knownTold : Int32} {m_tape : Nat → Int32} {m_words : Nat → Int32} {m_told : Nat → Int32} {m_all : Nat → Int32} {m_quarter : Nat → Int32} {m_roots : Nat → Int32} {m_noted1 : Nat → Int32} (hR : REL o_imageKept o_taped o_way_size o_way_log o_way_wordBits o_way_limit o_way_radix o_way_order o_way_near o_way_seed o_way_stages o_way_shifts o_wave_exp o_wave_done o_wave_backward o_wave_re o_wave_im o_wave_wasRe o_wave_wasIm o_wave_halved o_past_next o_past_held o_past_cells o_notes_total o_notes_knownBy o_notes_kinds o_notes_targets o_notes_bins o_ring_size o_ring_log o_ring_powers o_turns_cos o_turns_sin o_reader_fault o_reader_faultPlace o_image o_tape m_tapeSize m_fault m_faultPlace m_bank m_isImage m_undos m_runRadix m_runOrder m_runNear m_runLimit m_runHalves m_power m_notedMany m_knownTold m_tape m_words m_told m_all m_quarter m_roots m_noted1)   (m_thrown : Int32) :
    ∃ (r : Int32) (out_o_past_next : Int32) (out_o_past_held : Int32) (out_o_wave_done : Int32) (out_o_wave_backward : Int32) (out_o_past_cells : Nat → Int32) (out_o_wave_im : Nat → Int32) (out_m_thrown : Int32) (out_m_undos : Int32) (out_m_all : Nat → Int32), fX9_turnBack o_past_next o_past_held o_wave_exp o_wave_done o_wave_backward o_way_size o_way_stages o_past_cells o_wave_halved o_wave_im o_wave_re o_wave_wasIm o_wave_wasRe = some (r, out_o_past_next, out_o_past_held, out_o_wave_done, out_o_wave_backward, out_o_past_cells, out_o_wave_im) ∧ fX10_turnBack m_thrown m_bank m_undos m_runRadix m_power m_all = some (r, out_m_thrown, out_m_undos, out_m_all) ∧ REL o_imageKept o_taped o_way_size o_way_log o_way_wordBits o_way_limit o_way_radix o_way_order o_way_near o_way_seed o_way_stages o_way_shifts o_wave_exp out_o_wave_done out_o_wave_backward o_wave_re out_o_wave_im o_wave_wasRe o_wave_wasIm o_wave_halved out_o_past_next out_o_past_held out_o_past_cells o_notes_total o_notes_knownBy o_notes_kinds o_notes_targets o_notes_bins o_ring_size o_ring_log o_ring_powers o_turns_cos o_turns_sin o_reader_fault o_reader_faultPlace o_image o_tape m_tapeSize m_fault m_faultPlace m_bank m_isImage out_m_undos m_runRadix m_runOrder m_runNear m_runLimit m_runHalves m_power m_notedMany m_knownTold m_tape m_words m_told out_m_all m_quarter m_roots m_noted1 := by
  have hR0 := hR
  obtain ⟨M, bits, rad, ord, nr, sd, hC, hW, hT, hG, hm, hV, hP, hI, hN, hA, hF1, hF2⟩ := hR
  obtain ⟨hM, hbits, hr, ho, hn, hsd⟩ := id hC
  obtain ⟨rfl, rfl, rfl, rfl, rfl, rfl, rfl, rfl, rfl, hSH⟩ := hW
  obtain ⟨rfl, rfl, rfl, rfl, rfl, rfl, rfl, rfl, rfl, t0, t1, t2, t3, t4, t5, hrt⟩ := hm
  have hN2 := isM_pow hM
  have hns := nst_le hM hr
  have hlm := lm_x hbits
  have hCG := CF_c hC
  have hV0 := hV
  obtain ⟨k, bk, rfl, rfl, hw, hws, hwi⟩ := hV
  unfold fX9_turnBack fX10_turnBack
  rcases fwd_c hM hr hwi.1 hwi.2.1 hw with ⟨rfl, rfl, f1, f2⟩ | ⟨f1, f2⟩
  · obtain ⟨nx', hd', ce', un', al', r1, r2, r3, r4⟩ := remember_x hV0 hP
    have hw' : RWS al' 0 (o_wave_re, o_wave_im) o_wave_exp (nst M rad) 0 o_wave_halved := RWS_c (fun j h1 h2 => r4 j (by omega)) hw
    have hws' : WASR al' 0 (o_wave_wasRe, o_wave_wasIm) := WASR_c (fun j h1 h2 => r4 j (by omega)) hws
    obtain ⟨al2, e1, g1, g2⟩ := goesBack_x (b := 0) (by decide) hw' hwi.2.2.1 o_wave_halved
    rw [f1, f2, bd1_s, bd1_s, if_neg (show ¬ ((1 : Int32) = 0) by decide), if_neg (show ¬ ((1 : Int32) = 0) by decide), r1, r2, bd3_s, bd2_s, show fX10_goesBack 0 al' = _ from e1, bd1_s, fX7_goBack, flipIm_eq hM, bd1_s, bd3_s]
    have hI2 : WVI M rad (lmN bits) (o_wave_re, ngR M o_wave_im) (o_wave_wasRe, o_wave_wasIm) o_wave_exp 0 1 := ⟨Nat.zero_le _, by decide, OUT_Z ng_out hwi.2.2.1, hwi.2.2.2.1, ng_bd (by decide) hwi.2.2.2.2.1, hwi.2.2.2.2.2.1, fun _ q => absurd q (by decide), fun q => absurd q (by decide)⟩
    exact ⟨_, _, _, _, _, _, _, _, _, _, rfl, rfl, M, bits, rad, ord, nr, sd, hC, ⟨rfl, rfl, rfl, rfl, rfl, rfl, rfl, rfl, rfl, hSH⟩, hT, hG, ⟨rfl, rfl, rfl, rfl, rfl, rfl, rfl, rfl, rfl, t0, t1, t2, t3, t4, t5, hrt⟩, ⟨0, 1, rfl, rfl, g1, WASR_f g2 hws', hI2⟩, PSTR_c (fun i hi => g2 i (by omega)) r3, IMGR_c (fun i h1 h2 => by rw [g2 i (by omega), r4 i (by omega)]) hI, hN, hA, hF1, hF2⟩
  · rw [f1, f2]
    exact ⟨_, _, _, _, _, _, _, _, _, _, rfl, rfl, hR0⟩
theorem k_undo {o_imageKept : Int32} {o_taped : Int32} {o_way_size : Int32} {o_way_log : Int32} {o_way_wordBits : Int32} {o_way_limit : Int32} {o_way_radix : Int32} {o_way_order : Int32} {o_way_near : Int32} {o_way_seed : Int32} {o_way_stages : Int32} {o_way_shifts : Nat → Int32} {o_wave_exp : Int32} {o_wave_done : Int32} {o_wave_backward : Int32} {o_wave_re : Nat → Int32} {o_wave_im : Nat → Int32} {o_wave_wasRe : Nat → Int32} {o_wave_wasIm : Nat → Int32} {o_wave_halved : Nat → Int32} {o_past_next : Int32} {o_past_held : Int32} {o_past_cells : Nat → Int32} {o_notes_total : Int32} {o_notes_knownBy : Int32} {o_notes_kinds : Nat → Int32} {o_notes_targets : Nat → Int32} {o_notes_bins : Nat → Int32} {o_ring_size : Int32} {o_ring_log : Int32} {o_ring_powers : Nat → Int32} {o_turns_cos : Nat → Int32} {o_turns_sin : Nat → Int32} {o_reader_fault : Int32} {o_reader_faultPlace : Int32} {o_image : Nat → Int32} {o_tape : Nat → Int32} {m_tapeSize : Int32} {m_fault : Int32} {m_faultPlace : Int32} {m_bank : Int32} {m_isImage : Int32} {m_undos : Int32} {m_runRadix : Int32} {m_runOrder : Int32} {m_runNear : Int32} {m_runLimit : Int32} {m_runHalves : Int32} {m_power : Int32} {m_notedMany : Int32} {m_knownTold : Int32} {m_tape : Nat → Int32} {m_words : Nat → Int32} {m_told : Nat → Int32} {m_all : Nat → Int32} {m_quarter : Nat → Int32} {m_roots : Nat → Int32} {m_noted1 : Nat → Int32} (hR : REL o_imageKept o_taped o_way_size o_way_log o_way_wordBits o_way_limit o_way_radix o_way_order o_way_near o_way_seed o_way_stages o_way_shifts o_wave_exp o_wave_done o_wave_backward o_wave_re o_wave_im o_wave_wasRe o_wave_wasIm o_wave_halved o_past_next o_past_held o_past_cells o_notes_total o_notes_knownBy o_notes_kinds o_notes_targets o_notes_bins o_ring_size o_ring_log o_ring_powers o_turns_cos o_turns_sin o_reader_fault o_reader_faultPlace o_image o_tape m_tapeSize m_fault m_faultPlace m_bank m_isImage m_undos m_runRadix m_runOrder m_runNear m_runLimit m_runHalves m_power m_notedMany m_knownTold m_tape m_words m_told m_all m_quarter m_roots m_noted1)   (m_thrown : Int32) :
    ∃ (r : Int32) (out_o_past_next : Int32) (out_o_past_held : Int32) (out_o_wave_exp : Int32) (out_o_wave_done : Int32) (out_o_wave_backward : Int32) (out_o_wave_halved : Nat → Int32) (out_o_wave_im : Nat → Int32) (out_o_wave_re : Nat → Int32) (out_o_wave_wasIm : Nat → Int32) (out_o_wave_wasRe : Nat → Int32) (out_m_thrown : Int32) (out_m_undos : Int32) (out_m_all : Nat → Int32), fX9_undo o_past_next o_past_held o_wave_exp o_wave_done o_wave_backward o_past_cells o_wave_halved o_wave_im o_wave_re o_wave_wasIm o_wave_wasRe = some (r, out_o_past_next, out_o_past_held, out_o_wave_exp, out_o_wave_done, out_o_wave_backward, out_o_wave_halved, out_o_wave_im, out_o_wave_re, out_o_wave_wasIm, out_o_wave_wasRe) ∧ fX10_undo m_thrown m_undos m_all = some (r, out_m_thrown, out_m_undos, out_m_all) ∧ REL o_imageKept o_taped o_way_size o_way_log o_way_wordBits o_way_limit o_way_radix o_way_order o_way_near o_way_seed o_way_stages o_way_shifts out_o_wave_exp out_o_wave_done out_o_wave_backward out_o_wave_re out_o_wave_im out_o_wave_wasRe out_o_wave_wasIm out_o_wave_halved out_o_past_next out_o_past_held o_past_cells o_notes_total o_notes_knownBy o_notes_kinds o_notes_targets o_notes_bins o_ring_size o_ring_log o_ring_powers o_turns_cos o_turns_sin o_reader_fault o_reader_faultPlace o_image o_tape m_tapeSize m_fault m_faultPlace m_bank m_isImage out_m_undos m_runRadix m_runOrder m_runNear m_runLimit m_runHalves m_power m_notedMany m_knownTold m_tape m_words m_told out_m_all m_quarter m_roots m_noted1 := by
  have hR0 := hR
  obtain ⟨M, bits, rad, ord, nr, sd, hC, hW, hT, hG, hm, hV, hP, hI, hN, hA, hF1, hF2⟩ := hR
  obtain ⟨hM, hbits, hr, ho, hn, hsd⟩ := id hC
  obtain ⟨rfl, rfl, rfl, rfl, rfl, rfl, rfl, rfl, rfl, hSH⟩ := hW
  obtain ⟨rfl, rfl, rfl, rfl, rfl, rfl, rfl, rfl, rfl, t0, t1, t2, t3, t4, t5, hrt⟩ := hm
  have hN2 := isM_pow hM
  have hns := nst_le hM hr
  have hlm := lm_x hbits
  have hCG := CF_c hC
  have hV0 := hV
  obtain ⟨nx, h, rfl, p2, rfl, p4, rfl, p6⟩ := hP
  unfold fX9_undo fX10_undo fX3_recall
  by_cases h0 : h = 0
  · subst h0
    rw [if_pos (show nI 0 = 0 from rfl), if_pos (show nI 0 = 0 from rfl), bd11_s, if_pos rfl]
    exact ⟨_, _, _, _, _, _, _, _, _, _, _, _, _, _, rfl, rfl, hR0⟩
  · obtain ⟨i, rfl⟩ : ∃ i, h = i + 1 := ⟨h - 1, by omega⟩
    have hsl : (nx + 20 - (i + 1) + i) % 20 = (nx + 19) % 20 := by omega
    have hs := p6 i (by omega)
    rw [hsl] at hs
    obtain ⟨x, d, bk, ha', im', re', wi', wr', e1, e2⟩ := slot_x (n := 2720) hM (by have := Nat.mod_lt (nx + 19) (show 0 < 20 by decide); omega) (by decide) hs (blk m_all 0 (fun k => m_all (136 * (3 + i) + k)) 136) (fun j hj => by rw [blk_in (by omega) (by omega), Nat.sub_zero]) o_wave_exp o_wave_done o_wave_backward o_wave_halved o_wave_im o_wave_re o_wave_wasIm o_wave_wasRe
    have er : ∀ s1 : Int32, s1 = nI ((nx + 19) % 20) → fX3_recall_28 o_past_cells (nI nx) (nI (i + 1)) o_wave_exp o_wave_done o_wave_backward o_wave_halved o_wave_im o_wave_re o_wave_wasIm o_wave_wasRe s1 = some (1, nI ((nx + 19) % 20), nI i, x, d, bk, ha', im', re', wi', wr') := fun s1 es => by
      unfold fX3_recall_28
      simp only [nm]
      rw [es, show (136 : Int32) = nI 136 from rfl, pk_mul, Nat.mul_comm, e1, bd8_s, nI_pred]
    have er2 : (if nI nx ≤ 0 then fX3_recall_28 o_past_cells (nI nx) (nI (i + 1)) o_wave_exp o_wave_done o_wave_backward o_wave_halved o_wave_im o_wave_re o_wave_wasIm o_wave_wasRe 19 else fX3_recall_28 o_past_cells (nI nx) (nI (i + 1)) o_wave_exp o_wave_done o_wave_backward o_wave_halved o_wave_im o_wave_re o_wave_wasIm o_wave_wasRe (nI nx - 1)) = some (1, nI ((nx + 19) % 20), nI i, x, d, bk, ha', im', re', wi', wr') := by
      by_cases hx : nx = 0
      · subst hx
        rw [if_pos (by decide), er 19 rfl]
      · rw [if_neg (nI_nle (by omega) (by omega)), er _ (by rw [show (1 : Int32) = nI 1 from rfl, pk_sub (by omega), show (nx + 19) % 20 = nx - 1 by omega])]
    rw [if_neg (nI_ne0 (by omega) (by omega)), if_neg (nI_ne0 (by omega) (by omega)), er2, bd11_s, if_neg (show ¬ ((1 : Int32) = 0) by decide)]
    simp only [nm]
    rw [nI_pred, show (3 : Int32) + nI i = nI (3 + i) from nI_add 3 i, copy_to0 (by omega) (by omega), bd1_s]
    refine ⟨_, _, _, _, _, _, _, _, _, _, _, _, _, _, rfl, rfl, M, bits, rad, ord, nr, sd, hC, ⟨rfl, rfl, rfl, rfl, rfl, rfl, rfl, rfl, rfl, hSH⟩, hT, hG, ⟨rfl, rfl, rfl, rfl, rfl, rfl, rfl, rfl, rfl, t0, t1, t2, t3, t4, t5, hrt⟩, e2, ⟨(nx + 19) % 20, i, rfl, Nat.mod_lt _ (by decide), rfl, by omega, rfl, fun j hj => ?_⟩, IMGR_c (fun q h1 h2 => blk_out (by omega)) hI, hN, hA, hF1, hF2⟩
    have e9 : ((nx + 19) % 20 + 20 - i + j) % 20 = (nx + 20 - (i + 1) + j) % 20 := by omega
    rw [e9]
    exact SLT_c (fun _ _ _ => rfl) (fun q h1 h2 => blk_out (by omega)) (p6 j (by omega))
theorem k_keep {o_imageKept : Int32} {o_taped : Int32} {o_way_size : Int32} {o_way_log : Int32} {o_way_wordBits : Int32} {o_way_limit : Int32} {o_way_radix : Int32} {o_way_order : Int32} {o_way_near : Int32} {o_way_seed : Int32} {o_way_stages : Int32} {o_way_shifts : Nat → Int32} {o_wave_exp : Int32} {o_wave_done : Int32} {o_wave_backward : Int32} {o_wave_re : Nat → Int32} {o_wave_im : Nat → Int32} {o_wave_wasRe : Nat → Int32} {o_wave_wasIm : Nat → Int32} {o_wave_halved : Nat → Int32} {o_past_next : Int32} {o_past_held : Int32} {o_past_cells : Nat → Int32} {o_notes_total : Int32} {o_notes_knownBy : Int32} {o_notes_kinds : Nat → Int32} {o_notes_targets : Nat → Int32} {o_notes_bins : Nat → Int32} {o_ring_size : Int32} {o_ring_log : Int32} {o_ring_powers : Nat → Int32} {o_turns_cos : Nat → Int32} {o_turns_sin : Nat → Int32} {o_reader_fault : Int32} {o_reader_faultPlace : Int32} {o_image : Nat → Int32} {o_tape : Nat → Int32} {m_tapeSize : Int32} {m_fault : Int32} {m_faultPlace : Int32} {m_bank : Int32} {m_isImage : Int32} {m_undos : Int32} {m_runRadix : Int32} {m_runOrder : Int32} {m_runNear : Int32} {m_runLimit : Int32} {m_runHalves : Int32} {m_power : Int32} {m_notedMany : Int32} {m_knownTold : Int32} {m_tape : Nat → Int32} {m_words : Nat → Int32} {m_told : Nat → Int32} {m_all : Nat → Int32} {m_quarter : Nat → Int32} {m_roots : Nat → Int32} {m_noted1 : Nat → Int32} (hR : REL o_imageKept o_taped o_way_size o_way_log o_way_wordBits o_way_limit o_way_radix o_way_order o_way_near o_way_seed o_way_stages o_way_shifts o_wave_exp o_wave_done o_wave_backward o_wave_re o_wave_im o_wave_wasRe o_wave_wasIm o_wave_halved o_past_next o_past_held o_past_cells o_notes_total o_notes_knownBy o_notes_kinds o_notes_targets o_notes_bins o_ring_size o_ring_log o_ring_powers o_turns_cos o_turns_sin o_reader_fault o_reader_faultPlace o_image o_tape m_tapeSize m_fault m_faultPlace m_bank m_isImage m_undos m_runRadix m_runOrder m_runNear m_runLimit m_runHalves m_power m_notedMany m_knownTold m_tape m_words m_told m_all m_quarter m_roots m_noted1)   (m_thrown : Int32) :
    ∃ (r : Int32) (out_o_imageKept : Int32) (out_o_image : Nat → Int32) (out_m_thrown : Int32) (out_m_isImage : Int32) (out_m_all : Nat → Int32), fX9_keep o_imageKept o_image o_wave_exp o_wave_done o_wave_backward o_wave_halved o_wave_im o_wave_re o_wave_wasIm o_wave_wasRe = some (r, out_o_imageKept, out_o_image) ∧ fX10_keep m_thrown m_bank m_isImage m_all = some (r, out_m_thrown, out_m_isImage, out_m_all) ∧ REL out_o_imageKept o_taped o_way_size o_way_log o_way_wordBits o_way_limit o_way_radix o_way_order o_way_near o_way_seed o_way_stages o_way_shifts o_wave_exp o_wave_done o_wave_backward o_wave_re o_wave_im o_wave_wasRe o_wave_wasIm o_wave_halved o_past_next o_past_held o_past_cells o_notes_total o_notes_knownBy o_notes_kinds o_notes_targets o_notes_bins o_ring_size o_ring_log o_ring_powers o_turns_cos o_turns_sin o_reader_fault o_reader_faultPlace out_o_image o_tape m_tapeSize m_fault m_faultPlace m_bank out_m_isImage m_undos m_runRadix m_runOrder m_runNear m_runLimit m_runHalves m_power m_notedMany m_knownTold m_tape m_words m_told out_m_all m_quarter m_roots m_noted1 := by
  have hR0 := hR
  obtain ⟨M, bits, rad, ord, nr, sd, hC, hW, hT, hG, hm, hV, hP, hI, hN, hA, hF1, hF2⟩ := hR
  obtain ⟨hM, hbits, hr, ho, hn, hsd⟩ := id hC
  obtain ⟨rfl, rfl, rfl, rfl, rfl, rfl, rfl, rfl, rfl, hSH⟩ := hW
  obtain ⟨rfl, rfl, rfl, rfl, rfl, rfl, rfl, rfl, rfl, t0, t1, t2, t3, t4, t5, hrt⟩ := hm
  have hN2 := isM_pow hM
  have hns := nst_le hM hr
  have hlm := lm_x hbits
  have hCG := CF_c hC
  have hV0 := hV
  obtain ⟨k, bk, rfl, rfl, hw, hws, hwi⟩ := hV
  unfold fX9_keep fX10_keep
  obtain ⟨im', e1, e2, -⟩ := writeTo_eq (n := 136) (base := 0) (k := k) (bk := bk) (by decide) (by decide) hwi.2.1 o_wave_exp o_image o_wave_halved o_wave_im o_wave_re o_wave_wasIm o_wave_wasRe
  have ec : fX10_copyBank m_all 0 2 = some (blk m_all 272 m_all 136) := by
    have := copyBank_eq (b := 0) (c := 2) (by decide) (by decide) (by decide) m_all
    simp only [Nat.mul_zero, Nat.zero_add] at this
    exact this
  rw [show fX7_writeTo 136 o_wave_exp (nI k) (nI bk) o_image o_wave_halved o_wave_im o_wave_re o_wave_wasIm o_wave_wasRe 0 = _ from e1, bd1_s, ec, bd1_s, show (129 : Int32) = nI 129 from rfl, of0 (by decide), bd1_s, blk_out (by decide), (RWS_0 hw).2.2.1]
  have hb' : ∀ i, i < 136 → blk m_all 272 m_all 136 (136 * 2 + i) = m_all (136 * 0 + i) := fun i hi => by rw [show 136 * 2 + i = 272 + i by omega, blk_at hi, Nat.mul_zero, Nat.zero_add]
  exact ⟨_, _, _, _, _, _, rfl, rfl, M, bits, rad, ord, nr, sd, hC, ⟨rfl, rfl, rfl, rfl, rfl, rfl, rfl, rfl, rfl, hSH⟩, hT, hG, ⟨rfl, rfl, rfl, rfl, rfl, rfl, rfl, rfl, rfl, t0, t1, t2, t3, t4, t5, hrt⟩, WVR_c (fun j hj => blk_out (by omega)) hV0, PSTR_c (fun j hj => blk_out (by omega)) hP, Or.inr ⟨rfl, rfl, ⟨_, _, _, _, _, _, e2, RWS_m hb' hw, WASR_m hb' hws, hwi⟩⟩, hN, hA, hF1, hF2⟩
theorem k_back {o_imageKept : Int32} {o_taped : Int32} {o_way_size : Int32} {o_way_log : Int32} {o_way_wordBits : Int32} {o_way_limit : Int32} {o_way_radix : Int32} {o_way_order : Int32} {o_way_near : Int32} {o_way_seed : Int32} {o_way_stages : Int32} {o_way_shifts : Nat → Int32} {o_wave_exp : Int32} {o_wave_done : Int32} {o_wave_backward : Int32} {o_wave_re : Nat → Int32} {o_wave_im : Nat → Int32} {o_wave_wasRe : Nat → Int32} {o_wave_wasIm : Nat → Int32} {o_wave_halved : Nat → Int32} {o_past_next : Int32} {o_past_held : Int32} {o_past_cells : Nat → Int32} {o_notes_total : Int32} {o_notes_knownBy : Int32} {o_notes_kinds : Nat → Int32} {o_notes_targets : Nat → Int32} {o_notes_bins : Nat → Int32} {o_ring_size : Int32} {o_ring_log : Int32} {o_ring_powers : Nat → Int32} {o_turns_cos : Nat → Int32} {o_turns_sin : Nat → Int32} {o_reader_fault : Int32} {o_reader_faultPlace : Int32} {o_image : Nat → Int32} {o_tape : Nat → Int32} {m_tapeSize : Int32} {m_fault : Int32} {m_faultPlace : Int32} {m_bank : Int32} {m_isImage : Int32} {m_undos : Int32} {m_runRadix : Int32} {m_runOrder : Int32} {m_runNear : Int32} {m_runLimit : Int32} {m_runHalves : Int32} {m_power : Int32} {m_notedMany : Int32} {m_knownTold : Int32} {m_tape : Nat → Int32} {m_words : Nat → Int32} {m_told : Nat → Int32} {m_all : Nat → Int32} {m_quarter : Nat → Int32} {m_roots : Nat → Int32} {m_noted1 : Nat → Int32} (hR : REL o_imageKept o_taped o_way_size o_way_log o_way_wordBits o_way_limit o_way_radix o_way_order o_way_near o_way_seed o_way_stages o_way_shifts o_wave_exp o_wave_done o_wave_backward o_wave_re o_wave_im o_wave_wasRe o_wave_wasIm o_wave_halved o_past_next o_past_held o_past_cells o_notes_total o_notes_knownBy o_notes_kinds o_notes_targets o_notes_bins o_ring_size o_ring_log o_ring_powers o_turns_cos o_turns_sin o_reader_fault o_reader_faultPlace o_image o_tape m_tapeSize m_fault m_faultPlace m_bank m_isImage m_undos m_runRadix m_runOrder m_runNear m_runLimit m_runHalves m_power m_notedMany m_knownTold m_tape m_words m_told m_all m_quarter m_roots m_noted1)   (m_thrown : Int32) :
    ∃ (r : Int32) (out_o_past_held : Int32) (out_o_wave_exp : Int32) (out_o_wave_done : Int32) (out_o_wave_backward : Int32) (out_o_wave_halved : Nat → Int32) (out_o_wave_im : Nat → Int32) (out_o_wave_re : Nat → Int32) (out_o_wave_wasIm : Nat → Int32) (out_o_wave_wasRe : Nat → Int32) (out_m_thrown : Int32) (out_m_undos : Int32) (out_m_all : Nat → Int32), fX9_back o_imageKept o_image o_past_held o_wave_exp o_wave_done o_wave_backward o_wave_halved o_wave_im o_wave_re o_wave_wasIm o_wave_wasRe = some (r, out_o_past_held, out_o_wave_exp, out_o_wave_done, out_o_wave_backward, out_o_wave_halved, out_o_wave_im, out_o_wave_re, out_o_wave_wasIm, out_o_wave_wasRe) ∧ fX10_back m_thrown m_bank m_isImage m_undos m_all = some (r, out_m_thrown, out_m_undos, out_m_all) ∧ REL o_imageKept o_taped o_way_size o_way_log o_way_wordBits o_way_limit o_way_radix o_way_order o_way_near o_way_seed o_way_stages o_way_shifts out_o_wave_exp out_o_wave_done out_o_wave_backward out_o_wave_re out_o_wave_im out_o_wave_wasRe out_o_wave_wasIm out_o_wave_halved o_past_next out_o_past_held o_past_cells o_notes_total o_notes_knownBy o_notes_kinds o_notes_targets o_notes_bins o_ring_size o_ring_log o_ring_powers o_turns_cos o_turns_sin o_reader_fault o_reader_faultPlace o_image o_tape m_tapeSize m_fault m_faultPlace m_bank m_isImage out_m_undos m_runRadix m_runOrder m_runNear m_runLimit m_runHalves m_power m_notedMany m_knownTold m_tape m_words m_told out_m_all m_quarter m_roots m_noted1 := by
  have hR0 := hR
  obtain ⟨M, bits, rad, ord, nr, sd, hC, hW, hT, hG, hm, hV, hP, hI, hN, hA, hF1, hF2⟩ := hR
  obtain ⟨hM, hbits, hr, ho, hn, hsd⟩ := id hC
  obtain ⟨rfl, rfl, rfl, rfl, rfl, rfl, rfl, rfl, rfl, hSH⟩ := hW
  obtain ⟨rfl, rfl, rfl, rfl, rfl, rfl, rfl, rfl, rfl, t0, t1, t2, t3, t4, t5, hrt⟩ := hm
  have hN2 := isM_pow hM
  have hns := nst_le hM hr
  have hlm := lm_x hbits
  have hCG := CF_c hC
  unfold fX9_back fX10_back
  have hI0 := hI
  rcases hI with ⟨rfl, rfl⟩ | ⟨rfl, rfl, hs⟩
  · rw [if_pos rfl, if_pos rfl]
    exact ⟨_, _, _, _, _, _, _, _, _, _, _, _, _, rfl, rfl, hR0⟩
  · obtain ⟨nx, h, rfl, p2, rfl, p4, rfl, p6⟩ := hP
    obtain ⟨x, d, bk, ha', im', re', wi', wr', e1, e2⟩ := slot_x (n := 136) hM (by decide) (by decide) hs (blk m_all 0 (fun k => m_all (136 * 2 + k)) 136) (fun j hj => by rw [blk_in (by omega) (by omega), Nat.sub_zero]) o_wave_exp o_wave_done o_wave_backward o_wave_halved o_wave_im o_wave_re o_wave_wasIm o_wave_wasRe
    obtain ⟨k, bk', rfl, rfl, hw, -, -⟩ := id e2
    rw [if_neg (show ¬ ((1 : Int32) = 0) by decide), if_neg (show ¬ ((1 : Int32) = 0) by decide), show fX10_copyBank m_all 2 0 = _ from copy_to0 (b := 2) (by decide) (by decide) m_all, bd1_s, show fX7_readFrom 136 o_wave_exp o_wave_done o_wave_backward o_image o_wave_halved o_wave_im o_wave_re o_wave_wasIm o_wave_wasRe 0 = _ from e1, bd8_s, fX3_forgetAll, bd1_s, show (129 : Int32) = nI 129 from rfl, of0 (by decide), bd1_s, (RWS_0 hw).2.2.1]
    exact ⟨_, _, _, _, _, _, _, _, _, _, _, _, _, rfl, rfl, M, bits, rad, ord, nr, sd, hC, ⟨rfl, rfl, rfl, rfl, rfl, rfl, rfl, rfl, rfl, hSH⟩, hT, hG, ⟨rfl, rfl, rfl, rfl, rfl, rfl, rfl, rfl, rfl, t0, t1, t2, t3, t4, t5, hrt⟩, e2, ⟨nx, 0, rfl, p2, rfl, by omega, rfl, fun j hj => absurd hj (by omega)⟩, IMGR_c (fun q h1 h2 => blk_out (by omega)) hI0, hN, hA, hF1, hF2⟩
