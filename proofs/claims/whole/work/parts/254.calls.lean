/-! ===== feed ===== -/
/-- a byte of a number, from the top -/
def bt8 (x : Int32) (i : Nat) : Int32 := (x >>> (nI (24 - 8 * i) &&& 31)) &&& (255 : Int32)
theorem ush_8 (x : Int32) {s : Nat} (hs : s ≤ 24) (hk : (((nI s).toUInt32 &&& Int32.toUInt32 31).toBitVec % 32).toNat = s) : ((x.toUInt32 >>> ((nI s).toUInt32 &&& Int32.toUInt32 31)).toInt32) &&& (255 : Int32) = (x >>> (nI s &&& 31)) &&& (255 : Int32) := by
  have h255 : ∀ i, i < 32 → tb (255 : Int32) i = decide (i < 8) := fun i hi => by rw [show (255 : Int32) = nI (2 ^ 8 - 1) from rfl, tb_nI hi, Nat.testBit_two_pow_sub_one]
  refine tb_ext (fun i hi => ?_)
  rw [tb_and, tb_and, h255 i hi]
  by_cases h8 : i < 8
  · congr 1
    have e1 : tb ((x.toUInt32 >>> ((nI s).toUInt32 &&& Int32.toUInt32 31)).toInt32) i = tb x (s + i) := by
      unfold tb
      rw [← BitVec.testBit_toNat, pk_ushr x (nI s) s hk, Nat.testBit_div_two_pow, Nat.add_comm]
      rfl
    have e2 : tb (x >>> (nI s &&& 31)) i = tb x (s + i) := by
      unfold tb
      rw [Int32.toBitVec_shiftRight, BitVec.getLsbD_sshiftRight', of_decide_eq_true (all_x s_l32 (show s < 32 by omega)), if_pos (by omega), decide_eq_false (show ¬ (32 ≤ i) by omega)]
      rfl
    rw [e1, e2]
  · rw [decide_eq_false h8, Bool.and_false, Bool.and_false]
theorem layDown_eq {t i : Nat} (ht : t + 4 * i + 4 ≤ 700) (tape : Nat → Int32) (w : Nat → Int32) :
    fX9_layDown (nI (t + 4 * i)) (blk tape t (fun q => bt8 (w (q / 4)) (q % 4)) (4 * i)) (w i) = some (nI (t + 4 * i + 4), blk tape t (fun q => bt8 (w (q / 4)) (q % 4)) (4 * i + 4)) := by
  have st : ∀ n j (s : Nat) (sv : Int32), j < 4 → s = 24 - 8 * j → (((nI s).toUInt32 &&& Int32.toUInt32 31).toBitVec % 32).toNat = s → nI s + (-8) = sv → fX9_layDown_3 (n + 1) (nI (t + 4 * i + j)) (blk tape t (fun q => bt8 (w (q / 4)) (q % 4)) (4 * i + j)) (w i) (nI s) = fX9_layDown_3 n (nI (t + 4 * i + (j + 1))) (blk tape t (fun q => bt8 (w (q / 4)) (q % 4)) (4 * i + (j + 1))) (w i) sv := by
    intro n j s sv hj hs hk hv
    have hb : bt8 (w ((4 * i + j) / 4)) ((4 * i + j) % 4) = (((w i).toUInt32 >>> ((nI s).toUInt32 &&& Int32.toUInt32 31)).toInt32) &&& (255 : Int32) := by
      rw [ush_8 (w i) (by omega) hk, show (4 * i + j) / 4 = i by omega, show (4 * i + j) % 4 = j by omega, hs]
      rfl
    rw [fX9_layDown_3.eq_2, if_neg (nI_pos (by omega)), if_neg (show ¬ ((700 : Int32) ≤ nI (t + 4 * i + j)) from nI_ge (b := 700) (by omega) (by decide)), gd_t (inb_nI (show t + 4 * i + j < 700 by omega) (by decide)), nm, nm, nI_clamp (by omega), fX9_layDown_43, nm, hv, nI_1, ← hb, show t + 4 * i + j = t + (4 * i + j) by omega]
    rw [show t + (4 * i + j) + 1 = t + 4 * i + (j + 1) by omega]
    exact congrArg (fun z => fX9_layDown_3 n (nI (t + 4 * i + (j + 1))) z (w i) sv) (blk_s (v := fun q => bt8 (w (q / 4)) (q % 4)))
  unfold fX9_layDown
  have s0 := st 4095 0 24 16 (by decide) rfl (by decide) (by decide)
  have s1 := st 4094 1 16 8 (by decide) rfl (by decide) (by decide)
  have s2 := st 4093 2 8 0 (by decide) rfl (by decide) (by decide)
  have s3 := st 4092 3 0 (-8) (by decide) rfl (by decide) (by decide)
  have s4 : fX9_layDown_3 (4091 + 1) (nI (t + 4 * i + 4)) (blk tape t (fun q => bt8 (w (q / 4)) (q % 4)) (4 * i + 4)) (w i) (-8) = some (nI (t + 4 * i + 4), blk tape t (fun q => bt8 (w (q / 4)) (q % 4)) (4 * i + 4)) := by
    rw [fX9_layDown_3.eq_2, if_pos (show (-8 : Int32) < 0 by decide)]
  exact s0.trans (s1.trans (s2.trans (s3.trans s4)))
theorem bt8C_t : (List.range 20).all (fun k => decide (((24 : Int32) - ((8 : Int32) * (nI k - nI k / (4 : Int32) * (4 : Int32)))) = nI (24 - 8 * (k % 4)))) = true := by decide +kernel
theorem feed23 {t : Nat} (ht : t + 20 ≤ 700) (tape : Nat → Int32) (w : Nat → Int32) (th : Int32) : fX10_feed_23 FU (nI t) th tape (w 0) (w 1) (w 2) (w 3) (w 4) 0 = some (nI (t + 20), nI (t + 20), th, blk tape t (fun q => bt8 (w (q / 4)) (q % 4)) 20) := by
  have h := loopF (fun n i s => fX10_feed_23 n (nI t) th s (w 0) (w 1) (w 2) (w 3) (w 4) (nI i)) (fun i => blk tape t (fun q => bt8 (w (q / 4)) (q % 4)) i) 20 (some (nI (t + 20), nI (t + 20), th, blk tape t (fun q => bt8 (w (q / 4)) (q % 4)) 20)) ?_ ?_ 20 FU 0 (by omega) (FU_pos (by omega))
  · rw [blk_0] at h
    exact h
  · intro n i hi
    have e76 : ∀ s0 : Int32, s0 = w (i / 4) → fX10_feed_76 (fX10_feed_23 n) (nI t) th (blk tape t (fun q => bt8 (w (q / 4)) (q % 4)) i) (w 0) (w 1) (w 2) (w 3) (w 4) (nI i) s0 = fX10_feed_23 n (nI t) th (blk tape t (fun q => bt8 (w (q / 4)) (q % 4)) (i + 1)) (w 0) (w 1) (w 2) (w 3) (w 4) (nI (i + 1)) := by
      intro s0 hs
      unfold fX10_feed_76
      rw [nI_add, gd_t (inb_nI (show t + i < 700 by omega) (by decide)), nm, nm, nI_clamp (by omega), nI_1, of_decide_eq_true (all_x bt8C_t hi), hs]
      exact congrArg (fun z => fX10_feed_23 n (nI t) th z (w 0) (w 1) (w 2) (w 3) (w 4) (nI (i + 1))) (blk_s (v := fun q => bt8 (w (q / 4)) (q % 4)))
    show fX10_feed_23 (n + 1) (nI t) th _ (w 0) (w 1) (w 2) (w 3) (w 4) (nI i) = _
    rw [fX10_feed_23.eq_2, if_neg (show ¬ ((20 : Int32) ≤ nI i) from nI_ge hi (by decide))]
    by_cases h4 : 4 ≤ i
    · rw [if_pos (show (4 : Int32) ≤ nI i from nI_le (a := 4) h4 (by omega))]
      by_cases h8 : 8 ≤ i
      · rw [if_pos (show (8 : Int32) ≤ nI i from nI_le (a := 8) h8 (by omega))]
        by_cases h12 : 12 ≤ i
        · rw [if_pos (show (12 : Int32) ≤ nI i from nI_le (a := 12) h12 (by omega))]
          by_cases h16 : 16 ≤ i
          · rw [if_pos (show (16 : Int32) ≤ nI i from nI_le (a := 16) h16 (by omega))]
            exact e76 _ (by rw [show i / 4 = 4 by omega])
          · rw [if_neg (show ¬ ((16 : Int32) ≤ nI i) from nI_ge (b := 16) (by omega) (by decide))]
            exact e76 _ (by rw [show i / 4 = 3 by omega])
        · rw [if_neg (show ¬ ((12 : Int32) ≤ nI i) from nI_ge (b := 12) (by omega) (by decide))]
          exact e76 _ (by rw [show i / 4 = 2 by omega])
      · rw [if_neg (show ¬ ((8 : Int32) ≤ nI i) from nI_ge (b := 8) (by omega) (by decide))]
        exact e76 _ (by rw [show i / 4 = 1 by omega])
    · rw [if_neg (show ¬ ((4 : Int32) ≤ nI i) from nI_ge (b := 4) (by omega) (by decide))]
      exact e76 _ (by rw [show i / 4 = 0 by omega])
  · intro n
    show fX10_feed_23 (n + 1) (nI t) th _ (w 0) (w 1) (w 2) (w 3) (w 4) (nI 20) = _
    rw [fX10_feed_23.eq_2, if_pos (show (20 : Int32) ≤ nI 20 from by decide), fX10_feed_113, nm, show nI t + 20 = nI (t + 20) from nI_add t 20]
theorem k_feed {o_imageKept : Int32} {o_taped : Int32} {o_way_size : Int32} {o_way_log : Int32} {o_way_wordBits : Int32} {o_way_limit : Int32} {o_way_radix : Int32} {o_way_order : Int32} {o_way_near : Int32} {o_way_seed : Int32} {o_way_stages : Int32} {o_way_shifts : Nat → Int32} {o_wave_exp : Int32} {o_wave_done : Int32} {o_wave_backward : Int32} {o_wave_re : Nat → Int32} {o_wave_im : Nat → Int32} {o_wave_wasRe : Nat → Int32} {o_wave_wasIm : Nat → Int32} {o_wave_halved : Nat → Int32} {o_past_next : Int32} {o_past_held : Int32} {o_past_cells : Nat → Int32} {o_notes_total : Int32} {o_notes_knownBy : Int32} {o_notes_kinds : Nat → Int32} {o_notes_targets : Nat → Int32} {o_notes_bins : Nat → Int32} {o_ring_size : Int32} {o_ring_log : Int32} {o_ring_powers : Nat → Int32} {o_turns_cos : Nat → Int32} {o_turns_sin : Nat → Int32} {o_reader_fault : Int32} {o_reader_faultPlace : Int32} {o_image : Nat → Int32} {o_tape : Nat → Int32} {m_tapeSize : Int32} {m_fault : Int32} {m_faultPlace : Int32} {m_bank : Int32} {m_isImage : Int32} {m_undos : Int32} {m_runRadix : Int32} {m_runOrder : Int32} {m_runNear : Int32} {m_runLimit : Int32} {m_runHalves : Int32} {m_power : Int32} {m_notedMany : Int32} {m_knownTold : Int32} {m_tape : Nat → Int32} {m_words : Nat → Int32} {m_told : Nat → Int32} {m_all : Nat → Int32} {m_quarter : Nat → Int32} {m_roots : Nat → Int32} {m_noted1 : Nat → Int32} (hR : REL o_imageKept o_taped o_way_size o_way_log o_way_wordBits o_way_limit o_way_radix o_way_order o_way_near o_way_seed o_way_stages o_way_shifts o_wave_exp o_wave_done o_wave_backward o_wave_re o_wave_im o_wave_wasRe o_wave_wasIm o_wave_halved o_past_next o_past_held o_past_cells o_notes_total o_notes_knownBy o_notes_kinds o_notes_targets o_notes_bins o_ring_size o_ring_log o_ring_powers o_turns_cos o_turns_sin o_reader_fault o_reader_faultPlace o_image o_tape m_tapeSize m_fault m_faultPlace m_bank m_isImage m_undos m_runRadix m_runOrder m_runNear m_runLimit m_runHalves m_power m_notedMany m_knownTold m_tape m_words m_told m_all m_quarter m_roots m_noted1) (p1 : Int32) (p2 : Int32) (p3 : Int32) (p4 : Int32) (p5 : Int32)  (m_thrown : Int32) :
    ∃ (r : Int32) (out_o_taped : Int32) (out_o_tape : Nat → Int32) (out_m_tapeSize : Int32) (out_m_thrown : Int32) (out_m_tape : Nat → Int32), fX9_feed o_taped o_tape p1 p2 p3 p4 p5 = some (r, out_o_taped, out_o_tape) ∧ fX10_feed m_tapeSize m_thrown m_tape p1 p2 p3 p4 p5 = some (r, out_m_tapeSize, out_m_thrown, out_m_tape) ∧ REL o_imageKept out_o_taped o_way_size o_way_log o_way_wordBits o_way_limit o_way_radix o_way_order o_way_near o_way_seed o_way_stages o_way_shifts o_wave_exp o_wave_done o_wave_backward o_wave_re o_wave_im o_wave_wasRe o_wave_wasIm o_wave_halved o_past_next o_past_held o_past_cells o_notes_total o_notes_knownBy o_notes_kinds o_notes_targets o_notes_bins o_ring_size o_ring_log o_ring_powers o_turns_cos o_turns_sin o_reader_fault o_reader_faultPlace o_image out_o_tape out_m_tapeSize m_fault m_faultPlace m_bank m_isImage m_undos m_runRadix m_runOrder m_runNear m_runLimit m_runHalves m_power m_notedMany m_knownTold out_m_tape m_words m_told m_all m_quarter m_roots m_noted1 := by
  have hR0 := hR
  obtain ⟨M, bits, rad, ord, nr, sd, hC, hW, hT, hG, hm, hV, hP, hI, hN, hA, hF1, hF2⟩ := hR
  obtain ⟨hM, hbits, hr, ho, hn, hsd⟩ := id hC
  obtain ⟨rfl, rfl, rfl, rfl, rfl, rfl, rfl, rfl, rfl, hSH⟩ := hW
  obtain ⟨rfl, rfl, rfl, rfl, rfl, rfl, rfl, rfl, rfl, t0, t1, t2, t3, t4, t5, hrt⟩ := hm
  have hN2 := isM_pow hM
  have hns := nst_le hM hr
  have hlm := lm_x hbits
  have hCG := CF_c hC
  obtain ⟨t, a1, rfl, rfl, a4⟩ := id hA
  unfold fX9_feed fX10_feed
  rw [show nI t + 20 = nI (t + 20) from nI_add t 20]
  by_cases h : t + 20 ≤ 700
  · rw [if_pos (show nI (t + 20) ≤ 700 from nI_le (b := 700) h (by decide)), if_pos (show nI (t + 20) ≤ 700 from nI_le (b := 700) h (by decide))]
    obtain ⟨w, w0, w1, w2, w3, w4⟩ : ∃ w : Nat → Int32, w 0 = p1 ∧ w 1 = p2 ∧ w 2 = p3 ∧ w 3 = p4 ∧ w 4 = p5 := ⟨fun i => if i = 0 then p1 else if i = 1 then p2 else if i = 2 then p3 else if i = 3 then p4 else p5, rfl, rfl, rfl, rfl, rfl⟩
    subst w0; subst w1; subst w2; subst w3; subst w4
    have l0 := layDown_eq (t := t) (i := 0) (by omega) o_tape w
    have l1 := layDown_eq (t := t) (i := 1) (by omega) o_tape w
    have l2 := layDown_eq (t := t) (i := 2) (by omega) o_tape w
    have l3 := layDown_eq (t := t) (i := 3) (by omega) o_tape w
    have l4 := layDown_eq (t := t) (i := 4) (by omega) o_tape w
    rw [show 4 * 0 = 0 from rfl, blk_0] at l0
    rw [show fX9_layDown (nI t) o_tape (w 0) = _ from l0, bd2_s, show fX9_layDown (nI (t + 0 + 4)) (blk o_tape t (fun q => bt8 (w (q / 4)) (q % 4)) (0 + 4)) (w 1) = _ from l1, bd2_s, show fX9_layDown (nI (t + 4 * 1 + 4)) (blk o_tape t (fun q => bt8 (w (q / 4)) (q % 4)) (4 * 1 + 4)) (w 2) = _ from l2, bd2_s, show fX9_layDown (nI (t + 4 * 2 + 4)) (blk o_tape t (fun q => bt8 (w (q / 4)) (q % 4)) (4 * 2 + 4)) (w 3) = _ from l3, bd2_s, show fX9_layDown (nI (t + 4 * 3 + 4)) (blk o_tape t (fun q => bt8 (w (q / 4)) (q % 4)) (4 * 3 + 4)) (w 4) = _ from l4, bd2_s, feed23 h]
    refine ⟨_, _, _, _, _, _, rfl, rfl, M, bits, rad, ord, nr, sd, hC, ⟨rfl, rfl, rfl, rfl, rfl, rfl, rfl, rfl, rfl, hSH⟩, hT, hG, ⟨rfl, rfl, rfl, rfl, rfl, rfl, rfl, rfl, rfl, t0, t1, t2, t3, t4, t5, hrt⟩, hV, hP, hI, hN, ⟨t + 20, h, rfl, rfl, fun j hj => ?_⟩, hF1, hF2⟩
    by_cases hj2 : j < t
    · rw [blk_out (by omega), blk_out (by omega)]; exact a4 j hj2
    · rw [blk_in (by omega) (by omega), blk_in (by omega) (by omega)]
  · rw [if_neg (show ¬ (nI (t + 20) ≤ 700) from nI_ge (a := 700) (by omega) (by omega)), if_neg (show ¬ (nI (t + 20) ≤ 700) from nI_ge (a := 700) (by omega) (by omega))]
    exact ⟨_, _, _, _, _, _, rfl, rfl, hR0⟩
