/-! ===== tried, loudest ===== -/
def wo (w : RowZ) (p : Nat) : RowZ := (upd w.1 p 0, upd w.2 p 0)
theorem wo_B {M B p : Nat} {w : RowZ} (h : BDz M w B) : BDz M (wo w p) B := fun q hq => by
  unfold wo
  dsimp only
  by_cases e : q = p
  · subst e; rw [pk_us, pk_us, ab_0]; omega
  · rw [pk_un e, pk_un e]; exact h q hq
theorem wo_Z {M p : Nat} {w : RowZ} (hp : p < 2 ^ M) (h : ZR M w) : ZR M (wo w p) := fun q h1 h2 => by
  unfold wo
  dsimp only
  rw [pk_un (by omega), pk_un (by omega)]; exact h q h1 h2
theorem expWithout_c {M bits rad ord nr sd p : Nat} {o_turns_cos o_turns_sin o_wave_wasRe o_wave_wasIm o_way_shifts : Nat → Int32} (hC : CF M bits rad ord nr sd) (hp : p < 2 ^ M) (hSH : SHF M rad ord o_way_shifts) (hT : TBB o_turns_cos o_turns_sin) (hB : BDz M (o_wave_wasRe, o_wave_wasIm) (2 ^ 16)) (o_trial_exp : Int32) (o_trial_done : Int32) (o_trial_backward : Int32) (o_beater_spareIm : Nat → Int32) (o_beater_spareRe : Nat → Int32) (o_beater_wingIm : Nat → Int32) (o_beater_wingRe : Nat → Int32) (o_trial_halved : Nat → Int32) (o_trial_im : Nat → Int32) (o_trial_re : Nat → Int32) : ∃ o, fX9_expWithout o_trial_exp o_trial_done o_trial_backward (nI (2 ^ M)) (nI M) (nI (lmN bits)) (nI ord) (nI nr) (nI (nst M rad)) o_beater_spareIm o_beater_spareRe o_beater_wingIm o_beater_wingRe o_trial_halved o_trial_im o_trial_re o_turns_cos o_turns_sin o_wave_wasIm o_wave_wasRe o_way_shifts (nI p) = some (nI (tS M rad ord nr (lmN bits) o_turns_cos o_turns_sin (wo (o_wave_wasRe, o_wave_wasIm) p)), o) := by
  obtain ⟨hM, hbits, hr, ho, hn, hsd⟩ := id hC
  have hN := isM_pow hM
  obtain ⟨im', re', r1, r2⟩ := restartFrom_eq o_trial_exp o_trial_done o_trial_backward o_wave_wasIm o_wave_wasRe o_trial_im o_trial_re
  have hz : RE32 (upd re' p 0, upd im' p 0) (wo (o_wave_wasRe, o_wave_wasIm) p) := fun q hq => by
    unfold wo
    dsimp only
    by_cases e : q = p
    · subst e; rw [pk_us, pk_us, pk_us, pk_us]; exact ⟨rfl, rfl⟩
    · rw [pk_un e, pk_un e, pk_un e, pk_un e]; exact r2 q hq
  obtain ⟨ha2, im2, re2, si2, sr2, wi2, wr2, d1, -⟩ := class_run (CF_c hC) hSH hT (wo_B hB) hz o_trial_halved o_beater_spareIm o_beater_spareRe o_beater_wingIm o_beater_wingRe
  unfold fX9_expWithout
  rw [r1, bd5_s]
  simp only [nm, gd_t (inb_nI (show p < 32 by omega) (by decide)), nI_clamp (show p < 2 ^ 31 by omega)]
  rw [d1, bd10_s]
  exact ⟨_, rfl⟩
theorem RWS_up {all : Nat → Int32} {b p : Nat} {z : RowZ} {x : Int32} {k bk : Nat} {ha : Nat → Int32} {u v : Int32} (hp : p < 32) (hw : RWS all b z x k bk ha) : RWS (upd (upd all (136 * b + p) u) (136 * b + (32 + p)) v) b (upd z.1 p u, upd z.2 p v) x k bk ha ∧ ∀ j, (j < 136 * b ∨ 136 * b + 64 ≤ j) → upd (upd all (136 * b + p) u) (136 * b + (32 + p)) v j = all j := by
  obtain ⟨w1, w2, w3, w4, w5⟩ := hw
  refine ⟨⟨fun q hq => ?_, ?_, ?_, ?_, fun j hj => ?_⟩, fun j hj => by rw [pk_un (by omega), pk_un (by omega)]⟩
  · dsimp only
    constructor
    · rw [pk_un (by omega)]
      by_cases e : q = p
      · subst e; rw [pk_us, pk_us]
      · rw [pk_un (by omega), pk_un e]; exact (w1 q hq).1
    · by_cases e : q = p
      · subst e; rw [show 136 * b + 32 + q = 136 * b + (32 + q) by omega, pk_us, pk_us]
      · rw [pk_un (by omega), pk_un (by omega), pk_un e]; exact (w1 q hq).2
  · rw [pk_un (by omega), pk_un (by omega)]; exact w2
  · rw [pk_un (by omega), pk_un (by omega)]; exact w3
  · rw [pk_un (by omega), pk_un (by omega)]; exact w4
  · rw [pk_un (by omega), pk_un (by omega)]; exact w5 j hj
theorem expWithout_m {M bits rad ord nr sd p : Nat} {all told c s : Nat → Int32} {w : RowZ} (hC : CF M bits rad ord nr sd) (hp : p < 2 ^ M) (hm : MOK M told mX10_61 c s) (hT : TBB c s) (hB : BDz M w (2 ^ 16)) (hZ : ZR M w) (hw : WASR all 0 w) (t1 : told 1 = nI bits) (t2 : told 2 = nI rad) (t3 : told 3 = nI ord) (t4 : told 4 = nI nr) (li lr : Nat → Int32) :
    ∃ all' li' lr', fX10_expWithout 0 (nI rad) (nI ord) (nI nr) (nI (lmN bits)) 1 (nI M) all li lr mX10_61 told (nI p) = some (nI (tS M rad ord nr (lmN bits) c s (wo w p)), 0, nI rad, nI ord, nI nr, nI (lmN bits), 1, all', li', lr') ∧ FB1 all all' := by
  obtain ⟨hM, hbits, hr, ho, hn, hsd⟩ := id hC
  have hN := isM_pow hM
  obtain ⟨al, a1, a2, a3, a4⟩ := asWas_x 0 (fun _ => 0) hw
  obtain ⟨b1, b2⟩ := RWS_up (p := p) (u := 0) (v := 0) (by omega) a2
  obtain ⟨all', li', lr', e1, e2⟩ := expRun_m (CF_c hC) hm hT (wo_B (p := p) hB) (wo_Z hp hZ) b1 li lr
  refine ⟨all', li', lr', ?_, FB1_t a4 (FB1_t (fun j hj => b2 j (by omega)) e2)⟩
  unfold fX10_expWithout
  rw [a1, bd2_s, lay_eq (by decide) (by omega), bd1_s, show (32 : Int32) + nI p = nI (32 + p) from nI_add 32 p, lay_eq (by decide) (by omega), bd1_s, e1, bd4_s, asItIs_eq hbits t1 t2 t3 t4, bd6_s]
theorem tried_c {M rad ord nr lim : Nat} {o_turns_cos o_turns_sin o_wave_wasRe o_wave_wasIm : Nat → Int32} {h : Nat → Int32} (hc : CFG M rad ord nr lim) (e : SHF M rad ord h) (hT : TBB o_turns_cos o_turns_sin) (hB : BDz M (o_wave_wasRe, o_wave_wasIm) (2 ^ 16)) (o_trial_exp : Int32) (o_trial_done : Int32) (o_trial_backward : Int32) (o_trialWay_wordBits : Int32) (o_trialWay_seed : Int32) (o_beater_spareIm : Nat → Int32) (o_beater_spareRe : Nat → Int32) (o_beater_wingIm : Nat → Int32) (o_beater_wingRe : Nat → Int32) (o_trial_halved : Nat → Int32) (o_trial_im : Nat → Int32) (o_trial_re : Nat → Int32) :
    ∃ o, fX9_tried_130 o_turns_cos o_turns_sin o_wave_wasIm o_wave_wasRe o_trial_exp o_trial_done o_trial_backward (nI (2 ^ M)) (nI M) o_trialWay_wordBits (nI lim) (nI rad) (nI ord) (nI nr) o_trialWay_seed (nI (nst M rad)) o_beater_spareIm o_beater_spareRe o_beater_wingIm o_beater_wingRe o_trial_halved o_trial_im o_trial_re h = some (nI (tS M rad ord nr lim o_turns_cos o_turns_sin (o_wave_wasRe, o_wave_wasIm)), o) := by
  obtain ⟨im', re', r1, r2⟩ := restartFrom_eq o_trial_exp o_trial_done o_trial_backward o_wave_wasIm o_wave_wasRe o_trial_im o_trial_re
  obtain ⟨ha2, im2, re2, si2, sr2, wi2, wr2, d1, -⟩ := class_run hc e hT hB r2 o_trial_halved o_beater_spareIm o_beater_spareRe o_beater_wingIm o_beater_wingRe
  unfold fX9_tried_130
  rw [r1, bd5_s, d1, bd10_s]
  exact ⟨_, rfl⟩
theorem k_tried {o_imageKept : Int32} {o_taped : Int32} {o_way_size : Int32} {o_way_log : Int32} {o_way_wordBits : Int32} {o_way_limit : Int32} {o_way_radix : Int32} {o_way_order : Int32} {o_way_near : Int32} {o_way_seed : Int32} {o_way_stages : Int32} {o_way_shifts : Nat → Int32} {o_wave_exp : Int32} {o_wave_done : Int32} {o_wave_backward : Int32} {o_wave_re : Nat → Int32} {o_wave_im : Nat → Int32} {o_wave_wasRe : Nat → Int32} {o_wave_wasIm : Nat → Int32} {o_wave_halved : Nat → Int32} {o_past_next : Int32} {o_past_held : Int32} {o_past_cells : Nat → Int32} {o_notes_total : Int32} {o_notes_knownBy : Int32} {o_notes_kinds : Nat → Int32} {o_notes_targets : Nat → Int32} {o_notes_bins : Nat → Int32} {o_ring_size : Int32} {o_ring_log : Int32} {o_ring_powers : Nat → Int32} {o_turns_cos : Nat → Int32} {o_turns_sin : Nat → Int32} {o_reader_fault : Int32} {o_reader_faultPlace : Int32} {o_image : Nat → Int32} {o_tape : Nat → Int32} {m_tapeSize : Int32} {m_fault : Int32} {m_faultPlace : Int32} {m_bank : Int32} {m_isImage : Int32} {m_undos : Int32} {m_runRadix : Int32} {m_runOrder : Int32} {m_runNear : Int32} {m_runLimit : Int32} {m_runHalves : Int32} {m_power : Int32} {m_notedMany : Int32} {m_knownTold : Int32} {m_tape : Nat → Int32} {m_words : Nat → Int32} {m_told : Nat → Int32} {m_all : Nat → Int32} {m_quarter : Nat → Int32} {m_roots : Nat → Int32} {m_noted1 : Nat → Int32} (hR : REL o_imageKept o_taped o_way_size o_way_log o_way_wordBits o_way_limit o_way_radix o_way_order o_way_near o_way_seed o_way_stages o_way_shifts o_wave_exp o_wave_done o_wave_backward o_wave_re o_wave_im o_wave_wasRe o_wave_wasIm o_wave_halved o_past_next o_past_held o_past_cells o_notes_total o_notes_knownBy o_notes_kinds o_notes_targets o_notes_bins o_ring_size o_ring_log o_ring_powers o_turns_cos o_turns_sin o_reader_fault o_reader_faultPlace o_image o_tape m_tapeSize m_fault m_faultPlace m_bank m_isImage m_undos m_runRadix m_runOrder m_runNear m_runLimit m_runHalves m_power m_notedMany m_knownTold m_tape m_words m_told m_all m_quarter m_roots m_noted1) (p1 : Int32) (p2 : Int32)  (o_trial_exp : Int32) (o_trial_done : Int32) (o_trial_backward : Int32) (o_trialWay_size : Int32) (o_trialWay_log : Int32) (o_trialWay_wordBits : Int32) (o_trialWay_limit : Int32) (o_trialWay_radix : Int32) (o_trialWay_order : Int32) (o_trialWay_near : Int32) (o_trialWay_seed : Int32) (o_trialWay_stages : Int32) (o_beater_spareIm : Nat → Int32) (o_beater_spareRe : Nat → Int32) (o_beater_wingIm : Nat → Int32) (o_beater_wingRe : Nat → Int32) (o_trial_halved : Nat → Int32) (o_trial_im : Nat → Int32) (o_trial_re : Nat → Int32) (o_trialWay_shifts : Nat → Int32) (m_thrown : Int32) (m_laidIm : Nat → Int32) (m_laidRe : Nat → Int32) :
    ∃ (r : Int32) (out_o_trial_exp : Int32) (out_o_trial_done : Int32) (out_o_trial_backward : Int32) (out_o_trialWay_size : Int32) (out_o_trialWay_log : Int32) (out_o_trialWay_wordBits : Int32) (out_o_trialWay_limit : Int32) (out_o_trialWay_radix : Int32) (out_o_trialWay_order : Int32) (out_o_trialWay_near : Int32) (out_o_trialWay_seed : Int32) (out_o_trialWay_stages : Int32) (out_o_beater_spareIm : Nat → Int32) (out_o_beater_spareRe : Nat → Int32) (out_o_beater_wingIm : Nat → Int32) (out_o_beater_wingRe : Nat → Int32) (out_o_trial_halved : Nat → Int32) (out_o_trial_im : Nat → Int32) (out_o_trial_re : Nat → Int32) (out_o_trialWay_shifts : Nat → Int32) (out_m_thrown : Int32) (out_m_bank : Int32) (out_m_runRadix : Int32) (out_m_runOrder : Int32) (out_m_runNear : Int32) (out_m_runLimit : Int32) (out_m_runHalves : Int32) (out_m_all : Nat → Int32) (out_m_laidIm : Nat → Int32) (out_m_laidRe : Nat → Int32), fX9_tried o_trial_exp o_trial_done o_trial_backward o_trialWay_size o_trialWay_log o_trialWay_wordBits o_trialWay_limit o_trialWay_radix o_trialWay_order o_trialWay_near o_trialWay_seed o_trialWay_stages o_way_size o_way_log o_way_wordBits o_way_limit o_way_radix o_way_order o_way_near o_way_seed o_way_stages o_beater_spareIm o_beater_spareRe o_beater_wingIm o_beater_wingRe o_trial_halved o_trial_im o_trial_re o_trialWay_shifts o_turns_cos o_turns_sin o_wave_wasIm o_wave_wasRe o_way_shifts p1 p2 = some (r, out_o_trial_exp, out_o_trial_done, out_o_trial_backward, out_o_trialWay_size, out_o_trialWay_log, out_o_trialWay_wordBits, out_o_trialWay_limit, out_o_trialWay_radix, out_o_trialWay_order, out_o_trialWay_near, out_o_trialWay_seed, out_o_trialWay_stages, out_o_beater_spareIm, out_o_beater_spareRe, out_o_beater_wingIm, out_o_beater_wingRe, out_o_trial_halved, out_o_trial_im, out_o_trial_re, out_o_trialWay_shifts) ∧ fX10_tried m_thrown m_bank m_runRadix m_runOrder m_runNear m_runLimit m_runHalves m_power m_all m_laidIm m_laidRe m_quarter m_told p1 p2 = some (r, out_m_thrown, out_m_bank, out_m_runRadix, out_m_runOrder, out_m_runNear, out_m_runLimit, out_m_runHalves, out_m_all, out_m_laidIm, out_m_laidRe) ∧ REL o_imageKept o_taped o_way_size o_way_log o_way_wordBits o_way_limit o_way_radix o_way_order o_way_near o_way_seed o_way_stages o_way_shifts o_wave_exp o_wave_done o_wave_backward o_wave_re o_wave_im o_wave_wasRe o_wave_wasIm o_wave_halved o_past_next o_past_held o_past_cells o_notes_total o_notes_knownBy o_notes_kinds o_notes_targets o_notes_bins o_ring_size o_ring_log o_ring_powers o_turns_cos o_turns_sin o_reader_fault o_reader_faultPlace o_image o_tape m_tapeSize m_fault m_faultPlace out_m_bank m_isImage m_undos out_m_runRadix out_m_runOrder out_m_runNear out_m_runLimit out_m_runHalves m_power m_notedMany m_knownTold m_tape m_words m_told out_m_all m_quarter m_roots m_noted1 := by
  have hR0 := hR
  obtain ⟨M, bits, rad, ord, nr, sd, hC, hW, hT, hG, hm, hV, hP, hI, hN, hA, hF1, hF2⟩ := hR
  obtain ⟨hM, hbits, hr, ho, hn, hsd⟩ := id hC
  obtain ⟨rfl, rfl, rfl, rfl, rfl, rfl, rfl, rfl, rfl, hSH⟩ := hW
  obtain ⟨rfl, rfl, rfl, rfl, rfl, rfl, rfl, rfl, rfl, t0, t1, t2, t3, t4, t5, hrt⟩ := hm
  have hN2 := isM_pow hM
  have hns := nst_le hM hr
  have hlm := lm_x hbits
  have hCG := CF_c hC
  have hV0 := hV
  obtain ⟨k, bk, rfl, rfl, hw, hws, hwi⟩ := hV
  have hMO := TRN_m hM hT t0
  have hTB := TRN_B hM hT
  have hB16 : BDz M (o_wave_wasRe, o_wave_wasIm) (2 ^ 16) := fun p hp => by have := hwi.2.2.2.2.2.1 p hp; omega
  unfold fX9_tried fX10_tried
  rcases isIn_c p1 (show 4 < 2 ^ 30 by decide) with ⟨v, hv, rfl, q1, q2, q3⟩ | ⟨q1, q3⟩ | ⟨q1, q2, q4, q3⟩
  · rw [if_neg q1, if_neg (show ¬ ((4 : Int32) < nI v) from nI_nlt (b := v) (a := 4) hv (by decide)), show fX10_isIn (nI v) 0 4 = _ from q3, bd1_s, if_neg (show ¬ ((1 : Int32) = 0) by decide)]
    by_cases h2 : v = 2
    · subst h2
      rw [if_pos (show nI 2 = (2 : Int32) from rfl), if_pos (show nI 2 = (2 : Int32) from rfl)]
      rcases place_c hM p2 with ⟨j, hj, rfl, e1, e2⟩ | ⟨e1, e2⟩
      · rw [e1, e2 _ t0, bd1_s, bd1_s, if_neg (show ¬ ((1 : Int32) = 0) by decide), if_neg (show ¬ ((1 : Int32) = 0) by decide)]
        unfold fX9_tried_31 fX10_tried_36
        rw [if_pos (show nI 2 = (2 : Int32) from rfl), if_pos (show nI 2 = (2 : Int32) from rfl)]
        obtain ⟨⟨a1, a2, a3, a4, a5, a6, a7, a8, a9, a10⟩, c1⟩ := expWithout_c (o_turns_cos := o_turns_cos) (o_turns_sin := o_turns_sin) (o_wave_wasRe := o_wave_wasRe) (o_wave_wasIm := o_wave_wasIm) hC hj hSH hTB hB16 o_trial_exp o_trial_done o_trial_backward o_beater_spareIm o_beater_spareRe o_beater_wingIm o_beater_wingRe o_trial_halved o_trial_im o_trial_re
        obtain ⟨all', li', lr', m1, m2⟩ := expWithout_m hC hj hMO hTB hB16 hwi.2.2.2.1 hws t1 t2 t3 t4 m_laidIm m_laidRe
        rw [c1, bd11_s, m1, bd10_s]
        exact ⟨_, _, _, _, _, _, _, _, _, _, _, _, _, _, _, _, _, _, _, _, _, _, _, _, _, _, _, _, _, _, _, rfl, rfl, M, bits, rad, ord, nr, sd, hC, ⟨rfl, rfl, rfl, rfl, rfl, rfl, rfl, rfl, rfl, hSH⟩, hT, hG, ⟨rfl, rfl, rfl, rfl, rfl, rfl, rfl, rfl, rfl, t0, t1, t2, t3, t4, t5, hrt⟩, WVR_1 m2 hV0, PSTR_1 m2 hP, IMGR_1 m2 hI, hN, hA, hF1, hF2⟩
      · rw [e1, e2 _ t0]
        exact ⟨_, _, _, _, _, _, _, _, _, _, _, _, _, _, _, _, _, _, _, _, _, _, _, _, _, _, _, _, _, _, _, rfl, rfl, hR0⟩
    · have hv2 : ¬ (nI v = (2 : Int32)) := fun q => h2 ((nI_eq (b := 2) (by omega) (by decide)).mp q)
      rw [if_neg hv2, if_neg hv2]
      by_cases h0 : p2 = 0
      · rw [if_pos h0, if_pos h0]
        unfold fX9_tried_31 fX10_tried_36
        rw [if_neg hv2, if_neg hv2]
        obtain ⟨sh', c1, c2⟩ := copyFrom_eq hC o_trialWay_size o_trialWay_log o_trialWay_wordBits o_trialWay_limit o_trialWay_radix o_trialWay_order o_trialWay_near o_trialWay_seed o_trialWay_stages o_trialWay_shifts
        obtain ⟨al, a1, a2, -, a4⟩ := asWas_x 0 (fun _ => 0) hws
        rw [c1, bd10_s, a1, bd2_s]
        -- what both do with another shape
        have main : ∀ rad2 ord2 nr2 (h : Nat → Int32), isRad rad2 → ord2 < 2 → nr2 < 2 → SHF M rad2 ord2 h → ∃ r o all' li' lr', fX9_tried_130 o_turns_cos o_turns_sin o_wave_wasIm o_wave_wasRe o_trial_exp o_trial_done o_trial_backward (nI (2 ^ M)) (nI M) (nI bits) (nI (lmN bits)) (nI rad2) (nI ord2) (nI nr2) (nI sd) (nI (nst M rad2)) o_beater_spareIm o_beater_spareRe o_beater_wingIm o_beater_wingRe o_trial_halved o_trial_im o_trial_re h = some (r, o) ∧
            fX10_tried_92 (nI M) mX10_61 m_told 0 (nI 1) (nI rad2) (nI ord2) (nI nr2) (nI (lmN bits)) 1 al m_laidIm m_laidRe = some (r, 0, 0, nI rad, nI ord, nI nr, nI (lmN bits), 1, all', li', lr') ∧ FB1 m_all all' := by
          intro rad2 ord2 nr2 h hr2 ho2 hn2 hs2
          have hc2 : CFG M rad2 ord2 nr2 (lmN bits) := ⟨hM, hr2, ho2, hn2, hlm⟩
          obtain ⟨o, d1⟩ := tried_c (o_turns_cos := o_turns_cos) (o_turns_sin := o_turns_sin) (o_wave_wasRe := o_wave_wasRe) (o_wave_wasIm := o_wave_wasIm) hc2 hs2 hTB hB16 o_trial_exp o_trial_done o_trial_backward (nI bits) (nI sd) o_beater_spareIm o_beater_spareRe o_beater_wingIm o_beater_wingRe o_trial_halved o_trial_im o_trial_re
          obtain ⟨all', li', lr', m1, m2⟩ := expRun_m hc2 hMO hTB hB16 hwi.2.2.2.1 a2 m_laidIm m_laidRe
          refine ⟨_, o, all', li', lr', d1, ?_, FB1_t a4 m2⟩
          unfold fX10_tried_92
          rw [m1, bd4_s, asItIs_eq hbits t1 t2 t3 t4, bd6_s]
        by_cases h1 : v ≤ 1
        · rw [if_neg (show ¬ ((1 : Int32) < nI v) from nI_nlt (b := v) (a := 1) h1 (by decide)), if_neg (show ¬ ((1 : Int32) < nI v) from nI_nlt (b := v) (a := 1) h1 (by decide))]
          obtain ⟨r, ⟨a1, a2, a3, a4, a5, a6, a7, a8, a9, a10, a11, a12, a13, a14, a15, a16, a17, a18, a19, a20⟩, all', li', lr', m1, m2, m3⟩ := main rad ord v sh' hr ho (by omega) c2
          unfold fX10_tried_61 fX10_tried_77
          rw [if_neg (fun q => by have := (nI_eq (b := 3) (by omega) (by decide)).mp q; omega), if_neg (fun q => by have := (nI_eq (b := 4) (by omega) (by decide)).mp q; omega), m1, m2]
          exact ⟨_, _, _, _, _, _, _, _, _, _, _, _, _, _, _, _, _, _, _, _, _, _, _, _, _, _, _, _, _, _, _, rfl, rfl, M, bits, rad, ord, nr, sd, hC, ⟨rfl, rfl, rfl, rfl, rfl, rfl, rfl, rfl, rfl, hSH⟩, hT, hG, ⟨rfl, rfl, rfl, rfl, rfl, rfl, rfl, rfl, rfl, t0, t1, t2, t3, t4, t5, hrt⟩, WVR_1 m3 hV0, PSTR_1 m3 hP, IMGR_1 m3 hI, hN, hA, hF1, hF2⟩
        · rw [if_pos (show (1 : Int32) < nI v from nI_lt (a := 1) (by omega) (by omega)), if_pos (show (1 : Int32) < nI v from nI_lt (a := 1) (by omega) (by omega))]
          rcases (show v = 3 ∨ v = 4 by omega) with rfl | rfl
          · rw [if_pos (show nI 3 = (3 : Int32) from rfl)]
            obtain ⟨sh2, d1, d2⟩ := takeShape_eq (rad := 6 - rad) hM (by rcases hr with rfl | rfl; exact Or.inr rfl; exact Or.inl rfl) ho (nI rad) (nI ord) (nI (nst M rad)) sh'
            obtain ⟨r, ⟨a1, a2, a3, a4, a5, a6, a7, a8, a9, a10, a11, a12, a13, a14, a15, a16, a17, a18, a19, a20⟩, all', li', lr', m1, m2, m3⟩ := main (6 - rad) ord nr sh2 (by rcases hr with rfl | rfl; exact Or.inr rfl; exact Or.inl rfl) ho hn d2
            unfold fX10_tried_61 fX10_tried_77 fX9_tried_94
            simp only [nm]
            rw [if_pos (show nI 3 = (3 : Int32) from rfl), if_neg (show ¬ (nI 3 = (4 : Int32)) by decide)]
            have er : (6 : Int32) - nI rad = nI (6 - rad) := by rcases hr with rfl | rfl <;> decide
            rw [er, m2]
            rcases hr with rfl | rfl
            · rw [if_pos (show nI 2 = (2 : Int32) from rfl), show fX8_takeShape (nI M) (nI 2) (nI ord) (nI (nst M 2)) sh' 4 (nI ord) = _ from d1, bd4_s]
              rw [m1]
              exact ⟨_, _, _, _, _, _, _, _, _, _, _, _, _, _, _, _, _, _, _, _, _, _, _, _, _, _, _, _, _, _, _, rfl, rfl, M, bits, _, ord, nr, sd, hC, ⟨rfl, rfl, rfl, rfl, rfl, rfl, rfl, rfl, rfl, hSH⟩, hT, hG, ⟨rfl, rfl, rfl, rfl, rfl, rfl, rfl, rfl, rfl, t0, t1, t2, t3, t4, t5, hrt⟩, WVR_1 m3 hV0, PSTR_1 m3 hP, IMGR_1 m3 hI, hN, hA, hF1, hF2⟩
            · rw [if_neg (show ¬ (nI 4 = (2 : Int32)) by decide), show fX8_takeShape (nI M) (nI 4) (nI ord) (nI (nst M 4)) sh' 2 (nI ord) = _ from d1, bd4_s]
              rw [m1]
              exact ⟨_, _, _, _, _, _, _, _, _, _, _, _, _, _, _, _, _, _, _, _, _, _, _, _, _, _, _, _, _, _, _, rfl, rfl, M, bits, _, ord, nr, sd, hC, ⟨rfl, rfl, rfl, rfl, rfl, rfl, rfl, rfl, rfl, hSH⟩, hT, hG, ⟨rfl, rfl, rfl, rfl, rfl, rfl, rfl, rfl, rfl, t0, t1, t2, t3, t4, t5, hrt⟩, WVR_1 m3 hV0, PSTR_1 m3 hP, IMGR_1 m3 hI, hN, hA, hF1, hF2⟩
          · rw [if_neg (show ¬ (nI 4 = (3 : Int32)) by decide)]
            obtain ⟨sh2, d1, d2⟩ := takeShape_eq (ord := 1 - ord) hM hr (by omega) (nI rad) (nI ord) (nI (nst M rad)) sh'
            obtain ⟨r, ⟨a1, a2, a3, a4, a5, a6, a7, a8, a9, a10, a11, a12, a13, a14, a15, a16, a17, a18, a19, a20⟩, all', li', lr', m1, m2, m3⟩ := main rad (1 - ord) nr sh2 hr (by omega) hn d2
            have eo : (1 : Int32) - nI ord = nI (1 - ord) := by rw [show (1 : Int32) = nI 1 from rfl, pk_sub (by omega)]
            unfold fX10_tried_61 fX10_tried_77
            simp only [nm]
            rw [if_neg (show ¬ (nI 4 = (3 : Int32)) by decide), if_pos (show nI 4 = (4 : Int32) from rfl), eo, m2, d1, bd4_s]
            rw [m1]
            exact ⟨_, _, _, _, _, _, _, _, _, _, _, _, _, _, _, _, _, _, _, _, _, _, _, _, _, _, _, _, _, _, _, rfl, rfl, M, bits, rad, ord, nr, sd, hC, ⟨rfl, rfl, rfl, rfl, rfl, rfl, rfl, rfl, rfl, hSH⟩, hT, hG, ⟨rfl, rfl, rfl, rfl, rfl, rfl, rfl, rfl, rfl, t0, t1, t2, t3, t4, t5, hrt⟩, WVR_1 m3 hV0, PSTR_1 m3 hP, IMGR_1 m3 hI, hN, hA, hF1, hF2⟩
      · rw [if_neg h0, if_neg h0]
        exact ⟨_, _, _, _, _, _, _, _, _, _, _, _, _, _, _, _, _, _, _, _, _, _, _, _, _, _, _, _, _, _, _, rfl, rfl, hR0⟩
  · rw [if_pos q1, show fX10_isIn p1 0 4 = _ from q3, bd1_s, if_pos rfl]
    exact ⟨_, _, _, _, _, _, _, _, _, _, _, _, _, _, _, _, _, _, _, _, _, _, _, _, _, _, _, _, _, _, _, rfl, rfl, hR0⟩
  · rw [if_neg q1, if_pos (show (4 : Int32) < p1 from q4), show fX10_isIn p1 0 4 = _ from q3, bd1_s, if_pos rfl]
    exact ⟨_, _, _, _, _, _, _, _, _, _, _, _, _, _, _, _, _, _, _, _, _, _, _, _, _, _, _, _, _, _, _, rfl, rfl, hR0⟩
theorem k_loudest {o_imageKept : Int32} {o_taped : Int32} {o_way_size : Int32} {o_way_log : Int32} {o_way_wordBits : Int32} {o_way_limit : Int32} {o_way_radix : Int32} {o_way_order : Int32} {o_way_near : Int32} {o_way_seed : Int32} {o_way_stages : Int32} {o_way_shifts : Nat → Int32} {o_wave_exp : Int32} {o_wave_done : Int32} {o_wave_backward : Int32} {o_wave_re : Nat → Int32} {o_wave_im : Nat → Int32} {o_wave_wasRe : Nat → Int32} {o_wave_wasIm : Nat → Int32} {o_wave_halved : Nat → Int32} {o_past_next : Int32} {o_past_held : Int32} {o_past_cells : Nat → Int32} {o_notes_total : Int32} {o_notes_knownBy : Int32} {o_notes_kinds : Nat → Int32} {o_notes_targets : Nat → Int32} {o_notes_bins : Nat → Int32} {o_ring_size : Int32} {o_ring_log : Int32} {o_ring_powers : Nat → Int32} {o_turns_cos : Nat → Int32} {o_turns_sin : Nat → Int32} {o_reader_fault : Int32} {o_reader_faultPlace : Int32} {o_image : Nat → Int32} {o_tape : Nat → Int32} {m_tapeSize : Int32} {m_fault : Int32} {m_faultPlace : Int32} {m_bank : Int32} {m_isImage : Int32} {m_undos : Int32} {m_runRadix : Int32} {m_runOrder : Int32} {m_runNear : Int32} {m_runLimit : Int32} {m_runHalves : Int32} {m_power : Int32} {m_notedMany : Int32} {m_knownTold : Int32} {m_tape : Nat → Int32} {m_words : Nat → Int32} {m_told : Nat → Int32} {m_all : Nat → Int32} {m_quarter : Nat → Int32} {m_roots : Nat → Int32} {m_noted1 : Nat → Int32} (hR : REL o_imageKept o_taped o_way_size o_way_log o_way_wordBits o_way_limit o_way_radix o_way_order o_way_near o_way_seed o_way_stages o_way_shifts o_wave_exp o_wave_done o_wave_backward o_wave_re o_wave_im o_wave_wasRe o_wave_wasIm o_wave_halved o_past_next o_past_held o_past_cells o_notes_total o_notes_knownBy o_notes_kinds o_notes_targets o_notes_bins o_ring_size o_ring_log o_ring_powers o_turns_cos o_turns_sin o_reader_fault o_reader_faultPlace o_image o_tape m_tapeSize m_fault m_faultPlace m_bank m_isImage m_undos m_runRadix m_runOrder m_runNear m_runLimit m_runHalves m_power m_notedMany m_knownTold m_tape m_words m_told m_all m_quarter m_roots m_noted1)   (o_trial_exp : Int32) (o_trial_done : Int32) (o_trial_backward : Int32) (o_beater_spareIm : Nat → Int32) (o_beater_spareRe : Nat → Int32) (o_beater_wingIm : Nat → Int32) (o_beater_wingRe : Nat → Int32) (o_trial_halved : Nat → Int32) (o_trial_im : Nat → Int32) (o_trial_re : Nat → Int32) (m_thrown : Int32) (m_laidIm : Nat → Int32) (m_laidRe : Nat → Int32) :
    ∃ (r : Int32) (out_o_trial_exp : Int32) (out_o_trial_done : Int32) (out_o_trial_backward : Int32) (out_o_beater_spareIm : Nat → Int32) (out_o_beater_spareRe : Nat → Int32) (out_o_beater_wingIm : Nat → Int32) (out_o_beater_wingRe : Nat → Int32) (out_o_trial_halved : Nat → Int32) (out_o_trial_im : Nat → Int32) (out_o_trial_re : Nat → Int32) (out_m_thrown : Int32) (out_m_bank : Int32) (out_m_runRadix : Int32) (out_m_runOrder : Int32) (out_m_runNear : Int32) (out_m_runLimit : Int32) (out_m_runHalves : Int32) (out_m_all : Nat → Int32) (out_m_laidIm : Nat → Int32) (out_m_laidRe : Nat → Int32), fX9_loudest o_trial_exp o_trial_done o_trial_backward o_way_size o_way_log o_way_limit o_way_order o_way_near o_way_stages o_beater_spareIm o_beater_spareRe o_beater_wingIm o_beater_wingRe o_trial_halved o_trial_im o_trial_re o_turns_cos o_turns_sin o_wave_wasIm o_wave_wasRe o_way_shifts = some (r, out_o_trial_exp, out_o_trial_done, out_o_trial_backward, out_o_beater_spareIm, out_o_beater_spareRe, out_o_beater_wingIm, out_o_beater_wingRe, out_o_trial_halved, out_o_trial_im, out_o_trial_re) ∧ fX10_loudest m_thrown m_bank m_runRadix m_runOrder m_runNear m_runLimit m_runHalves m_power m_all m_laidIm m_laidRe m_quarter m_told = some (r, out_m_thrown, out_m_bank, out_m_runRadix, out_m_runOrder, out_m_runNear, out_m_runLimit, out_m_runHalves, out_m_all, out_m_laidIm, out_m_laidRe) ∧ REL o_imageKept o_taped o_way_size o_way_log o_way_wordBits o_way_limit o_way_radix o_way_order o_way_near o_way_seed o_way_stages o_way_shifts o_wave_exp o_wave_done o_wave_backward o_wave_re o_wave_im o_wave_wasRe o_wave_wasIm o_wave_halved o_past_next o_past_held o_past_cells o_notes_total o_notes_knownBy o_notes_kinds o_notes_targets o_notes_bins o_ring_size o_ring_log o_ring_powers o_turns_cos o_turns_sin o_reader_fault o_reader_faultPlace o_image o_tape m_tapeSize m_fault m_faultPlace out_m_bank m_isImage m_undos out_m_runRadix out_m_runOrder out_m_runNear out_m_runLimit out_m_runHalves m_power m_notedMany m_knownTold m_tape m_words m_told out_m_all m_quarter m_roots m_noted1 := by
  have hR0 := hR
  obtain ⟨M, bits, rad, ord, nr, sd, hC, hW, hT, hG, hm, hV, hP, hI, hN, hA, hF1, hF2⟩ := hR
  obtain ⟨hM, hbits, hr, ho, hn, hsd⟩ := id hC
  obtain ⟨rfl, rfl, rfl, rfl, rfl, rfl, rfl, rfl, rfl, hSH⟩ := hW
  obtain ⟨rfl, rfl, rfl, rfl, rfl, rfl, rfl, rfl, rfl, t0, t1, t2, t3, t4, t5, hrt⟩ := hm
  have hN2 := isM_pow hM
  have hns := nst_le hM hr
  have hlm := lm_x hbits
  have hCG := CF_c hC
  have hV0 := hV
  obtain ⟨k, bk, rfl, rfl, hw, hws, hwi⟩ := hV
  have hMO := TRN_m hM hT t0
  have hTB := TRN_B hM hT
  have hB16 : BDz M (o_wave_wasRe, o_wave_wasIm) (2 ^ 16) := fun p hp => by have := hwi.2.2.2.2.2.1 p hp; omega
  obtain ⟨E, eE⟩ : ∃ E : Nat → Nat, E = fun p => tS M rad ord nr (lmN bits) o_turns_cos o_turns_sin (wo (o_wave_wasRe, o_wave_wasIm) p) := ⟨_, rfl⟩
  have hc : ∀ p, p < 2 ^ M → ∀ u1 u2 u3 u4 u5 u6 u7 u8 u9 u10, ∃ o, fX9_expWithout u1 u2 u3 (nI (2 ^ M)) (nI M) (nI (lmN bits)) (nI ord) (nI nr) (nI (nst M rad)) u4 u5 u6 u7 u8 u9 u10 o_turns_cos o_turns_sin o_wave_wasIm o_wave_wasRe o_way_shifts (nI p) = some (nI (E p), o) := fun p hp u1 u2 u3 u4 u5 u6 u7 u8 u9 u10 => by
    rw [eE]
    exact expWithout_c hC hp hSH hTB hB16 u1 u2 u3 u4 u5 u6 u7 u8 u9 u10
  have hm : ∀ p, p < 2 ^ M → ∀ al li lr, FB1 m_all al → ∃ al' li' lr', fX10_expWithout 0 (nI rad) (nI ord) (nI nr) (nI (lmN bits)) 1 (nI M) al li lr mX10_61 m_told (nI p) = some (nI (E p), 0, nI rad, nI ord, nI nr, nI (lmN bits), 1, al', li', lr') ∧ FB1 m_all al' := fun p hp al li lr hF => by
    rw [eE]
    obtain ⟨al', li', lr', e1, e2⟩ := expWithout_m hC hp hMO hTB hB16 hwi.2.2.2.1 (WASR_c (fun j h1 h2 => hF j (by omega)) hws) t1 t2 t3 t4 li lr
    exact ⟨al', li', lr', e1, FB1_t hF e2⟩
  have key : ∀ d n m p (b1 b2 : Int32) u1 u2 u3 u4 u5 u6 u7 u8 u9 u10 al li lr, p + d = 2 ^ M → d < n → d < m → FB1 m_all al → ∃ r o al' li' lr',
      fX9_loudest_8 (nI (2 ^ M)) (nI M) (nI (lmN bits)) (nI ord) (nI nr) (nI (nst M rad)) o_turns_cos o_turns_sin o_wave_wasIm o_wave_wasRe o_way_shifts n u1 u2 u3 u4 u5 u6 u7 u8 u9 u10 b1 b2 (nI p) = some (r, o) ∧
      fX10_loudest_15 (nI M) mX10_61 m_told m 0 0 (nI rad) (nI ord) (nI nr) (nI (lmN bits)) 1 al li lr b1 b2 (nI p) = some (r, 0, 0, nI rad, nI ord, nI nr, nI (lmN bits), 1, al', li', lr') ∧ FB1 m_all al' := by
    intro d
    induction d with
    | zero =>
      intro n m p b1 b2 u1 u2 u3 u4 u5 u6 u7 u8 u9 u10 al li lr h1 h2 h3 hF
      obtain ⟨n, rfl⟩ : ∃ m, n = m + 1 := ⟨n - 1, by omega⟩
      obtain ⟨m, rfl⟩ : ∃ m', m = m' + 1 := ⟨m - 1, by omega⟩
      rw [fX9_loudest_8.eq_2, fX10_loudest_15.eq_2, size_eq, bd1_s, t0, if_pos (nI_le (by omega) (by omega)), if_pos (nI_le (by omega) (by omega))]
      exact ⟨_, _, _, _, _, rfl, rfl, hF⟩
    | succ d ih =>
      intro n m p b1 b2 u1 u2 u3 u4 u5 u6 u7 u8 u9 u10 al li lr h1 h2 h3 hF
      obtain ⟨n, rfl⟩ : ∃ m, n = m + 1 := ⟨n - 1, by omega⟩
      obtain ⟨m, rfl⟩ : ∃ m', m = m' + 1 := ⟨m - 1, by omega⟩
      obtain ⟨⟨a1, a2, a3, a4, a5, a6, a7, a8, a9, a10⟩, c1⟩ := hc p (by omega) u1 u2 u3 u4 u5 u6 u7 u8 u9 u10
      obtain ⟨al', li', lr', m1, m2⟩ := hm p (by omega) al li lr hF
      rw [fX9_loudest_8.eq_2, fX10_loudest_15.eq_2, size_eq, bd1_s, t0, if_neg (nI_ge (by omega) (by omega)), if_neg (nI_ge (by omega) (by omega)), c1, bd11_s, m1, bd10_s]
      unfold fX9_loudest_37 fX10_loudest_41 fX10_loudest_54
      simp only [nm, nI_1]
      by_cases h : b2 ≤ nI (E p)
      · rw [if_pos h, if_pos h, if_pos h]
        exact ih n m (p + 1) b1 b2 a1 a2 a3 a4 a5 a6 a7 a8 a9 a10 al' li' lr' (by omega) (by omega) (by omega) m2
      · rw [if_neg h, if_neg h, if_neg h]
        exact ih n m (p + 1) (nI p) (nI (E p)) a1 a2 a3 a4 a5 a6 a7 a8 a9 a10 al' li' lr' (by omega) (by omega) (by omega) m2
  unfold fX9_loudest fX10_loudest
  obtain ⟨⟨a1, a2, a3, a4, a5, a6, a7, a8, a9, a10⟩, c1⟩ := hc 0 (by omega) o_trial_exp o_trial_done o_trial_backward o_beater_spareIm o_beater_spareRe o_beater_wingIm o_beater_wingRe o_trial_halved o_trial_im o_trial_re
  obtain ⟨al', li', lr', m1, m2⟩ := hm 0 (by omega) m_all m_laidIm m_laidRe (fun _ _ => rfl)
  have hE0 : E 0 ≤ 36 := by
    rw [eE]
    have := (SB_sh (runT_SB hCG hTB (wo_B (p := 0) hB16)) (show 0 < 2 ^ M by omega)).1
    dsimp only
    omega
  rw [show FU = 4095 + 1 from rfl, fX9_loudest_8.eq_2, if_neg (show ¬ (nI (2 ^ M) ≤ 0) from nI_ge (a := 0) (b := 2 ^ M) (by omega) (by omega)), show fX9_expWithout o_trial_exp o_trial_done o_trial_backward (nI (2 ^ M)) (nI M) (nI (lmN bits)) (nI ord) (nI nr) (nI (nst M rad)) o_beater_spareIm o_beater_spareRe o_beater_wingIm o_beater_wingRe o_trial_halved o_trial_im o_trial_re o_turns_cos o_turns_sin o_wave_wasIm o_wave_wasRe o_way_shifts 0 = _ from c1, bd11_s, if_neg (show ¬ ((2147483647 : Int32) ≤ nI (E 0)) from nI_ge (a := E 0) (b := 2147483647) (by omega) (by decide)), show fX10_expWithout 0 (nI rad) (nI ord) (nI nr) (nI (lmN bits)) 1 (nI M) m_all m_laidIm m_laidRe mX10_61 m_told 0 = _ from m1, bd10_s]
  unfold fX9_loudest_37
  simp only [nm]
  obtain ⟨r, ⟨b1, b2, b3, b4, b5, b6, b7, b8, b9, b10⟩, al2, li2, lr2, k1, k2, k3⟩ := key (2 ^ M - 1) 4095 (4095 + 1) 1 0 (nI (E 0)) a1 a2 a3 a4 a5 a6 a7 a8 a9 a10 al' li' lr' (by omega) (by omega) (by omega) m2
  exact ⟨_, _, _, _, _, _, _, _, _, _, _, _, _, _, _, _, _, _, _, _, _, k1, k2, M, bits, rad, ord, nr, sd, hC, ⟨rfl, rfl, rfl, rfl, rfl, rfl, rfl, rfl, rfl, hSH⟩, hT, hG, ⟨rfl, rfl, rfl, rfl, rfl, rfl, rfl, rfl, rfl, t0, t1, t2, t3, t4, t5, hrt⟩, WVR_1 k3 hV0, PSTR_1 k3 hP, IMGR_1 k3 hI, hN, hA, hF1, hF2⟩
