def wX9_best (cI cJ cZ : ClassId) (h_o h_o_beater h_o_sumsIm h_o_sumsRe h_o_trial h_o_trialWay h_o_turns h_o_wave h_o_way h_o_beater_spareIm h_o_beater_spareRe h_o_beater_wingIm h_o_beater_wingRe h_o_trial_halved h_o_trial_im h_o_trial_re h_o_trialWay_shifts h_o_turns_cos h_o_turns_sin h_o_wave_wasIm h_o_wave_wasRe h_o_past h_o_notes h_o_ring h_o_reader h_o_dice h_o_otherTrial h_o_tally h_o_image h_o_tape h_o_trial_wasRe h_o_trial_wasIm h_o_wave_re h_o_wave_im h_o_wave_halved h_o_way_shifts : Nat) (o_imageKept : Int32) (o_taped : Int32) (o_sumsIm : Nat → Int64) (o_sumsRe : Nat → Int64) (o_trial_exp : Int32) (o_trial_done : Int32) (o_trial_backward : Int32) (o_trialWay_size : Int32) (o_trialWay_log : Int32) (o_trialWay_wordBits : Int32) (o_trialWay_limit : Int32) (o_trialWay_radix : Int32) (o_trialWay_order : Int32) (o_trialWay_near : Int32) (o_trialWay_seed : Int32) (o_trialWay_stages : Int32) (o_wave_exp : Int32) (o_wave_done : Int32) (o_wave_backward : Int32) (o_way_size : Int32) (o_way_log : Int32) (o_way_wordBits : Int32) (o_way_limit : Int32) (o_way_radix : Int32) (o_way_order : Int32) (o_way_near : Int32) (o_way_seed : Int32) (o_way_stages : Int32) (o_beater_spareIm : Nat → Int32) (o_beater_spareRe : Nat → Int32) (o_beater_wingIm : Nat → Int32) (o_beater_wingRe : Nat → Int32) (o_trial_halved : Nat → Int32) (o_trial_im : Nat → Int32) (o_trial_re : Nat → Int32) (o_trialWay_shifts : Nat → Int32) (o_turns_cos : Nat → Int32) (o_turns_sin : Nat → Int32) (o_wave_wasIm : Nat → Int32) (o_wave_wasRe : Nat → Int32) : va_W := [(h_o, .inr (9, [.ref h_o_way, .ref h_o_wave, .ref h_o_past, .ref h_o_notes, .ref h_o_ring, .ref h_o_turns, .ref h_o_beater, .ref h_o_reader, .ref h_o_dice, .ref h_o_trialWay, .ref h_o_trial, .ref h_o_otherTrial, .ref h_o_sumsRe, .ref h_o_sumsIm, .ref h_o_tally, .ref h_o_image, .int o_imageKept, .ref h_o_tape, .int o_taped])), (h_o_beater, .inr (0, [.ref h_o_turns, .ref h_o_beater_spareRe, .ref h_o_beater_spareIm, .ref h_o_beater_wingRe, .ref h_o_beater_wingIm])), (h_o_sumsIm, .inl (cJ, 32, .inr (.inl o_sumsIm))), (h_o_sumsRe, .inl (cJ, 32, .inr (.inl o_sumsRe))), (h_o_trial, .inr (7, [.ref h_o_trial_re, .ref h_o_trial_im, .ref h_o_trial_wasRe, .ref h_o_trial_wasIm, .ref h_o_trial_halved, .int o_trial_exp, .int o_trial_done, .int o_trial_backward])), (h_o_trialWay, .inr (8, [.int o_trialWay_size, .int o_trialWay_log, .int o_trialWay_wordBits, .int o_trialWay_limit, .int o_trialWay_radix, .int o_trialWay_order, .int o_trialWay_near, .int o_trialWay_seed, .int o_trialWay_stages, .ref h_o_trialWay_shifts])), (h_o_turns, .inr (6, [.ref h_o_turns_cos, .ref h_o_turns_sin])), (h_o_wave, .inr (7, [.ref h_o_wave_re, .ref h_o_wave_im, .ref h_o_wave_wasRe, .ref h_o_wave_wasIm, .ref h_o_wave_halved, .int o_wave_exp, .int o_wave_done, .int o_wave_backward])), (h_o_way, .inr (8, [.int o_way_size, .int o_way_log, .int o_way_wordBits, .int o_way_limit, .int o_way_radix, .int o_way_order, .int o_way_near, .int o_way_seed, .int o_way_stages, .ref h_o_way_shifts])), (h_o_beater_spareIm, .inl (cI, 32, .inl o_beater_spareIm)), (h_o_beater_spareRe, .inl (cI, 32, .inl o_beater_spareRe)), (h_o_beater_wingIm, .inl (cI, 4, .inl o_beater_wingIm)), (h_o_beater_wingRe, .inl (cI, 4, .inl o_beater_wingRe)), (h_o_trial_halved, .inl (cI, 5, .inl o_trial_halved)), (h_o_trial_im, .inl (cI, 32, .inl o_trial_im)), (h_o_trial_re, .inl (cI, 32, .inl o_trial_re)), (h_o_trialWay_shifts, .inl (cI, 5, .inl o_trialWay_shifts)), (h_o_turns_cos, .inl (cI, 32, .inl o_turns_cos)), (h_o_turns_sin, .inl (cI, 32, .inl o_turns_sin)), (h_o_wave_wasIm, .inl (cI, 32, .inl o_wave_wasIm)), (h_o_wave_wasRe, .inl (cI, 32, .inl o_wave_wasRe))]
def fX9_best_125 (o_way_size : Int32) (o_way_log : Int32) (o_way_wordBits : Int32) (o_way_radix : Int32) (o_way_order : Int32) (o_way_near : Int32) (o_way_seed : Int32) (o_turns_cos : Nat → Int32) (o_turns_sin : Nat → Int32) (o_wave_wasIm : Nat → Int32) (o_wave_wasRe : Nat → Int32) (k13 : (Nat → Int64) → (Nat → Int64) → Int32 → Int32 → Int32 → Int32 → Int32 → Int32 → Int32 → Int32 → Int32 → Int32 → Int32 → Int32 → (Nat → Int32) → (Nat → Int32) → (Nat → Int32) → (Nat → Int32) → (Nat → Int32) → (Nat → Int32) → (Nat → Int32) → (Nat → Int32) → Int32 → Int64 → Int32 → Option (Int32 × (Nat → Int64) × (Nat → Int64) × Int32 × Int32 × Int32 × Int32 × Int32 × Int32 × Int32 × Int32 × Int32 × Int32 × Int32 × Int32 × (Nat → Int32) × (Nat → Int32) × (Nat → Int32) × (Nat → Int32) × (Nat → Int32) × (Nat → Int32) × (Nat → Int32) × (Nat → Int32))) (o_sumsIm : Nat → Int64) (o_sumsRe : Nat → Int64) (o_trial_exp : Int32) (o_trial_done : Int32) (o_trial_backward : Int32) (o_trialWay_size : Int32) (o_trialWay_log : Int32) (o_trialWay_wordBits : Int32) (o_trialWay_limit : Int32) (o_trialWay_radix : Int32) (o_trialWay_order : Int32) (o_trialWay_near : Int32) (o_trialWay_seed : Int32) (o_trialWay_stages : Int32) (o_beater_spareIm : Nat → Int32) (o_beater_spareRe : Nat → Int32) (o_beater_wingIm : Nat → Int32) (o_beater_wingRe : Nat → Int32) (o_trial_halved : Nat → Int32) (o_trial_im : Nat → Int32) (o_trial_re : Nat → Int32) (o_trialWay_shifts : Nat → Int32) (v1 : Int32) (v2 : Int64) (v4 : Int32) : Option (Int32 × (Nat → Int64) × (Nat → Int64) × Int32 × Int32 × Int32 × Int32 × Int32 × Int32 × Int32 × Int32 × Int32 × Int32 × Int32 × Int32 × (Nat → Int32) × (Nat → Int32) × (Nat → Int32) × (Nat → Int32) × (Nat → Int32) × (Nat → Int32) × (Nat → Int32) × (Nat → Int32)) :=
  nm (v4 + (1 : Int32)) (fun v4_45 =>
  k13 o_sumsIm o_sumsRe o_trial_exp o_trial_done o_trial_backward o_trialWay_size o_trialWay_log o_trialWay_wordBits o_trialWay_limit o_trialWay_radix o_trialWay_order o_trialWay_near o_trialWay_seed o_trialWay_stages o_beater_spareIm o_beater_spareRe o_beater_wingIm o_beater_wingRe o_trial_halved o_trial_im o_trial_re o_trialWay_shifts v1 v2 v4_45)
def fX9_best_58 (o_way_size : Int32) (o_way_log : Int32) (o_way_wordBits : Int32) (o_way_radix : Int32) (o_way_order : Int32) (o_way_near : Int32) (o_way_seed : Int32) (o_turns_cos : Nat → Int32) (o_turns_sin : Nat → Int32) (o_wave_wasIm : Nat → Int32) (o_wave_wasRe : Nat → Int32) (k13 : (Nat → Int64) → (Nat → Int64) → Int32 → Int32 → Int32 → Int32 → Int32 → Int32 → Int32 → Int32 → Int32 → Int32 → Int32 → Int32 → (Nat → Int32) → (Nat → Int32) → (Nat → Int32) → (Nat → Int32) → (Nat → Int32) → (Nat → Int32) → (Nat → Int32) → (Nat → Int32) → Int32 → Int64 → Int32 → Option (Int32 × (Nat → Int64) × (Nat → Int64) × Int32 × Int32 × Int32 × Int32 × Int32 × Int32 × Int32 × Int32 × Int32 × Int32 × Int32 × Int32 × (Nat → Int32) × (Nat → Int32) × (Nat → Int32) × (Nat → Int32) × (Nat → Int32) × (Nat → Int32) × (Nat → Int32) × (Nat → Int32))) (o_sumsIm : Nat → Int64) (o_sumsRe : Nat → Int64) (o_trial_exp : Int32) (o_trial_done : Int32) (o_trial_backward : Int32) (o_trialWay_size : Int32) (o_trialWay_log : Int32) (o_trialWay_wordBits : Int32) (o_trialWay_limit : Int32) (o_trialWay_radix : Int32) (o_trialWay_order : Int32) (o_trialWay_near : Int32) (o_trialWay_seed : Int32) (o_trialWay_stages : Int32) (o_beater_spareIm : Nat → Int32) (o_beater_spareRe : Nat → Int32) (o_beater_wingIm : Nat → Int32) (o_beater_wingRe : Nat → Int32) (o_trial_halved : Nat → Int32) (o_trial_im : Nat → Int32) (o_trial_re : Nat → Int32) (o_trialWay_shifts : Nat → Int32) (v1 : Int32) (v2 : Int64) (v4 : Int32) (s1 : Int32) : Option (Int32 × (Nat → Int64) × (Nat → Int64) × Int32 × Int32 × Int32 × Int32 × Int32 × Int32 × Int32 × Int32 × Int32 × Int32 × Int32 × Int32 × (Nat → Int32) × (Nat → Int32) × (Nat → Int32) × (Nat → Int32) × (Nat → Int32) × (Nat → Int32) × (Nat → Int32) × (Nat → Int32)) :=
  bd4 (fX8_takeShape o_trialWay_log o_trialWay_radix o_trialWay_order o_trialWay_stages o_trialWay_shifts s1 (v4 >>> ((2 : Int32) &&& 31))) (fun o_trialWay_radix_18 o_trialWay_order_19 o_trialWay_stages_20 o_trialWay_shifts_21 =>
  bd5 (fX7_restartFrom o_trial_exp o_trial_done o_trial_backward o_wave_wasIm o_wave_wasRe o_trial_im o_trial_re) (fun o_trial_exp_23 o_trial_done_24 o_trial_backward_25 o_trial_im_26 o_trial_re_27 =>
  bd10 (fX0_doStages o_trial_exp_23 o_trial_done_24 o_trial_backward_25 o_trialWay_size o_trialWay_log o_trialWay_limit o_trialWay_order_19 o_trialWay_near o_trialWay_stages_20 o_trial_halved o_trial_im_26 o_trial_re_27 o_trialWay_shifts_21 o_beater_spareIm o_beater_spareRe o_beater_wingIm o_beater_wingRe o_turns_cos o_turns_sin (5 : Int32) (1 : Int32)) (fun r_29 o_trial_exp_30 o_trial_done_31 o_trial_halved_32 o_trial_im_33 o_trial_re_34 o_beater_spareIm_35 o_beater_spareRe_36 o_beater_wingIm_37 o_beater_wingRe_38 =>
  bd1 (fX9_worstPlace o_trial_exp_30 o_trial_im_33 o_trial_re_34 o_sumsIm o_sumsRe o_way_size) (fun r_40 =>
  bd1 (fX9_offSums o_trial_exp_30 o_trial_im_33 o_trial_re_34 o_sumsIm o_sumsRe r_40) (fun r_42 =>
  if v2 ≤ r_42 then (
    fX9_best_125 o_way_size o_way_log o_way_wordBits o_way_radix o_way_order o_way_near o_way_seed o_turns_cos o_turns_sin o_wave_wasIm o_wave_wasRe k13 o_sumsIm o_sumsRe o_trial_exp_30 o_trial_done_31 o_trial_backward_25 o_trialWay_size o_trialWay_log o_trialWay_wordBits o_trialWay_limit o_trialWay_radix_18 o_trialWay_order_19 o_trialWay_near o_trialWay_seed o_trialWay_stages_20 o_beater_spareIm_35 o_beater_spareRe_36 o_beater_wingIm_37 o_beater_wingRe_38 o_trial_halved_32 o_trial_im_33 o_trial_re_34 o_trialWay_shifts_21 v1 v2 v4
  ) else (
    fX9_best_125 o_way_size o_way_log o_way_wordBits o_way_radix o_way_order o_way_near o_way_seed o_turns_cos o_turns_sin o_wave_wasIm o_wave_wasRe k13 o_sumsIm o_sumsRe o_trial_exp_30 o_trial_done_31 o_trial_backward_25 o_trialWay_size o_trialWay_log o_trialWay_wordBits o_trialWay_limit o_trialWay_radix_18 o_trialWay_order_19 o_trialWay_near o_trialWay_seed o_trialWay_stages_20 o_beater_spareIm_35 o_beater_spareRe_36 o_beater_wingIm_37 o_beater_wingRe_38 o_trial_halved_32 o_trial_im_33 o_trial_re_34 o_trialWay_shifts_21 v4 r_42 v4
  ))))))
def fX9_best_13 (o_way_size : Int32) (o_way_log : Int32) (o_way_wordBits : Int32) (o_way_radix : Int32) (o_way_order : Int32) (o_way_near : Int32) (o_way_seed : Int32) (o_turns_cos : Nat → Int32) (o_turns_sin : Nat → Int32) (o_wave_wasIm : Nat → Int32) (o_wave_wasRe : Nat → Int32) : Nat → (Nat → Int64) → (Nat → Int64) → Int32 → Int32 → Int32 → Int32 → Int32 → Int32 → Int32 → Int32 → Int32 → Int32 → Int32 → Int32 → (Nat → Int32) → (Nat → Int32) → (Nat → Int32) → (Nat → Int32) → (Nat → Int32) → (Nat → Int32) → (Nat → Int32) → (Nat → Int32) → Int32 → Int64 → Int32 → Option (Int32 × (Nat → Int64) × (Nat → Int64) × Int32 × Int32 × Int32 × Int32 × Int32 × Int32 × Int32 × Int32 × Int32 × Int32 × Int32 × Int32 × (Nat → Int32) × (Nat → Int32) × (Nat → Int32) × (Nat → Int32) × (Nat → Int32) × (Nat → Int32) × (Nat → Int32) × (Nat → Int32))
  | 0, _, _, _, _, _, _, _, _, _, _, _, _, _, _, _, _, _, _, _, _, _, _, _, _, _ => none
  | n + 1, o_sumsIm, o_sumsRe, o_trial_exp, o_trial_done, o_trial_backward, o_trialWay_size, o_trialWay_log, o_trialWay_wordBits, o_trialWay_limit, o_trialWay_radix, o_trialWay_order, o_trialWay_near, o_trialWay_seed, o_trialWay_stages, o_beater_spareIm, o_beater_spareRe, o_beater_wingIm, o_beater_wingRe, o_trial_halved, o_trial_im, o_trial_re, o_trialWay_shifts, v1, v2, v4 =>
    if (8 : Int32) ≤ v4 then (
      some (v1, o_sumsIm, o_sumsRe, o_trial_exp, o_trial_done, o_trial_backward, o_trialWay_size, o_trialWay_log, o_trialWay_wordBits, o_trialWay_limit, o_trialWay_radix, o_trialWay_order, o_trialWay_near, o_trialWay_seed, o_trialWay_stages, o_beater_spareIm, o_beater_spareRe, o_beater_wingIm, o_beater_wingRe, o_trial_halved, o_trial_im, o_trial_re, o_trialWay_shifts)
    ) else (
      bd10 (fX8_copyFrom o_trialWay_size o_trialWay_log o_trialWay_wordBits o_trialWay_limit o_trialWay_radix o_trialWay_order o_trialWay_near o_trialWay_seed o_trialWay_stages o_way_size o_way_log o_way_wordBits o_way_radix o_way_order o_way_near o_way_seed o_trialWay_shifts) (fun o_trialWay_size_5 o_trialWay_log_6 o_trialWay_wordBits_7 o_trialWay_limit_8 o_trialWay_radix_9 o_trialWay_order_10 o_trialWay_near_11 o_trialWay_seed_12 o_trialWay_stages_13 o_trialWay_shifts_14 =>
      nm (v4 &&& (1 : Int32)) (fun u_16 =>
      if (v4 &&& (2 : Int32)) = 0 then (
        fX9_best_58 o_way_size o_way_log o_way_wordBits o_way_radix o_way_order o_way_near o_way_seed o_turns_cos o_turns_sin o_wave_wasIm o_wave_wasRe (fX9_best_13 o_way_size o_way_log o_way_wordBits o_way_radix o_way_order o_way_near o_way_seed o_turns_cos o_turns_sin o_wave_wasIm o_wave_wasRe n) o_sumsIm o_sumsRe o_trial_exp o_trial_done o_trial_backward o_trialWay_size_5 o_trialWay_log_6 o_trialWay_wordBits_7 o_trialWay_limit_8 o_trialWay_radix_9 o_trialWay_order_10 u_16 o_trialWay_seed_12 o_trialWay_stages_13 o_beater_spareIm o_beater_spareRe o_beater_wingIm o_beater_wingRe o_trial_halved o_trial_im o_trial_re o_trialWay_shifts_14 v1 v2 v4 (2 : Int32)
      ) else (
        fX9_best_58 o_way_size o_way_log o_way_wordBits o_way_radix o_way_order o_way_near o_way_seed o_turns_cos o_turns_sin o_wave_wasIm o_wave_wasRe (fX9_best_13 o_way_size o_way_log o_way_wordBits o_way_radix o_way_order o_way_near o_way_seed o_turns_cos o_turns_sin o_wave_wasIm o_wave_wasRe n) o_sumsIm o_sumsRe o_trial_exp o_trial_done o_trial_backward o_trialWay_size_5 o_trialWay_log_6 o_trialWay_wordBits_7 o_trialWay_limit_8 o_trialWay_radix_9 o_trialWay_order_10 u_16 o_trialWay_seed_12 o_trialWay_stages_13 o_beater_spareIm o_beater_spareRe o_beater_wingIm o_beater_wingRe o_trial_halved o_trial_im o_trial_re o_trialWay_shifts_14 v1 v2 v4 (4 : Int32)
      )))
    )
def fX9_best (o_sumsIm : Nat → Int64) (o_sumsRe : Nat → Int64) (o_trial_exp : Int32) (o_trial_done : Int32) (o_trial_backward : Int32) (o_trialWay_size : Int32) (o_trialWay_log : Int32) (o_trialWay_wordBits : Int32) (o_trialWay_limit : Int32) (o_trialWay_radix : Int32) (o_trialWay_order : Int32) (o_trialWay_near : Int32) (o_trialWay_seed : Int32) (o_trialWay_stages : Int32) (o_way_size : Int32) (o_way_log : Int32) (o_way_wordBits : Int32) (o_way_radix : Int32) (o_way_order : Int32) (o_way_near : Int32) (o_way_seed : Int32) (o_beater_spareIm : Nat → Int32) (o_beater_spareRe : Nat → Int32) (o_beater_wingIm : Nat → Int32) (o_beater_wingRe : Nat → Int32) (o_trial_halved : Nat → Int32) (o_trial_im : Nat → Int32) (o_trial_re : Nat → Int32) (o_trialWay_shifts : Nat → Int32) (o_turns_cos : Nat → Int32) (o_turns_sin : Nat → Int32) (o_wave_wasIm : Nat → Int32) (o_wave_wasRe : Nat → Int32) : Option (Int32 × (Nat → Int64) × (Nat → Int64) × Int32 × Int32 × Int32 × Int32 × Int32 × Int32 × Int32 × Int32 × Int32 × Int32 × Int32 × Int32 × (Nat → Int32) × (Nat → Int32) × (Nat → Int32) × (Nat → Int32) × (Nat → Int32) × (Nat → Int32) × (Nat → Int32) × (Nat → Int32)) :=
  bd2 (fX9_fillSums o_sumsIm o_sumsRe o_way_size o_turns_cos o_turns_sin o_wave_wasIm o_wave_wasRe) (fun o_sumsIm_1 o_sumsRe_2 =>
  fX9_best_13 o_way_size o_way_log o_way_wordBits o_way_radix o_way_order o_way_near o_way_seed o_turns_cos o_turns_sin o_wave_wasIm o_wave_wasRe FU o_sumsIm_1 o_sumsRe_2 o_trial_exp o_trial_done o_trial_backward o_trialWay_size o_trialWay_log o_trialWay_wordBits o_trialWay_limit o_trialWay_radix o_trialWay_order o_trialWay_near o_trialWay_seed o_trialWay_stages o_beater_spareIm o_beater_spareRe o_beater_wingIm o_beater_wingRe o_trial_halved o_trial_im o_trial_re o_trialWay_shifts (0 : Int32) (9223372036854775807 : Int64) (0 : Int32))
set_option maxHeartbeats 4000000 in
set_option maxRecDepth 100000 in
theorem tX9_best (l : Launch) (G : va_G) (cI cJ cZ : ClassId) (sz : Nat) (h_o h_o_beater h_o_sumsIm h_o_sumsRe h_o_trial h_o_trialWay h_o_turns h_o_wave h_o_way h_o_beater_spareIm h_o_beater_spareRe h_o_beater_wingIm h_o_beater_wingRe h_o_trial_halved h_o_trial_im h_o_trial_re h_o_trialWay_shifts h_o_turns_cos h_o_turns_sin h_o_wave_wasIm h_o_wave_wasRe h_o_past h_o_notes h_o_ring h_o_reader h_o_dice h_o_otherTrial h_o_tally h_o_image h_o_tape h_o_trial_wasRe h_o_trial_wasIm h_o_wave_re h_o_wave_im h_o_wave_halved h_o_way_shifts : Nat) (o_imageKept : Int32) (o_taped : Int32) (o_sumsIm : Nat → Int64) (o_sumsRe : Nat → Int64) (o_trial_exp : Int32) (o_trial_done : Int32) (o_trial_backward : Int32) (o_trialWay_size : Int32) (o_trialWay_log : Int32) (o_trialWay_wordBits : Int32) (o_trialWay_limit : Int32) (o_trialWay_radix : Int32) (o_trialWay_order : Int32) (o_trialWay_near : Int32) (o_trialWay_seed : Int32) (o_trialWay_stages : Int32) (o_wave_exp : Int32) (o_wave_done : Int32) (o_wave_backward : Int32) (o_way_size : Int32) (o_way_log : Int32) (o_way_wordBits : Int32) (o_way_limit : Int32) (o_way_radix : Int32) (o_way_order : Int32) (o_way_near : Int32) (o_way_seed : Int32) (o_way_stages : Int32) (o_beater_spareIm : Nat → Int32) (o_beater_spareRe : Nat → Int32) (o_beater_wingIm : Nat → Int32) (o_beater_wingRe : Nat → Int32) (o_trial_halved : Nat → Int32) (o_trial_im : Nat → Int32) (o_trial_re : Nat → Int32) (o_trialWay_shifts : Nat → Int32) (o_turns_cos : Nat → Int32) (o_turns_sin : Nat → Int32) (o_wave_wasIm : Nat → Int32) (o_wave_wasRe : Nat → Int32) (r : Int32) (out_o_sumsIm : Nat → Int64) (out_o_sumsRe : Nat → Int64) (out_o_trial_exp : Int32) (out_o_trial_done : Int32) (out_o_trial_backward : Int32) (out_o_trialWay_size : Int32) (out_o_trialWay_log : Int32) (out_o_trialWay_wordBits : Int32) (out_o_trialWay_limit : Int32) (out_o_trialWay_radix : Int32) (out_o_trialWay_order : Int32) (out_o_trialWay_near : Int32) (out_o_trialWay_seed : Int32) (out_o_trialWay_stages : Int32) (out_o_beater_spareIm : Nat → Int32) (out_o_beater_spareRe : Nat → Int32) (out_o_beater_wingIm : Nat → Int32) (out_o_beater_wingRe : Nat → Int32) (out_o_trial_halved : Nat → Int32) (out_o_trial_im : Nat → Int32) (out_o_trial_re : Nat → Int32) (out_o_trialWay_shifts : Nat → Int32) (hf : fX9_best o_sumsIm o_sumsRe o_trial_exp o_trial_done o_trial_backward o_trialWay_size o_trialWay_log o_trialWay_wordBits o_trialWay_limit o_trialWay_radix o_trialWay_order o_trialWay_near o_trialWay_seed o_trialWay_stages o_way_size o_way_log o_way_wordBits o_way_radix o_way_order o_way_near o_way_seed o_beater_spareIm o_beater_spareRe o_beater_wingIm o_beater_wingRe o_trial_halved o_trial_im o_trial_re o_trialWay_shifts o_turns_cos o_turns_sin o_wave_wasIm o_wave_wasRe = some (r, out_o_sumsIm, out_o_sumsRe, out_o_trial_exp, out_o_trial_done, out_o_trial_backward, out_o_trialWay_size, out_o_trialWay_log, out_o_trialWay_wordBits, out_o_trialWay_limit, out_o_trialWay_radix, out_o_trialWay_order, out_o_trialWay_near, out_o_trialWay_seed, out_o_trialWay_stages, out_o_beater_spareIm, out_o_beater_spareRe, out_o_beater_wingIm, out_o_beater_wingRe, out_o_trial_halved, out_o_trial_im, out_o_trial_re, out_o_trialWay_shifts)) : Met l yX9_best (Cond.code yX9_best cX9_best 7 (some .int) :: BIG) ({ frames := 6, cells := 0, slots := 0, locals := 166 } : Room) (cP G (TY3 cI cJ cZ) [.ref h_o] sz (wX9_best cI cJ cZ h_o h_o_beater h_o_sumsIm h_o_sumsRe h_o_trial h_o_trialWay h_o_turns h_o_wave h_o_way h_o_beater_spareIm h_o_beater_spareRe h_o_beater_wingIm h_o_beater_wingRe h_o_trial_halved h_o_trial_im h_o_trial_re h_o_trialWay_shifts h_o_turns_cos h_o_turns_sin h_o_wave_wasIm h_o_wave_wasRe h_o_past h_o_notes h_o_ring h_o_reader h_o_dice h_o_otherTrial h_o_tally h_o_image h_o_tape h_o_trial_wasRe h_o_trial_wasIm h_o_wave_re h_o_wave_im h_o_wave_halved h_o_way_shifts o_imageKept o_taped o_sumsIm o_sumsRe o_trial_exp o_trial_done o_trial_backward o_trialWay_size o_trialWay_log o_trialWay_wordBits o_trialWay_limit o_trialWay_radix o_trialWay_order o_trialWay_near o_trialWay_seed o_trialWay_stages o_wave_exp o_wave_done o_wave_backward o_way_size o_way_log o_way_wordBits o_way_limit o_way_radix o_way_order o_way_near o_way_seed o_way_stages o_beater_spareIm o_beater_spareRe o_beater_wingIm o_beater_wingRe o_trial_halved o_trial_im o_trial_re o_trialWay_shifts o_turns_cos o_turns_sin o_wave_wasIm o_wave_wasRe)) (cQ G (TY3 cI cJ cZ) sz (wX9_best cI cJ cZ h_o h_o_beater h_o_sumsIm h_o_sumsRe h_o_trial h_o_trialWay h_o_turns h_o_wave h_o_way h_o_beater_spareIm h_o_beater_spareRe h_o_beater_wingIm h_o_beater_wingRe h_o_trial_halved h_o_trial_im h_o_trial_re h_o_trialWay_shifts h_o_turns_cos h_o_turns_sin h_o_wave_wasIm h_o_wave_wasRe h_o_past h_o_notes h_o_ring h_o_reader h_o_dice h_o_otherTrial h_o_tally h_o_image h_o_tape h_o_trial_wasRe h_o_trial_wasIm h_o_wave_re h_o_wave_im h_o_wave_halved h_o_way_shifts o_imageKept o_taped o_sumsIm o_sumsRe o_trial_exp o_trial_done o_trial_backward o_trialWay_size o_trialWay_log o_trialWay_wordBits o_trialWay_limit o_trialWay_radix o_trialWay_order o_trialWay_near o_trialWay_seed o_trialWay_stages o_wave_exp o_wave_done o_wave_backward o_way_size o_way_log o_way_wordBits o_way_limit o_way_radix o_way_order o_way_near o_way_seed o_way_stages o_beater_spareIm o_beater_spareRe o_beater_wingIm o_beater_wingRe o_trial_halved o_trial_im o_trial_re o_trialWay_shifts o_turns_cos o_turns_sin o_wave_wasIm o_wave_wasRe) (wX9_best cI cJ cZ h_o h_o_beater h_o_sumsIm h_o_sumsRe h_o_trial h_o_trialWay h_o_turns h_o_wave h_o_way h_o_beater_spareIm h_o_beater_spareRe h_o_beater_wingIm h_o_beater_wingRe h_o_trial_halved h_o_trial_im h_o_trial_re h_o_trialWay_shifts h_o_turns_cos h_o_turns_sin h_o_wave_wasIm h_o_wave_wasRe h_o_past h_o_notes h_o_ring h_o_reader h_o_dice h_o_otherTrial h_o_tally h_o_image h_o_tape h_o_trial_wasRe h_o_trial_wasIm h_o_wave_re h_o_wave_im h_o_wave_halved h_o_way_shifts o_imageKept o_taped out_o_sumsIm out_o_sumsRe out_o_trial_exp out_o_trial_done out_o_trial_backward out_o_trialWay_size out_o_trialWay_log out_o_trialWay_wordBits out_o_trialWay_limit out_o_trialWay_radix out_o_trialWay_order out_o_trialWay_near out_o_trialWay_seed out_o_trialWay_stages o_wave_exp o_wave_done o_wave_backward o_way_size o_way_log o_way_wordBits o_way_limit o_way_radix o_way_order o_way_near o_way_seed o_way_stages out_o_beater_spareIm out_o_beater_spareRe out_o_beater_wingIm out_o_beater_wingRe out_o_trial_halved out_o_trial_im out_o_trial_re out_o_trialWay_shifts o_turns_cos o_turns_sin o_wave_wasIm o_wave_wasRe) (some (.int r))) 0 0 (va_A (wX9_best cI cJ cZ h_o h_o_beater h_o_sumsIm h_o_sumsRe h_o_trial h_o_trialWay h_o_turns h_o_wave h_o_way h_o_beater_spareIm h_o_beater_spareRe h_o_beater_wingIm h_o_beater_wingRe h_o_trial_halved h_o_trial_im h_o_trial_re h_o_trialWay_shifts h_o_turns_cos h_o_turns_sin h_o_wave_wasIm h_o_wave_wasRe h_o_past h_o_notes h_o_ring h_o_reader h_o_dice h_o_otherTrial h_o_tally h_o_image h_o_tape h_o_trial_wasRe h_o_trial_wasIm h_o_wave_re h_o_wave_im h_o_wave_halved h_o_way_shifts o_imageKept o_taped o_sumsIm o_sumsRe o_trial_exp o_trial_done o_trial_backward o_trialWay_size o_trialWay_log o_trialWay_wordBits o_trialWay_limit o_trialWay_radix o_trialWay_order o_trialWay_near o_trialWay_seed o_trialWay_stages o_wave_exp o_wave_done o_wave_backward o_way_size o_way_log o_way_wordBits o_way_limit o_way_radix o_way_order o_way_near o_way_seed o_way_stages o_beater_spareIm o_beater_spareRe o_beater_wingIm o_beater_wingRe o_trial_halved o_trial_im o_trial_re o_trialWay_shifts o_turns_cos o_turns_sin o_wave_wasIm o_wave_wasRe) sz) := by
  refine met_i (cc := cX9_best) (maxL := 7) (plainFor_of_name (by decide)) (Nat.le_of_ble_eq_true rfl) (fun p e s m below meth c A ls Q hx hb hml hts hown hK hP hD hS hA hl hret => ?_)
  have hown : s.vm.findClass RX9 = some m.cls := hown
  have hl : lv_has ls 7 [(0, .ref h_o)] := hl
  have j125 : ∀ (k13 : (Nat → Int64) → (Nat → Int64) → Int32 → Int32 → Int32 → Int32 → Int32 → Int32 → Int32 → Int32 → Int32 → Int32 → Int32 → Int32 → (Nat → Int32) → (Nat → Int32) → (Nat → Int32) → (Nat → Int32) → (Nat → Int32) → (Nat → Int32) → (Nat → Int32) → (Nat → Int32) → Int32 → Int64 → Int32 → Option (Int32 × (Nat → Int64) × (Nat → Int64) × Int32 × Int32 × Int32 × Int32 × Int32 × Int32 × Int32 × Int32 × Int32 × Int32 × Int32 × Int32 × (Nat → Int32) × (Nat → Int32) × (Nat → Int32) × (Nat → Int32) × (Nat → Int32) × (Nat → Int32) × (Nat → Int32) × (Nat → Int32))), (∀ (o_sumsIm : Nat → Int64) (o_sumsRe : Nat → Int64) (o_trial_exp : Int32) (o_trial_done : Int32) (o_trial_backward : Int32) (o_trialWay_size : Int32) (o_trialWay_log : Int32) (o_trialWay_wordBits : Int32) (o_trialWay_limit : Int32) (o_trialWay_radix : Int32) (o_trialWay_order : Int32) (o_trialWay_near : Int32) (o_trialWay_seed : Int32) (o_trialWay_stages : Int32) (o_beater_spareIm : Nat → Int32) (o_beater_spareRe : Nat → Int32) (o_beater_wingIm : Nat → Int32) (o_beater_wingRe : Nat → Int32) (o_trial_halved : Nat → Int32) (o_trial_im : Nat → Int32) (o_trial_re : Nat → Int32) (o_trialWay_shifts : Nat → Int32) (v1 : Int32) (v2 : Int64) (v4 : Int32) (H : Heap) (locs : List Loc) (ls : Array Slot), k13 o_sumsIm o_sumsRe o_trial_exp o_trial_done o_trial_backward o_trialWay_size o_trialWay_log o_trialWay_wordBits o_trialWay_limit o_trialWay_radix o_trialWay_order o_trialWay_near o_trialWay_seed o_trialWay_stages o_beater_spareIm o_beater_spareRe o_beater_wingIm o_beater_wingRe o_trial_halved o_trial_im o_trial_re o_trialWay_shifts v1 v2 v4 = some (r, out_o_sumsIm, out_o_sumsRe, out_o_trial_exp, out_o_trial_done, out_o_trial_backward, out_o_trialWay_size, out_o_trialWay_log, out_o_trialWay_wordBits, out_o_trialWay_limit, out_o_trialWay_radix, out_o_trialWay_order, out_o_trialWay_near, out_o_trialWay_seed, out_o_trialWay_stages, out_o_beater_spareIm, out_o_beater_spareRe, out_o_beater_wingIm, out_o_beater_wingRe, out_o_trial_halved, out_o_trial_im, out_o_trial_re, out_o_trialWay_shifts) → va_P G vwCl (wX9_best cI cJ cZ h_o h_o_beater h_o_sumsIm h_o_sumsRe h_o_trial h_o_trialWay h_o_turns h_o_wave h_o_way h_o_beater_spareIm h_o_beater_spareRe h_o_beater_wingIm h_o_beater_wingRe h_o_trial_halved h_o_trial_im h_o_trial_re h_o_trialWay_shifts h_o_turns_cos h_o_turns_sin h_o_wave_wasIm h_o_wave_wasRe h_o_past h_o_notes h_o_ring h_o_reader h_o_dice h_o_otherTrial h_o_tally h_o_image h_o_tape h_o_trial_wasRe h_o_trial_wasIm h_o_wave_re h_o_wave_im h_o_wave_halved h_o_way_shifts o_imageKept o_taped o_sumsIm o_sumsRe o_trial_exp o_trial_done o_trial_backward o_trialWay_size o_trialWay_log o_trialWay_wordBits o_trialWay_limit o_trialWay_radix o_trialWay_order o_trialWay_near o_trialWay_seed o_trialWay_stages o_wave_exp o_wave_done o_wave_backward o_way_size o_way_log o_way_wordBits o_way_limit o_way_radix o_way_order o_way_near o_way_seed o_way_stages o_beater_spareIm o_beater_spareRe o_beater_wingIm o_beater_wingRe o_trial_halved o_trial_im o_trial_re o_trialWay_shifts o_turns_cos o_turns_sin o_wave_wasIm o_wave_wasRe) H → va_D A (wX9_best cI cJ cZ h_o h_o_beater h_o_sumsIm h_o_sumsRe h_o_trial h_o_trialWay h_o_turns h_o_wave h_o_way h_o_beater_spareIm h_o_beater_spareRe h_o_beater_wingIm h_o_beater_wingRe h_o_trial_halved h_o_trial_im h_o_trial_re h_o_trialWay_shifts h_o_turns_cos h_o_turns_sin h_o_wave_wasIm h_o_wave_wasRe h_o_past h_o_notes h_o_ring h_o_reader h_o_dice h_o_otherTrial h_o_tally h_o_image h_o_tape h_o_trial_wasRe h_o_trial_wasIm h_o_wave_re h_o_wave_im h_o_wave_halved h_o_way_shifts o_imageKept o_taped o_sumsIm o_sumsRe o_trial_exp o_trial_done o_trial_backward o_trialWay_size o_trialWay_log o_trialWay_wordBits o_trialWay_limit o_trialWay_radix o_trialWay_order o_trialWay_near o_trialWay_seed o_trialWay_stages o_wave_exp o_wave_done o_wave_backward o_way_size o_way_log o_way_wordBits o_way_limit o_way_radix o_way_order o_way_near o_way_seed o_way_stages o_beater_spareIm o_beater_spareRe o_beater_wingIm o_beater_wingRe o_trial_halved o_trial_im o_trial_re o_trialWay_shifts o_turns_cos o_turns_sin o_wave_wasIm o_wave_wasRe) → va_S A s.heap H locs → lv_has ls 7 [(0, .ref h_o), (1, .int v1), (2, .long v2), (4, .int v4)] → W p l e ({ frames := 6, cells := 0, slots := 0, locals := 166 } : Room) s m ([.ref h_o] : List Value).toArray below meth c H locs 0 0 Q (F0 m 13 ls [])) → ∀ (o_sumsIm : Nat → Int64) (o_sumsRe : Nat → Int64) (o_trial_exp : Int32) (o_trial_done : Int32) (o_trial_backward : Int32) (o_trialWay_size : Int32) (o_trialWay_log : Int32) (o_trialWay_wordBits : Int32) (o_trialWay_limit : Int32) (o_trialWay_radix : Int32) (o_trialWay_order : Int32) (o_trialWay_near : Int32) (o_trialWay_seed : Int32) (o_trialWay_stages : Int32) (o_beater_spareIm : Nat → Int32) (o_beater_spareRe : Nat → Int32) (o_beater_wingIm : Nat → Int32) (o_beater_wingRe : Nat → Int32) (o_trial_halved : Nat → Int32) (o_trial_im : Nat → Int32) (o_trial_re : Nat → Int32) (o_trialWay_shifts : Nat → Int32) (v1 : Int32) (v2 : Int64) (v4 : Int32) (H : Heap) (locs : List Loc) (ls : Array Slot), fX9_best_125 o_way_size o_way_log o_way_wordBits o_way_radix o_way_order o_way_near o_way_seed o_turns_cos o_turns_sin o_wave_wasIm o_wave_wasRe k13 o_sumsIm o_sumsRe o_trial_exp o_trial_done o_trial_backward o_trialWay_size o_trialWay_log o_trialWay_wordBits o_trialWay_limit o_trialWay_radix o_trialWay_order o_trialWay_near o_trialWay_seed o_trialWay_stages o_beater_spareIm o_beater_spareRe o_beater_wingIm o_beater_wingRe o_trial_halved o_trial_im o_trial_re o_trialWay_shifts v1 v2 v4 = some (r, out_o_sumsIm, out_o_sumsRe, out_o_trial_exp, out_o_trial_done, out_o_trial_backward, out_o_trialWay_size, out_o_trialWay_log, out_o_trialWay_wordBits, out_o_trialWay_limit, out_o_trialWay_radix, out_o_trialWay_order, out_o_trialWay_near, out_o_trialWay_seed, out_o_trialWay_stages, out_o_beater_spareIm, out_o_beater_spareRe, out_o_beater_wingIm, out_o_beater_wingRe, out_o_trial_halved, out_o_trial_im, out_o_trial_re, out_o_trialWay_shifts) → va_P G vwCl (wX9_best cI cJ cZ h_o h_o_beater h_o_sumsIm h_o_sumsRe h_o_trial h_o_trialWay h_o_turns h_o_wave h_o_way h_o_beater_spareIm h_o_beater_spareRe h_o_beater_wingIm h_o_beater_wingRe h_o_trial_halved h_o_trial_im h_o_trial_re h_o_trialWay_shifts h_o_turns_cos h_o_turns_sin h_o_wave_wasIm h_o_wave_wasRe h_o_past h_o_notes h_o_ring h_o_reader h_o_dice h_o_otherTrial h_o_tally h_o_image h_o_tape h_o_trial_wasRe h_o_trial_wasIm h_o_wave_re h_o_wave_im h_o_wave_halved h_o_way_shifts o_imageKept o_taped o_sumsIm o_sumsRe o_trial_exp o_trial_done o_trial_backward o_trialWay_size o_trialWay_log o_trialWay_wordBits o_trialWay_limit o_trialWay_radix o_trialWay_order o_trialWay_near o_trialWay_seed o_trialWay_stages o_wave_exp o_wave_done o_wave_backward o_way_size o_way_log o_way_wordBits o_way_limit o_way_radix o_way_order o_way_near o_way_seed o_way_stages o_beater_spareIm o_beater_spareRe o_beater_wingIm o_beater_wingRe o_trial_halved o_trial_im o_trial_re o_trialWay_shifts o_turns_cos o_turns_sin o_wave_wasIm o_wave_wasRe) H → va_D A (wX9_best cI cJ cZ h_o h_o_beater h_o_sumsIm h_o_sumsRe h_o_trial h_o_trialWay h_o_turns h_o_wave h_o_way h_o_beater_spareIm h_o_beater_spareRe h_o_beater_wingIm h_o_beater_wingRe h_o_trial_halved h_o_trial_im h_o_trial_re h_o_trialWay_shifts h_o_turns_cos h_o_turns_sin h_o_wave_wasIm h_o_wave_wasRe h_o_past h_o_notes h_o_ring h_o_reader h_o_dice h_o_otherTrial h_o_tally h_o_image h_o_tape h_o_trial_wasRe h_o_trial_wasIm h_o_wave_re h_o_wave_im h_o_wave_halved h_o_way_shifts o_imageKept o_taped o_sumsIm o_sumsRe o_trial_exp o_trial_done o_trial_backward o_trialWay_size o_trialWay_log o_trialWay_wordBits o_trialWay_limit o_trialWay_radix o_trialWay_order o_trialWay_near o_trialWay_seed o_trialWay_stages o_wave_exp o_wave_done o_wave_backward o_way_size o_way_log o_way_wordBits o_way_limit o_way_radix o_way_order o_way_near o_way_seed o_way_stages o_beater_spareIm o_beater_spareRe o_beater_wingIm o_beater_wingRe o_trial_halved o_trial_im o_trial_re o_trialWay_shifts o_turns_cos o_turns_sin o_wave_wasIm o_wave_wasRe) → va_S A s.heap H locs → lv_has ls 7 [(0, .ref h_o), (1, .int v1), (2, .long v2), (4, .int v4)] → W p l e ({ frames := 6, cells := 0, slots := 0, locals := 166 } : Room) s m ([.ref h_o] : List Value).toArray below meth c H locs 0 0 Q (F0 m 125 ls []) := by
    intro k13 hk13 o_sumsIm o_sumsRe o_trial_exp o_trial_done o_trial_backward o_trialWay_size o_trialWay_log o_trialWay_wordBits o_trialWay_limit o_trialWay_radix o_trialWay_order o_trialWay_near o_trialWay_seed o_trialWay_stages o_beater_spareIm o_beater_spareRe o_beater_wingIm o_beater_wingRe o_trial_halved o_trial_im o_trial_re o_trialWay_shifts v1 v2 v4 H locs ls hf hP hD hS hl
    unfold fX9_best_125 at hf
    obtain ⟨v4_45, ev4_45⟩ : ∃ y : Int32, y = v4 + (1 : Int32) := ⟨_, rfl⟩
    have hf := nm_x ev4_45 hf
    refine lv_iinc (v := v4_45) (lv' := [(4, .int v4_45), (0, .ref h_o), (1, .int v1), (2, .long v2)]) hx hb dX9_best_125 hl (k := 3) rfl (by rw [ev4_45]; rfl) (by decide) rfl (fun ls hl => ?_)
    refine lv_goto (tgt := 13) hx hb dX9_best_128 (by decide) ?_
    exact hk13 o_sumsIm o_sumsRe o_trial_exp o_trial_done o_trial_backward o_trialWay_size o_trialWay_log o_trialWay_wordBits o_trialWay_limit o_trialWay_radix o_trialWay_order o_trialWay_near o_trialWay_seed o_trialWay_stages o_beater_spareIm o_beater_spareRe o_beater_wingIm o_beater_wingRe o_trial_halved o_trial_im o_trial_re o_trialWay_shifts v1 v2 v4_45 H locs ls hf hP hD hS (lv_sub hl [1, 2, 3, 0] rfl)
  have j58 : ∀ (k13 : (Nat → Int64) → (Nat → Int64) → Int32 → Int32 → Int32 → Int32 → Int32 → Int32 → Int32 → Int32 → Int32 → Int32 → Int32 → Int32 → (Nat → Int32) → (Nat → Int32) → (Nat → Int32) → (Nat → Int32) → (Nat → Int32) → (Nat → Int32) → (Nat → Int32) → (Nat → Int32) → Int32 → Int64 → Int32 → Option (Int32 × (Nat → Int64) × (Nat → Int64) × Int32 × Int32 × Int32 × Int32 × Int32 × Int32 × Int32 × Int32 × Int32 × Int32 × Int32 × Int32 × (Nat → Int32) × (Nat → Int32) × (Nat → Int32) × (Nat → Int32) × (Nat → Int32) × (Nat → Int32) × (Nat → Int32) × (Nat → Int32))), (∀ (o_sumsIm : Nat → Int64) (o_sumsRe : Nat → Int64) (o_trial_exp : Int32) (o_trial_done : Int32) (o_trial_backward : Int32) (o_trialWay_size : Int32) (o_trialWay_log : Int32) (o_trialWay_wordBits : Int32) (o_trialWay_limit : Int32) (o_trialWay_radix : Int32) (o_trialWay_order : Int32) (o_trialWay_near : Int32) (o_trialWay_seed : Int32) (o_trialWay_stages : Int32) (o_beater_spareIm : Nat → Int32) (o_beater_spareRe : Nat → Int32) (o_beater_wingIm : Nat → Int32) (o_beater_wingRe : Nat → Int32) (o_trial_halved : Nat → Int32) (o_trial_im : Nat → Int32) (o_trial_re : Nat → Int32) (o_trialWay_shifts : Nat → Int32) (v1 : Int32) (v2 : Int64) (v4 : Int32) (H : Heap) (locs : List Loc) (ls : Array Slot), k13 o_sumsIm o_sumsRe o_trial_exp o_trial_done o_trial_backward o_trialWay_size o_trialWay_log o_trialWay_wordBits o_trialWay_limit o_trialWay_radix o_trialWay_order o_trialWay_near o_trialWay_seed o_trialWay_stages o_beater_spareIm o_beater_spareRe o_beater_wingIm o_beater_wingRe o_trial_halved o_trial_im o_trial_re o_trialWay_shifts v1 v2 v4 = some (r, out_o_sumsIm, out_o_sumsRe, out_o_trial_exp, out_o_trial_done, out_o_trial_backward, out_o_trialWay_size, out_o_trialWay_log, out_o_trialWay_wordBits, out_o_trialWay_limit, out_o_trialWay_radix, out_o_trialWay_order, out_o_trialWay_near, out_o_trialWay_seed, out_o_trialWay_stages, out_o_beater_spareIm, out_o_beater_spareRe, out_o_beater_wingIm, out_o_beater_wingRe, out_o_trial_halved, out_o_trial_im, out_o_trial_re, out_o_trialWay_shifts) → va_P G vwCl (wX9_best cI cJ cZ h_o h_o_beater h_o_sumsIm h_o_sumsRe h_o_trial h_o_trialWay h_o_turns h_o_wave h_o_way h_o_beater_spareIm h_o_beater_spareRe h_o_beater_wingIm h_o_beater_wingRe h_o_trial_halved h_o_trial_im h_o_trial_re h_o_trialWay_shifts h_o_turns_cos h_o_turns_sin h_o_wave_wasIm h_o_wave_wasRe h_o_past h_o_notes h_o_ring h_o_reader h_o_dice h_o_otherTrial h_o_tally h_o_image h_o_tape h_o_trial_wasRe h_o_trial_wasIm h_o_wave_re h_o_wave_im h_o_wave_halved h_o_way_shifts o_imageKept o_taped o_sumsIm o_sumsRe o_trial_exp o_trial_done o_trial_backward o_trialWay_size o_trialWay_log o_trialWay_wordBits o_trialWay_limit o_trialWay_radix o_trialWay_order o_trialWay_near o_trialWay_seed o_trialWay_stages o_wave_exp o_wave_done o_wave_backward o_way_size o_way_log o_way_wordBits o_way_limit o_way_radix o_way_order o_way_near o_way_seed o_way_stages o_beater_spareIm o_beater_spareRe o_beater_wingIm o_beater_wingRe o_trial_halved o_trial_im o_trial_re o_trialWay_shifts o_turns_cos o_turns_sin o_wave_wasIm o_wave_wasRe) H → va_D A (wX9_best cI cJ cZ h_o h_o_beater h_o_sumsIm h_o_sumsRe h_o_trial h_o_trialWay h_o_turns h_o_wave h_o_way h_o_beater_spareIm h_o_beater_spareRe h_o_beater_wingIm h_o_beater_wingRe h_o_trial_halved h_o_trial_im h_o_trial_re h_o_trialWay_shifts h_o_turns_cos h_o_turns_sin h_o_wave_wasIm h_o_wave_wasRe h_o_past h_o_notes h_o_ring h_o_reader h_o_dice h_o_otherTrial h_o_tally h_o_image h_o_tape h_o_trial_wasRe h_o_trial_wasIm h_o_wave_re h_o_wave_im h_o_wave_halved h_o_way_shifts o_imageKept o_taped o_sumsIm o_sumsRe o_trial_exp o_trial_done o_trial_backward o_trialWay_size o_trialWay_log o_trialWay_wordBits o_trialWay_limit o_trialWay_radix o_trialWay_order o_trialWay_near o_trialWay_seed o_trialWay_stages o_wave_exp o_wave_done o_wave_backward o_way_size o_way_log o_way_wordBits o_way_limit o_way_radix o_way_order o_way_near o_way_seed o_way_stages o_beater_spareIm o_beater_spareRe o_beater_wingIm o_beater_wingRe o_trial_halved o_trial_im o_trial_re o_trialWay_shifts o_turns_cos o_turns_sin o_wave_wasIm o_wave_wasRe) → va_S A s.heap H locs → lv_has ls 7 [(0, .ref h_o), (1, .int v1), (2, .long v2), (4, .int v4)] → W p l e ({ frames := 6, cells := 0, slots := 0, locals := 166 } : Room) s m ([.ref h_o] : List Value).toArray below meth c H locs 0 0 Q (F0 m 13 ls [])) → ∀ (o_sumsIm : Nat → Int64) (o_sumsRe : Nat → Int64) (o_trial_exp : Int32) (o_trial_done : Int32) (o_trial_backward : Int32) (o_trialWay_size : Int32) (o_trialWay_log : Int32) (o_trialWay_wordBits : Int32) (o_trialWay_limit : Int32) (o_trialWay_radix : Int32) (o_trialWay_order : Int32) (o_trialWay_near : Int32) (o_trialWay_seed : Int32) (o_trialWay_stages : Int32) (o_beater_spareIm : Nat → Int32) (o_beater_spareRe : Nat → Int32) (o_beater_wingIm : Nat → Int32) (o_beater_wingRe : Nat → Int32) (o_trial_halved : Nat → Int32) (o_trial_im : Nat → Int32) (o_trial_re : Nat → Int32) (o_trialWay_shifts : Nat → Int32) (v1 : Int32) (v2 : Int64) (v4 : Int32) (s1 : Int32) (H : Heap) (locs : List Loc) (ls : Array Slot), fX9_best_58 o_way_size o_way_log o_way_wordBits o_way_radix o_way_order o_way_near o_way_seed o_turns_cos o_turns_sin o_wave_wasIm o_wave_wasRe k13 o_sumsIm o_sumsRe o_trial_exp o_trial_done o_trial_backward o_trialWay_size o_trialWay_log o_trialWay_wordBits o_trialWay_limit o_trialWay_radix o_trialWay_order o_trialWay_near o_trialWay_seed o_trialWay_stages o_beater_spareIm o_beater_spareRe o_beater_wingIm o_beater_wingRe o_trial_halved o_trial_im o_trial_re o_trialWay_shifts v1 v2 v4 s1 = some (r, out_o_sumsIm, out_o_sumsRe, out_o_trial_exp, out_o_trial_done, out_o_trial_backward, out_o_trialWay_size, out_o_trialWay_log, out_o_trialWay_wordBits, out_o_trialWay_limit, out_o_trialWay_radix, out_o_trialWay_order, out_o_trialWay_near, out_o_trialWay_seed, out_o_trialWay_stages, out_o_beater_spareIm, out_o_beater_spareRe, out_o_beater_wingIm, out_o_beater_wingRe, out_o_trial_halved, out_o_trial_im, out_o_trial_re, out_o_trialWay_shifts) → va_P G vwCl (wX9_best cI cJ cZ h_o h_o_beater h_o_sumsIm h_o_sumsRe h_o_trial h_o_trialWay h_o_turns h_o_wave h_o_way h_o_beater_spareIm h_o_beater_spareRe h_o_beater_wingIm h_o_beater_wingRe h_o_trial_halved h_o_trial_im h_o_trial_re h_o_trialWay_shifts h_o_turns_cos h_o_turns_sin h_o_wave_wasIm h_o_wave_wasRe h_o_past h_o_notes h_o_ring h_o_reader h_o_dice h_o_otherTrial h_o_tally h_o_image h_o_tape h_o_trial_wasRe h_o_trial_wasIm h_o_wave_re h_o_wave_im h_o_wave_halved h_o_way_shifts o_imageKept o_taped o_sumsIm o_sumsRe o_trial_exp o_trial_done o_trial_backward o_trialWay_size o_trialWay_log o_trialWay_wordBits o_trialWay_limit o_trialWay_radix o_trialWay_order o_trialWay_near o_trialWay_seed o_trialWay_stages o_wave_exp o_wave_done o_wave_backward o_way_size o_way_log o_way_wordBits o_way_limit o_way_radix o_way_order o_way_near o_way_seed o_way_stages o_beater_spareIm o_beater_spareRe o_beater_wingIm o_beater_wingRe o_trial_halved o_trial_im o_trial_re o_trialWay_shifts o_turns_cos o_turns_sin o_wave_wasIm o_wave_wasRe) H → va_D A (wX9_best cI cJ cZ h_o h_o_beater h_o_sumsIm h_o_sumsRe h_o_trial h_o_trialWay h_o_turns h_o_wave h_o_way h_o_beater_spareIm h_o_beater_spareRe h_o_beater_wingIm h_o_beater_wingRe h_o_trial_halved h_o_trial_im h_o_trial_re h_o_trialWay_shifts h_o_turns_cos h_o_turns_sin h_o_wave_wasIm h_o_wave_wasRe h_o_past h_o_notes h_o_ring h_o_reader h_o_dice h_o_otherTrial h_o_tally h_o_image h_o_tape h_o_trial_wasRe h_o_trial_wasIm h_o_wave_re h_o_wave_im h_o_wave_halved h_o_way_shifts o_imageKept o_taped o_sumsIm o_sumsRe o_trial_exp o_trial_done o_trial_backward o_trialWay_size o_trialWay_log o_trialWay_wordBits o_trialWay_limit o_trialWay_radix o_trialWay_order o_trialWay_near o_trialWay_seed o_trialWay_stages o_wave_exp o_wave_done o_wave_backward o_way_size o_way_log o_way_wordBits o_way_limit o_way_radix o_way_order o_way_near o_way_seed o_way_stages o_beater_spareIm o_beater_spareRe o_beater_wingIm o_beater_wingRe o_trial_halved o_trial_im o_trial_re o_trialWay_shifts o_turns_cos o_turns_sin o_wave_wasIm o_wave_wasRe) → va_S A s.heap H locs → lv_has ls 7 [(0, .ref h_o), (1, .int v1), (2, .long v2), (4, .int v4)] → W p l e ({ frames := 6, cells := 0, slots := 0, locals := 166 } : Room) s m ([.ref h_o] : List Value).toArray below meth c H locs 0 0 Q (F0 m 58 ls [.int s1, .ref h_o_trialWay]) := by
    intro k13 hk13 o_sumsIm o_sumsRe o_trial_exp o_trial_done o_trial_backward o_trialWay_size o_trialWay_log o_trialWay_wordBits o_trialWay_limit o_trialWay_radix o_trialWay_order o_trialWay_near o_trialWay_seed o_trialWay_stages o_beater_spareIm o_beater_spareRe o_beater_wingIm o_beater_wingRe o_trial_halved o_trial_im o_trial_re o_trialWay_shifts v1 v2 v4 s1 H locs ls hf hP hD hS hl
    unfold fX9_best_58 at hf
    refine lv_iload hx hb dX9_best_58 (lv_at hl 3 rfl) ?_
    refine lv_iconst (v := (2 : Int32)) hx hb dX9_best_60 (by decide) ?_
    refine lv_ishr hx hb dX9_best_61 ?_
    obtain ⟨o_trialWay_radix_18, o_trialWay_order_19, o_trialWay_stages_20, o_trialWay_shifts_21, e_22, hf⟩ := bd4_x hf
    refine call_v [.int s1, .int (v4 >>> ((2 : Int32) &&& 31))] [] ⟨hx, hb, hml, hown, hts⟩ hK hP hD hS hA hl.1 (tX8_takeShape l G cI cJ cZ H.size h_o_trialWay h_o_trialWay_shifts o_trialWay_size o_trialWay_log o_trialWay_wordBits o_trialWay_limit o_trialWay_radix o_trialWay_order o_trialWay_near o_trialWay_seed o_trialWay_stages o_trialWay_shifts s1 (v4 >>> ((2 : Int32) &&& 31)) o_trialWay_radix_18 o_trialWay_order_19 o_trialWay_stages_20 o_trialWay_shifts_21 e_22) (cwV 2 hts (gv q_mX9_307 q_i_yX8_takeShape q_s_yX8_takeShape q_n_RX8 q_k_yX8_takeShape) rfl rfl rfl (by decide +kernel) ⟨by decide, by decide⟩) rfl rfl (Nat.le_of_ble_eq_true rfl) dX9_best_62 ⟨Nat.zero_le _, Nat.zero_le _⟩ (ci := 8) rfl 0 rfl [5, 16] [0, 1, 2, 3, 4, 6, 7, 8, 9, 10, 11, 12, 13, 14, 15, 17, 18, 19, 20] [0, 1, 2, 3, 4, 19, 5, 6, 7, 8, 9, 10, 11, 12, 13, 14, 20, 15, 16, 17, 18] rfl rfl (ws2 := (wX9_best cI cJ cZ h_o h_o_beater h_o_sumsIm h_o_sumsRe h_o_trial h_o_trialWay h_o_turns h_o_wave h_o_way h_o_beater_spareIm h_o_beater_spareRe h_o_beater_wingIm h_o_beater_wingRe h_o_trial_halved h_o_trial_im h_o_trial_re h_o_trialWay_shifts h_o_turns_cos h_o_turns_sin h_o_wave_wasIm h_o_wave_wasRe h_o_past h_o_notes h_o_ring h_o_reader h_o_dice h_o_otherTrial h_o_tally h_o_image h_o_tape h_o_trial_wasRe h_o_trial_wasIm h_o_wave_re h_o_wave_im h_o_wave_halved h_o_way_shifts o_imageKept o_taped o_sumsIm o_sumsRe o_trial_exp o_trial_done o_trial_backward o_trialWay_size o_trialWay_log o_trialWay_wordBits o_trialWay_limit o_trialWay_radix_18 o_trialWay_order_19 o_trialWay_near o_trialWay_seed o_trialWay_stages_20 o_wave_exp o_wave_done o_wave_backward o_way_size o_way_log o_way_wordBits o_way_limit o_way_radix o_way_order o_way_near o_way_seed o_way_stages o_beater_spareIm o_beater_spareRe o_beater_wingIm o_beater_wingRe o_trial_halved o_trial_im o_trial_re o_trialWay_shifts_21 o_turns_cos o_turns_sin o_wave_wasIm o_wave_wasRe)) rfl (fun H locs hP hD hS => ?_)
    refine W.eq (g2 := F0 m 65 ls []) rfl ?_
    refine lv_aload_n hx hb dX9_best_65 rfl (lv_at hl 0 rfl) ?_
    refine rd (ci := 9) (C := RX9) (T := TX9) (N := 19) hx hb hts inX9 hown hK hP 0 10 rfl rfl (by decide) (hts _ q_fX9_77) rfl dX9_best_66 ?_
    refine lv_aload_n hx hb dX9_best_69 rfl (lv_at hl 0 rfl) ?_
    refine rd (ci := 9) (C := RX9) (T := TX9) (N := 19) hx hb hts inX9 hown hK hP 0 1 rfl rfl (by decide) (hts _ q_fX9_19) rfl dX9_best_70 ?_
    obtain ⟨o_trial_exp_23, o_trial_done_24, o_trial_backward_25, o_trial_im_26, o_trial_re_27, e_28, hf⟩ := bd5_x hf
    refine call_v [.ref h_o_wave] [] ⟨hx, hb, hml, hown, hts⟩ hK hP hD hS hA hl.1 (tX7_restartFrom l G cI cJ cZ H.size h_o_trial h_o_wave h_o_wave_wasIm h_o_wave_wasRe h_o_trial_im h_o_trial_re h_o_trial_wasRe h_o_trial_wasIm h_o_trial_halved h_o_wave_re h_o_wave_im h_o_wave_halved o_trial_exp o_trial_done o_trial_backward o_wave_exp o_wave_done o_wave_backward o_wave_wasIm o_wave_wasRe o_trial_im o_trial_re o_trial_exp_23 o_trial_done_24 o_trial_backward_25 o_trial_im_26 o_trial_re_27 e_28) (cwV 1 hts (gv q_mX9_298 q_i_yX7_restartFrom q_s_yX7_restartFrom q_n_RX7 q_k_yX7_restartFrom) rfl rfl rfl (by decide +kernel) ⟨by decide, by decide⟩) rfl rfl (Nat.le_of_ble_eq_true rfl) dX9_best_73 ⟨Nat.zero_le _, Nat.zero_le _⟩ (ci := 7) rfl 0 rfl [4, 7, 19, 20, 14, 15] [0, 1, 2, 3, 5, 6, 8, 9, 10, 11, 12, 13, 16, 17, 18] [0, 1, 2, 3, 15, 4, 5, 16, 6, 7, 8, 9, 10, 11, 19, 20, 12, 13, 14, 17, 18] rfl rfl (ws2 := (wX9_best cI cJ cZ h_o h_o_beater h_o_sumsIm h_o_sumsRe h_o_trial h_o_trialWay h_o_turns h_o_wave h_o_way h_o_beater_spareIm h_o_beater_spareRe h_o_beater_wingIm h_o_beater_wingRe h_o_trial_halved h_o_trial_im h_o_trial_re h_o_trialWay_shifts h_o_turns_cos h_o_turns_sin h_o_wave_wasIm h_o_wave_wasRe h_o_past h_o_notes h_o_ring h_o_reader h_o_dice h_o_otherTrial h_o_tally h_o_image h_o_tape h_o_trial_wasRe h_o_trial_wasIm h_o_wave_re h_o_wave_im h_o_wave_halved h_o_way_shifts o_imageKept o_taped o_sumsIm o_sumsRe o_trial_exp_23 o_trial_done_24 o_trial_backward_25 o_trialWay_size o_trialWay_log o_trialWay_wordBits o_trialWay_limit o_trialWay_radix_18 o_trialWay_order_19 o_trialWay_near o_trialWay_seed o_trialWay_stages_20 o_wave_exp o_wave_done o_wave_backward o_way_size o_way_log o_way_wordBits o_way_limit o_way_radix o_way_order o_way_near o_way_seed o_way_stages o_beater_spareIm o_beater_spareRe o_beater_wingIm o_beater_wingRe o_trial_halved o_trial_im_26 o_trial_re_27 o_trialWay_shifts_21 o_turns_cos o_turns_sin o_wave_wasIm o_wave_wasRe)) rfl (fun H locs hP hD hS => ?_)
    refine W.eq (g2 := F0 m 76 ls []) rfl ?_
    refine lv_aload_n hx hb dX9_best_76 rfl (lv_at hl 0 rfl) ?_
    refine rd (ci := 9) (C := RX9) (T := TX9) (N := 19) hx hb hts inX9 hown hK hP 0 6 rfl rfl (by decide) (hts _ q_fX9_56) rfl dX9_best_77 ?_
    refine lv_aload_n hx hb dX9_best_80 rfl (lv_at hl 0 rfl) ?_
    refine rd (ci := 9) (C := RX9) (T := TX9) (N := 19) hx hb hts inX9 hown hK hP 0 10 rfl rfl (by decide) (hts _ q_fX9_77) rfl dX9_best_81 ?_
    refine lv_aload_n hx hb dX9_best_84 rfl (lv_at hl 0 rfl) ?_
    refine rd (ci := 9) (C := RX9) (T := TX9) (N := 19) hx hb hts inX9 hown hK hP 0 9 rfl rfl (by decide) (hts _ q_fX9_74) rfl dX9_best_85 ?_
    refine lv_iconst (v := (5 : Int32)) hx hb dX9_best_88 (by decide) ?_
    refine lv_iconst (v := (1 : Int32)) hx hb dX9_best_89 (by decide) ?_
    obtain ⟨r_29, o_trial_exp_30, o_trial_done_31, o_trial_halved_32, o_trial_im_33, o_trial_re_34, o_beater_spareIm_35, o_beater_spareRe_36, o_beater_wingIm_37, o_beater_wingRe_38, e_39, hf⟩ := bd10_x hf
    refine call_v [.ref h_o_trial, .ref h_o_trialWay, .int (5 : Int32), .int (1 : Int32)] [] ⟨hx, hb, hml, hown, hts⟩ hK hP hD hS hA hl.1 (tX0_doStages l G cI cJ cZ H.size h_o_beater h_o_trial h_o_trialWay h_o_trial_halved h_o_trial_im h_o_trial_re h_o_trialWay_shifts h_o_beater_spareIm h_o_beater_spareRe h_o_turns h_o_beater_wingIm h_o_beater_wingRe h_o_turns_cos h_o_turns_sin h_o_trial_wasRe h_o_trial_wasIm o_trial_exp_23 o_trial_done_24 o_trial_backward_25 o_trialWay_size o_trialWay_log o_trialWay_wordBits o_trialWay_limit o_trialWay_radix_18 o_trialWay_order_19 o_trialWay_near o_trialWay_seed o_trialWay_stages_20 o_trial_halved o_trial_im_26 o_trial_re_27 o_trialWay_shifts_21 o_beater_spareIm o_beater_spareRe o_beater_wingIm o_beater_wingRe o_turns_cos o_turns_sin (5 : Int32) (1 : Int32) r_29 o_trial_exp_30 o_trial_done_31 o_trial_halved_32 o_trial_im_33 o_trial_re_34 o_beater_spareIm_35 o_beater_spareRe_36 o_beater_wingIm_37 o_beater_wingRe_38 e_39) (cwV 4 hts (gv q_mX9_282 q_i_yX0_doStages q_s_yX0_doStages q_n_RX0 q_k_yX0_doStages) rfl rfl rfl (by decide +kernel) ⟨by decide, by decide⟩) rfl rfl (Nat.le_of_ble_eq_true rfl) dX9_best_90 ⟨Nat.zero_le _, Nat.zero_le _⟩ (ci := 0) rfl 0 rfl [1, 4, 5, 13, 14, 15, 16, 9, 10, 6, 11, 12, 17, 18] [0, 2, 3, 7, 8, 19, 20] [0, 7, 1, 2, 8, 9, 16, 3, 4, 14, 15, 17, 18, 10, 11, 12, 13, 19, 20, 5, 6] rfl rfl (ws2 := (wX9_best cI cJ cZ h_o h_o_beater h_o_sumsIm h_o_sumsRe h_o_trial h_o_trialWay h_o_turns h_o_wave h_o_way h_o_beater_spareIm h_o_beater_spareRe h_o_beater_wingIm h_o_beater_wingRe h_o_trial_halved h_o_trial_im h_o_trial_re h_o_trialWay_shifts h_o_turns_cos h_o_turns_sin h_o_wave_wasIm h_o_wave_wasRe h_o_past h_o_notes h_o_ring h_o_reader h_o_dice h_o_otherTrial h_o_tally h_o_image h_o_tape h_o_trial_wasRe h_o_trial_wasIm h_o_wave_re h_o_wave_im h_o_wave_halved h_o_way_shifts o_imageKept o_taped o_sumsIm o_sumsRe o_trial_exp_30 o_trial_done_31 o_trial_backward_25 o_trialWay_size o_trialWay_log o_trialWay_wordBits o_trialWay_limit o_trialWay_radix_18 o_trialWay_order_19 o_trialWay_near o_trialWay_seed o_trialWay_stages_20 o_wave_exp o_wave_done o_wave_backward o_way_size o_way_log o_way_wordBits o_way_limit o_way_radix o_way_order o_way_near o_way_seed o_way_stages o_beater_spareIm_35 o_beater_spareRe_36 o_beater_wingIm_37 o_beater_wingRe_38 o_trial_halved_32 o_trial_im_33 o_trial_re_34 o_trialWay_shifts_21 o_turns_cos o_turns_sin o_wave_wasIm o_wave_wasRe)) rfl (fun H locs hP hD hS => ?_)
    refine W.eq (g2 := F0 m 93 ls [.int r_29]) rfl ?_
    refine lv_pop hx hb dX9_best_93 rfl ?_
    refine lv_aload_n hx hb dX9_best_94 rfl (lv_at hl 0 rfl) ?_
    refine lv_aload_n hx hb dX9_best_95 rfl (lv_at hl 0 rfl) ?_
    refine rd (ci := 9) (C := RX9) (T := TX9) (N := 19) hx hb hts inX9 hown hK hP 0 10 rfl rfl (by decide) (hts _ q_fX9_77) rfl dX9_best_96 ?_
    refine lv_aload_n hx hb dX9_best_99 rfl (lv_at hl 0 rfl) ?_
    refine lv_aload_n hx hb dX9_best_100 rfl (lv_at hl 0 rfl) ?_
    refine rd (ci := 9) (C := RX9) (T := TX9) (N := 19) hx hb hts inX9 hown hK hP 0 10 rfl rfl (by decide) (hts _ q_fX9_77) rfl dX9_best_101 ?_
    obtain ⟨r_40, e_41, hf⟩ := bd1_x hf
    refine call_v [.ref h_o_trial] [.ref h_o_trial, .ref h_o] ⟨hx, hb, hml, hown, hts⟩ hK hP hD hS hA hl.1 (tX9_worstPlace l G cI cJ cZ H.size h_o h_o_trial h_o_trial_im h_o_trial_re h_o_sumsIm h_o_sumsRe h_o_way h_o_wave h_o_past h_o_notes h_o_ring h_o_turns h_o_beater h_o_reader h_o_dice h_o_trialWay h_o_trial h_o_otherTrial h_o_tally h_o_image h_o_tape h_o_trial_wasRe h_o_trial_wasIm h_o_trial_halved h_o_way_shifts o_imageKept o_taped o_trial_exp_30 o_trial_done_31 o_trial_backward_25 o_trial_im_33 o_trial_re_34 o_sumsIm o_sumsRe o_way_size o_way_log o_way_wordBits o_way_limit o_way_radix o_way_order o_way_near o_way_seed o_way_stages r_40 e_41) (cwV 1 hts (gv q_mX9_365 q_i_yX9_worstPlace q_s_yX9_worstPlace q_n_RX9 q_k_yX9_worstPlace) rfl rfl rfl (by decide +kernel) ⟨by decide, by decide⟩) rfl rfl (Nat.le_of_ble_eq_true rfl) dX9_best_104 ⟨Nat.zero_le _, Nat.zero_le _⟩ (ci := 9) rfl 0 rfl [0, 4, 14, 15, 2, 3, 8] [1, 5, 6, 7, 9, 10, 11, 12, 13, 16, 17, 18, 19, 20] [14, 0, 18, 19, 15, 1, 2, 3, 20, 4, 5, 6, 7, 8, 16, 17, 9, 10, 11, 12, 13] rfl rfl (ws2 := (wX9_best cI cJ cZ h_o h_o_beater h_o_sumsIm h_o_sumsRe h_o_trial h_o_trialWay h_o_turns h_o_wave h_o_way h_o_beater_spareIm h_o_beater_spareRe h_o_beater_wingIm h_o_beater_wingRe h_o_trial_halved h_o_trial_im h_o_trial_re h_o_trialWay_shifts h_o_turns_cos h_o_turns_sin h_o_wave_wasIm h_o_wave_wasRe h_o_past h_o_notes h_o_ring h_o_reader h_o_dice h_o_otherTrial h_o_tally h_o_image h_o_tape h_o_trial_wasRe h_o_trial_wasIm h_o_wave_re h_o_wave_im h_o_wave_halved h_o_way_shifts o_imageKept o_taped o_sumsIm o_sumsRe o_trial_exp_30 o_trial_done_31 o_trial_backward_25 o_trialWay_size o_trialWay_log o_trialWay_wordBits o_trialWay_limit o_trialWay_radix_18 o_trialWay_order_19 o_trialWay_near o_trialWay_seed o_trialWay_stages_20 o_wave_exp o_wave_done o_wave_backward o_way_size o_way_log o_way_wordBits o_way_limit o_way_radix o_way_order o_way_near o_way_seed o_way_stages o_beater_spareIm_35 o_beater_spareRe_36 o_beater_wingIm_37 o_beater_wingRe_38 o_trial_halved_32 o_trial_im_33 o_trial_re_34 o_trialWay_shifts_21 o_turns_cos o_turns_sin o_wave_wasIm o_wave_wasRe)) rfl (fun H locs hP hD hS => ?_)
    refine W.eq (g2 := F0 m 107 ls [.int r_40, .ref h_o_trial, .ref h_o]) rfl ?_
    obtain ⟨r_42, e_43, hf⟩ := bd1_x hf
    refine call_v [.ref h_o_trial, .int r_40] [] ⟨hx, hb, hml, hown, hts⟩ hK hP hD hS hA hl.1 (tX9_offSums l G cI cJ cZ H.size h_o h_o_trial h_o_trial_im h_o_trial_re h_o_sumsIm h_o_sumsRe h_o_way h_o_wave h_o_past h_o_notes h_o_ring h_o_turns h_o_beater h_o_reader h_o_dice h_o_trialWay h_o_trial h_o_otherTrial h_o_tally h_o_image h_o_tape h_o_trial_wasRe h_o_trial_wasIm h_o_trial_halved o_imageKept o_taped o_trial_exp_30 o_trial_done_31 o_trial_backward_25 o_trial_im_33 o_trial_re_34 o_sumsIm o_sumsRe r_40 r_42 e_43) (cwV 2 hts (gv q_mX9_352 q_i_yX9_offSums q_s_yX9_offSums q_n_RX9 q_k_yX9_offSums) rfl rfl rfl (by decide +kernel) ⟨by decide, by decide⟩) rfl rfl (Nat.le_of_ble_eq_true rfl) dX9_best_107 ⟨Nat.zero_le _, Nat.zero_le _⟩ (ci := 9) rfl 0 rfl [0, 4, 14, 15, 2, 3] [1, 5, 6, 7, 8, 9, 10, 11, 12, 13, 16, 17, 18, 19, 20] [15, 0, 19, 20, 16, 1, 2, 3, 4, 5, 6, 7, 8, 9, 17, 18, 10, 11, 12, 13, 14] rfl rfl (ws2 := (wX9_best cI cJ cZ h_o h_o_beater h_o_sumsIm h_o_sumsRe h_o_trial h_o_trialWay h_o_turns h_o_wave h_o_way h_o_beater_spareIm h_o_beater_spareRe h_o_beater_wingIm h_o_beater_wingRe h_o_trial_halved h_o_trial_im h_o_trial_re h_o_trialWay_shifts h_o_turns_cos h_o_turns_sin h_o_wave_wasIm h_o_wave_wasRe h_o_past h_o_notes h_o_ring h_o_reader h_o_dice h_o_otherTrial h_o_tally h_o_image h_o_tape h_o_trial_wasRe h_o_trial_wasIm h_o_wave_re h_o_wave_im h_o_wave_halved h_o_way_shifts o_imageKept o_taped o_sumsIm o_sumsRe o_trial_exp_30 o_trial_done_31 o_trial_backward_25 o_trialWay_size o_trialWay_log o_trialWay_wordBits o_trialWay_limit o_trialWay_radix_18 o_trialWay_order_19 o_trialWay_near o_trialWay_seed o_trialWay_stages_20 o_wave_exp o_wave_done o_wave_backward o_way_size o_way_log o_way_wordBits o_way_limit o_way_radix o_way_order o_way_near o_way_seed o_way_stages o_beater_spareIm_35 o_beater_spareRe_36 o_beater_wingIm_37 o_beater_wingRe_38 o_trial_halved_32 o_trial_im_33 o_trial_re_34 o_trialWay_shifts_21 o_turns_cos o_turns_sin o_wave_wasIm o_wave_wasRe)) rfl (fun H locs hP hD hS => ?_)
    refine W.eq (g2 := F0 m 110 ls [.long r_42]) rfl ?_
    refine lv_lstore (lv' := [(5, .long r_42), (0, .ref h_o), (1, .int v1), (2, .long v2), (4, .int v4)]) hx hb dX9_best_110 hl (by decide) rfl (fun ls hl => ?_)
    refine lv_lload hx hb dX9_best_112 (lv_at hl 0 rfl) ?_
    refine lv_lload_n hx hb dX9_best_114 rfl (lv_at hl 3 rfl) ?_
    refine lc_ge (tgt := 125) hx hb dX9_best_115 dX9_best_116 (by decide) (fun c_44 => ?_) (fun c_44 => ?_)
    · have hf := it_t c_44 hf
      exact j125 k13 hk13 o_sumsIm o_sumsRe o_trial_exp_30 o_trial_done_31 o_trial_backward_25 o_trialWay_size o_trialWay_log o_trialWay_wordBits o_trialWay_limit o_trialWay_radix_18 o_trialWay_order_19 o_trialWay_near o_trialWay_seed o_trialWay_stages_20 o_beater_spareIm_35 o_beater_spareRe_36 o_beater_wingIm_37 o_beater_wingRe_38 o_trial_halved_32 o_trial_im_33 o_trial_re_34 o_trialWay_shifts_21 v1 v2 v4 H locs ls hf hP hD hS (lv_sub hl [1, 2, 3, 4] rfl)
    · have hf := it_f c_44 hf
      refine lv_lload hx hb dX9_best_119 (lv_at hl 0 rfl) ?_
      refine lv_lstore_n (lv' := [(2, .long r_42), (5, .long r_42), (0, .ref h_o), (1, .int v1), (4, .int v4)]) hx hb dX9_best_121 rfl hl (by decide) rfl (fun ls hl => ?_)
      refine lv_iload hx hb dX9_best_122 (lv_at hl 4 rfl) ?_
      refine lv_istore_n (lv' := [(1, .int v4), (2, .long r_42), (5, .long r_42), (0, .ref h_o), (4, .int v4)]) hx hb dX9_best_124 rfl hl (by decide) rfl (fun ls hl => ?_)
      exact j125 k13 hk13 o_sumsIm o_sumsRe o_trial_exp_30 o_trial_done_31 o_trial_backward_25 o_trialWay_size o_trialWay_log o_trialWay_wordBits o_trialWay_limit o_trialWay_radix_18 o_trialWay_order_19 o_trialWay_near o_trialWay_seed o_trialWay_stages_20 o_beater_spareIm_35 o_beater_spareRe_36 o_beater_wingIm_37 o_beater_wingRe_38 o_trial_halved_32 o_trial_im_33 o_trial_re_34 o_trialWay_shifts_21 v4 r_42 v4 H locs ls hf hP hD hS (lv_sub hl [3, 0, 1, 4] rfl)
  have j13 : ∀ (n : Nat) (o_sumsIm : Nat → Int64) (o_sumsRe : Nat → Int64) (o_trial_exp : Int32) (o_trial_done : Int32) (o_trial_backward : Int32) (o_trialWay_size : Int32) (o_trialWay_log : Int32) (o_trialWay_wordBits : Int32) (o_trialWay_limit : Int32) (o_trialWay_radix : Int32) (o_trialWay_order : Int32) (o_trialWay_near : Int32) (o_trialWay_seed : Int32) (o_trialWay_stages : Int32) (o_beater_spareIm : Nat → Int32) (o_beater_spareRe : Nat → Int32) (o_beater_wingIm : Nat → Int32) (o_beater_wingRe : Nat → Int32) (o_trial_halved : Nat → Int32) (o_trial_im : Nat → Int32) (o_trial_re : Nat → Int32) (o_trialWay_shifts : Nat → Int32) (v1 : Int32) (v2 : Int64) (v4 : Int32) (H : Heap) (locs : List Loc) (ls : Array Slot), fX9_best_13 o_way_size o_way_log o_way_wordBits o_way_radix o_way_order o_way_near o_way_seed o_turns_cos o_turns_sin o_wave_wasIm o_wave_wasRe n o_sumsIm o_sumsRe o_trial_exp o_trial_done o_trial_backward o_trialWay_size o_trialWay_log o_trialWay_wordBits o_trialWay_limit o_trialWay_radix o_trialWay_order o_trialWay_near o_trialWay_seed o_trialWay_stages o_beater_spareIm o_beater_spareRe o_beater_wingIm o_beater_wingRe o_trial_halved o_trial_im o_trial_re o_trialWay_shifts v1 v2 v4 = some (r, out_o_sumsIm, out_o_sumsRe, out_o_trial_exp, out_o_trial_done, out_o_trial_backward, out_o_trialWay_size, out_o_trialWay_log, out_o_trialWay_wordBits, out_o_trialWay_limit, out_o_trialWay_radix, out_o_trialWay_order, out_o_trialWay_near, out_o_trialWay_seed, out_o_trialWay_stages, out_o_beater_spareIm, out_o_beater_spareRe, out_o_beater_wingIm, out_o_beater_wingRe, out_o_trial_halved, out_o_trial_im, out_o_trial_re, out_o_trialWay_shifts) → va_P G vwCl (wX9_best cI cJ cZ h_o h_o_beater h_o_sumsIm h_o_sumsRe h_o_trial h_o_trialWay h_o_turns h_o_wave h_o_way h_o_beater_spareIm h_o_beater_spareRe h_o_beater_wingIm h_o_beater_wingRe h_o_trial_halved h_o_trial_im h_o_trial_re h_o_trialWay_shifts h_o_turns_cos h_o_turns_sin h_o_wave_wasIm h_o_wave_wasRe h_o_past h_o_notes h_o_ring h_o_reader h_o_dice h_o_otherTrial h_o_tally h_o_image h_o_tape h_o_trial_wasRe h_o_trial_wasIm h_o_wave_re h_o_wave_im h_o_wave_halved h_o_way_shifts o_imageKept o_taped o_sumsIm o_sumsRe o_trial_exp o_trial_done o_trial_backward o_trialWay_size o_trialWay_log o_trialWay_wordBits o_trialWay_limit o_trialWay_radix o_trialWay_order o_trialWay_near o_trialWay_seed o_trialWay_stages o_wave_exp o_wave_done o_wave_backward o_way_size o_way_log o_way_wordBits o_way_limit o_way_radix o_way_order o_way_near o_way_seed o_way_stages o_beater_spareIm o_beater_spareRe o_beater_wingIm o_beater_wingRe o_trial_halved o_trial_im o_trial_re o_trialWay_shifts o_turns_cos o_turns_sin o_wave_wasIm o_wave_wasRe) H → va_D A (wX9_best cI cJ cZ h_o h_o_beater h_o_sumsIm h_o_sumsRe h_o_trial h_o_trialWay h_o_turns h_o_wave h_o_way h_o_beater_spareIm h_o_beater_spareRe h_o_beater_wingIm h_o_beater_wingRe h_o_trial_halved h_o_trial_im h_o_trial_re h_o_trialWay_shifts h_o_turns_cos h_o_turns_sin h_o_wave_wasIm h_o_wave_wasRe h_o_past h_o_notes h_o_ring h_o_reader h_o_dice h_o_otherTrial h_o_tally h_o_image h_o_tape h_o_trial_wasRe h_o_trial_wasIm h_o_wave_re h_o_wave_im h_o_wave_halved h_o_way_shifts o_imageKept o_taped o_sumsIm o_sumsRe o_trial_exp o_trial_done o_trial_backward o_trialWay_size o_trialWay_log o_trialWay_wordBits o_trialWay_limit o_trialWay_radix o_trialWay_order o_trialWay_near o_trialWay_seed o_trialWay_stages o_wave_exp o_wave_done o_wave_backward o_way_size o_way_log o_way_wordBits o_way_limit o_way_radix o_way_order o_way_near o_way_seed o_way_stages o_beater_spareIm o_beater_spareRe o_beater_wingIm o_beater_wingRe o_trial_halved o_trial_im o_trial_re o_trialWay_shifts o_turns_cos o_turns_sin o_wave_wasIm o_wave_wasRe) → va_S A s.heap H locs → lv_has ls 7 [(0, .ref h_o), (1, .int v1), (2, .long v2), (4, .int v4)] → W p l e ({ frames := 6, cells := 0, slots := 0, locals := 166 } : Room) s m ([.ref h_o] : List Value).toArray below meth c H locs 0 0 Q (F0 m 13 ls []) := by
    intro n
    induction n with
    | zero =>
      intro o_sumsIm o_sumsRe o_trial_exp o_trial_done o_trial_backward o_trialWay_size o_trialWay_log o_trialWay_wordBits o_trialWay_limit o_trialWay_radix o_trialWay_order o_trialWay_near o_trialWay_seed o_trialWay_stages o_beater_spareIm o_beater_spareRe o_beater_wingIm o_beater_wingRe o_trial_halved o_trial_im o_trial_re o_trialWay_shifts v1 v2 v4 H locs ls hf
      have hf : (none : Option (Int32 × (Nat → Int64) × (Nat → Int64) × Int32 × Int32 × Int32 × Int32 × Int32 × Int32 × Int32 × Int32 × Int32 × Int32 × Int32 × Int32 × (Nat → Int32) × (Nat → Int32) × (Nat → Int32) × (Nat → Int32) × (Nat → Int32) × (Nat → Int32) × (Nat → Int32) × (Nat → Int32))) = some (r, out_o_sumsIm, out_o_sumsRe, out_o_trial_exp, out_o_trial_done, out_o_trial_backward, out_o_trialWay_size, out_o_trialWay_log, out_o_trialWay_wordBits, out_o_trialWay_limit, out_o_trialWay_radix, out_o_trialWay_order, out_o_trialWay_near, out_o_trialWay_seed, out_o_trialWay_stages, out_o_beater_spareIm, out_o_beater_spareRe, out_o_beater_wingIm, out_o_beater_wingRe, out_o_trial_halved, out_o_trial_im, out_o_trial_re, out_o_trialWay_shifts) := hf
      cases hf
    | succ n ih =>
      intro o_sumsIm o_sumsRe o_trial_exp o_trial_done o_trial_backward o_trialWay_size o_trialWay_log o_trialWay_wordBits o_trialWay_limit o_trialWay_radix o_trialWay_order o_trialWay_near o_trialWay_seed o_trialWay_stages o_beater_spareIm o_beater_spareRe o_beater_wingIm o_beater_wingRe o_trial_halved o_trial_im o_trial_re o_trialWay_shifts v1 v2 v4 H locs ls hf hP hD hS hl
      rw [fX9_best_13.eq_2] at hf
      refine lv_iload hx hb dX9_best_13 (lv_at hl 3 rfl) ?_
      refine lv_bipush (v := (8 : Int32)) hx hb dX9_best_15 (by decide) ?_
      refine lv_icmp_ge (tgt := 131) hx hb dX9_best_17 (by decide) (fun c_4 => ?_) (fun c_4 => ?_)
      · have hf := it_t c_4 hf
        refine lv_iload_n hx hb dX9_best_131 rfl (lv_at hl 1 rfl) ?_
        cases hf
        exact hret _ _ _ _ dX9_best_132 hP hD hS
      · have hf := it_f c_4 hf
        refine lv_aload_n hx hb dX9_best_20 rfl (lv_at hl 0 rfl) ?_
        refine rd (ci := 9) (C := RX9) (T := TX9) (N := 19) hx hb hts inX9 hown hK hP 0 9 rfl rfl (by decide) (hts _ q_fX9_74) rfl dX9_best_21 ?_
        refine lv_aload_n hx hb dX9_best_24 rfl (lv_at hl 0 rfl) ?_
        refine rd (ci := 9) (C := RX9) (T := TX9) (N := 19) hx hb hts inX9 hown hK hP 0 0 rfl rfl (by decide) (hts _ q_fX9_10) rfl dX9_best_25 ?_
        obtain ⟨o_trialWay_size_5, o_trialWay_log_6, o_trialWay_wordBits_7, o_trialWay_limit_8, o_trialWay_radix_9, o_trialWay_order_10, o_trialWay_near_11, o_trialWay_seed_12, o_trialWay_stages_13, o_trialWay_shifts_14, e_15, hf⟩ := bd10_x hf
        refine call_v [.ref h_o_way] [] ⟨hx, hb, hml, hown, hts⟩ hK hP hD hS hA hl.1 (tX8_copyFrom l G cI cJ cZ H.size h_o_trialWay h_o_way h_o_trialWay_shifts h_o_way_shifts o_trialWay_size o_trialWay_log o_trialWay_wordBits o_trialWay_limit o_trialWay_radix o_trialWay_order o_trialWay_near o_trialWay_seed o_trialWay_stages o_way_size o_way_log o_way_wordBits o_way_limit o_way_radix o_way_order o_way_near o_way_seed o_way_stages o_trialWay_shifts o_trialWay_size_5 o_trialWay_log_6 o_trialWay_wordBits_7 o_trialWay_limit_8 o_trialWay_radix_9 o_trialWay_order_10 o_trialWay_near_11 o_trialWay_seed_12 o_trialWay_stages_13 o_trialWay_shifts_14 e_15) (cwV 1 hts (gv q_mX9_132 q_i_yX8_copyFrom q_s_yX8_copyFrom q_n_RX8 q_k_yX8_copyFrom) rfl rfl rfl (by decide +kernel) ⟨by decide, by decide⟩) rfl rfl (Nat.le_of_ble_eq_true rfl) dX9_best_28 ⟨Nat.zero_le _, Nat.zero_le _⟩ (ci := 8) rfl 0 rfl [5, 8, 16] [0, 1, 2, 3, 4, 6, 7, 9, 10, 11, 12, 13, 14, 15, 17, 18, 19, 20] [0, 1, 2, 3, 4, 18, 5, 6, 19, 7, 8, 9, 10, 11, 12, 13, 20, 14, 15, 16, 17] rfl rfl (ws2 := (wX9_best cI cJ cZ h_o h_o_beater h_o_sumsIm h_o_sumsRe h_o_trial h_o_trialWay h_o_turns h_o_wave h_o_way h_o_beater_spareIm h_o_beater_spareRe h_o_beater_wingIm h_o_beater_wingRe h_o_trial_halved h_o_trial_im h_o_trial_re h_o_trialWay_shifts h_o_turns_cos h_o_turns_sin h_o_wave_wasIm h_o_wave_wasRe h_o_past h_o_notes h_o_ring h_o_reader h_o_dice h_o_otherTrial h_o_tally h_o_image h_o_tape h_o_trial_wasRe h_o_trial_wasIm h_o_wave_re h_o_wave_im h_o_wave_halved h_o_way_shifts o_imageKept o_taped o_sumsIm o_sumsRe o_trial_exp o_trial_done o_trial_backward o_trialWay_size_5 o_trialWay_log_6 o_trialWay_wordBits_7 o_trialWay_limit_8 o_trialWay_radix_9 o_trialWay_order_10 o_trialWay_near_11 o_trialWay_seed_12 o_trialWay_stages_13 o_wave_exp o_wave_done o_wave_backward o_way_size o_way_log o_way_wordBits o_way_limit o_way_radix o_way_order o_way_near o_way_seed o_way_stages o_beater_spareIm o_beater_spareRe o_beater_wingIm o_beater_wingRe o_trial_halved o_trial_im o_trial_re o_trialWay_shifts_14 o_turns_cos o_turns_sin o_wave_wasIm o_wave_wasRe)) rfl (fun H locs hP hD hS => ?_)
        refine W.eq (g2 := F0 m 31 ls []) rfl ?_
        refine lv_aload_n hx hb dX9_best_31 rfl (lv_at hl 0 rfl) ?_
        refine rd (ci := 9) (C := RX9) (T := TX9) (N := 19) hx hb hts inX9 hown hK hP 0 9 rfl rfl (by decide) (hts _ q_fX9_74) rfl dX9_best_32 ?_
        refine lv_iload hx hb dX9_best_35 (lv_at hl 3 rfl) ?_
        refine lv_iconst (v := (1 : Int32)) hx hb dX9_best_37 (by decide) ?_
        refine lv_iand hx hb dX9_best_38 ?_
        refine lv_topi (fun u_16 eu_16 => ?_)
        have hf := nm_x eu_16 hf
        refine wr (ci := 8) (C := RX8) (T := TX8) (N := 10) hx hb hts inX8 tyX8 tyX8_ok nmX8 hown hK hP hD hS 5 6 rfl rfl (by decide) (hts _ q_fX9_238) rfl rfl rfl (Nat.le_of_ble_eq_true rfl) dX9_best_39 (ws2 := (wX9_best cI cJ cZ h_o h_o_beater h_o_sumsIm h_o_sumsRe h_o_trial h_o_trialWay h_o_turns h_o_wave h_o_way h_o_beater_spareIm h_o_beater_spareRe h_o_beater_wingIm h_o_beater_wingRe h_o_trial_halved h_o_trial_im h_o_trial_re h_o_trialWay_shifts h_o_turns_cos h_o_turns_sin h_o_wave_wasIm h_o_wave_wasRe h_o_past h_o_notes h_o_ring h_o_reader h_o_dice h_o_otherTrial h_o_tally h_o_image h_o_tape h_o_trial_wasRe h_o_trial_wasIm h_o_wave_re h_o_wave_im h_o_wave_halved h_o_way_shifts o_imageKept o_taped o_sumsIm o_sumsRe o_trial_exp o_trial_done o_trial_backward o_trialWay_size_5 o_trialWay_log_6 o_trialWay_wordBits_7 o_trialWay_limit_8 o_trialWay_radix_9 o_trialWay_order_10 u_16 o_trialWay_seed_12 o_trialWay_stages_13 o_wave_exp o_wave_done o_wave_backward o_way_size o_way_log o_way_wordBits o_way_limit o_way_radix o_way_order o_way_near o_way_seed o_way_stages o_beater_spareIm o_beater_spareRe o_beater_wingIm o_beater_wingRe o_trial_halved o_trial_im o_trial_re o_trialWay_shifts_14 o_turns_cos o_turns_sin o_wave_wasIm o_wave_wasRe)) rfl (fun H locs hP hD hS => ?_)
        refine lv_aload_n hx hb dX9_best_42 rfl (lv_at hl 0 rfl) ?_
        refine rd (ci := 9) (C := RX9) (T := TX9) (N := 19) hx hb hts inX9 hown hK hP 0 9 rfl rfl (by decide) (hts _ q_fX9_74) rfl dX9_best_43 ?_
        refine lv_iload hx hb dX9_best_46 (lv_at hl 3 rfl) ?_
        refine lv_iconst (v := (2 : Int32)) hx hb dX9_best_48 (by decide) ?_
        refine lv_iand hx hb dX9_best_49 ?_
        refine lv_if_ne (tgt := 57) hx hb dX9_best_50 (by decide) (fun c_17 => ?_) (fun c_17 => ?_)
        · have hf := it_f c_17 hf
          refine lv_iconst (v := (4 : Int32)) hx hb dX9_best_57 (by decide) ?_
          exact j58 (fX9_best_13 o_way_size o_way_log o_way_wordBits o_way_radix o_way_order o_way_near o_way_seed o_turns_cos o_turns_sin o_wave_wasIm o_wave_wasRe n) ih o_sumsIm o_sumsRe o_trial_exp o_trial_done o_trial_backward o_trialWay_size_5 o_trialWay_log_6 o_trialWay_wordBits_7 o_trialWay_limit_8 o_trialWay_radix_9 o_trialWay_order_10 u_16 o_trialWay_seed_12 o_trialWay_stages_13 o_beater_spareIm o_beater_spareRe o_beater_wingIm o_beater_wingRe o_trial_halved o_trial_im o_trial_re o_trialWay_shifts_14 v1 v2 v4 (4 : Int32) H locs ls hf hP hD hS (lv_sub hl [0, 1, 2, 3] rfl)
        · have hf := it_t c_17 hf
          refine lv_iconst (v := (2 : Int32)) hx hb dX9_best_53 (by decide) ?_
          refine lv_goto (tgt := 58) hx hb dX9_best_54 (by decide) ?_
          exact j58 (fX9_best_13 o_way_size o_way_log o_way_wordBits o_way_radix o_way_order o_way_near o_way_seed o_turns_cos o_turns_sin o_wave_wasIm o_wave_wasRe n) ih o_sumsIm o_sumsRe o_trial_exp o_trial_done o_trial_backward o_trialWay_size_5 o_trialWay_log_6 o_trialWay_wordBits_7 o_trialWay_limit_8 o_trialWay_radix_9 o_trialWay_order_10 u_16 o_trialWay_seed_12 o_trialWay_stages_13 o_beater_spareIm o_beater_spareRe o_beater_wingIm o_beater_wingRe o_trial_halved o_trial_im o_trial_re o_trialWay_shifts_14 v1 v2 v4 (2 : Int32) H locs ls hf hP hD hS (lv_sub hl [0, 1, 2, 3] rfl)
  unfold fX9_best at hf
  obtain ⟨H, eH⟩ : ∃ H, H = s.heap := ⟨_, rfl⟩
  obtain ⟨locs, elocs⟩ : ∃ z : List Loc, z = [] := ⟨_, rfl⟩
  have hP : va_P G vwCl (wX9_best cI cJ cZ h_o h_o_beater h_o_sumsIm h_o_sumsRe h_o_trial h_o_trialWay h_o_turns h_o_wave h_o_way h_o_beater_spareIm h_o_beater_spareRe h_o_beater_wingIm h_o_beater_wingRe h_o_trial_halved h_o_trial_im h_o_trial_re h_o_trialWay_shifts h_o_turns_cos h_o_turns_sin h_o_wave_wasIm h_o_wave_wasRe h_o_past h_o_notes h_o_ring h_o_reader h_o_dice h_o_otherTrial h_o_tally h_o_image h_o_tape h_o_trial_wasRe h_o_trial_wasIm h_o_wave_re h_o_wave_im h_o_wave_halved h_o_way_shifts o_imageKept o_taped o_sumsIm o_sumsRe o_trial_exp o_trial_done o_trial_backward o_trialWay_size o_trialWay_log o_trialWay_wordBits o_trialWay_limit o_trialWay_radix o_trialWay_order o_trialWay_near o_trialWay_seed o_trialWay_stages o_wave_exp o_wave_done o_wave_backward o_way_size o_way_log o_way_wordBits o_way_limit o_way_radix o_way_order o_way_near o_way_seed o_way_stages o_beater_spareIm o_beater_spareRe o_beater_wingIm o_beater_wingRe o_trial_halved o_trial_im o_trial_re o_trialWay_shifts o_turns_cos o_turns_sin o_wave_wasIm o_wave_wasRe) H := by rw [eH]; exact hP
  have hS : va_S A s.heap H locs := by rw [eH, elocs]; exact hS
  suffices hgo : W p l e ({ frames := 6, cells := 0, slots := 0, locals := 166 } : Room) s m ([.ref h_o] : List Value).toArray below meth c H locs 0 0 Q (F0 m 0 ls []) by rw [eH, elocs] at hgo; exact hgo
  clear eH elocs
  refine lv_aload_n hx hb dX9_best_0 rfl (lv_at hl 0 rfl) ?_
  obtain ⟨o_sumsIm_1, o_sumsRe_2, e_3, hf⟩ := bd2_x hf
  refine call_v [] [] ⟨hx, hb, hml, hown, hts⟩ hK hP hD hS hA hl.1 (tX9_fillSums l G cI cJ cZ H.size h_o h_o_sumsIm h_o_sumsRe h_o_turns h_o_wave h_o_way h_o_turns_cos h_o_turns_sin h_o_wave_wasIm h_o_wave_wasRe h_o_past h_o_notes h_o_ring h_o_beater h_o_reader h_o_dice h_o_trialWay h_o_trial h_o_otherTrial h_o_tally h_o_image h_o_tape h_o_wave_re h_o_wave_im h_o_wave_halved h_o_way_shifts o_imageKept o_taped o_sumsIm o_sumsRe o_wave_exp o_wave_done o_wave_backward o_way_size o_way_log o_way_wordBits o_way_limit o_way_radix o_way_order o_way_near o_way_seed o_way_stages o_turns_cos o_turns_sin o_wave_wasIm o_wave_wasRe o_sumsIm_1 o_sumsRe_2 e_3) (cwV 0 hts (gv q_mX9_362 q_i_yX9_fillSums q_s_yX9_fillSums q_n_RX9 q_k_yX9_fillSums) rfl rfl rfl (by decide +kernel) ⟨by decide, by decide⟩) rfl rfl (Nat.le_of_ble_eq_true rfl) dX9_best_1 ⟨Nat.zero_le _, Nat.zero_le _⟩ (ci := 9) rfl 0 rfl [0, 2, 3, 6, 7, 8, 17, 18, 19, 20] [1, 4, 5, 9, 10, 11, 12, 13, 14, 15, 16] [11, 0, 12, 13, 1, 2, 14, 15, 16, 3, 4, 5, 6, 7, 8, 9, 10, 17, 18, 19, 20] rfl rfl (ws2 := (wX9_best cI cJ cZ h_o h_o_beater h_o_sumsIm h_o_sumsRe h_o_trial h_o_trialWay h_o_turns h_o_wave h_o_way h_o_beater_spareIm h_o_beater_spareRe h_o_beater_wingIm h_o_beater_wingRe h_o_trial_halved h_o_trial_im h_o_trial_re h_o_trialWay_shifts h_o_turns_cos h_o_turns_sin h_o_wave_wasIm h_o_wave_wasRe h_o_past h_o_notes h_o_ring h_o_reader h_o_dice h_o_otherTrial h_o_tally h_o_image h_o_tape h_o_trial_wasRe h_o_trial_wasIm h_o_wave_re h_o_wave_im h_o_wave_halved h_o_way_shifts o_imageKept o_taped o_sumsIm_1 o_sumsRe_2 o_trial_exp o_trial_done o_trial_backward o_trialWay_size o_trialWay_log o_trialWay_wordBits o_trialWay_limit o_trialWay_radix o_trialWay_order o_trialWay_near o_trialWay_seed o_trialWay_stages o_wave_exp o_wave_done o_wave_backward o_way_size o_way_log o_way_wordBits o_way_limit o_way_radix o_way_order o_way_near o_way_seed o_way_stages o_beater_spareIm o_beater_spareRe o_beater_wingIm o_beater_wingRe o_trial_halved o_trial_im o_trial_re o_trialWay_shifts o_turns_cos o_turns_sin o_wave_wasIm o_wave_wasRe)) rfl (fun H locs hP hD hS => ?_)
  refine W.eq (g2 := F0 m 4 ls []) rfl ?_
  refine lv_iconst (v := (0 : Int32)) hx hb dX9_best_4 (by decide) ?_
  refine lv_istore_n (lv' := [(1, .int (0 : Int32)), (0, .ref h_o)]) hx hb dX9_best_5 rfl hl (by decide) rfl (fun ls hl => ?_)
  refine lv_ldc2 (v := (9223372036854775807 : Int64)) hx hb hown (hts _ q_cX9_369) dX9_best_6 ?_
  refine lv_lstore_n (lv' := [(2, .long (9223372036854775807 : Int64)), (1, .int (0 : Int32)), (0, .ref h_o)]) hx hb dX9_best_9 rfl hl (by decide) rfl (fun ls hl => ?_)
  refine lv_iconst (v := (0 : Int32)) hx hb dX9_best_10 (by decide) ?_
  refine lv_istore (lv' := [(4, .int (0 : Int32)), (2, .long (9223372036854775807 : Int64)), (1, .int (0 : Int32)), (0, .ref h_o)]) hx hb dX9_best_11 hl (by decide) rfl (fun ls hl => ?_)
  exact j13 FU o_sumsIm_1 o_sumsRe_2 o_trial_exp o_trial_done o_trial_backward o_trialWay_size o_trialWay_log o_trialWay_wordBits o_trialWay_limit o_trialWay_radix o_trialWay_order o_trialWay_near o_trialWay_seed o_trialWay_stages o_beater_spareIm o_beater_spareRe o_beater_wingIm o_beater_wingRe o_trial_halved o_trial_im o_trial_re o_trialWay_shifts (0 : Int32) (9223372036854775807 : Int64) (0 : Int32) H locs ls hf hP hD hS (lv_sub hl [3, 2, 1, 0] rfl)
def wX9_louderOnes (cI cJ cZ : ClassId) (h_o h_o_wave h_o_way h_o_wave_im h_o_wave_re h_o_past h_o_notes h_o_ring h_o_turns h_o_beater h_o_reader h_o_dice h_o_trialWay h_o_trial h_o_otherTrial h_o_sumsRe h_o_sumsIm h_o_tally h_o_image h_o_tape h_o_wave_wasRe h_o_wave_wasIm h_o_wave_halved h_o_way_shifts : Nat) (o_imageKept : Int32) (o_taped : Int32) (o_wave_exp : Int32) (o_wave_done : Int32) (o_wave_backward : Int32) (o_way_size : Int32) (o_way_log : Int32) (o_way_wordBits : Int32) (o_way_limit : Int32) (o_way_radix : Int32) (o_way_order : Int32) (o_way_near : Int32) (o_way_seed : Int32) (o_way_stages : Int32) (o_wave_im : Nat → Int32) (o_wave_re : Nat → Int32) : va_W := [(h_o, .inr (9, [.ref h_o_way, .ref h_o_wave, .ref h_o_past, .ref h_o_notes, .ref h_o_ring, .ref h_o_turns, .ref h_o_beater, .ref h_o_reader, .ref h_o_dice, .ref h_o_trialWay, .ref h_o_trial, .ref h_o_otherTrial, .ref h_o_sumsRe, .ref h_o_sumsIm, .ref h_o_tally, .ref h_o_image, .int o_imageKept, .ref h_o_tape, .int o_taped])), (h_o_wave, .inr (7, [.ref h_o_wave_re, .ref h_o_wave_im, .ref h_o_wave_wasRe, .ref h_o_wave_wasIm, .ref h_o_wave_halved, .int o_wave_exp, .int o_wave_done, .int o_wave_backward])), (h_o_way, .inr (8, [.int o_way_size, .int o_way_log, .int o_way_wordBits, .int o_way_limit, .int o_way_radix, .int o_way_order, .int o_way_near, .int o_way_seed, .int o_way_stages, .ref h_o_way_shifts])), (h_o_wave_im, .inl (cI, 32, .inl o_wave_im)), (h_o_wave_re, .inl (cI, 32, .inl o_wave_re))]
def fX9_louderOnes_92 (o_way_size : Int32) (o_wave_im : Nat → Int32) (o_wave_re : Nat → Int32) (k30 : Int32 → Int64 → Int32 → Int32 → Option (Int32)) (v1 : Int32) (v2 : Int64) (v4 : Int32) (v5 : Int32) : Option (Int32) :=
  nm (v5 + (1 : Int32)) (fun v5_14 =>
  k30 v1 v2 v4 v5_14)
def fX9_louderOnes_89 (o_way_size : Int32) (o_wave_im : Nat → Int32) (o_wave_re : Nat → Int32) (k30 : Int32 → Int64 → Int32 → Int32 → Option (Int32)) (v1 : Int32) (v2 : Int64) (v4 : Int32) (v5 : Int32) : Option (Int32) :=
  nm (v4 + (1 : Int32)) (fun v4_13 =>
  fX9_louderOnes_92 o_way_size o_wave_im o_wave_re k30 v1 v2 v4_13 v5)
def fX9_louderOnes_30 (o_way_size : Int32) (o_wave_im : Nat → Int32) (o_wave_re : Nat → Int32) : Nat → Int32 → Int64 → Int32 → Int32 → Option (Int32)
  | 0, _, _, _, _ => none
  | n + 1, v1, v2, v4, v5 =>
    if o_way_size ≤ v5 then (
      some v4
    ) else (
      gd (inb v5 32) (
      gd (inb v5 32) (
      bd1 (fX9_loudness (Int32.toInt64 (o_wave_re (Int32.toNatClampNeg v5))) (Int32.toInt64 (o_wave_im (Int32.toNatClampNeg v5)))) (fun r_8 =>
      if v2 < r_8 then (
        fX9_louderOnes_89 o_way_size o_wave_im o_wave_re (fX9_louderOnes_30 o_way_size o_wave_im o_wave_re n) v1 v2 v4 v5
      ) else (
        if r_8 = v2 then (
          if v1 ≤ v5 then (
            fX9_louderOnes_92 o_way_size o_wave_im o_wave_re (fX9_louderOnes_30 o_way_size o_wave_im o_wave_re n) v1 v2 v4 v5
          ) else (
            fX9_louderOnes_89 o_way_size o_wave_im o_wave_re (fX9_louderOnes_30 o_way_size o_wave_im o_wave_re n) v1 v2 v4 v5
          )
        ) else (
          fX9_louderOnes_92 o_way_size o_wave_im o_wave_re (fX9_louderOnes_30 o_way_size o_wave_im o_wave_re n) v1 v2 v4 v5
        )
      ))))
    )
def fX9_louderOnes (o_way_size : Int32) (o_wave_im : Nat → Int32) (o_wave_re : Nat → Int32) (p1 : Int32) : Option (Int32) :=
  gd (inb p1 32) (
  gd (inb p1 32) (
  bd1 (fX9_loudness (Int32.toInt64 (o_wave_re (Int32.toNatClampNeg p1))) (Int32.toInt64 (o_wave_im (Int32.toNatClampNeg p1)))) (fun r_3 =>
  fX9_louderOnes_30 o_way_size o_wave_im o_wave_re FU p1 r_3 (0 : Int32) (0 : Int32))))
set_option maxHeartbeats 4000000 in
set_option maxRecDepth 100000 in
theorem tX9_louderOnes (l : Launch) (G : va_G) (cI cJ cZ : ClassId) (sz : Nat) (h_o h_o_wave h_o_way h_o_wave_im h_o_wave_re h_o_past h_o_notes h_o_ring h_o_turns h_o_beater h_o_reader h_o_dice h_o_trialWay h_o_trial h_o_otherTrial h_o_sumsRe h_o_sumsIm h_o_tally h_o_image h_o_tape h_o_wave_wasRe h_o_wave_wasIm h_o_wave_halved h_o_way_shifts : Nat) (o_imageKept : Int32) (o_taped : Int32) (o_wave_exp : Int32) (o_wave_done : Int32) (o_wave_backward : Int32) (o_way_size : Int32) (o_way_log : Int32) (o_way_wordBits : Int32) (o_way_limit : Int32) (o_way_radix : Int32) (o_way_order : Int32) (o_way_near : Int32) (o_way_seed : Int32) (o_way_stages : Int32) (o_wave_im : Nat → Int32) (o_wave_re : Nat → Int32) (p1 : Int32) (r : Int32) (hf : fX9_louderOnes o_way_size o_wave_im o_wave_re p1 = some r) : Met l yX9_louderOnes (Cond.code yX9_louderOnes cX9_louderOnes 8 (some .int) :: BIG) ({ frames := 1, cells := 0, slots := 0, locals := 23 } : Room) (cP G (TY3 cI cJ cZ) [.ref h_o, .int p1] sz (wX9_louderOnes cI cJ cZ h_o h_o_wave h_o_way h_o_wave_im h_o_wave_re h_o_past h_o_notes h_o_ring h_o_turns h_o_beater h_o_reader h_o_dice h_o_trialWay h_o_trial h_o_otherTrial h_o_sumsRe h_o_sumsIm h_o_tally h_o_image h_o_tape h_o_wave_wasRe h_o_wave_wasIm h_o_wave_halved h_o_way_shifts o_imageKept o_taped o_wave_exp o_wave_done o_wave_backward o_way_size o_way_log o_way_wordBits o_way_limit o_way_radix o_way_order o_way_near o_way_seed o_way_stages o_wave_im o_wave_re)) (cQ G (TY3 cI cJ cZ) sz (wX9_louderOnes cI cJ cZ h_o h_o_wave h_o_way h_o_wave_im h_o_wave_re h_o_past h_o_notes h_o_ring h_o_turns h_o_beater h_o_reader h_o_dice h_o_trialWay h_o_trial h_o_otherTrial h_o_sumsRe h_o_sumsIm h_o_tally h_o_image h_o_tape h_o_wave_wasRe h_o_wave_wasIm h_o_wave_halved h_o_way_shifts o_imageKept o_taped o_wave_exp o_wave_done o_wave_backward o_way_size o_way_log o_way_wordBits o_way_limit o_way_radix o_way_order o_way_near o_way_seed o_way_stages o_wave_im o_wave_re) (wX9_louderOnes cI cJ cZ h_o h_o_wave h_o_way h_o_wave_im h_o_wave_re h_o_past h_o_notes h_o_ring h_o_turns h_o_beater h_o_reader h_o_dice h_o_trialWay h_o_trial h_o_otherTrial h_o_sumsRe h_o_sumsIm h_o_tally h_o_image h_o_tape h_o_wave_wasRe h_o_wave_wasIm h_o_wave_halved h_o_way_shifts o_imageKept o_taped o_wave_exp o_wave_done o_wave_backward o_way_size o_way_log o_way_wordBits o_way_limit o_way_radix o_way_order o_way_near o_way_seed o_way_stages o_wave_im o_wave_re) (some (.int r))) 0 0 (va_A (wX9_louderOnes cI cJ cZ h_o h_o_wave h_o_way h_o_wave_im h_o_wave_re h_o_past h_o_notes h_o_ring h_o_turns h_o_beater h_o_reader h_o_dice h_o_trialWay h_o_trial h_o_otherTrial h_o_sumsRe h_o_sumsIm h_o_tally h_o_image h_o_tape h_o_wave_wasRe h_o_wave_wasIm h_o_wave_halved h_o_way_shifts o_imageKept o_taped o_wave_exp o_wave_done o_wave_backward o_way_size o_way_log o_way_wordBits o_way_limit o_way_radix o_way_order o_way_near o_way_seed o_way_stages o_wave_im o_wave_re) sz) := by
  refine met_i (cc := cX9_louderOnes) (maxL := 8) (plainFor_of_name (by decide)) (Nat.le_of_ble_eq_true rfl) (fun p e s m below meth c A ls Q hx hb hml hts hown hK hP hD hS hA hl hret => ?_)
  have hown : s.vm.findClass RX9 = some m.cls := hown
  have hl : lv_has ls 8 [(0, .ref h_o), (1, .int p1)] := hl
  have j92 : ∀ (k30 : Int32 → Int64 → Int32 → Int32 → Option (Int32)), (∀ (v1 : Int32) (v2 : Int64) (v4 : Int32) (v5 : Int32) (H : Heap) (locs : List Loc) (ls : Array Slot), k30 v1 v2 v4 v5 = some r → va_P G vwCl (wX9_louderOnes cI cJ cZ h_o h_o_wave h_o_way h_o_wave_im h_o_wave_re h_o_past h_o_notes h_o_ring h_o_turns h_o_beater h_o_reader h_o_dice h_o_trialWay h_o_trial h_o_otherTrial h_o_sumsRe h_o_sumsIm h_o_tally h_o_image h_o_tape h_o_wave_wasRe h_o_wave_wasIm h_o_wave_halved h_o_way_shifts o_imageKept o_taped o_wave_exp o_wave_done o_wave_backward o_way_size o_way_log o_way_wordBits o_way_limit o_way_radix o_way_order o_way_near o_way_seed o_way_stages o_wave_im o_wave_re) H → va_D A (wX9_louderOnes cI cJ cZ h_o h_o_wave h_o_way h_o_wave_im h_o_wave_re h_o_past h_o_notes h_o_ring h_o_turns h_o_beater h_o_reader h_o_dice h_o_trialWay h_o_trial h_o_otherTrial h_o_sumsRe h_o_sumsIm h_o_tally h_o_image h_o_tape h_o_wave_wasRe h_o_wave_wasIm h_o_wave_halved h_o_way_shifts o_imageKept o_taped o_wave_exp o_wave_done o_wave_backward o_way_size o_way_log o_way_wordBits o_way_limit o_way_radix o_way_order o_way_near o_way_seed o_way_stages o_wave_im o_wave_re) → va_S A s.heap H locs → lv_has ls 8 [(0, .ref h_o), (1, .int v1), (2, .long v2), (4, .int v4), (5, .int v5)] → W p l e ({ frames := 1, cells := 0, slots := 0, locals := 23 } : Room) s m ([.ref h_o, .int p1] : List Value).toArray below meth c H locs 0 0 Q (F0 m 30 ls [])) → ∀ (v1 : Int32) (v2 : Int64) (v4 : Int32) (v5 : Int32) (H : Heap) (locs : List Loc) (ls : Array Slot), fX9_louderOnes_92 o_way_size o_wave_im o_wave_re k30 v1 v2 v4 v5 = some r → va_P G vwCl (wX9_louderOnes cI cJ cZ h_o h_o_wave h_o_way h_o_wave_im h_o_wave_re h_o_past h_o_notes h_o_ring h_o_turns h_o_beater h_o_reader h_o_dice h_o_trialWay h_o_trial h_o_otherTrial h_o_sumsRe h_o_sumsIm h_o_tally h_o_image h_o_tape h_o_wave_wasRe h_o_wave_wasIm h_o_wave_halved h_o_way_shifts o_imageKept o_taped o_wave_exp o_wave_done o_wave_backward o_way_size o_way_log o_way_wordBits o_way_limit o_way_radix o_way_order o_way_near o_way_seed o_way_stages o_wave_im o_wave_re) H → va_D A (wX9_louderOnes cI cJ cZ h_o h_o_wave h_o_way h_o_wave_im h_o_wave_re h_o_past h_o_notes h_o_ring h_o_turns h_o_beater h_o_reader h_o_dice h_o_trialWay h_o_trial h_o_otherTrial h_o_sumsRe h_o_sumsIm h_o_tally h_o_image h_o_tape h_o_wave_wasRe h_o_wave_wasIm h_o_wave_halved h_o_way_shifts o_imageKept o_taped o_wave_exp o_wave_done o_wave_backward o_way_size o_way_log o_way_wordBits o_way_limit o_way_radix o_way_order o_way_near o_way_seed o_way_stages o_wave_im o_wave_re) → va_S A s.heap H locs → lv_has ls 8 [(0, .ref h_o), (1, .int v1), (2, .long v2), (4, .int v4), (5, .int v5)] → W p l e ({ frames := 1, cells := 0, slots := 0, locals := 23 } : Room) s m ([.ref h_o, .int p1] : List Value).toArray below meth c H locs 0 0 Q (F0 m 92 ls []) := by
    intro k30 hk30 v1 v2 v4 v5 H locs ls hf hP hD hS hl
    unfold fX9_louderOnes_92 at hf
    obtain ⟨v5_14, ev5_14⟩ : ∃ y : Int32, y = v5 + (1 : Int32) := ⟨_, rfl⟩
    have hf := nm_x ev5_14 hf
    refine lv_iinc (v := v5_14) (lv' := [(5, .int v5_14), (0, .ref h_o), (1, .int v1), (2, .long v2), (4, .int v4)]) hx hb dX9_louderOnes_92 hl (k := 4) rfl (by rw [ev5_14]; rfl) (by decide) rfl (fun ls hl => ?_)
    refine lv_goto (tgt := 30) hx hb dX9_louderOnes_95 (by decide) ?_
    exact hk30 v1 v2 v4 v5_14 H locs ls hf hP hD hS (lv_sub hl [1, 2, 3, 4, 0] rfl)
  have j89 : ∀ (k30 : Int32 → Int64 → Int32 → Int32 → Option (Int32)), (∀ (v1 : Int32) (v2 : Int64) (v4 : Int32) (v5 : Int32) (H : Heap) (locs : List Loc) (ls : Array Slot), k30 v1 v2 v4 v5 = some r → va_P G vwCl (wX9_louderOnes cI cJ cZ h_o h_o_wave h_o_way h_o_wave_im h_o_wave_re h_o_past h_o_notes h_o_ring h_o_turns h_o_beater h_o_reader h_o_dice h_o_trialWay h_o_trial h_o_otherTrial h_o_sumsRe h_o_sumsIm h_o_tally h_o_image h_o_tape h_o_wave_wasRe h_o_wave_wasIm h_o_wave_halved h_o_way_shifts o_imageKept o_taped o_wave_exp o_wave_done o_wave_backward o_way_size o_way_log o_way_wordBits o_way_limit o_way_radix o_way_order o_way_near o_way_seed o_way_stages o_wave_im o_wave_re) H → va_D A (wX9_louderOnes cI cJ cZ h_o h_o_wave h_o_way h_o_wave_im h_o_wave_re h_o_past h_o_notes h_o_ring h_o_turns h_o_beater h_o_reader h_o_dice h_o_trialWay h_o_trial h_o_otherTrial h_o_sumsRe h_o_sumsIm h_o_tally h_o_image h_o_tape h_o_wave_wasRe h_o_wave_wasIm h_o_wave_halved h_o_way_shifts o_imageKept o_taped o_wave_exp o_wave_done o_wave_backward o_way_size o_way_log o_way_wordBits o_way_limit o_way_radix o_way_order o_way_near o_way_seed o_way_stages o_wave_im o_wave_re) → va_S A s.heap H locs → lv_has ls 8 [(0, .ref h_o), (1, .int v1), (2, .long v2), (4, .int v4), (5, .int v5)] → W p l e ({ frames := 1, cells := 0, slots := 0, locals := 23 } : Room) s m ([.ref h_o, .int p1] : List Value).toArray below meth c H locs 0 0 Q (F0 m 30 ls [])) → ∀ (v1 : Int32) (v2 : Int64) (v4 : Int32) (v5 : Int32) (H : Heap) (locs : List Loc) (ls : Array Slot), fX9_louderOnes_89 o_way_size o_wave_im o_wave_re k30 v1 v2 v4 v5 = some r → va_P G vwCl (wX9_louderOnes cI cJ cZ h_o h_o_wave h_o_way h_o_wave_im h_o_wave_re h_o_past h_o_notes h_o_ring h_o_turns h_o_beater h_o_reader h_o_dice h_o_trialWay h_o_trial h_o_otherTrial h_o_sumsRe h_o_sumsIm h_o_tally h_o_image h_o_tape h_o_wave_wasRe h_o_wave_wasIm h_o_wave_halved h_o_way_shifts o_imageKept o_taped o_wave_exp o_wave_done o_wave_backward o_way_size o_way_log o_way_wordBits o_way_limit o_way_radix o_way_order o_way_near o_way_seed o_way_stages o_wave_im o_wave_re) H → va_D A (wX9_louderOnes cI cJ cZ h_o h_o_wave h_o_way h_o_wave_im h_o_wave_re h_o_past h_o_notes h_o_ring h_o_turns h_o_beater h_o_reader h_o_dice h_o_trialWay h_o_trial h_o_otherTrial h_o_sumsRe h_o_sumsIm h_o_tally h_o_image h_o_tape h_o_wave_wasRe h_o_wave_wasIm h_o_wave_halved h_o_way_shifts o_imageKept o_taped o_wave_exp o_wave_done o_wave_backward o_way_size o_way_log o_way_wordBits o_way_limit o_way_radix o_way_order o_way_near o_way_seed o_way_stages o_wave_im o_wave_re) → va_S A s.heap H locs → lv_has ls 8 [(0, .ref h_o), (1, .int v1), (2, .long v2), (4, .int v4), (5, .int v5)] → W p l e ({ frames := 1, cells := 0, slots := 0, locals := 23 } : Room) s m ([.ref h_o, .int p1] : List Value).toArray below meth c H locs 0 0 Q (F0 m 89 ls []) := by
    intro k30 hk30 v1 v2 v4 v5 H locs ls hf hP hD hS hl
    unfold fX9_louderOnes_89 at hf
    obtain ⟨v4_13, ev4_13⟩ : ∃ y : Int32, y = v4 + (1 : Int32) := ⟨_, rfl⟩
    have hf := nm_x ev4_13 hf
    refine lv_iinc (v := v4_13) (lv' := [(4, .int v4_13), (0, .ref h_o), (1, .int v1), (2, .long v2), (5, .int v5)]) hx hb dX9_louderOnes_89 hl (k := 3) rfl (by rw [ev4_13]; rfl) (by decide) rfl (fun ls hl => ?_)
    exact j92 k30 hk30 v1 v2 v4_13 v5 H locs ls hf hP hD hS (lv_sub hl [1, 2, 3, 0, 4] rfl)
  have j30 : ∀ (n : Nat) (v1 : Int32) (v2 : Int64) (v4 : Int32) (v5 : Int32) (H : Heap) (locs : List Loc) (ls : Array Slot), fX9_louderOnes_30 o_way_size o_wave_im o_wave_re n v1 v2 v4 v5 = some r → va_P G vwCl (wX9_louderOnes cI cJ cZ h_o h_o_wave h_o_way h_o_wave_im h_o_wave_re h_o_past h_o_notes h_o_ring h_o_turns h_o_beater h_o_reader h_o_dice h_o_trialWay h_o_trial h_o_otherTrial h_o_sumsRe h_o_sumsIm h_o_tally h_o_image h_o_tape h_o_wave_wasRe h_o_wave_wasIm h_o_wave_halved h_o_way_shifts o_imageKept o_taped o_wave_exp o_wave_done o_wave_backward o_way_size o_way_log o_way_wordBits o_way_limit o_way_radix o_way_order o_way_near o_way_seed o_way_stages o_wave_im o_wave_re) H → va_D A (wX9_louderOnes cI cJ cZ h_o h_o_wave h_o_way h_o_wave_im h_o_wave_re h_o_past h_o_notes h_o_ring h_o_turns h_o_beater h_o_reader h_o_dice h_o_trialWay h_o_trial h_o_otherTrial h_o_sumsRe h_o_sumsIm h_o_tally h_o_image h_o_tape h_o_wave_wasRe h_o_wave_wasIm h_o_wave_halved h_o_way_shifts o_imageKept o_taped o_wave_exp o_wave_done o_wave_backward o_way_size o_way_log o_way_wordBits o_way_limit o_way_radix o_way_order o_way_near o_way_seed o_way_stages o_wave_im o_wave_re) → va_S A s.heap H locs → lv_has ls 8 [(0, .ref h_o), (1, .int v1), (2, .long v2), (4, .int v4), (5, .int v5)] → W p l e ({ frames := 1, cells := 0, slots := 0, locals := 23 } : Room) s m ([.ref h_o, .int p1] : List Value).toArray below meth c H locs 0 0 Q (F0 m 30 ls []) := by
    intro n
    induction n with
    | zero =>
      intro v1 v2 v4 v5 H locs ls hf
      have hf : (none : Option (Int32)) = some r := hf
      cases hf
    | succ n ih =>
      intro v1 v2 v4 v5 H locs ls hf hP hD hS hl
      rw [fX9_louderOnes_30.eq_2] at hf
      refine lv_iload hx hb dX9_louderOnes_30 (lv_at hl 4 rfl) ?_
      refine lv_aload_n hx hb dX9_louderOnes_32 rfl (lv_at hl 0 rfl) ?_
      refine rd (ci := 9) (C := RX9) (T := TX9) (N := 19) hx hb hts inX9 hown hK hP 0 0 rfl rfl (by decide) (hts _ q_fX9_10) rfl dX9_louderOnes_33 ?_
      refine rd (ci := 8) (C := RX8) (T := TX8) (N := 10) hx hb hts inX8 hown hK hP 2 0 rfl rfl (by decide) (hts _ q_fX9_115) rfl dX9_louderOnes_36 ?_
      refine lv_icmp_ge (tgt := 98) hx hb dX9_louderOnes_39 (by decide) (fun c_5 => ?_) (fun c_5 => ?_)
      · have hf := it_t c_5 hf
        refine lv_iload hx hb dX9_louderOnes_98 (lv_at hl 3 rfl) ?_
        cases hf
        exact hret _ _ _ _ dX9_louderOnes_100 hP hD hS
      · have hf := it_f c_5 hf
        refine lv_aload_n hx hb dX9_louderOnes_42 rfl (lv_at hl 0 rfl) ?_
        refine rd (ci := 9) (C := RX9) (T := TX9) (N := 19) hx hb hts inX9 hown hK hP 0 1 rfl rfl (by decide) (hts _ q_fX9_19) rfl dX9_louderOnes_43 ?_
        refine rd (ci := 7) (C := RX7) (T := TX7) (N := 8) hx hb hts inX7 hown hK hP 1 0 rfl rfl (by decide) (hts _ q_fX9_175) rfl dX9_louderOnes_46 ?_
        refine lv_iload hx hb dX9_louderOnes_49 (lv_at hl 4 rfl) ?_
        obtain ⟨g_6, hf⟩ := gd_x hf
        refine va_iald hx hb hK hP 4 0 rfl rfl (inb_x g_6) dX9_louderOnes_51 ?_
        refine lv_i2l hx hb dX9_louderOnes_52 rfl ?_
        refine lv_aload_n hx hb dX9_louderOnes_53 rfl (lv_at hl 0 rfl) ?_
        refine rd (ci := 9) (C := RX9) (T := TX9) (N := 19) hx hb hts inX9 hown hK hP 0 1 rfl rfl (by decide) (hts _ q_fX9_19) rfl dX9_louderOnes_54 ?_
        refine rd (ci := 7) (C := RX7) (T := TX7) (N := 8) hx hb hts inX7 hown hK hP 1 1 rfl rfl (by decide) (hts _ q_fX9_176) rfl dX9_louderOnes_57 ?_
        refine lv_iload hx hb dX9_louderOnes_60 (lv_at hl 4 rfl) ?_
        obtain ⟨g_7, hf⟩ := gd_x hf
        refine va_iald hx hb hK hP 3 0 rfl rfl (inb_x g_7) dX9_louderOnes_62 ?_
        refine lv_i2l hx hb dX9_louderOnes_63 rfl ?_
        obtain ⟨r_8, e_9, hf⟩ := bd1_x hf
        refine call_s [.long (Int32.toInt64 (o_wave_re (Int32.toNatClampNeg v5))), .long (Int32.toInt64 (o_wave_im (Int32.toNatClampNeg v5)))] [] ⟨hx, hb, hml, hown, hts⟩ hK hP hD hS hA hl.1 (tX9_loudness l G cI cJ cZ H.size (Int32.toInt64 (o_wave_re (Int32.toNatClampNeg v5))) (Int32.toInt64 (o_wave_im (Int32.toNatClampNeg v5))) r_8 e_9) (va_cwS 2 hts (gs q_mX9_225 q_s_yX9_loudness q_n_RX9 q_k_yX9_loudness) rfl rfl rfl (by decide +kernel) ⟨by decide, by decide⟩) rfl rfl (Nat.le_of_ble_eq_true rfl) dX9_louderOnes_64 ⟨Nat.zero_le _, Nat.zero_le _⟩ [] [0, 1, 2, 3, 4] [0, 1, 2, 3, 4] rfl rfl (ws2 := (wX9_louderOnes cI cJ cZ h_o h_o_wave h_o_way h_o_wave_im h_o_wave_re h_o_past h_o_notes h_o_ring h_o_turns h_o_beater h_o_reader h_o_dice h_o_trialWay h_o_trial h_o_otherTrial h_o_sumsRe h_o_sumsIm h_o_tally h_o_image h_o_tape h_o_wave_wasRe h_o_wave_wasIm h_o_wave_halved h_o_way_shifts o_imageKept o_taped o_wave_exp o_wave_done o_wave_backward o_way_size o_way_log o_way_wordBits o_way_limit o_way_radix o_way_order o_way_near o_way_seed o_way_stages o_wave_im o_wave_re)) rfl (fun H locs hP hD hS => ?_)
        refine W.eq (g2 := F0 m 67 ls [.long r_8]) rfl ?_
        refine lv_lstore (lv' := [(6, .long r_8), (0, .ref h_o), (1, .int v1), (2, .long v2), (4, .int v4), (5, .int v5)]) hx hb dX9_louderOnes_67 hl (by decide) rfl (fun ls hl => ?_)
        refine lv_lload hx hb dX9_louderOnes_69 (lv_at hl 0 rfl) ?_
        refine lv_lload_n hx hb dX9_louderOnes_71 rfl (lv_at hl 3 rfl) ?_
        refine lc_gt (tgt := 89) hx hb dX9_louderOnes_72 dX9_louderOnes_73 (by decide) (fun c_10 => ?_) (fun c_10 => ?_)
        · have hf := it_t c_10 hf
          exact j89 (fX9_louderOnes_30 o_way_size o_wave_im o_wave_re n) ih v1 v2 v4 v5 H locs ls hf hP hD hS (lv_sub hl [1, 2, 3, 4, 5] rfl)
        · have hf := it_f c_10 hf
          refine lv_lload hx hb dX9_louderOnes_76 (lv_at hl 0 rfl) ?_
          refine lv_lload_n hx hb dX9_louderOnes_78 rfl (lv_at hl 3 rfl) ?_
          refine lc_ne (tgt := 92) hx hb dX9_louderOnes_79 dX9_louderOnes_80 (by decide) (fun c_11 => ?_) (fun c_11 => ?_)
          · have hf := it_f c_11 hf
            exact j92 (fX9_louderOnes_30 o_way_size o_wave_im o_wave_re n) ih v1 v2 v4 v5 H locs ls hf hP hD hS (lv_sub hl [1, 2, 3, 4, 5] rfl)
          · have hf := it_t c_11 hf
            refine lv_iload hx hb dX9_louderOnes_83 (lv_at hl 5 rfl) ?_
            refine lv_iload_n hx hb dX9_louderOnes_85 rfl (lv_at hl 2 rfl) ?_
            refine lv_icmp_ge (tgt := 92) hx hb dX9_louderOnes_86 (by decide) (fun c_12 => ?_) (fun c_12 => ?_)
            · have hf := it_t c_12 hf
              exact j92 (fX9_louderOnes_30 o_way_size o_wave_im o_wave_re n) ih v1 v2 v4 v5 H locs ls hf hP hD hS (lv_sub hl [1, 2, 3, 4, 5] rfl)
            · have hf := it_f c_12 hf
              exact j89 (fX9_louderOnes_30 o_way_size o_wave_im o_wave_re n) ih v1 v2 v4 v5 H locs ls hf hP hD hS (lv_sub hl [1, 2, 3, 4, 5] rfl)
  unfold fX9_louderOnes at hf
  obtain ⟨H, eH⟩ : ∃ H, H = s.heap := ⟨_, rfl⟩
  obtain ⟨locs, elocs⟩ : ∃ z : List Loc, z = [] := ⟨_, rfl⟩
  have hP : va_P G vwCl (wX9_louderOnes cI cJ cZ h_o h_o_wave h_o_way h_o_wave_im h_o_wave_re h_o_past h_o_notes h_o_ring h_o_turns h_o_beater h_o_reader h_o_dice h_o_trialWay h_o_trial h_o_otherTrial h_o_sumsRe h_o_sumsIm h_o_tally h_o_image h_o_tape h_o_wave_wasRe h_o_wave_wasIm h_o_wave_halved h_o_way_shifts o_imageKept o_taped o_wave_exp o_wave_done o_wave_backward o_way_size o_way_log o_way_wordBits o_way_limit o_way_radix o_way_order o_way_near o_way_seed o_way_stages o_wave_im o_wave_re) H := by rw [eH]; exact hP
  have hS : va_S A s.heap H locs := by rw [eH, elocs]; exact hS
  suffices hgo : W p l e ({ frames := 1, cells := 0, slots := 0, locals := 23 } : Room) s m ([.ref h_o, .int p1] : List Value).toArray below meth c H locs 0 0 Q (F0 m 0 ls []) by rw [eH, elocs] at hgo; exact hgo
  clear eH elocs
  refine lv_aload_n hx hb dX9_louderOnes_0 rfl (lv_at hl 0 rfl) ?_
  refine rd (ci := 9) (C := RX9) (T := TX9) (N := 19) hx hb hts inX9 hown hK hP 0 1 rfl rfl (by decide) (hts _ q_fX9_19) rfl dX9_louderOnes_1 ?_
  refine rd (ci := 7) (C := RX7) (T := TX7) (N := 8) hx hb hts inX7 hown hK hP 1 0 rfl rfl (by decide) (hts _ q_fX9_175) rfl dX9_louderOnes_4 ?_
  refine lv_iload_n hx hb dX9_louderOnes_7 rfl (lv_at hl 1 rfl) ?_
  obtain ⟨g_1, hf⟩ := gd_x hf
  refine va_iald hx hb hK hP 4 0 rfl rfl (inb_x g_1) dX9_louderOnes_8 ?_
  refine lv_i2l hx hb dX9_louderOnes_9 rfl ?_
  refine lv_aload_n hx hb dX9_louderOnes_10 rfl (lv_at hl 0 rfl) ?_
  refine rd (ci := 9) (C := RX9) (T := TX9) (N := 19) hx hb hts inX9 hown hK hP 0 1 rfl rfl (by decide) (hts _ q_fX9_19) rfl dX9_louderOnes_11 ?_
  refine rd (ci := 7) (C := RX7) (T := TX7) (N := 8) hx hb hts inX7 hown hK hP 1 1 rfl rfl (by decide) (hts _ q_fX9_176) rfl dX9_louderOnes_14 ?_
  refine lv_iload_n hx hb dX9_louderOnes_17 rfl (lv_at hl 1 rfl) ?_
  obtain ⟨g_2, hf⟩ := gd_x hf
  refine va_iald hx hb hK hP 3 0 rfl rfl (inb_x g_2) dX9_louderOnes_18 ?_
  refine lv_i2l hx hb dX9_louderOnes_19 rfl ?_
  obtain ⟨r_3, e_4, hf⟩ := bd1_x hf
  refine call_s [.long (Int32.toInt64 (o_wave_re (Int32.toNatClampNeg p1))), .long (Int32.toInt64 (o_wave_im (Int32.toNatClampNeg p1)))] [] ⟨hx, hb, hml, hown, hts⟩ hK hP hD hS hA hl.1 (tX9_loudness l G cI cJ cZ H.size (Int32.toInt64 (o_wave_re (Int32.toNatClampNeg p1))) (Int32.toInt64 (o_wave_im (Int32.toNatClampNeg p1))) r_3 e_4) (va_cwS 2 hts (gs q_mX9_225 q_s_yX9_loudness q_n_RX9 q_k_yX9_loudness) rfl rfl rfl (by decide +kernel) ⟨by decide, by decide⟩) rfl rfl (Nat.le_of_ble_eq_true rfl) dX9_louderOnes_20 ⟨Nat.zero_le _, Nat.zero_le _⟩ [] [0, 1, 2, 3, 4] [0, 1, 2, 3, 4] rfl rfl (ws2 := (wX9_louderOnes cI cJ cZ h_o h_o_wave h_o_way h_o_wave_im h_o_wave_re h_o_past h_o_notes h_o_ring h_o_turns h_o_beater h_o_reader h_o_dice h_o_trialWay h_o_trial h_o_otherTrial h_o_sumsRe h_o_sumsIm h_o_tally h_o_image h_o_tape h_o_wave_wasRe h_o_wave_wasIm h_o_wave_halved h_o_way_shifts o_imageKept o_taped o_wave_exp o_wave_done o_wave_backward o_way_size o_way_log o_way_wordBits o_way_limit o_way_radix o_way_order o_way_near o_way_seed o_way_stages o_wave_im o_wave_re)) rfl (fun H locs hP hD hS => ?_)
  refine W.eq (g2 := F0 m 23 ls [.long r_3]) rfl ?_
  refine lv_lstore_n (lv' := [(2, .long r_3), (0, .ref h_o), (1, .int p1)]) hx hb dX9_louderOnes_23 rfl hl (by decide) rfl (fun ls hl => ?_)
  refine lv_iconst (v := (0 : Int32)) hx hb dX9_louderOnes_24 (by decide) ?_
  refine lv_istore (lv' := [(4, .int (0 : Int32)), (2, .long r_3), (0, .ref h_o), (1, .int p1)]) hx hb dX9_louderOnes_25 hl (by decide) rfl (fun ls hl => ?_)
  refine lv_iconst (v := (0 : Int32)) hx hb dX9_louderOnes_27 (by decide) ?_
  refine lv_istore (lv' := [(5, .int (0 : Int32)), (4, .int (0 : Int32)), (2, .long r_3), (0, .ref h_o), (1, .int p1)]) hx hb dX9_louderOnes_28 hl (by decide) rfl (fun ls hl => ?_)
  exact j30 FU p1 r_3 (0 : Int32) (0 : Int32) H locs ls hf hP hD hS (lv_sub hl [3, 4, 2, 1, 0] rfl)
def wX9_peak (cI cJ cZ : ClassId) (h_o h_o_wave h_o_way h_o_wave_im h_o_wave_re h_o_past h_o_notes h_o_ring h_o_turns h_o_beater h_o_reader h_o_dice h_o_trialWay h_o_trial h_o_otherTrial h_o_sumsRe h_o_sumsIm h_o_tally h_o_image h_o_tape h_o_wave_wasRe h_o_wave_wasIm h_o_wave_halved h_o_way_shifts : Nat) (o_imageKept : Int32) (o_taped : Int32) (o_wave_exp : Int32) (o_wave_done : Int32) (o_wave_backward : Int32) (o_way_size : Int32) (o_way_log : Int32) (o_way_wordBits : Int32) (o_way_limit : Int32) (o_way_radix : Int32) (o_way_order : Int32) (o_way_near : Int32) (o_way_seed : Int32) (o_way_stages : Int32) (o_wave_im : Nat → Int32) (o_wave_re : Nat → Int32) : va_W := [(h_o, .inr (9, [.ref h_o_way, .ref h_o_wave, .ref h_o_past, .ref h_o_notes, .ref h_o_ring, .ref h_o_turns, .ref h_o_beater, .ref h_o_reader, .ref h_o_dice, .ref h_o_trialWay, .ref h_o_trial, .ref h_o_otherTrial, .ref h_o_sumsRe, .ref h_o_sumsIm, .ref h_o_tally, .ref h_o_image, .int o_imageKept, .ref h_o_tape, .int o_taped])), (h_o_wave, .inr (7, [.ref h_o_wave_re, .ref h_o_wave_im, .ref h_o_wave_wasRe, .ref h_o_wave_wasIm, .ref h_o_wave_halved, .int o_wave_exp, .int o_wave_done, .int o_wave_backward])), (h_o_way, .inr (8, [.int o_way_size, .int o_way_log, .int o_way_wordBits, .int o_way_limit, .int o_way_radix, .int o_way_order, .int o_way_near, .int o_way_seed, .int o_way_stages, .ref h_o_way_shifts])), (h_o_wave_im, .inl (cI, 32, .inl o_wave_im)), (h_o_wave_re, .inl (cI, 32, .inl o_wave_re))]
def fX9_peak_46 (o_way_size : Int32) (o_wave_im : Nat → Int32) (o_wave_re : Nat → Int32) (k24 : Int32 → Int32 → Int32 → Option (Int32)) (v1 : Int32) (v2 : Int32) (v3 : Int32) : Option (Int32) :=
  nm (v3 + (1 : Int32)) (fun v3_11 =>
  k24 v1 v2 v3_11)
def fX9_peak_24 (o_way_size : Int32) (o_wave_im : Nat → Int32) (o_wave_re : Nat → Int32) : Nat → Int32 → Int32 → Int32 → Option (Int32)
  | 0, _, _, _ => none
  | n + 1, v1, v2, v3 =>
    if o_way_size ≤ v3 then (
      some v2
    ) else (
      bd1 (fX9_louderOnes o_way_size o_wave_im o_wave_re v3) (fun r_8 =>
      if r_8 = v1 then (
        fX9_peak_46 o_way_size o_wave_im o_wave_re (fX9_peak_24 o_way_size o_wave_im o_wave_re n) v1 v3 v3
      ) else (
        fX9_peak_46 o_way_size o_wave_im o_wave_re (fX9_peak_24 o_way_size o_wave_im o_wave_re n) v1 v2 v3
      ))
    )
def fX9_peak (o_wave_done : Int32) (o_wave_backward : Int32) (o_way_size : Int32) (o_way_stages : Int32) (o_wave_im : Nat → Int32) (o_wave_re : Nat → Int32) (p1 : Int32) : Option (Int32) :=
  bd1 (fX9_isPlace o_way_size p1) (fun r_1 =>
  if r_1 = 0 then (
    some (-1 : Int32)
  ) else (
    bd1 (fX9_isDoneForward o_wave_done o_wave_backward o_way_stages) (fun r_4 =>
    if r_4 = 0 then (
      some (-2 : Int32)
    ) else (
      fX9_peak_24 o_way_size o_wave_im o_wave_re FU p1 (0 : Int32) (0 : Int32)
    ))
  ))
set_option maxHeartbeats 4000000 in
set_option maxRecDepth 100000 in
theorem tX9_peak (l : Launch) (G : va_G) (cI cJ cZ : ClassId) (sz : Nat) (h_o h_o_wave h_o_way h_o_wave_im h_o_wave_re h_o_past h_o_notes h_o_ring h_o_turns h_o_beater h_o_reader h_o_dice h_o_trialWay h_o_trial h_o_otherTrial h_o_sumsRe h_o_sumsIm h_o_tally h_o_image h_o_tape h_o_wave_wasRe h_o_wave_wasIm h_o_wave_halved h_o_way_shifts : Nat) (o_imageKept : Int32) (o_taped : Int32) (o_wave_exp : Int32) (o_wave_done : Int32) (o_wave_backward : Int32) (o_way_size : Int32) (o_way_log : Int32) (o_way_wordBits : Int32) (o_way_limit : Int32) (o_way_radix : Int32) (o_way_order : Int32) (o_way_near : Int32) (o_way_seed : Int32) (o_way_stages : Int32) (o_wave_im : Nat → Int32) (o_wave_re : Nat → Int32) (p1 : Int32) (r : Int32) (hf : fX9_peak o_wave_done o_wave_backward o_way_size o_way_stages o_wave_im o_wave_re p1 = some r) : Met l yX9_peak (Cond.code yX9_peak cX9_peak 4 (some .int) :: BIG) ({ frames := 2, cells := 0, slots := 0, locals := 50 } : Room) (cP G (TY3 cI cJ cZ) [.ref h_o, .int p1] sz (wX9_peak cI cJ cZ h_o h_o_wave h_o_way h_o_wave_im h_o_wave_re h_o_past h_o_notes h_o_ring h_o_turns h_o_beater h_o_reader h_o_dice h_o_trialWay h_o_trial h_o_otherTrial h_o_sumsRe h_o_sumsIm h_o_tally h_o_image h_o_tape h_o_wave_wasRe h_o_wave_wasIm h_o_wave_halved h_o_way_shifts o_imageKept o_taped o_wave_exp o_wave_done o_wave_backward o_way_size o_way_log o_way_wordBits o_way_limit o_way_radix o_way_order o_way_near o_way_seed o_way_stages o_wave_im o_wave_re)) (cQ G (TY3 cI cJ cZ) sz (wX9_peak cI cJ cZ h_o h_o_wave h_o_way h_o_wave_im h_o_wave_re h_o_past h_o_notes h_o_ring h_o_turns h_o_beater h_o_reader h_o_dice h_o_trialWay h_o_trial h_o_otherTrial h_o_sumsRe h_o_sumsIm h_o_tally h_o_image h_o_tape h_o_wave_wasRe h_o_wave_wasIm h_o_wave_halved h_o_way_shifts o_imageKept o_taped o_wave_exp o_wave_done o_wave_backward o_way_size o_way_log o_way_wordBits o_way_limit o_way_radix o_way_order o_way_near o_way_seed o_way_stages o_wave_im o_wave_re) (wX9_peak cI cJ cZ h_o h_o_wave h_o_way h_o_wave_im h_o_wave_re h_o_past h_o_notes h_o_ring h_o_turns h_o_beater h_o_reader h_o_dice h_o_trialWay h_o_trial h_o_otherTrial h_o_sumsRe h_o_sumsIm h_o_tally h_o_image h_o_tape h_o_wave_wasRe h_o_wave_wasIm h_o_wave_halved h_o_way_shifts o_imageKept o_taped o_wave_exp o_wave_done o_wave_backward o_way_size o_way_log o_way_wordBits o_way_limit o_way_radix o_way_order o_way_near o_way_seed o_way_stages o_wave_im o_wave_re) (some (.int r))) 0 0 (va_A (wX9_peak cI cJ cZ h_o h_o_wave h_o_way h_o_wave_im h_o_wave_re h_o_past h_o_notes h_o_ring h_o_turns h_o_beater h_o_reader h_o_dice h_o_trialWay h_o_trial h_o_otherTrial h_o_sumsRe h_o_sumsIm h_o_tally h_o_image h_o_tape h_o_wave_wasRe h_o_wave_wasIm h_o_wave_halved h_o_way_shifts o_imageKept o_taped o_wave_exp o_wave_done o_wave_backward o_way_size o_way_log o_way_wordBits o_way_limit o_way_radix o_way_order o_way_near o_way_seed o_way_stages o_wave_im o_wave_re) sz) := by
  refine met_i (cc := cX9_peak) (maxL := 4) (plainFor_of_name (by decide)) (Nat.le_of_ble_eq_true rfl) (fun p e s m below meth c A ls Q hx hb hml hts hown hK hP hD hS hA hl hret => ?_)
  have hown : s.vm.findClass RX9 = some m.cls := hown
  have hl : lv_has ls 4 [(0, .ref h_o), (1, .int p1)] := hl
  have j46 : ∀ (k24 : Int32 → Int32 → Int32 → Option (Int32)), (∀ (v1 : Int32) (v2 : Int32) (v3 : Int32) (H : Heap) (locs : List Loc) (ls : Array Slot), k24 v1 v2 v3 = some r → va_P G vwCl (wX9_peak cI cJ cZ h_o h_o_wave h_o_way h_o_wave_im h_o_wave_re h_o_past h_o_notes h_o_ring h_o_turns h_o_beater h_o_reader h_o_dice h_o_trialWay h_o_trial h_o_otherTrial h_o_sumsRe h_o_sumsIm h_o_tally h_o_image h_o_tape h_o_wave_wasRe h_o_wave_wasIm h_o_wave_halved h_o_way_shifts o_imageKept o_taped o_wave_exp o_wave_done o_wave_backward o_way_size o_way_log o_way_wordBits o_way_limit o_way_radix o_way_order o_way_near o_way_seed o_way_stages o_wave_im o_wave_re) H → va_D A (wX9_peak cI cJ cZ h_o h_o_wave h_o_way h_o_wave_im h_o_wave_re h_o_past h_o_notes h_o_ring h_o_turns h_o_beater h_o_reader h_o_dice h_o_trialWay h_o_trial h_o_otherTrial h_o_sumsRe h_o_sumsIm h_o_tally h_o_image h_o_tape h_o_wave_wasRe h_o_wave_wasIm h_o_wave_halved h_o_way_shifts o_imageKept o_taped o_wave_exp o_wave_done o_wave_backward o_way_size o_way_log o_way_wordBits o_way_limit o_way_radix o_way_order o_way_near o_way_seed o_way_stages o_wave_im o_wave_re) → va_S A s.heap H locs → lv_has ls 4 [(0, .ref h_o), (1, .int v1), (2, .int v2), (3, .int v3)] → W p l e ({ frames := 2, cells := 0, slots := 0, locals := 50 } : Room) s m ([.ref h_o, .int p1] : List Value).toArray below meth c H locs 0 0 Q (F0 m 24 ls [])) → ∀ (v1 : Int32) (v2 : Int32) (v3 : Int32) (H : Heap) (locs : List Loc) (ls : Array Slot), fX9_peak_46 o_way_size o_wave_im o_wave_re k24 v1 v2 v3 = some r → va_P G vwCl (wX9_peak cI cJ cZ h_o h_o_wave h_o_way h_o_wave_im h_o_wave_re h_o_past h_o_notes h_o_ring h_o_turns h_o_beater h_o_reader h_o_dice h_o_trialWay h_o_trial h_o_otherTrial h_o_sumsRe h_o_sumsIm h_o_tally h_o_image h_o_tape h_o_wave_wasRe h_o_wave_wasIm h_o_wave_halved h_o_way_shifts o_imageKept o_taped o_wave_exp o_wave_done o_wave_backward o_way_size o_way_log o_way_wordBits o_way_limit o_way_radix o_way_order o_way_near o_way_seed o_way_stages o_wave_im o_wave_re) H → va_D A (wX9_peak cI cJ cZ h_o h_o_wave h_o_way h_o_wave_im h_o_wave_re h_o_past h_o_notes h_o_ring h_o_turns h_o_beater h_o_reader h_o_dice h_o_trialWay h_o_trial h_o_otherTrial h_o_sumsRe h_o_sumsIm h_o_tally h_o_image h_o_tape h_o_wave_wasRe h_o_wave_wasIm h_o_wave_halved h_o_way_shifts o_imageKept o_taped o_wave_exp o_wave_done o_wave_backward o_way_size o_way_log o_way_wordBits o_way_limit o_way_radix o_way_order o_way_near o_way_seed o_way_stages o_wave_im o_wave_re) → va_S A s.heap H locs → lv_has ls 4 [(0, .ref h_o), (1, .int v1), (2, .int v2), (3, .int v3)] → W p l e ({ frames := 2, cells := 0, slots := 0, locals := 50 } : Room) s m ([.ref h_o, .int p1] : List Value).toArray below meth c H locs 0 0 Q (F0 m 46 ls []) := by
    intro k24 hk24 v1 v2 v3 H locs ls hf hP hD hS hl
    unfold fX9_peak_46 at hf
    obtain ⟨v3_11, ev3_11⟩ : ∃ y : Int32, y = v3 + (1 : Int32) := ⟨_, rfl⟩
    have hf := nm_x ev3_11 hf
    refine lv_iinc (v := v3_11) (lv' := [(3, .int v3_11), (0, .ref h_o), (1, .int v1), (2, .int v2)]) hx hb dX9_peak_46 hl (k := 3) rfl (by rw [ev3_11]; rfl) (by decide) rfl (fun ls hl => ?_)
    refine lv_goto (tgt := 24) hx hb dX9_peak_49 (by decide) ?_
    exact hk24 v1 v2 v3_11 H locs ls hf hP hD hS (lv_sub hl [1, 2, 3, 0] rfl)
  have j24 : ∀ (n : Nat) (v1 : Int32) (v2 : Int32) (v3 : Int32) (H : Heap) (locs : List Loc) (ls : Array Slot), fX9_peak_24 o_way_size o_wave_im o_wave_re n v1 v2 v3 = some r → va_P G vwCl (wX9_peak cI cJ cZ h_o h_o_wave h_o_way h_o_wave_im h_o_wave_re h_o_past h_o_notes h_o_ring h_o_turns h_o_beater h_o_reader h_o_dice h_o_trialWay h_o_trial h_o_otherTrial h_o_sumsRe h_o_sumsIm h_o_tally h_o_image h_o_tape h_o_wave_wasRe h_o_wave_wasIm h_o_wave_halved h_o_way_shifts o_imageKept o_taped o_wave_exp o_wave_done o_wave_backward o_way_size o_way_log o_way_wordBits o_way_limit o_way_radix o_way_order o_way_near o_way_seed o_way_stages o_wave_im o_wave_re) H → va_D A (wX9_peak cI cJ cZ h_o h_o_wave h_o_way h_o_wave_im h_o_wave_re h_o_past h_o_notes h_o_ring h_o_turns h_o_beater h_o_reader h_o_dice h_o_trialWay h_o_trial h_o_otherTrial h_o_sumsRe h_o_sumsIm h_o_tally h_o_image h_o_tape h_o_wave_wasRe h_o_wave_wasIm h_o_wave_halved h_o_way_shifts o_imageKept o_taped o_wave_exp o_wave_done o_wave_backward o_way_size o_way_log o_way_wordBits o_way_limit o_way_radix o_way_order o_way_near o_way_seed o_way_stages o_wave_im o_wave_re) → va_S A s.heap H locs → lv_has ls 4 [(0, .ref h_o), (1, .int v1), (2, .int v2), (3, .int v3)] → W p l e ({ frames := 2, cells := 0, slots := 0, locals := 50 } : Room) s m ([.ref h_o, .int p1] : List Value).toArray below meth c H locs 0 0 Q (F0 m 24 ls []) := by
    intro n
    induction n with
    | zero =>
      intro v1 v2 v3 H locs ls hf
      have hf : (none : Option (Int32)) = some r := hf
      cases hf
    | succ n ih =>
      intro v1 v2 v3 H locs ls hf hP hD hS hl
      rw [fX9_peak_24.eq_2] at hf
      refine lv_iload_n hx hb dX9_peak_24 rfl (lv_at hl 3 rfl) ?_
      refine lv_aload_n hx hb dX9_peak_25 rfl (lv_at hl 0 rfl) ?_
      refine rd (ci := 9) (C := RX9) (T := TX9) (N := 19) hx hb hts inX9 hown hK hP 0 0 rfl rfl (by decide) (hts _ q_fX9_10) rfl dX9_peak_26 ?_
      refine rd (ci := 8) (C := RX8) (T := TX8) (N := 10) hx hb hts inX8 hown hK hP 2 0 rfl rfl (by decide) (hts _ q_fX9_115) rfl dX9_peak_29 ?_
      refine lv_icmp_ge (tgt := 52) hx hb dX9_peak_32 (by decide) (fun c_7 => ?_) (fun c_7 => ?_)
      · have hf := it_t c_7 hf
        refine lv_iload_n hx hb dX9_peak_52 rfl (lv_at hl 2 rfl) ?_
        cases hf
        exact hret _ _ _ _ dX9_peak_53 hP hD hS
      · have hf := it_f c_7 hf
        refine lv_aload_n hx hb dX9_peak_35 rfl (lv_at hl 0 rfl) ?_
        refine lv_iload_n hx hb dX9_peak_36 rfl (lv_at hl 3 rfl) ?_
        obtain ⟨r_8, e_9, hf⟩ := bd1_x hf
        refine call_v [.int v3] [] ⟨hx, hb, hml, hown, hts⟩ hK hP hD hS hA hl.1 (tX9_louderOnes l G cI cJ cZ H.size h_o h_o_wave h_o_way h_o_wave_im h_o_wave_re h_o_past h_o_notes h_o_ring h_o_turns h_o_beater h_o_reader h_o_dice h_o_trialWay h_o_trial h_o_otherTrial h_o_sumsRe h_o_sumsIm h_o_tally h_o_image h_o_tape h_o_wave_wasRe h_o_wave_wasIm h_o_wave_halved h_o_way_shifts o_imageKept o_taped o_wave_exp o_wave_done o_wave_backward o_way_size o_way_log o_way_wordBits o_way_limit o_way_radix o_way_order o_way_near o_way_seed o_way_stages o_wave_im o_wave_re v3 r_8 e_9) (cwV 1 hts (gv q_mX9_371 q_i_yX9_louderOnes q_s_yX9_louderOnes q_n_RX9 q_k_yX9_louderOnes) rfl rfl rfl (by decide +kernel) ⟨by decide, by decide⟩) rfl rfl (Nat.le_of_ble_eq_true rfl) dX9_peak_37 ⟨Nat.zero_le _, Nat.zero_le _⟩ (ci := 9) rfl 0 rfl [0, 1, 2, 3, 4] [] [0, 1, 2, 3, 4] rfl rfl (ws2 := (wX9_peak cI cJ cZ h_o h_o_wave h_o_way h_o_wave_im h_o_wave_re h_o_past h_o_notes h_o_ring h_o_turns h_o_beater h_o_reader h_o_dice h_o_trialWay h_o_trial h_o_otherTrial h_o_sumsRe h_o_sumsIm h_o_tally h_o_image h_o_tape h_o_wave_wasRe h_o_wave_wasIm h_o_wave_halved h_o_way_shifts o_imageKept o_taped o_wave_exp o_wave_done o_wave_backward o_way_size o_way_log o_way_wordBits o_way_limit o_way_radix o_way_order o_way_near o_way_seed o_way_stages o_wave_im o_wave_re)) rfl (fun H locs hP hD hS => ?_)
        refine W.eq (g2 := F0 m 40 ls [.int r_8]) rfl ?_
        refine lv_iload_n hx hb dX9_peak_40 rfl (lv_at hl 1 rfl) ?_
        refine lv_icmp_ne (tgt := 46) hx hb dX9_peak_41 (by decide) (fun c_10 => ?_) (fun c_10 => ?_)
        · have hf := it_f c_10 hf
          exact j46 (fX9_peak_24 o_way_size o_wave_im o_wave_re n) ih v1 v2 v3 H locs ls hf hP hD hS (lv_sub hl [0, 1, 2, 3] rfl)
        · have hf := it_t c_10 hf
          refine lv_iload_n hx hb dX9_peak_44 rfl (lv_at hl 3 rfl) ?_
          refine lv_istore_n (lv' := [(2, .int v3), (0, .ref h_o), (1, .int v1), (3, .int v3)]) hx hb dX9_peak_45 rfl hl (by decide) rfl (fun ls hl => ?_)
          exact j46 (fX9_peak_24 o_way_size o_wave_im o_wave_re n) ih v1 v3 v3 H locs ls hf hP hD hS (lv_sub hl [1, 2, 0, 3] rfl)
  unfold fX9_peak at hf
  obtain ⟨H, eH⟩ : ∃ H, H = s.heap := ⟨_, rfl⟩
  obtain ⟨locs, elocs⟩ : ∃ z : List Loc, z = [] := ⟨_, rfl⟩
  have hP : va_P G vwCl (wX9_peak cI cJ cZ h_o h_o_wave h_o_way h_o_wave_im h_o_wave_re h_o_past h_o_notes h_o_ring h_o_turns h_o_beater h_o_reader h_o_dice h_o_trialWay h_o_trial h_o_otherTrial h_o_sumsRe h_o_sumsIm h_o_tally h_o_image h_o_tape h_o_wave_wasRe h_o_wave_wasIm h_o_wave_halved h_o_way_shifts o_imageKept o_taped o_wave_exp o_wave_done o_wave_backward o_way_size o_way_log o_way_wordBits o_way_limit o_way_radix o_way_order o_way_near o_way_seed o_way_stages o_wave_im o_wave_re) H := by rw [eH]; exact hP
  have hS : va_S A s.heap H locs := by rw [eH, elocs]; exact hS
  suffices hgo : W p l e ({ frames := 2, cells := 0, slots := 0, locals := 50 } : Room) s m ([.ref h_o, .int p1] : List Value).toArray below meth c H locs 0 0 Q (F0 m 0 ls []) by rw [eH, elocs] at hgo; exact hgo
  clear eH elocs
  refine lv_aload_n hx hb dX9_peak_0 rfl (lv_at hl 0 rfl) ?_
  refine lv_iload_n hx hb dX9_peak_1 rfl (lv_at hl 1 rfl) ?_
  obtain ⟨r_1, e_2, hf⟩ := bd1_x hf
  refine call_v [.int p1] [] ⟨hx, hb, hml, hown, hts⟩ hK hP hD hS hA hl.1 (tX9_isPlace l G cI cJ cZ H.size h_o h_o_way h_o_wave h_o_past h_o_notes h_o_ring h_o_turns h_o_beater h_o_reader h_o_dice h_o_trialWay h_o_trial h_o_otherTrial h_o_sumsRe h_o_sumsIm h_o_tally h_o_image h_o_tape h_o_way_shifts o_imageKept o_taped o_way_size o_way_log o_way_wordBits o_way_limit o_way_radix o_way_order o_way_near o_way_seed o_way_stages p1 r_1 e_2) (cwV 1 hts (gv q_mX9_159 q_i_yX9_isPlace q_s_yX9_isPlace q_n_RX9 q_k_yX9_isPlace) rfl rfl rfl (by decide +kernel) ⟨by decide, by decide⟩) rfl rfl (Nat.le_of_ble_eq_true rfl) dX9_peak_2 ⟨Nat.zero_le _, Nat.zero_le _⟩ (ci := 9) rfl 0 rfl [0, 2] [1, 3, 4] [3, 0, 4, 1, 2] rfl rfl (ws2 := (wX9_peak cI cJ cZ h_o h_o_wave h_o_way h_o_wave_im h_o_wave_re h_o_past h_o_notes h_o_ring h_o_turns h_o_beater h_o_reader h_o_dice h_o_trialWay h_o_trial h_o_otherTrial h_o_sumsRe h_o_sumsIm h_o_tally h_o_image h_o_tape h_o_wave_wasRe h_o_wave_wasIm h_o_wave_halved h_o_way_shifts o_imageKept o_taped o_wave_exp o_wave_done o_wave_backward o_way_size o_way_log o_way_wordBits o_way_limit o_way_radix o_way_order o_way_near o_way_seed o_way_stages o_wave_im o_wave_re)) rfl (fun H locs hP hD hS => ?_)
  refine W.eq (g2 := F0 m 5 ls [.int r_1]) rfl ?_
  refine lv_if_ne (tgt := 10) hx hb dX9_peak_5 (by decide) (fun c_3 => ?_) (fun c_3 => ?_)
  · have hf := it_f c_3 hf
    refine lv_aload_n hx hb dX9_peak_10 rfl (lv_at hl 0 rfl) ?_
    obtain ⟨r_4, e_5, hf⟩ := bd1_x hf
    refine call_v [] [] ⟨hx, hb, hml, hown, hts⟩ hK hP hD hS hA hl.1 (tX9_isDoneForward l G cI cJ cZ H.size h_o h_o_wave h_o_way h_o_past h_o_notes h_o_ring h_o_turns h_o_beater h_o_reader h_o_dice h_o_trialWay h_o_trial h_o_otherTrial h_o_sumsRe h_o_sumsIm h_o_tally h_o_image h_o_tape h_o_wave_re h_o_wave_im h_o_wave_wasRe h_o_wave_wasIm h_o_wave_halved h_o_way_shifts o_imageKept o_taped o_wave_exp o_wave_done o_wave_backward o_way_size o_way_log o_way_wordBits o_way_limit o_way_radix o_way_order o_way_near o_way_seed o_way_stages r_4 e_5) (cwV 0 hts (gv q_mX9_286 q_i_yX9_isDoneForward q_s_yX9_isDoneForward q_n_RX9 q_k_yX9_isDoneForward) rfl rfl rfl (by decide +kernel) ⟨by decide, by decide⟩) rfl rfl (Nat.le_of_ble_eq_true rfl) dX9_peak_11 ⟨Nat.zero_le _, Nat.zero_le _⟩ (ci := 9) rfl 0 rfl [0, 1, 2] [3, 4] [2, 3, 4, 0, 1] rfl rfl (ws2 := (wX9_peak cI cJ cZ h_o h_o_wave h_o_way h_o_wave_im h_o_wave_re h_o_past h_o_notes h_o_ring h_o_turns h_o_beater h_o_reader h_o_dice h_o_trialWay h_o_trial h_o_otherTrial h_o_sumsRe h_o_sumsIm h_o_tally h_o_image h_o_tape h_o_wave_wasRe h_o_wave_wasIm h_o_wave_halved h_o_way_shifts o_imageKept o_taped o_wave_exp o_wave_done o_wave_backward o_way_size o_way_log o_way_wordBits o_way_limit o_way_radix o_way_order o_way_near o_way_seed o_way_stages o_wave_im o_wave_re)) rfl (fun H locs hP hD hS => ?_)
    refine W.eq (g2 := F0 m 14 ls [.int r_4]) rfl ?_
    refine lv_if_ne (tgt := 20) hx hb dX9_peak_14 (by decide) (fun c_6 => ?_) (fun c_6 => ?_)
    · have hf := it_f c_6 hf
      refine lv_iconst (v := (0 : Int32)) hx hb dX9_peak_20 (by decide) ?_
      refine lv_istore_n (lv' := [(2, .int (0 : Int32)), (0, .ref h_o), (1, .int p1)]) hx hb dX9_peak_21 rfl hl (by decide) rfl (fun ls hl => ?_)
      refine lv_iconst (v := (0 : Int32)) hx hb dX9_peak_22 (by decide) ?_
      refine lv_istore_n (lv' := [(3, .int (0 : Int32)), (2, .int (0 : Int32)), (0, .ref h_o), (1, .int p1)]) hx hb dX9_peak_23 rfl hl (by decide) rfl (fun ls hl => ?_)
      exact j24 FU p1 (0 : Int32) (0 : Int32) H locs ls hf hP hD hS (lv_sub hl [2, 3, 1, 0] rfl)
    · have hf := it_t c_6 hf
      refine lv_bipush (v := (-2 : Int32)) hx hb dX9_peak_17 (by decide) ?_
      cases hf
      exact hret _ _ _ _ dX9_peak_19 hP hD hS
  · have hf := it_t c_3 hf
    refine lv_iconst (v := (-1 : Int32)) hx hb dX9_peak_8 (by decide) ?_
    cases hf
    exact hret _ _ _ _ dX9_peak_9 hP hD hS
def wX9_mirror (cI cJ cZ : ClassId) (h_o h_o_wave h_o_way h_o_wave_im h_o_wave_re h_o_past h_o_notes h_o_ring h_o_turns h_o_beater h_o_reader h_o_dice h_o_trialWay h_o_trial h_o_otherTrial h_o_sumsRe h_o_sumsIm h_o_tally h_o_image h_o_tape h_o_wave_wasRe h_o_wave_wasIm h_o_wave_halved h_o_way_shifts : Nat) (o_imageKept : Int32) (o_taped : Int32) (o_wave_exp : Int32) (o_wave_done : Int32) (o_wave_backward : Int32) (o_way_size : Int32) (o_way_log : Int32) (o_way_wordBits : Int32) (o_way_limit : Int32) (o_way_radix : Int32) (o_way_order : Int32) (o_way_near : Int32) (o_way_seed : Int32) (o_way_stages : Int32) (o_wave_im : Nat → Int32) (o_wave_re : Nat → Int32) : va_W := [(h_o, .inr (9, [.ref h_o_way, .ref h_o_wave, .ref h_o_past, .ref h_o_notes, .ref h_o_ring, .ref h_o_turns, .ref h_o_beater, .ref h_o_reader, .ref h_o_dice, .ref h_o_trialWay, .ref h_o_trial, .ref h_o_otherTrial, .ref h_o_sumsRe, .ref h_o_sumsIm, .ref h_o_tally, .ref h_o_image, .int o_imageKept, .ref h_o_tape, .int o_taped])), (h_o_wave, .inr (7, [.ref h_o_wave_re, .ref h_o_wave_im, .ref h_o_wave_wasRe, .ref h_o_wave_wasIm, .ref h_o_wave_halved, .int o_wave_exp, .int o_wave_done, .int o_wave_backward])), (h_o_way, .inr (8, [.int o_way_size, .int o_way_log, .int o_way_wordBits, .int o_way_limit, .int o_way_radix, .int o_way_order, .int o_way_near, .int o_way_seed, .int o_way_stages, .ref h_o_way_shifts])), (h_o_wave_im, .inl (cI, 32, .inl o_wave_im)), (h_o_wave_re, .inl (cI, 32, .inl o_wave_re))]
def fX9_mirror_14 (o_way_size : Int32) (o_wave_im : Nat → Int32) (o_wave_re : Nat → Int32) : Nat → Int32 → Int32 → Option (Int32)
  | 0, _, _ => none
  | n + 1, v1, v2 =>
    if o_way_size ≤ v2 then (
      some v1
    ) else (
      bd1 (fX9_mirrored o_way_size v2) (fun r_5 =>
      gd (inb v2 32) (
      gd (inb r_5 32) (
      nm (if 0 ≤ ((o_wave_re (Int32.toNatClampNeg v2)) - (o_wave_re (Int32.toNatClampNeg r_5))) then ((o_wave_re (Int32.toNatClampNeg v2)) - (o_wave_re (Int32.toNatClampNeg r_5))) else 0 - ((o_wave_re (Int32.toNatClampNeg v2)) - (o_wave_re (Int32.toNatClampNeg r_5)))) (fun m_9 =>
      gd (inb v2 32) (
      gd (inb r_5 32) (
      nm (if 0 ≤ ((o_wave_im (Int32.toNatClampNeg v2)) + (o_wave_im (Int32.toNatClampNeg r_5))) then ((o_wave_im (Int32.toNatClampNeg v2)) + (o_wave_im (Int32.toNatClampNeg r_5))) else 0 - ((o_wave_im (Int32.toNatClampNeg v2)) + (o_wave_im (Int32.toNatClampNeg r_5)))) (fun m_12 =>
      nm (if m_9 < m_12 then m_12 else m_9) (fun m_13 =>
      nm (if v1 < m_13 then m_13 else v1) (fun m_14 =>
      nm (v2 + (1 : Int32)) (fun v2_15 =>
      fX9_mirror_14 o_way_size o_wave_im o_wave_re n m_14 v2_15))))))))))
    )
def fX9_mirror (o_wave_done : Int32) (o_wave_backward : Int32) (o_way_size : Int32) (o_way_stages : Int32) (o_wave_im : Nat → Int32) (o_wave_re : Nat → Int32) : Option (Int32) :=
  bd1 (fX9_isDoneForward o_wave_done o_wave_backward o_way_stages) (fun r_1 =>
  if r_1 = 0 then (
    some (-2 : Int32)
  ) else (
    fX9_mirror_14 o_way_size o_wave_im o_wave_re FU (0 : Int32) (0 : Int32)
  ))
set_option maxHeartbeats 4000000 in
set_option maxRecDepth 100000 in
theorem tX9_mirror (l : Launch) (G : va_G) (cI cJ cZ : ClassId) (sz : Nat) (h_o h_o_wave h_o_way h_o_wave_im h_o_wave_re h_o_past h_o_notes h_o_ring h_o_turns h_o_beater h_o_reader h_o_dice h_o_trialWay h_o_trial h_o_otherTrial h_o_sumsRe h_o_sumsIm h_o_tally h_o_image h_o_tape h_o_wave_wasRe h_o_wave_wasIm h_o_wave_halved h_o_way_shifts : Nat) (o_imageKept : Int32) (o_taped : Int32) (o_wave_exp : Int32) (o_wave_done : Int32) (o_wave_backward : Int32) (o_way_size : Int32) (o_way_log : Int32) (o_way_wordBits : Int32) (o_way_limit : Int32) (o_way_radix : Int32) (o_way_order : Int32) (o_way_near : Int32) (o_way_seed : Int32) (o_way_stages : Int32) (o_wave_im : Nat → Int32) (o_wave_re : Nat → Int32) (r : Int32) (hf : fX9_mirror o_wave_done o_wave_backward o_way_size o_way_stages o_wave_im o_wave_re = some r) : Met l yX9_mirror (Cond.code yX9_mirror cX9_mirror 6 (some .int) :: BIG) ({ frames := 1, cells := 0, slots := 0, locals := 21 } : Room) (cP G (TY3 cI cJ cZ) [.ref h_o] sz (wX9_mirror cI cJ cZ h_o h_o_wave h_o_way h_o_wave_im h_o_wave_re h_o_past h_o_notes h_o_ring h_o_turns h_o_beater h_o_reader h_o_dice h_o_trialWay h_o_trial h_o_otherTrial h_o_sumsRe h_o_sumsIm h_o_tally h_o_image h_o_tape h_o_wave_wasRe h_o_wave_wasIm h_o_wave_halved h_o_way_shifts o_imageKept o_taped o_wave_exp o_wave_done o_wave_backward o_way_size o_way_log o_way_wordBits o_way_limit o_way_radix o_way_order o_way_near o_way_seed o_way_stages o_wave_im o_wave_re)) (cQ G (TY3 cI cJ cZ) sz (wX9_mirror cI cJ cZ h_o h_o_wave h_o_way h_o_wave_im h_o_wave_re h_o_past h_o_notes h_o_ring h_o_turns h_o_beater h_o_reader h_o_dice h_o_trialWay h_o_trial h_o_otherTrial h_o_sumsRe h_o_sumsIm h_o_tally h_o_image h_o_tape h_o_wave_wasRe h_o_wave_wasIm h_o_wave_halved h_o_way_shifts o_imageKept o_taped o_wave_exp o_wave_done o_wave_backward o_way_size o_way_log o_way_wordBits o_way_limit o_way_radix o_way_order o_way_near o_way_seed o_way_stages o_wave_im o_wave_re) (wX9_mirror cI cJ cZ h_o h_o_wave h_o_way h_o_wave_im h_o_wave_re h_o_past h_o_notes h_o_ring h_o_turns h_o_beater h_o_reader h_o_dice h_o_trialWay h_o_trial h_o_otherTrial h_o_sumsRe h_o_sumsIm h_o_tally h_o_image h_o_tape h_o_wave_wasRe h_o_wave_wasIm h_o_wave_halved h_o_way_shifts o_imageKept o_taped o_wave_exp o_wave_done o_wave_backward o_way_size o_way_log o_way_wordBits o_way_limit o_way_radix o_way_order o_way_near o_way_seed o_way_stages o_wave_im o_wave_re) (some (.int r))) 0 0 (va_A (wX9_mirror cI cJ cZ h_o h_o_wave h_o_way h_o_wave_im h_o_wave_re h_o_past h_o_notes h_o_ring h_o_turns h_o_beater h_o_reader h_o_dice h_o_trialWay h_o_trial h_o_otherTrial h_o_sumsRe h_o_sumsIm h_o_tally h_o_image h_o_tape h_o_wave_wasRe h_o_wave_wasIm h_o_wave_halved h_o_way_shifts o_imageKept o_taped o_wave_exp o_wave_done o_wave_backward o_way_size o_way_log o_way_wordBits o_way_limit o_way_radix o_way_order o_way_near o_way_seed o_way_stages o_wave_im o_wave_re) sz) := by
  refine met_i (cc := cX9_mirror) (maxL := 6) (plainFor_of_name (by decide)) (Nat.le_of_ble_eq_true rfl) (fun p e s m below meth c A ls Q hx hb hml hts hown hK hP hD hS hA hl hret => ?_)
  have hown : s.vm.findClass RX9 = some m.cls := hown
  have hl : lv_has ls 6 [(0, .ref h_o)] := hl
  have j14 : ∀ (n : Nat) (v1 : Int32) (v2 : Int32) (H : Heap) (locs : List Loc) (ls : Array Slot), fX9_mirror_14 o_way_size o_wave_im o_wave_re n v1 v2 = some r → va_P G vwCl (wX9_mirror cI cJ cZ h_o h_o_wave h_o_way h_o_wave_im h_o_wave_re h_o_past h_o_notes h_o_ring h_o_turns h_o_beater h_o_reader h_o_dice h_o_trialWay h_o_trial h_o_otherTrial h_o_sumsRe h_o_sumsIm h_o_tally h_o_image h_o_tape h_o_wave_wasRe h_o_wave_wasIm h_o_wave_halved h_o_way_shifts o_imageKept o_taped o_wave_exp o_wave_done o_wave_backward o_way_size o_way_log o_way_wordBits o_way_limit o_way_radix o_way_order o_way_near o_way_seed o_way_stages o_wave_im o_wave_re) H → va_D A (wX9_mirror cI cJ cZ h_o h_o_wave h_o_way h_o_wave_im h_o_wave_re h_o_past h_o_notes h_o_ring h_o_turns h_o_beater h_o_reader h_o_dice h_o_trialWay h_o_trial h_o_otherTrial h_o_sumsRe h_o_sumsIm h_o_tally h_o_image h_o_tape h_o_wave_wasRe h_o_wave_wasIm h_o_wave_halved h_o_way_shifts o_imageKept o_taped o_wave_exp o_wave_done o_wave_backward o_way_size o_way_log o_way_wordBits o_way_limit o_way_radix o_way_order o_way_near o_way_seed o_way_stages o_wave_im o_wave_re) → va_S A s.heap H locs → lv_has ls 6 [(0, .ref h_o), (1, .int v1), (2, .int v2)] → W p l e ({ frames := 1, cells := 0, slots := 0, locals := 21 } : Room) s m ([.ref h_o] : List Value).toArray below meth c H locs 0 0 Q (F0 m 14 ls []) := by
    intro n
    induction n with
    | zero =>
      intro v1 v2 H locs ls hf
      have hf : (none : Option (Int32)) = some r := hf
      cases hf
    | succ n ih =>
      intro v1 v2 H locs ls hf hP hD hS hl
      rw [fX9_mirror_14.eq_2] at hf
      refine lv_iload_n hx hb dX9_mirror_14 rfl (lv_at hl 2 rfl) ?_
      refine lv_aload_n hx hb dX9_mirror_15 rfl (lv_at hl 0 rfl) ?_
      refine rd (ci := 9) (C := RX9) (T := TX9) (N := 19) hx hb hts inX9 hown hK hP 0 0 rfl rfl (by decide) (hts _ q_fX9_10) rfl dX9_mirror_16 ?_
      refine rd (ci := 8) (C := RX8) (T := TX8) (N := 10) hx hb hts inX8 hown hK hP 2 0 rfl rfl (by decide) (hts _ q_fX9_115) rfl dX9_mirror_19 ?_
      refine lv_icmp_ge (tgt := 97) hx hb dX9_mirror_22 (by decide) (fun c_4 => ?_) (fun c_4 => ?_)
      · have hf := it_t c_4 hf
        refine lv_iload_n hx hb dX9_mirror_97 rfl (lv_at hl 1 rfl) ?_
        cases hf
        exact hret _ _ _ _ dX9_mirror_98 hP hD hS
      · have hf := it_f c_4 hf
        refine lv_aload_n hx hb dX9_mirror_25 rfl (lv_at hl 0 rfl) ?_
        refine lv_iload_n hx hb dX9_mirror_26 rfl (lv_at hl 2 rfl) ?_
        obtain ⟨r_5, e_6, hf⟩ := bd1_x hf
        refine call_v [.int v2] [] ⟨hx, hb, hml, hown, hts⟩ hK hP hD hS hA hl.1 (tX9_mirrored l G cI cJ cZ H.size h_o h_o_way h_o_wave h_o_past h_o_notes h_o_ring h_o_turns h_o_beater h_o_reader h_o_dice h_o_trialWay h_o_trial h_o_otherTrial h_o_sumsRe h_o_sumsIm h_o_tally h_o_image h_o_tape h_o_way_shifts o_imageKept o_taped o_way_size o_way_log o_way_wordBits o_way_limit o_way_radix o_way_order o_way_near o_way_seed o_way_stages v2 r_5 e_6) (cwV 1 hts (gv q_mX9_374 q_i_yX9_mirrored q_s_yX9_mirrored q_n_RX9 q_k_yX9_mirrored) rfl rfl rfl (by decide +kernel) ⟨by decide, by decide⟩) rfl rfl (Nat.le_of_ble_eq_true rfl) dX9_mirror_27 ⟨Nat.zero_le _, Nat.zero_le _⟩ (ci := 9) rfl 0 rfl [0, 2] [1, 3, 4] [3, 0, 4, 1, 2] rfl rfl (ws2 := (wX9_mirror cI cJ cZ h_o h_o_wave h_o_way h_o_wave_im h_o_wave_re h_o_past h_o_notes h_o_ring h_o_turns h_o_beater h_o_reader h_o_dice h_o_trialWay h_o_trial h_o_otherTrial h_o_sumsRe h_o_sumsIm h_o_tally h_o_image h_o_tape h_o_wave_wasRe h_o_wave_wasIm h_o_wave_halved h_o_way_shifts o_imageKept o_taped o_wave_exp o_wave_done o_wave_backward o_way_size o_way_log o_way_wordBits o_way_limit o_way_radix o_way_order o_way_near o_way_seed o_way_stages o_wave_im o_wave_re)) rfl (fun H locs hP hD hS => ?_)
        refine W.eq (g2 := F0 m 30 ls [.int r_5]) rfl ?_
        refine lv_istore_n (lv' := [(3, .int r_5), (0, .ref h_o), (1, .int v1), (2, .int v2)]) hx hb dX9_mirror_30 rfl hl (by decide) rfl (fun ls hl => ?_)
        refine lv_aload_n hx hb dX9_mirror_31 rfl (lv_at hl 1 rfl) ?_
        refine rd (ci := 9) (C := RX9) (T := TX9) (N := 19) hx hb hts inX9 hown hK hP 0 1 rfl rfl (by decide) (hts _ q_fX9_19) rfl dX9_mirror_32 ?_
        refine rd (ci := 7) (C := RX7) (T := TX7) (N := 8) hx hb hts inX7 hown hK hP 1 0 rfl rfl (by decide) (hts _ q_fX9_175) rfl dX9_mirror_35 ?_
        refine lv_iload_n hx hb dX9_mirror_38 rfl (lv_at hl 3 rfl) ?_
        obtain ⟨g_7, hf⟩ := gd_x hf
        refine va_iald hx hb hK hP 4 0 rfl rfl (inb_x g_7) dX9_mirror_39 ?_
        refine lv_aload_n hx hb dX9_mirror_40 rfl (lv_at hl 1 rfl) ?_
        refine rd (ci := 9) (C := RX9) (T := TX9) (N := 19) hx hb hts inX9 hown hK hP 0 1 rfl rfl (by decide) (hts _ q_fX9_19) rfl dX9_mirror_41 ?_
        refine rd (ci := 7) (C := RX7) (T := TX7) (N := 8) hx hb hts inX7 hown hK hP 1 0 rfl rfl (by decide) (hts _ q_fX9_175) rfl dX9_mirror_44 ?_
        refine lv_iload_n hx hb dX9_mirror_47 rfl (lv_at hl 0 rfl) ?_
        obtain ⟨g_8, hf⟩ := gd_x hf
        refine va_iald hx hb hK hP 4 0 rfl rfl (inb_x g_8) dX9_mirror_48 ?_
        refine lv_isub hx hb dX9_mirror_49 ?_
        refine va_mabs hx hb (hml.trans hl.1.symm) hown (hts _ q_mX9_377) (hts _ q_s_Lib_Math_abs_name) (hts _ q_n_java_lang_Math) (hts _ q_k_Lib_Math_abs_name) (by decide) (Nat.le_of_ble_eq_true rfl) (Nat.zero_le _) (Nat.zero_le _) dX9_mirror_50 ?_
        refine lv_topi (fun m_9 em_9 => ?_)
        have hf := nm_x em_9 hf
        refine lv_istore (lv' := [(4, .int m_9), (3, .int r_5), (0, .ref h_o), (1, .int v1), (2, .int v2)]) hx hb dX9_mirror_53 hl (by decide) rfl (fun ls hl => ?_)
        refine lv_aload_n hx hb dX9_mirror_55 rfl (lv_at hl 2 rfl) ?_
        refine rd (ci := 9) (C := RX9) (T := TX9) (N := 19) hx hb hts inX9 hown hK hP 0 1 rfl rfl (by decide) (hts _ q_fX9_19) rfl dX9_mirror_56 ?_
        refine rd (ci := 7) (C := RX7) (T := TX7) (N := 8) hx hb hts inX7 hown hK hP 1 1 rfl rfl (by decide) (hts _ q_fX9_176) rfl dX9_mirror_59 ?_
        refine lv_iload_n hx hb dX9_mirror_62 rfl (lv_at hl 4 rfl) ?_
        obtain ⟨g_10, hf⟩ := gd_x hf
        refine va_iald hx hb hK hP 3 0 rfl rfl (inb_x g_10) dX9_mirror_63 ?_
        refine lv_aload_n hx hb dX9_mirror_64 rfl (lv_at hl 2 rfl) ?_
        refine rd (ci := 9) (C := RX9) (T := TX9) (N := 19) hx hb hts inX9 hown hK hP 0 1 rfl rfl (by decide) (hts _ q_fX9_19) rfl dX9_mirror_65 ?_
        refine rd (ci := 7) (C := RX7) (T := TX7) (N := 8) hx hb hts inX7 hown hK hP 1 1 rfl rfl (by decide) (hts _ q_fX9_176) rfl dX9_mirror_68 ?_
        refine lv_iload_n hx hb dX9_mirror_71 rfl (lv_at hl 1 rfl) ?_
        obtain ⟨g_11, hf⟩ := gd_x hf
        refine va_iald hx hb hK hP 3 0 rfl rfl (inb_x g_11) dX9_mirror_72 ?_
        refine lv_iadd hx hb dX9_mirror_73 ?_
        refine va_mabs hx hb (hml.trans hl.1.symm) hown (hts _ q_mX9_377) (hts _ q_s_Lib_Math_abs_name) (hts _ q_n_java_lang_Math) (hts _ q_k_Lib_Math_abs_name) (by decide) (Nat.le_of_ble_eq_true rfl) (Nat.zero_le _) (Nat.zero_le _) dX9_mirror_74 ?_
        refine lv_topi (fun m_12 em_12 => ?_)
        have hf := nm_x em_12 hf
        refine lv_istore (lv' := [(5, .int m_12), (4, .int m_9), (3, .int r_5), (0, .ref h_o), (1, .int v1), (2, .int v2)]) hx hb dX9_mirror_77 hl (by decide) rfl (fun ls hl => ?_)
        refine lv_iload_n hx hb dX9_mirror_79 rfl (lv_at hl 4 rfl) ?_
        refine lv_iload hx hb dX9_mirror_80 (lv_at hl 1 rfl) ?_
        refine lv_iload hx hb dX9_mirror_82 (lv_at hl 0 rfl) ?_
        refine va_mmax hx hb (hml.trans hl.1.symm) hown (hts _ q_mX9_346) (hts _ q_s_Lib_Math_max_name) (hts _ q_n_java_lang_Math) (hts _ q_k_Lib_Math_max_name) (by decide) (Nat.le_of_ble_eq_true rfl) (Nat.zero_le _) (Nat.zero_le _) dX9_mirror_84 ?_
        refine lv_topi (fun m_13 em_13 => ?_)
        have hf := nm_x em_13 hf
        refine va_mmax hx hb (hml.trans hl.1.symm) hown (hts _ q_mX9_346) (hts _ q_s_Lib_Math_max_name) (hts _ q_n_java_lang_Math) (hts _ q_k_Lib_Math_max_name) (by decide) (Nat.le_of_ble_eq_true rfl) (Nat.zero_le _) (Nat.zero_le _) dX9_mirror_87 ?_
        refine lv_topi (fun m_14 em_14 => ?_)
        have hf := nm_x em_14 hf
        refine lv_istore_n (lv' := [(1, .int m_14), (5, .int m_12), (4, .int m_9), (3, .int r_5), (0, .ref h_o), (2, .int v2)]) hx hb dX9_mirror_90 rfl hl (by decide) rfl (fun ls hl => ?_)
        obtain ⟨v2_15, ev2_15⟩ : ∃ y : Int32, y = v2 + (1 : Int32) := ⟨_, rfl⟩
        have hf := nm_x ev2_15 hf
        refine lv_iinc (v := v2_15) (lv' := [(2, .int v2_15), (1, .int m_14), (5, .int m_12), (4, .int m_9), (3, .int r_5), (0, .ref h_o)]) hx hb dX9_mirror_91 hl (k := 5) rfl (by rw [ev2_15]; rfl) (by decide) rfl (fun ls hl => ?_)
        refine lv_goto (tgt := 14) hx hb dX9_mirror_94 (by decide) ?_
        exact ih m_14 v2_15 H locs ls hf hP hD hS (lv_sub hl [5, 1, 0] rfl)
  unfold fX9_mirror at hf
  obtain ⟨H, eH⟩ : ∃ H, H = s.heap := ⟨_, rfl⟩
  obtain ⟨locs, elocs⟩ : ∃ z : List Loc, z = [] := ⟨_, rfl⟩
  have hP : va_P G vwCl (wX9_mirror cI cJ cZ h_o h_o_wave h_o_way h_o_wave_im h_o_wave_re h_o_past h_o_notes h_o_ring h_o_turns h_o_beater h_o_reader h_o_dice h_o_trialWay h_o_trial h_o_otherTrial h_o_sumsRe h_o_sumsIm h_o_tally h_o_image h_o_tape h_o_wave_wasRe h_o_wave_wasIm h_o_wave_halved h_o_way_shifts o_imageKept o_taped o_wave_exp o_wave_done o_wave_backward o_way_size o_way_log o_way_wordBits o_way_limit o_way_radix o_way_order o_way_near o_way_seed o_way_stages o_wave_im o_wave_re) H := by rw [eH]; exact hP
  have hS : va_S A s.heap H locs := by rw [eH, elocs]; exact hS
  suffices hgo : W p l e ({ frames := 1, cells := 0, slots := 0, locals := 21 } : Room) s m ([.ref h_o] : List Value).toArray below meth c H locs 0 0 Q (F0 m 0 ls []) by rw [eH, elocs] at hgo; exact hgo
  clear eH elocs
  refine lv_aload_n hx hb dX9_mirror_0 rfl (lv_at hl 0 rfl) ?_
  obtain ⟨r_1, e_2, hf⟩ := bd1_x hf
  refine call_v [] [] ⟨hx, hb, hml, hown, hts⟩ hK hP hD hS hA hl.1 (tX9_isDoneForward l G cI cJ cZ H.size h_o h_o_wave h_o_way h_o_past h_o_notes h_o_ring h_o_turns h_o_beater h_o_reader h_o_dice h_o_trialWay h_o_trial h_o_otherTrial h_o_sumsRe h_o_sumsIm h_o_tally h_o_image h_o_tape h_o_wave_re h_o_wave_im h_o_wave_wasRe h_o_wave_wasIm h_o_wave_halved h_o_way_shifts o_imageKept o_taped o_wave_exp o_wave_done o_wave_backward o_way_size o_way_log o_way_wordBits o_way_limit o_way_radix o_way_order o_way_near o_way_seed o_way_stages r_1 e_2) (cwV 0 hts (gv q_mX9_286 q_i_yX9_isDoneForward q_s_yX9_isDoneForward q_n_RX9 q_k_yX9_isDoneForward) rfl rfl rfl (by decide +kernel) ⟨by decide, by decide⟩) rfl rfl (Nat.le_of_ble_eq_true rfl) dX9_mirror_1 ⟨Nat.zero_le _, Nat.zero_le _⟩ (ci := 9) rfl 0 rfl [0, 1, 2] [3, 4] [2, 3, 4, 0, 1] rfl rfl (ws2 := (wX9_mirror cI cJ cZ h_o h_o_wave h_o_way h_o_wave_im h_o_wave_re h_o_past h_o_notes h_o_ring h_o_turns h_o_beater h_o_reader h_o_dice h_o_trialWay h_o_trial h_o_otherTrial h_o_sumsRe h_o_sumsIm h_o_tally h_o_image h_o_tape h_o_wave_wasRe h_o_wave_wasIm h_o_wave_halved h_o_way_shifts o_imageKept o_taped o_wave_exp o_wave_done o_wave_backward o_way_size o_way_log o_way_wordBits o_way_limit o_way_radix o_way_order o_way_near o_way_seed o_way_stages o_wave_im o_wave_re)) rfl (fun H locs hP hD hS => ?_)
  refine W.eq (g2 := F0 m 4 ls [.int r_1]) rfl ?_
  refine lv_if_ne (tgt := 10) hx hb dX9_mirror_4 (by decide) (fun c_3 => ?_) (fun c_3 => ?_)
  · have hf := it_f c_3 hf
    refine lv_iconst (v := (0 : Int32)) hx hb dX9_mirror_10 (by decide) ?_
    refine lv_istore_n (lv' := [(1, .int (0 : Int32)), (0, .ref h_o)]) hx hb dX9_mirror_11 rfl hl (by decide) rfl (fun ls hl => ?_)
    refine lv_iconst (v := (0 : Int32)) hx hb dX9_mirror_12 (by decide) ?_
    refine lv_istore_n (lv' := [(2, .int (0 : Int32)), (1, .int (0 : Int32)), (0, .ref h_o)]) hx hb dX9_mirror_13 rfl hl (by decide) rfl (fun ls hl => ?_)
    exact j14 FU (0 : Int32) (0 : Int32) H locs ls hf hP hD hS (lv_sub hl [2, 1, 0] rfl)
  · have hf := it_t c_3 hf
    refine lv_bipush (v := (-2 : Int32)) hx hb dX9_mirror_7 (by decide) ?_
    cases hf
    exact hret _ _ _ _ dX9_mirror_9 hP hD hS
def wX9_pair (cI cJ cZ : ClassId) (h_o h_o_wave h_o_way h_o_wave_im h_o_wave_re h_o_past h_o_notes h_o_ring h_o_turns h_o_beater h_o_reader h_o_dice h_o_trialWay h_o_trial h_o_otherTrial h_o_sumsRe h_o_sumsIm h_o_tally h_o_image h_o_tape h_o_wave_wasRe h_o_wave_wasIm h_o_wave_halved h_o_way_shifts : Nat) (o_imageKept : Int32) (o_taped : Int32) (o_wave_exp : Int32) (o_wave_done : Int32) (o_wave_backward : Int32) (o_way_size : Int32) (o_way_log : Int32) (o_way_wordBits : Int32) (o_way_limit : Int32) (o_way_radix : Int32) (o_way_order : Int32) (o_way_near : Int32) (o_way_seed : Int32) (o_way_stages : Int32) (o_wave_im : Nat → Int32) (o_wave_re : Nat → Int32) : va_W := [(h_o, .inr (9, [.ref h_o_way, .ref h_o_wave, .ref h_o_past, .ref h_o_notes, .ref h_o_ring, .ref h_o_turns, .ref h_o_beater, .ref h_o_reader, .ref h_o_dice, .ref h_o_trialWay, .ref h_o_trial, .ref h_o_otherTrial, .ref h_o_sumsRe, .ref h_o_sumsIm, .ref h_o_tally, .ref h_o_image, .int o_imageKept, .ref h_o_tape, .int o_taped])), (h_o_wave, .inr (7, [.ref h_o_wave_re, .ref h_o_wave_im, .ref h_o_wave_wasRe, .ref h_o_wave_wasIm, .ref h_o_wave_halved, .int o_wave_exp, .int o_wave_done, .int o_wave_backward])), (h_o_way, .inr (8, [.int o_way_size, .int o_way_log, .int o_way_wordBits, .int o_way_limit, .int o_way_radix, .int o_way_order, .int o_way_near, .int o_way_seed, .int o_way_stages, .ref h_o_way_shifts])), (h_o_wave_im, .inl (cI, 32, .inl o_wave_im)), (h_o_wave_re, .inl (cI, 32, .inl o_wave_re))]
def fX9_pair (o_wave_done : Int32) (o_wave_backward : Int32) (o_way_size : Int32) (o_way_stages : Int32) (o_wave_im : Nat → Int32) (o_wave_re : Nat → Int32) (p1 : Int32) (p2 : Int32) (p3 : Int32) : Option (Int32) :=
  bd1 (fX9_isPlace o_way_size p1) (fun r_1 =>
  if r_1 = 0 then (
    some (-2147483648 : Int32)
  ) else (
    if p2 < 0 then (
      some (-2147483648 : Int32)
    ) else (
      if (1 : Int32) < p2 then (
        some (-2147483648 : Int32)
      ) else (
        if p3 < 0 then (
          some (-2147483648 : Int32)
        ) else (
          if (1 : Int32) < p3 then (
            some (-2147483648 : Int32)
          ) else (
            bd1 (fX9_isDoneForward o_wave_done o_wave_backward o_way_stages) (fun r_8 =>
            if r_8 = 0 then (
              some (-2147483648 : Int32)
            ) else (
              bd1 (fX9_mirrored o_way_size p1) (fun r_11 =>
              if p2 = 0 then (
                if p3 = 0 then (
                  gd (inb p1 32) (
                  gd (inb r_11 32) (
                  some ((o_wave_re (Int32.toNatClampNeg p1)) + (o_wave_re (Int32.toNatClampNeg r_11)))))
                ) else (
                  gd (inb p1 32) (
                  gd (inb r_11 32) (
                  some ((o_wave_im (Int32.toNatClampNeg p1)) - (o_wave_im (Int32.toNatClampNeg r_11)))))
                )
              ) else (
                if p3 = 0 then (
                  gd (inb p1 32) (
                  gd (inb r_11 32) (
                  some ((o_wave_im (Int32.toNatClampNeg p1)) + (o_wave_im (Int32.toNatClampNeg r_11)))))
                ) else (
                  gd (inb r_11 32) (
                  gd (inb p1 32) (
                  some ((o_wave_re (Int32.toNatClampNeg r_11)) - (o_wave_re (Int32.toNatClampNeg p1)))))
                )
              ))
            ))
          )
        )
      )
    )
  ))
set_option maxHeartbeats 4000000 in
set_option maxRecDepth 100000 in
theorem tX9_pair (l : Launch) (G : va_G) (cI cJ cZ : ClassId) (sz : Nat) (h_o h_o_wave h_o_way h_o_wave_im h_o_wave_re h_o_past h_o_notes h_o_ring h_o_turns h_o_beater h_o_reader h_o_dice h_o_trialWay h_o_trial h_o_otherTrial h_o_sumsRe h_o_sumsIm h_o_tally h_o_image h_o_tape h_o_wave_wasRe h_o_wave_wasIm h_o_wave_halved h_o_way_shifts : Nat) (o_imageKept : Int32) (o_taped : Int32) (o_wave_exp : Int32) (o_wave_done : Int32) (o_wave_backward : Int32) (o_way_size : Int32) (o_way_log : Int32) (o_way_wordBits : Int32) (o_way_limit : Int32) (o_way_radix : Int32) (o_way_order : Int32) (o_way_near : Int32) (o_way_seed : Int32) (o_way_stages : Int32) (o_wave_im : Nat → Int32) (o_wave_re : Nat → Int32) (p1 : Int32) (p2 : Int32) (p3 : Int32) (r : Int32) (hf : fX9_pair o_wave_done o_wave_backward o_way_size o_way_stages o_wave_im o_wave_re p1 p2 p3 = some r) : Met l yX9_pair (Cond.code yX9_pair cX9_pair 7 (some .int) :: BIG) ({ frames := 1, cells := 0, slots := 0, locals := 21 } : Room) (cP G (TY3 cI cJ cZ) [.ref h_o, .int p1, .int p2, .int p3] sz (wX9_pair cI cJ cZ h_o h_o_wave h_o_way h_o_wave_im h_o_wave_re h_o_past h_o_notes h_o_ring h_o_turns h_o_beater h_o_reader h_o_dice h_o_trialWay h_o_trial h_o_otherTrial h_o_sumsRe h_o_sumsIm h_o_tally h_o_image h_o_tape h_o_wave_wasRe h_o_wave_wasIm h_o_wave_halved h_o_way_shifts o_imageKept o_taped o_wave_exp o_wave_done o_wave_backward o_way_size o_way_log o_way_wordBits o_way_limit o_way_radix o_way_order o_way_near o_way_seed o_way_stages o_wave_im o_wave_re)) (cQ G (TY3 cI cJ cZ) sz (wX9_pair cI cJ cZ h_o h_o_wave h_o_way h_o_wave_im h_o_wave_re h_o_past h_o_notes h_o_ring h_o_turns h_o_beater h_o_reader h_o_dice h_o_trialWay h_o_trial h_o_otherTrial h_o_sumsRe h_o_sumsIm h_o_tally h_o_image h_o_tape h_o_wave_wasRe h_o_wave_wasIm h_o_wave_halved h_o_way_shifts o_imageKept o_taped o_wave_exp o_wave_done o_wave_backward o_way_size o_way_log o_way_wordBits o_way_limit o_way_radix o_way_order o_way_near o_way_seed o_way_stages o_wave_im o_wave_re) (wX9_pair cI cJ cZ h_o h_o_wave h_o_way h_o_wave_im h_o_wave_re h_o_past h_o_notes h_o_ring h_o_turns h_o_beater h_o_reader h_o_dice h_o_trialWay h_o_trial h_o_otherTrial h_o_sumsRe h_o_sumsIm h_o_tally h_o_image h_o_tape h_o_wave_wasRe h_o_wave_wasIm h_o_wave_halved h_o_way_shifts o_imageKept o_taped o_wave_exp o_wave_done o_wave_backward o_way_size o_way_log o_way_wordBits o_way_limit o_way_radix o_way_order o_way_near o_way_seed o_way_stages o_wave_im o_wave_re) (some (.int r))) 0 0 (va_A (wX9_pair cI cJ cZ h_o h_o_wave h_o_way h_o_wave_im h_o_wave_re h_o_past h_o_notes h_o_ring h_o_turns h_o_beater h_o_reader h_o_dice h_o_trialWay h_o_trial h_o_otherTrial h_o_sumsRe h_o_sumsIm h_o_tally h_o_image h_o_tape h_o_wave_wasRe h_o_wave_wasIm h_o_wave_halved h_o_way_shifts o_imageKept o_taped o_wave_exp o_wave_done o_wave_backward o_way_size o_way_log o_way_wordBits o_way_limit o_way_radix o_way_order o_way_near o_way_seed o_way_stages o_wave_im o_wave_re) sz) := by
  refine met_i (cc := cX9_pair) (maxL := 7) (plainFor_of_name (by decide)) (Nat.le_of_ble_eq_true rfl) (fun p e s m below meth c A ls Q hx hb hml hts hown hK hP hD hS hA hl hret => ?_)
  have hown : s.vm.findClass RX9 = some m.cls := hown
  have hl : lv_has ls 7 [(0, .ref h_o), (1, .int p1), (2, .int p2), (3, .int p3)] := hl
  unfold fX9_pair at hf
  obtain ⟨H, eH⟩ : ∃ H, H = s.heap := ⟨_, rfl⟩
  obtain ⟨locs, elocs⟩ : ∃ z : List Loc, z = [] := ⟨_, rfl⟩
  have hP : va_P G vwCl (wX9_pair cI cJ cZ h_o h_o_wave h_o_way h_o_wave_im h_o_wave_re h_o_past h_o_notes h_o_ring h_o_turns h_o_beater h_o_reader h_o_dice h_o_trialWay h_o_trial h_o_otherTrial h_o_sumsRe h_o_sumsIm h_o_tally h_o_image h_o_tape h_o_wave_wasRe h_o_wave_wasIm h_o_wave_halved h_o_way_shifts o_imageKept o_taped o_wave_exp o_wave_done o_wave_backward o_way_size o_way_log o_way_wordBits o_way_limit o_way_radix o_way_order o_way_near o_way_seed o_way_stages o_wave_im o_wave_re) H := by rw [eH]; exact hP
  have hS : va_S A s.heap H locs := by rw [eH, elocs]; exact hS
  suffices hgo : W p l e ({ frames := 1, cells := 0, slots := 0, locals := 21 } : Room) s m ([.ref h_o, .int p1, .int p2, .int p3] : List Value).toArray below meth c H locs 0 0 Q (F0 m 0 ls []) by rw [eH, elocs] at hgo; exact hgo
  clear eH elocs
  refine lv_aload_n hx hb dX9_pair_0 rfl (lv_at hl 0 rfl) ?_
  refine lv_iload_n hx hb dX9_pair_1 rfl (lv_at hl 1 rfl) ?_
  obtain ⟨r_1, e_2, hf⟩ := bd1_x hf
  refine call_v [.int p1] [] ⟨hx, hb, hml, hown, hts⟩ hK hP hD hS hA hl.1 (tX9_isPlace l G cI cJ cZ H.size h_o h_o_way h_o_wave h_o_past h_o_notes h_o_ring h_o_turns h_o_beater h_o_reader h_o_dice h_o_trialWay h_o_trial h_o_otherTrial h_o_sumsRe h_o_sumsIm h_o_tally h_o_image h_o_tape h_o_way_shifts o_imageKept o_taped o_way_size o_way_log o_way_wordBits o_way_limit o_way_radix o_way_order o_way_near o_way_seed o_way_stages p1 r_1 e_2) (cwV 1 hts (gv q_mX9_159 q_i_yX9_isPlace q_s_yX9_isPlace q_n_RX9 q_k_yX9_isPlace) rfl rfl rfl (by decide +kernel) ⟨by decide, by decide⟩) rfl rfl (Nat.le_of_ble_eq_true rfl) dX9_pair_2 ⟨Nat.zero_le _, Nat.zero_le _⟩ (ci := 9) rfl 0 rfl [0, 2] [1, 3, 4] [3, 0, 4, 1, 2] rfl rfl (ws2 := (wX9_pair cI cJ cZ h_o h_o_wave h_o_way h_o_wave_im h_o_wave_re h_o_past h_o_notes h_o_ring h_o_turns h_o_beater h_o_reader h_o_dice h_o_trialWay h_o_trial h_o_otherTrial h_o_sumsRe h_o_sumsIm h_o_tally h_o_image h_o_tape h_o_wave_wasRe h_o_wave_wasIm h_o_wave_halved h_o_way_shifts o_imageKept o_taped o_wave_exp o_wave_done o_wave_backward o_way_size o_way_log o_way_wordBits o_way_limit o_way_radix o_way_order o_way_near o_way_seed o_way_stages o_wave_im o_wave_re)) rfl (fun H locs hP hD hS => ?_)
  refine W.eq (g2 := F0 m 5 ls [.int r_1]) rfl ?_
  refine lv_if_eq (tgt := 33) hx hb dX9_pair_5 (by decide) (fun c_3 => ?_) (fun c_3 => ?_)
  · have hf := it_t c_3 hf
    refine lv_ldc (v := (-2147483648 : Int32)) hx hb hown (hts _ q_cX9_185) dX9_pair_33 ?_
    cases hf
    exact hret _ _ _ _ dX9_pair_35 hP hD hS
  · have hf := it_f c_3 hf
    refine lv_iload_n hx hb dX9_pair_8 rfl (lv_at hl 2 rfl) ?_
    refine lv_if_lt (tgt := 33) hx hb dX9_pair_9 (by decide) (fun c_4 => ?_) (fun c_4 => ?_)
    · have hf := it_t c_4 hf
      refine lv_ldc (v := (-2147483648 : Int32)) hx hb hown (hts _ q_cX9_185) dX9_pair_33 ?_
      cases hf
      exact hret _ _ _ _ dX9_pair_35 hP hD hS
    · have hf := it_f c_4 hf
      refine lv_iload_n hx hb dX9_pair_12 rfl (lv_at hl 2 rfl) ?_
      refine lv_iconst (v := (1 : Int32)) hx hb dX9_pair_13 (by decide) ?_
      refine lv_icmp_gt (tgt := 33) hx hb dX9_pair_14 (by decide) (fun c_5 => ?_) (fun c_5 => ?_)
      · have hf := it_t c_5 hf
        refine lv_ldc (v := (-2147483648 : Int32)) hx hb hown (hts _ q_cX9_185) dX9_pair_33 ?_
        cases hf
        exact hret _ _ _ _ dX9_pair_35 hP hD hS
      · have hf := it_f c_5 hf
        refine lv_iload_n hx hb dX9_pair_17 rfl (lv_at hl 3 rfl) ?_
        refine lv_if_lt (tgt := 33) hx hb dX9_pair_18 (by decide) (fun c_6 => ?_) (fun c_6 => ?_)
        · have hf := it_t c_6 hf
          refine lv_ldc (v := (-2147483648 : Int32)) hx hb hown (hts _ q_cX9_185) dX9_pair_33 ?_
          cases hf
          exact hret _ _ _ _ dX9_pair_35 hP hD hS
        · have hf := it_f c_6 hf
          refine lv_iload_n hx hb dX9_pair_21 rfl (lv_at hl 3 rfl) ?_
          refine lv_iconst (v := (1 : Int32)) hx hb dX9_pair_22 (by decide) ?_
          refine lv_icmp_gt (tgt := 33) hx hb dX9_pair_23 (by decide) (fun c_7 => ?_) (fun c_7 => ?_)
          · have hf := it_t c_7 hf
            refine lv_ldc (v := (-2147483648 : Int32)) hx hb hown (hts _ q_cX9_185) dX9_pair_33 ?_
            cases hf
            exact hret _ _ _ _ dX9_pair_35 hP hD hS
          · have hf := it_f c_7 hf
            refine lv_aload_n hx hb dX9_pair_26 rfl (lv_at hl 0 rfl) ?_
            obtain ⟨r_8, e_9, hf⟩ := bd1_x hf
            refine call_v [] [] ⟨hx, hb, hml, hown, hts⟩ hK hP hD hS hA hl.1 (tX9_isDoneForward l G cI cJ cZ H.size h_o h_o_wave h_o_way h_o_past h_o_notes h_o_ring h_o_turns h_o_beater h_o_reader h_o_dice h_o_trialWay h_o_trial h_o_otherTrial h_o_sumsRe h_o_sumsIm h_o_tally h_o_image h_o_tape h_o_wave_re h_o_wave_im h_o_wave_wasRe h_o_wave_wasIm h_o_wave_halved h_o_way_shifts o_imageKept o_taped o_wave_exp o_wave_done o_wave_backward o_way_size o_way_log o_way_wordBits o_way_limit o_way_radix o_way_order o_way_near o_way_seed o_way_stages r_8 e_9) (cwV 0 hts (gv q_mX9_286 q_i_yX9_isDoneForward q_s_yX9_isDoneForward q_n_RX9 q_k_yX9_isDoneForward) rfl rfl rfl (by decide +kernel) ⟨by decide, by decide⟩) rfl rfl (Nat.le_of_ble_eq_true rfl) dX9_pair_27 ⟨Nat.zero_le _, Nat.zero_le _⟩ (ci := 9) rfl 0 rfl [0, 1, 2] [3, 4] [2, 3, 4, 0, 1] rfl rfl (ws2 := (wX9_pair cI cJ cZ h_o h_o_wave h_o_way h_o_wave_im h_o_wave_re h_o_past h_o_notes h_o_ring h_o_turns h_o_beater h_o_reader h_o_dice h_o_trialWay h_o_trial h_o_otherTrial h_o_sumsRe h_o_sumsIm h_o_tally h_o_image h_o_tape h_o_wave_wasRe h_o_wave_wasIm h_o_wave_halved h_o_way_shifts o_imageKept o_taped o_wave_exp o_wave_done o_wave_backward o_way_size o_way_log o_way_wordBits o_way_limit o_way_radix o_way_order o_way_near o_way_seed o_way_stages o_wave_im o_wave_re)) rfl (fun H locs hP hD hS => ?_)
            refine W.eq (g2 := F0 m 30 ls [.int r_8]) rfl ?_
            refine lv_if_ne (tgt := 36) hx hb dX9_pair_30 (by decide) (fun c_10 => ?_) (fun c_10 => ?_)
            · have hf := it_f c_10 hf
              refine lv_aload_n hx hb dX9_pair_36 rfl (lv_at hl 0 rfl) ?_
              refine lv_iload_n hx hb dX9_pair_37 rfl (lv_at hl 1 rfl) ?_
              obtain ⟨r_11, e_12, hf⟩ := bd1_x hf
              refine call_v [.int p1] [] ⟨hx, hb, hml, hown, hts⟩ hK hP hD hS hA hl.1 (tX9_mirrored l G cI cJ cZ H.size h_o h_o_way h_o_wave h_o_past h_o_notes h_o_ring h_o_turns h_o_beater h_o_reader h_o_dice h_o_trialWay h_o_trial h_o_otherTrial h_o_sumsRe h_o_sumsIm h_o_tally h_o_image h_o_tape h_o_way_shifts o_imageKept o_taped o_way_size o_way_log o_way_wordBits o_way_limit o_way_radix o_way_order o_way_near o_way_seed o_way_stages p1 r_11 e_12) (cwV 1 hts (gv q_mX9_374 q_i_yX9_mirrored q_s_yX9_mirrored q_n_RX9 q_k_yX9_mirrored) rfl rfl rfl (by decide +kernel) ⟨by decide, by decide⟩) rfl rfl (Nat.le_of_ble_eq_true rfl) dX9_pair_38 ⟨Nat.zero_le _, Nat.zero_le _⟩ (ci := 9) rfl 0 rfl [0, 2] [1, 3, 4] [3, 0, 4, 1, 2] rfl rfl (ws2 := (wX9_pair cI cJ cZ h_o h_o_wave h_o_way h_o_wave_im h_o_wave_re h_o_past h_o_notes h_o_ring h_o_turns h_o_beater h_o_reader h_o_dice h_o_trialWay h_o_trial h_o_otherTrial h_o_sumsRe h_o_sumsIm h_o_tally h_o_image h_o_tape h_o_wave_wasRe h_o_wave_wasIm h_o_wave_halved h_o_way_shifts o_imageKept o_taped o_wave_exp o_wave_done o_wave_backward o_way_size o_way_log o_way_wordBits o_way_limit o_way_radix o_way_order o_way_near o_way_seed o_way_stages o_wave_im o_wave_re)) rfl (fun H locs hP hD hS => ?_)
              refine W.eq (g2 := F0 m 41 ls [.int r_11]) rfl ?_
              refine lv_istore (lv' := [(4, .int r_11), (0, .ref h_o), (1, .int p1), (2, .int p2), (3, .int p3)]) hx hb dX9_pair_41 hl (by decide) rfl (fun ls hl => ?_)
              refine lv_aload_n hx hb dX9_pair_43 rfl (lv_at hl 1 rfl) ?_
              refine rd (ci := 9) (C := RX9) (T := TX9) (N := 19) hx hb hts inX9 hown hK hP 0 1 rfl rfl (by decide) (hts _ q_fX9_19) rfl dX9_pair_44 ?_
              refine rd (ci := 7) (C := RX7) (T := TX7) (N := 8) hx hb hts inX7 hown hK hP 1 0 rfl rfl (by decide) (hts _ q_fX9_175) rfl dX9_pair_47 ?_
              refine lv_astore (lv' := [(5, .ref h_o_wave_re), (4, .int r_11), (0, .ref h_o), (1, .int p1), (2, .int p2), (3, .int p3)]) hx hb dX9_pair_50 hl (by decide) rfl (fun ls hl => ?_)
              refine lv_aload_n hx hb dX9_pair_52 rfl (lv_at hl 2 rfl) ?_
              refine rd (ci := 9) (C := RX9) (T := TX9) (N := 19) hx hb hts inX9 hown hK hP 0 1 rfl rfl (by decide) (hts _ q_fX9_19) rfl dX9_pair_53 ?_
              refine rd (ci := 7) (C := RX7) (T := TX7) (N := 8) hx hb hts inX7 hown hK hP 1 1 rfl rfl (by decide) (hts _ q_fX9_176) rfl dX9_pair_56 ?_
              refine lv_astore (lv' := [(6, .ref h_o_wave_im), (5, .ref h_o_wave_re), (4, .int r_11), (0, .ref h_o), (1, .int p1), (2, .int p2), (3, .int p3)]) hx hb dX9_pair_59 hl (by decide) rfl (fun ls hl => ?_)
              refine lv_iload_n hx hb dX9_pair_61 rfl (lv_at hl 5 rfl) ?_
              refine lv_if_ne (tgt := 93) hx hb dX9_pair_62 (by decide) (fun c_13 => ?_) (fun c_13 => ?_)
              · have hf := it_f c_13 hf
                refine lv_iload_n hx hb dX9_pair_93 rfl (lv_at hl 6 rfl) ?_
                refine lv_if_ne (tgt := 110) hx hb dX9_pair_94 (by decide) (fun c_14 => ?_) (fun c_14 => ?_)
                · have hf := it_f c_14 hf
                  refine lv_aload hx hb dX9_pair_110 (lv_at hl 1 rfl) ?_
                  refine lv_iload hx hb dX9_pair_112 (lv_at hl 2 rfl) ?_
                  obtain ⟨g_15, hf⟩ := gd_x hf
                  refine va_iald hx hb hK hP 4 0 rfl rfl (inb_x g_15) dX9_pair_114 ?_
                  refine lv_aload hx hb dX9_pair_115 (lv_at hl 1 rfl) ?_
                  refine lv_iload_n hx hb dX9_pair_117 rfl (lv_at hl 4 rfl) ?_
                  obtain ⟨g_16, hf⟩ := gd_x hf
                  refine va_iald hx hb hK hP 4 0 rfl rfl (inb_x g_16) dX9_pair_118 ?_
                  refine lv_isub hx hb dX9_pair_119 ?_
                  cases hf
                  exact hret _ _ _ _ dX9_pair_120 hP hD hS
                · have hf := it_t c_14 hf
                  refine lv_aload hx hb dX9_pair_97 (lv_at hl 0 rfl) ?_
                  refine lv_iload_n hx hb dX9_pair_99 rfl (lv_at hl 4 rfl) ?_
                  obtain ⟨g_17, hf⟩ := gd_x hf
                  refine va_iald hx hb hK hP 3 0 rfl rfl (inb_x g_17) dX9_pair_100 ?_
                  refine lv_aload hx hb dX9_pair_101 (lv_at hl 0 rfl) ?_
                  refine lv_iload hx hb dX9_pair_103 (lv_at hl 2 rfl) ?_
                  obtain ⟨g_18, hf⟩ := gd_x hf
                  refine va_iald hx hb hK hP 3 0 rfl rfl (inb_x g_18) dX9_pair_105 ?_
                  refine lv_iadd hx hb dX9_pair_106 ?_
                  refine lv_goto (tgt := 120) hx hb dX9_pair_107 (by decide) ?_
                  cases hf
                  exact hret _ _ _ _ dX9_pair_120 hP hD hS
              · have hf := it_t c_13 hf
                refine lv_iload_n hx hb dX9_pair_65 rfl (lv_at hl 6 rfl) ?_
                refine lv_if_ne (tgt := 82) hx hb dX9_pair_66 (by decide) (fun c_19 => ?_) (fun c_19 => ?_)
                · have hf := it_f c_19 hf
                  refine lv_aload hx hb dX9_pair_82 (lv_at hl 0 rfl) ?_
                  refine lv_iload_n hx hb dX9_pair_84 rfl (lv_at hl 4 rfl) ?_
                  obtain ⟨g_20, hf⟩ := gd_x hf
                  refine va_iald hx hb hK hP 3 0 rfl rfl (inb_x g_20) dX9_pair_85 ?_
                  refine lv_aload hx hb dX9_pair_86 (lv_at hl 0 rfl) ?_
                  refine lv_iload hx hb dX9_pair_88 (lv_at hl 2 rfl) ?_
                  obtain ⟨g_21, hf⟩ := gd_x hf
                  refine va_iald hx hb hK hP 3 0 rfl rfl (inb_x g_21) dX9_pair_90 ?_
                  refine lv_isub hx hb dX9_pair_91 ?_
                  cases hf
                  exact hret _ _ _ _ dX9_pair_92 hP hD hS
                · have hf := it_t c_19 hf
                  refine lv_aload hx hb dX9_pair_69 (lv_at hl 1 rfl) ?_
                  refine lv_iload_n hx hb dX9_pair_71 rfl (lv_at hl 4 rfl) ?_
                  obtain ⟨g_22, hf⟩ := gd_x hf
                  refine va_iald hx hb hK hP 4 0 rfl rfl (inb_x g_22) dX9_pair_72 ?_
                  refine lv_aload hx hb dX9_pair_73 (lv_at hl 1 rfl) ?_
                  refine lv_iload hx hb dX9_pair_75 (lv_at hl 2 rfl) ?_
                  obtain ⟨g_23, hf⟩ := gd_x hf
                  refine va_iald hx hb hK hP 4 0 rfl rfl (inb_x g_23) dX9_pair_77 ?_
                  refine lv_iadd hx hb dX9_pair_78 ?_
                  refine lv_goto (tgt := 92) hx hb dX9_pair_79 (by decide) ?_
                  cases hf
                  exact hret _ _ _ _ dX9_pair_92 hP hD hS
            · have hf := it_t c_10 hf
              refine lv_ldc (v := (-2147483648 : Int32)) hx hb hown (hts _ q_cX9_185) dX9_pair_33 ?_
              cases hf
              exact hret _ _ _ _ dX9_pair_35 hP hD hS
def wX9_swing (cI cJ cZ : ClassId) (h_o h_o_turns h_o_wave h_o_way h_o_turns_cos h_o_wave_wasRe h_o_past h_o_notes h_o_ring h_o_beater h_o_reader h_o_dice h_o_trialWay h_o_trial h_o_otherTrial h_o_sumsRe h_o_sumsIm h_o_tally h_o_image h_o_tape h_o_turns_sin h_o_wave_re h_o_wave_im h_o_wave_wasIm h_o_wave_halved h_o_way_shifts : Nat) (o_imageKept : Int32) (o_taped : Int32) (o_wave_exp : Int32) (o_wave_done : Int32) (o_wave_backward : Int32) (o_way_size : Int32) (o_way_log : Int32) (o_way_wordBits : Int32) (o_way_limit : Int32) (o_way_radix : Int32) (o_way_order : Int32) (o_way_near : Int32) (o_way_seed : Int32) (o_way_stages : Int32) (o_turns_cos : Nat → Int32) (o_wave_wasRe : Nat → Int32) : va_W := [(h_o, .inr (9, [.ref h_o_way, .ref h_o_wave, .ref h_o_past, .ref h_o_notes, .ref h_o_ring, .ref h_o_turns, .ref h_o_beater, .ref h_o_reader, .ref h_o_dice, .ref h_o_trialWay, .ref h_o_trial, .ref h_o_otherTrial, .ref h_o_sumsRe, .ref h_o_sumsIm, .ref h_o_tally, .ref h_o_image, .int o_imageKept, .ref h_o_tape, .int o_taped])), (h_o_turns, .inr (6, [.ref h_o_turns_cos, .ref h_o_turns_sin])), (h_o_wave, .inr (7, [.ref h_o_wave_re, .ref h_o_wave_im, .ref h_o_wave_wasRe, .ref h_o_wave_wasIm, .ref h_o_wave_halved, .int o_wave_exp, .int o_wave_done, .int o_wave_backward])), (h_o_way, .inr (8, [.int o_way_size, .int o_way_log, .int o_way_wordBits, .int o_way_limit, .int o_way_radix, .int o_way_order, .int o_way_near, .int o_way_seed, .int o_way_stages, .ref h_o_way_shifts])), (h_o_turns_cos, .inl (cI, 32, .inl o_turns_cos)), (h_o_wave_wasRe, .inl (cI, 32, .inl o_wave_wasRe))]
def fX9_swing_104 (v2 : Int32) (v5 : Int64) (v7 : Int64) : Option (Int64) :=
  if v2 = 0 then (
    some v5
  ) else (
    some v7
  )
def fX9_swing_45 (o_way_size : Int32) (o_way_near : Int32) (o_wave_wasRe : Nat → Int32) : Nat → Int32 → Int64 → Int64 → Int64 → Int32 → Option (Int64)
  | 0, _, _, _, _, _ => none
  | n + 1, v2, v3, v5, v7, v9 =>
    if o_way_size ≤ v9 then (
      fX9_swing_104 v2 v5 v7
    ) else (
      gd (inb v9 32) (
      bd1 (fX8_addedBeforeCut o_way_near) (fun r_10 =>
      nm (((Int32.toInt64 (o_wave_wasRe (Int32.toNatClampNeg v9))) + (((v5 * v3) + (Int32.toInt64 r_10)) >>> (Int32.toInt64 (14 : Int32) &&& 63))) - v7) (fun v10_12 =>
      nm (v9 + (1 : Int32)) (fun v9_13 =>
      fX9_swing_45 o_way_size o_way_near o_wave_wasRe n v2 v3 v10_12 v5 v9_13))))
    )
def fX9_swing (o_way_size : Int32) (o_way_near : Int32) (o_turns_cos : Nat → Int32) (o_wave_wasRe : Nat → Int32) (p1 : Int32) (p2 : Int32) : Option (Int64) :=
  bd1 (fX9_isPlace o_way_size p1) (fun r_1 =>
  if r_1 = 0 then (
    some (-9223372036854775808 : Int64)
  ) else (
    if p2 < 0 then (
      some (-9223372036854775808 : Int64)
    ) else (
      if p2 ≤ (1 : Int32) then (
        gd (inb p1 32) (
        nm ((2 : Int64) * (Int32.toInt64 (o_turns_cos (Int32.toNatClampNeg p1)))) (fun v3_7 =>
        fX9_swing_45 o_way_size o_way_near o_wave_wasRe FU p2 v3_7 (0 : Int64) (0 : Int64) (0 : Int32)))
      ) else (
        some (-9223372036854775808 : Int64)
      )
    )
  ))
set_option maxHeartbeats 4000000 in
set_option maxRecDepth 100000 in
theorem tX9_swing (l : Launch) (G : va_G) (cI cJ cZ : ClassId) (sz : Nat) (h_o h_o_turns h_o_wave h_o_way h_o_turns_cos h_o_wave_wasRe h_o_past h_o_notes h_o_ring h_o_beater h_o_reader h_o_dice h_o_trialWay h_o_trial h_o_otherTrial h_o_sumsRe h_o_sumsIm h_o_tally h_o_image h_o_tape h_o_turns_sin h_o_wave_re h_o_wave_im h_o_wave_wasIm h_o_wave_halved h_o_way_shifts : Nat) (o_imageKept : Int32) (o_taped : Int32) (o_wave_exp : Int32) (o_wave_done : Int32) (o_wave_backward : Int32) (o_way_size : Int32) (o_way_log : Int32) (o_way_wordBits : Int32) (o_way_limit : Int32) (o_way_radix : Int32) (o_way_order : Int32) (o_way_near : Int32) (o_way_seed : Int32) (o_way_stages : Int32) (o_turns_cos : Nat → Int32) (o_wave_wasRe : Nat → Int32) (p1 : Int32) (p2 : Int32) (r : Int64) (hf : fX9_swing o_way_size o_way_near o_turns_cos o_wave_wasRe p1 p2 = some r) : Met l yX9_swing (Cond.code yX9_swing cX9_swing 12 (some .long) :: BIG) ({ frames := 1, cells := 0, slots := 0, locals := 21 } : Room) (cP G (TY3 cI cJ cZ) [.ref h_o, .int p1, .int p2] sz (wX9_swing cI cJ cZ h_o h_o_turns h_o_wave h_o_way h_o_turns_cos h_o_wave_wasRe h_o_past h_o_notes h_o_ring h_o_beater h_o_reader h_o_dice h_o_trialWay h_o_trial h_o_otherTrial h_o_sumsRe h_o_sumsIm h_o_tally h_o_image h_o_tape h_o_turns_sin h_o_wave_re h_o_wave_im h_o_wave_wasIm h_o_wave_halved h_o_way_shifts o_imageKept o_taped o_wave_exp o_wave_done o_wave_backward o_way_size o_way_log o_way_wordBits o_way_limit o_way_radix o_way_order o_way_near o_way_seed o_way_stages o_turns_cos o_wave_wasRe)) (cQ G (TY3 cI cJ cZ) sz (wX9_swing cI cJ cZ h_o h_o_turns h_o_wave h_o_way h_o_turns_cos h_o_wave_wasRe h_o_past h_o_notes h_o_ring h_o_beater h_o_reader h_o_dice h_o_trialWay h_o_trial h_o_otherTrial h_o_sumsRe h_o_sumsIm h_o_tally h_o_image h_o_tape h_o_turns_sin h_o_wave_re h_o_wave_im h_o_wave_wasIm h_o_wave_halved h_o_way_shifts o_imageKept o_taped o_wave_exp o_wave_done o_wave_backward o_way_size o_way_log o_way_wordBits o_way_limit o_way_radix o_way_order o_way_near o_way_seed o_way_stages o_turns_cos o_wave_wasRe) (wX9_swing cI cJ cZ h_o h_o_turns h_o_wave h_o_way h_o_turns_cos h_o_wave_wasRe h_o_past h_o_notes h_o_ring h_o_beater h_o_reader h_o_dice h_o_trialWay h_o_trial h_o_otherTrial h_o_sumsRe h_o_sumsIm h_o_tally h_o_image h_o_tape h_o_turns_sin h_o_wave_re h_o_wave_im h_o_wave_wasIm h_o_wave_halved h_o_way_shifts o_imageKept o_taped o_wave_exp o_wave_done o_wave_backward o_way_size o_way_log o_way_wordBits o_way_limit o_way_radix o_way_order o_way_near o_way_seed o_way_stages o_turns_cos o_wave_wasRe) (some (.long r))) 0 0 (va_A (wX9_swing cI cJ cZ h_o h_o_turns h_o_wave h_o_way h_o_turns_cos h_o_wave_wasRe h_o_past h_o_notes h_o_ring h_o_beater h_o_reader h_o_dice h_o_trialWay h_o_trial h_o_otherTrial h_o_sumsRe h_o_sumsIm h_o_tally h_o_image h_o_tape h_o_turns_sin h_o_wave_re h_o_wave_im h_o_wave_wasIm h_o_wave_halved h_o_way_shifts o_imageKept o_taped o_wave_exp o_wave_done o_wave_backward o_way_size o_way_log o_way_wordBits o_way_limit o_way_radix o_way_order o_way_near o_way_seed o_way_stages o_turns_cos o_wave_wasRe) sz) := by
  refine met_l (cc := cX9_swing) (maxL := 12) (plainFor_of_name (by decide)) (Nat.le_of_ble_eq_true rfl) (fun p e s m below meth c A ls Q hx hb hml hts hown hK hP hD hS hA hl hret => ?_)
  have hown : s.vm.findClass RX9 = some m.cls := hown
  have hl : lv_has ls 12 [(0, .ref h_o), (1, .int p1), (2, .int p2)] := hl
  have j104 : ∀ (v2 : Int32) (v5 : Int64) (v7 : Int64) (H : Heap) (locs : List Loc) (ls : Array Slot), fX9_swing_104 v2 v5 v7 = some r → va_P G vwCl (wX9_swing cI cJ cZ h_o h_o_turns h_o_wave h_o_way h_o_turns_cos h_o_wave_wasRe h_o_past h_o_notes h_o_ring h_o_beater h_o_reader h_o_dice h_o_trialWay h_o_trial h_o_otherTrial h_o_sumsRe h_o_sumsIm h_o_tally h_o_image h_o_tape h_o_turns_sin h_o_wave_re h_o_wave_im h_o_wave_wasIm h_o_wave_halved h_o_way_shifts o_imageKept o_taped o_wave_exp o_wave_done o_wave_backward o_way_size o_way_log o_way_wordBits o_way_limit o_way_radix o_way_order o_way_near o_way_seed o_way_stages o_turns_cos o_wave_wasRe) H → va_D A (wX9_swing cI cJ cZ h_o h_o_turns h_o_wave h_o_way h_o_turns_cos h_o_wave_wasRe h_o_past h_o_notes h_o_ring h_o_beater h_o_reader h_o_dice h_o_trialWay h_o_trial h_o_otherTrial h_o_sumsRe h_o_sumsIm h_o_tally h_o_image h_o_tape h_o_turns_sin h_o_wave_re h_o_wave_im h_o_wave_wasIm h_o_wave_halved h_o_way_shifts o_imageKept o_taped o_wave_exp o_wave_done o_wave_backward o_way_size o_way_log o_way_wordBits o_way_limit o_way_radix o_way_order o_way_near o_way_seed o_way_stages o_turns_cos o_wave_wasRe) → va_S A s.heap H locs → lv_has ls 12 [(2, .int v2), (5, .long v5), (7, .long v7)] → W p l e ({ frames := 1, cells := 0, slots := 0, locals := 21 } : Room) s m ([.ref h_o, .int p1, .int p2] : List Value).toArray below meth c H locs 0 0 Q (F0 m 104 ls []) := by
    intro v2 v5 v7 H locs ls hf hP hD hS hl
    unfold fX9_swing_104 at hf
    refine lv_iload_n hx hb dX9_swing_104 rfl (lv_at hl 0 rfl) ?_
    refine lv_if_ne (tgt := 113) hx hb dX9_swing_105 (by decide) (fun c_14 => ?_) (fun c_14 => ?_)
    · have hf := it_f c_14 hf
      refine lv_lload hx hb dX9_swing_113 (lv_at hl 2 rfl) ?_
      cases hf
      exact hret _ _ _ _ dX9_swing_115 hP hD hS
    · have hf := it_t c_14 hf
      refine lv_lload hx hb dX9_swing_108 (lv_at hl 1 rfl) ?_
      refine lv_goto (tgt := 115) hx hb dX9_swing_110 (by decide) ?_
      cases hf
      exact hret _ _ _ _ dX9_swing_115 hP hD hS
  have j45 : ∀ (n : Nat) (v2 : Int32) (v3 : Int64) (v5 : Int64) (v7 : Int64) (v9 : Int32) (H : Heap) (locs : List Loc) (ls : Array Slot), fX9_swing_45 o_way_size o_way_near o_wave_wasRe n v2 v3 v5 v7 v9 = some r → va_P G vwCl (wX9_swing cI cJ cZ h_o h_o_turns h_o_wave h_o_way h_o_turns_cos h_o_wave_wasRe h_o_past h_o_notes h_o_ring h_o_beater h_o_reader h_o_dice h_o_trialWay h_o_trial h_o_otherTrial h_o_sumsRe h_o_sumsIm h_o_tally h_o_image h_o_tape h_o_turns_sin h_o_wave_re h_o_wave_im h_o_wave_wasIm h_o_wave_halved h_o_way_shifts o_imageKept o_taped o_wave_exp o_wave_done o_wave_backward o_way_size o_way_log o_way_wordBits o_way_limit o_way_radix o_way_order o_way_near o_way_seed o_way_stages o_turns_cos o_wave_wasRe) H → va_D A (wX9_swing cI cJ cZ h_o h_o_turns h_o_wave h_o_way h_o_turns_cos h_o_wave_wasRe h_o_past h_o_notes h_o_ring h_o_beater h_o_reader h_o_dice h_o_trialWay h_o_trial h_o_otherTrial h_o_sumsRe h_o_sumsIm h_o_tally h_o_image h_o_tape h_o_turns_sin h_o_wave_re h_o_wave_im h_o_wave_wasIm h_o_wave_halved h_o_way_shifts o_imageKept o_taped o_wave_exp o_wave_done o_wave_backward o_way_size o_way_log o_way_wordBits o_way_limit o_way_radix o_way_order o_way_near o_way_seed o_way_stages o_turns_cos o_wave_wasRe) → va_S A s.heap H locs → lv_has ls 12 [(0, .ref h_o), (2, .int v2), (3, .long v3), (5, .long v5), (7, .long v7), (9, .int v9)] → W p l e ({ frames := 1, cells := 0, slots := 0, locals := 21 } : Room) s m ([.ref h_o, .int p1, .int p2] : List Value).toArray below meth c H locs 0 0 Q (F0 m 45 ls []) := by
    intro n
    induction n with
    | zero =>
      intro v2 v3 v5 v7 v9 H locs ls hf
      have hf : (none : Option (Int64)) = some r := hf
      cases hf
    | succ n ih =>
      intro v2 v3 v5 v7 v9 H locs ls hf hP hD hS hl
      rw [fX9_swing_45.eq_2] at hf
      refine lv_iload hx hb dX9_swing_45 (lv_at hl 5 rfl) ?_
      refine lv_aload_n hx hb dX9_swing_47 rfl (lv_at hl 0 rfl) ?_
      refine rd (ci := 9) (C := RX9) (T := TX9) (N := 19) hx hb hts inX9 hown hK hP 0 0 rfl rfl (by decide) (hts _ q_fX9_10) rfl dX9_swing_48 ?_
      refine rd (ci := 8) (C := RX8) (T := TX8) (N := 10) hx hb hts inX8 hown hK hP 3 0 rfl rfl (by decide) (hts _ q_fX9_115) rfl dX9_swing_51 ?_
      refine lv_icmp_ge (tgt := 104) hx hb dX9_swing_54 (by decide) (fun c_8 => ?_) (fun c_8 => ?_)
      · have hf := it_t c_8 hf
        exact j104 v2 v5 v7 H locs ls hf hP hD hS (lv_sub hl [1, 3, 4] rfl)
      · have hf := it_f c_8 hf
        refine lv_aload_n hx hb dX9_swing_57 rfl (lv_at hl 0 rfl) ?_
        refine rd (ci := 9) (C := RX9) (T := TX9) (N := 19) hx hb hts inX9 hown hK hP 0 1 rfl rfl (by decide) (hts _ q_fX9_19) rfl dX9_swing_58 ?_
        refine rd (ci := 7) (C := RX7) (T := TX7) (N := 8) hx hb hts inX7 hown hK hP 2 2 rfl rfl (by decide) (hts _ q_fX9_177) rfl dX9_swing_61 ?_
        refine lv_iload hx hb dX9_swing_64 (lv_at hl 5 rfl) ?_
        obtain ⟨g_9, hf⟩ := gd_x hf
        refine va_iald hx hb hK hP 5 0 rfl rfl (inb_x g_9) dX9_swing_66 ?_
        refine lv_i2l hx hb dX9_swing_67 rfl ?_
        refine lv_lload hx hb dX9_swing_68 (lv_at hl 3 rfl) ?_
        refine lv_lload_n hx hb dX9_swing_70 rfl (lv_at hl 2 rfl) ?_
        refine lv_lmul hx hb dX9_swing_71 ?_
        refine lv_aload_n hx hb dX9_swing_72 rfl (lv_at hl 0 rfl) ?_
        refine rd (ci := 9) (C := RX9) (T := TX9) (N := 19) hx hb hts inX9 hown hK hP 0 0 rfl rfl (by decide) (hts _ q_fX9_10) rfl dX9_swing_73 ?_
        obtain ⟨r_10, e_11, hf⟩ := bd1_x hf
        refine call_v [] [.long (v5 * v3), .long (Int32.toInt64 (o_wave_wasRe (Int32.toNatClampNeg v9)))] ⟨hx, hb, hml, hown, hts⟩ hK hP hD hS hA hl.1 (tX8_addedBeforeCut l G cI cJ cZ H.size h_o_way h_o_way_shifts o_way_size o_way_log o_way_wordBits o_way_limit o_way_radix o_way_order o_way_near o_way_seed o_way_stages r_10 e_11) (cwV 0 hts (gv q_mX9_379 q_i_yX8_addedBeforeCut q_s_yX8_addedBeforeCut q_n_RX8 q_k_yX8_addedBeforeCut) rfl rfl rfl (by decide +kernel) ⟨by decide, by decide⟩) rfl rfl (Nat.le_of_ble_eq_true rfl) dX9_swing_76 ⟨Nat.zero_le _, Nat.zero_le _⟩ (ci := 8) rfl 0 rfl [3] [0, 1, 2, 4, 5] [0, 1, 2, 5, 3, 4] rfl rfl (ws2 := (wX9_swing cI cJ cZ h_o h_o_turns h_o_wave h_o_way h_o_turns_cos h_o_wave_wasRe h_o_past h_o_notes h_o_ring h_o_beater h_o_reader h_o_dice h_o_trialWay h_o_trial h_o_otherTrial h_o_sumsRe h_o_sumsIm h_o_tally h_o_image h_o_tape h_o_turns_sin h_o_wave_re h_o_wave_im h_o_wave_wasIm h_o_wave_halved h_o_way_shifts o_imageKept o_taped o_wave_exp o_wave_done o_wave_backward o_way_size o_way_log o_way_wordBits o_way_limit o_way_radix o_way_order o_way_near o_way_seed o_way_stages o_turns_cos o_wave_wasRe)) rfl (fun H locs hP hD hS => ?_)
        refine W.eq (g2 := F0 m 79 ls [.int r_10, .long (v5 * v3), .long (Int32.toInt64 (o_wave_wasRe (Int32.toNatClampNeg v9)))]) rfl ?_
        refine lv_i2l hx hb dX9_swing_79 rfl ?_
        refine lv_ladd hx hb dX9_swing_80 ?_
        refine lv_bipush (v := (14 : Int32)) hx hb dX9_swing_81 (by decide) ?_
        refine lv_lshr hx hb dX9_swing_83 rfl ?_
        refine lv_ladd hx hb dX9_swing_84 ?_
        refine lv_lload hx hb dX9_swing_85 (lv_at hl 4 rfl) ?_
        refine lv_lsub hx hb dX9_swing_87 ?_
        refine lv_topl (fun v10_12 ev10_12 => ?_)
        have hf := nm_x ev10_12 hf
        refine lv_lstore (lv' := [(10, .long v10_12), (0, .ref h_o), (2, .int v2), (3, .long v3), (5, .long v5), (7, .long v7), (9, .int v9)]) hx hb dX9_swing_88 hl (by decide) rfl (fun ls hl => ?_)
        refine lv_lload hx hb dX9_swing_90 (lv_at hl 4 rfl) ?_
        refine lv_lstore (lv' := [(7, .long v5), (10, .long v10_12), (0, .ref h_o), (2, .int v2), (3, .long v3), (5, .long v5), (9, .int v9)]) hx hb dX9_swing_92 hl (by decide) rfl (fun ls hl => ?_)
        refine lv_lload hx hb dX9_swing_94 (lv_at hl 1 rfl) ?_
        refine lv_lstore (lv' := [(5, .long v10_12), (7, .long v5), (10, .long v10_12), (0, .ref h_o), (2, .int v2), (3, .long v3), (9, .int v9)]) hx hb dX9_swing_96 hl (by decide) rfl (fun ls hl => ?_)
        obtain ⟨v9_13, ev9_13⟩ : ∃ y : Int32, y = v9 + (1 : Int32) := ⟨_, rfl⟩
        have hf := nm_x ev9_13 hf
        refine lv_iinc (v := v9_13) (lv' := [(9, .int v9_13), (5, .long v10_12), (7, .long v5), (10, .long v10_12), (0, .ref h_o), (2, .int v2), (3, .long v3)]) hx hb dX9_swing_98 hl (k := 6) rfl (by rw [ev9_13]; rfl) (by decide) rfl (fun ls hl => ?_)
        refine lv_goto (tgt := 45) hx hb dX9_swing_101 (by decide) ?_
        exact ih v2 v3 v10_12 v5 v9_13 H locs ls hf hP hD hS (lv_sub hl [4, 5, 6, 1, 2, 0] rfl)
  unfold fX9_swing at hf
  obtain ⟨H, eH⟩ : ∃ H, H = s.heap := ⟨_, rfl⟩
  obtain ⟨locs, elocs⟩ : ∃ z : List Loc, z = [] := ⟨_, rfl⟩
  have hP : va_P G vwCl (wX9_swing cI cJ cZ h_o h_o_turns h_o_wave h_o_way h_o_turns_cos h_o_wave_wasRe h_o_past h_o_notes h_o_ring h_o_beater h_o_reader h_o_dice h_o_trialWay h_o_trial h_o_otherTrial h_o_sumsRe h_o_sumsIm h_o_tally h_o_image h_o_tape h_o_turns_sin h_o_wave_re h_o_wave_im h_o_wave_wasIm h_o_wave_halved h_o_way_shifts o_imageKept o_taped o_wave_exp o_wave_done o_wave_backward o_way_size o_way_log o_way_wordBits o_way_limit o_way_radix o_way_order o_way_near o_way_seed o_way_stages o_turns_cos o_wave_wasRe) H := by rw [eH]; exact hP
  have hS : va_S A s.heap H locs := by rw [eH, elocs]; exact hS
  suffices hgo : W p l e ({ frames := 1, cells := 0, slots := 0, locals := 21 } : Room) s m ([.ref h_o, .int p1, .int p2] : List Value).toArray below meth c H locs 0 0 Q (F0 m 0 ls []) by rw [eH, elocs] at hgo; exact hgo
  clear eH elocs
  refine lv_aload_n hx hb dX9_swing_0 rfl (lv_at hl 0 rfl) ?_
  refine lv_iload_n hx hb dX9_swing_1 rfl (lv_at hl 1 rfl) ?_
  obtain ⟨r_1, e_2, hf⟩ := bd1_x hf
  refine call_v [.int p1] [] ⟨hx, hb, hml, hown, hts⟩ hK hP hD hS hA hl.1 (tX9_isPlace l G cI cJ cZ H.size h_o h_o_way h_o_wave h_o_past h_o_notes h_o_ring h_o_turns h_o_beater h_o_reader h_o_dice h_o_trialWay h_o_trial h_o_otherTrial h_o_sumsRe h_o_sumsIm h_o_tally h_o_image h_o_tape h_o_way_shifts o_imageKept o_taped o_way_size o_way_log o_way_wordBits o_way_limit o_way_radix o_way_order o_way_near o_way_seed o_way_stages p1 r_1 e_2) (cwV 1 hts (gv q_mX9_159 q_i_yX9_isPlace q_s_yX9_isPlace q_n_RX9 q_k_yX9_isPlace) rfl rfl rfl (by decide +kernel) ⟨by decide, by decide⟩) rfl rfl (Nat.le_of_ble_eq_true rfl) dX9_swing_2 ⟨Nat.zero_le _, Nat.zero_le _⟩ (ci := 9) rfl 0 rfl [0, 3] [1, 2, 4, 5] [4, 0, 1, 5, 2, 3] rfl rfl (ws2 := (wX9_swing cI cJ cZ h_o h_o_turns h_o_wave h_o_way h_o_turns_cos h_o_wave_wasRe h_o_past h_o_notes h_o_ring h_o_beater h_o_reader h_o_dice h_o_trialWay h_o_trial h_o_otherTrial h_o_sumsRe h_o_sumsIm h_o_tally h_o_image h_o_tape h_o_turns_sin h_o_wave_re h_o_wave_im h_o_wave_wasIm h_o_wave_halved h_o_way_shifts o_imageKept o_taped o_wave_exp o_wave_done o_wave_backward o_way_size o_way_log o_way_wordBits o_way_limit o_way_radix o_way_order o_way_near o_way_seed o_way_stages o_turns_cos o_wave_wasRe)) rfl (fun H locs hP hD hS => ?_)
  refine W.eq (g2 := F0 m 5 ls [.int r_1]) rfl ?_
  refine lv_if_eq (tgt := 17) hx hb dX9_swing_5 (by decide) (fun c_3 => ?_) (fun c_3 => ?_)
  · have hf := it_t c_3 hf
    refine lv_ldc2 (v := (-9223372036854775808 : Int64)) hx hb hown (hts _ q_cX9_358) dX9_swing_17 ?_
    cases hf
    exact hret _ _ _ _ dX9_swing_20 hP hD hS
  · have hf := it_f c_3 hf
    refine lv_iload_n hx hb dX9_swing_8 rfl (lv_at hl 2 rfl) ?_
    refine lv_if_lt (tgt := 17) hx hb dX9_swing_9 (by decide) (fun c_4 => ?_) (fun c_4 => ?_)
    · have hf := it_t c_4 hf
      refine lv_ldc2 (v := (-9223372036854775808 : Int64)) hx hb hown (hts _ q_cX9_358) dX9_swing_17 ?_
      cases hf
      exact hret _ _ _ _ dX9_swing_20 hP hD hS
    · have hf := it_f c_4 hf
      refine lv_iload_n hx hb dX9_swing_12 rfl (lv_at hl 2 rfl) ?_
      refine lv_iconst (v := (1 : Int32)) hx hb dX9_swing_13 (by decide) ?_
      refine lv_icmp_le (tgt := 21) hx hb dX9_swing_14 (by decide) (fun c_5 => ?_) (fun c_5 => ?_)
      · have hf := it_t c_5 hf
        refine lv_ldc2 (v := (2 : Int64)) hx hb hown (hts _ q_cX9_218) dX9_swing_21 ?_
        refine lv_aload_n hx hb dX9_swing_24 rfl (lv_at hl 0 rfl) ?_
        refine rd (ci := 9) (C := RX9) (T := TX9) (N := 19) hx hb hts inX9 hown hK hP 0 5 rfl rfl (by decide) (hts _ q_fX9_47) rfl dX9_swing_25 ?_
        refine rd (ci := 6) (C := RX6) (T := TX6) (N := 2) hx hb hts inX6 hown hK hP 1 0 rfl rfl (by decide) (hts _ q_fX9_186) rfl dX9_swing_28 ?_
        refine lv_iload_n hx hb dX9_swing_31 rfl (lv_at hl 1 rfl) ?_
        obtain ⟨g_6, hf⟩ := gd_x hf
        refine va_iald hx hb hK hP 4 0 rfl rfl (inb_x g_6) dX9_swing_32 ?_
        refine lv_i2l hx hb dX9_swing_33 rfl ?_
        refine lv_lmul hx hb dX9_swing_34 ?_
        refine lv_topl (fun v3_7 ev3_7 => ?_)
        have hf := nm_x ev3_7 hf
        refine lv_lstore_n (lv' := [(3, .long v3_7), (0, .ref h_o), (1, .int p1), (2, .int p2)]) hx hb dX9_swing_35 rfl hl (by decide) rfl (fun ls hl => ?_)
        refine lv_lconst (v := (0 : Int64)) hx hb dX9_swing_36 (by decide) ?_
        refine lv_lstore (lv' := [(5, .long (0 : Int64)), (3, .long v3_7), (0, .ref h_o), (1, .int p1), (2, .int p2)]) hx hb dX9_swing_37 hl (by decide) rfl (fun ls hl => ?_)
        refine lv_lconst (v := (0 : Int64)) hx hb dX9_swing_39 (by decide) ?_
        refine lv_lstore (lv' := [(7, .long (0 : Int64)), (5, .long (0 : Int64)), (3, .long v3_7), (0, .ref h_o), (1, .int p1), (2, .int p2)]) hx hb dX9_swing_40 hl (by decide) rfl (fun ls hl => ?_)
        refine lv_iconst (v := (0 : Int32)) hx hb dX9_swing_42 (by decide) ?_
        refine lv_istore (lv' := [(9, .int (0 : Int32)), (7, .long (0 : Int64)), (5, .long (0 : Int64)), (3, .long v3_7), (0, .ref h_o), (1, .int p1), (2, .int p2)]) hx hb dX9_swing_43 hl (by decide) rfl (fun ls hl => ?_)
        exact j45 FU p2 v3_7 (0 : Int64) (0 : Int64) (0 : Int32) H locs ls hf hP hD hS (lv_sub hl [4, 6, 3, 2, 1, 0] rfl)
      · have hf := it_f c_5 hf
        refine lv_ldc2 (v := (-9223372036854775808 : Int64)) hx hb hown (hts _ q_cX9_358) dX9_swing_17 ?_
        cases hf
        exact hret _ _ _ _ dX9_swing_20 hP hD hS
def wX9_productSum_al1 (cI cJ cZ : ClassId) (h_o h_o_wave h_o_way h_o_wave_wasRe h_o_past h_o_notes h_o_ring h_o_turns h_o_beater h_o_reader h_o_dice h_o_trialWay h_o_trial h_o_otherTrial h_o_sumsRe h_o_sumsIm h_o_tally h_o_image h_o_tape h_o_wave_re h_o_wave_im h_o_wave_wasIm h_o_wave_halved h_o_way_shifts : Nat) (o_imageKept : Int32) (o_taped : Int32) (o_wave_exp : Int32) (o_wave_done : Int32) (o_wave_backward : Int32) (o_way_size : Int32) (o_way_log : Int32) (o_way_wordBits : Int32) (o_way_limit : Int32) (o_way_radix : Int32) (o_way_order : Int32) (o_way_near : Int32) (o_way_seed : Int32) (o_way_stages : Int32) (o_wave_wasRe : Nat → Int32) : va_W := [(h_o, .inr (9, [.ref h_o_way, .ref h_o_wave, .ref h_o_past, .ref h_o_notes, .ref h_o_ring, .ref h_o_turns, .ref h_o_beater, .ref h_o_reader, .ref h_o_dice, .ref h_o_trialWay, .ref h_o_trial, .ref h_o_otherTrial, .ref h_o_sumsRe, .ref h_o_sumsIm, .ref h_o_tally, .ref h_o_image, .int o_imageKept, .ref h_o_tape, .int o_taped])), (h_o_wave, .inr (7, [.ref h_o_wave_re, .ref h_o_wave_im, .ref h_o_wave_wasRe, .ref h_o_wave_wasIm, .ref h_o_wave_halved, .int o_wave_exp, .int o_wave_done, .int o_wave_backward])), (h_o_way, .inr (8, [.int o_way_size, .int o_way_log, .int o_way_wordBits, .int o_way_limit, .int o_way_radix, .int o_way_order, .int o_way_near, .int o_way_seed, .int o_way_stages, .ref h_o_way_shifts])), (h_o_wave_wasRe, .inl (cI, 32, .inl o_wave_wasRe))]
def fX9_productSum_al1_6 (o_way_size : Int32) (o_wave_wasRe : Nat → Int32) : Nat → Int32 → Int32 → Int64 → Int32 → Option (Int64)
  | 0, _, _, _, _ => none
  | n + 1, v2, v3, v4, v6 =>
    if o_way_size ≤ v6 then (
      some v4
    ) else (
      gd (inb v6 32) (
      nm ((v3 + (v2 * v6)) &&& (o_way_size - (1 : Int32))) (fun i_3 =>
      gd (inb i_3 32) (
      nm (v4 + ((Int32.toInt64 (o_wave_wasRe (Int32.toNatClampNeg v6))) * (Int32.toInt64 (o_wave_wasRe (Int32.toNatClampNeg i_3))))) (fun v4_5 =>
      nm (v6 + (1 : Int32)) (fun v6_6 =>
      fX9_productSum_al1_6 o_way_size o_wave_wasRe n v2 v3 v4_5 v6_6)))))
    )
def fX9_productSum_al1 (o_way_size : Int32) (o_wave_wasRe : Nat → Int32) (p2 : Int32) (p3 : Int32) : Option (Int64) :=
  fX9_productSum_al1_6 o_way_size o_wave_wasRe FU p2 p3 (0 : Int64) (0 : Int32)
set_option maxHeartbeats 4000000 in
set_option maxRecDepth 100000 in
theorem tX9_productSum_al1 (l : Launch) (G : va_G) (cI cJ cZ : ClassId) (sz : Nat) (h_o h_o_wave h_o_way h_o_wave_wasRe h_o_past h_o_notes h_o_ring h_o_turns h_o_beater h_o_reader h_o_dice h_o_trialWay h_o_trial h_o_otherTrial h_o_sumsRe h_o_sumsIm h_o_tally h_o_image h_o_tape h_o_wave_re h_o_wave_im h_o_wave_wasIm h_o_wave_halved h_o_way_shifts : Nat) (o_imageKept : Int32) (o_taped : Int32) (o_wave_exp : Int32) (o_wave_done : Int32) (o_wave_backward : Int32) (o_way_size : Int32) (o_way_log : Int32) (o_way_wordBits : Int32) (o_way_limit : Int32) (o_way_radix : Int32) (o_way_order : Int32) (o_way_near : Int32) (o_way_seed : Int32) (o_way_stages : Int32) (o_wave_wasRe : Nat → Int32) (p2 : Int32) (p3 : Int32) (r : Int64) (hf : fX9_productSum_al1 o_way_size o_wave_wasRe p2 p3 = some r) : Met l yX9_productSum (Cond.code yX9_productSum cX9_productSum 7 (some .long) :: BIG) ({ frames := 0, cells := 0, slots := 0, locals := 0 } : Room) (cP G (TY3 cI cJ cZ) [.ref h_o, .ref h_o_wave_wasRe, .int p2, .int p3] sz (wX9_productSum_al1 cI cJ cZ h_o h_o_wave h_o_way h_o_wave_wasRe h_o_past h_o_notes h_o_ring h_o_turns h_o_beater h_o_reader h_o_dice h_o_trialWay h_o_trial h_o_otherTrial h_o_sumsRe h_o_sumsIm h_o_tally h_o_image h_o_tape h_o_wave_re h_o_wave_im h_o_wave_wasIm h_o_wave_halved h_o_way_shifts o_imageKept o_taped o_wave_exp o_wave_done o_wave_backward o_way_size o_way_log o_way_wordBits o_way_limit o_way_radix o_way_order o_way_near o_way_seed o_way_stages o_wave_wasRe)) (cQ G (TY3 cI cJ cZ) sz (wX9_productSum_al1 cI cJ cZ h_o h_o_wave h_o_way h_o_wave_wasRe h_o_past h_o_notes h_o_ring h_o_turns h_o_beater h_o_reader h_o_dice h_o_trialWay h_o_trial h_o_otherTrial h_o_sumsRe h_o_sumsIm h_o_tally h_o_image h_o_tape h_o_wave_re h_o_wave_im h_o_wave_wasIm h_o_wave_halved h_o_way_shifts o_imageKept o_taped o_wave_exp o_wave_done o_wave_backward o_way_size o_way_log o_way_wordBits o_way_limit o_way_radix o_way_order o_way_near o_way_seed o_way_stages o_wave_wasRe) (wX9_productSum_al1 cI cJ cZ h_o h_o_wave h_o_way h_o_wave_wasRe h_o_past h_o_notes h_o_ring h_o_turns h_o_beater h_o_reader h_o_dice h_o_trialWay h_o_trial h_o_otherTrial h_o_sumsRe h_o_sumsIm h_o_tally h_o_image h_o_tape h_o_wave_re h_o_wave_im h_o_wave_wasIm h_o_wave_halved h_o_way_shifts o_imageKept o_taped o_wave_exp o_wave_done o_wave_backward o_way_size o_way_log o_way_wordBits o_way_limit o_way_radix o_way_order o_way_near o_way_seed o_way_stages o_wave_wasRe) (some (.long r))) 0 0 (va_A (wX9_productSum_al1 cI cJ cZ h_o h_o_wave h_o_way h_o_wave_wasRe h_o_past h_o_notes h_o_ring h_o_turns h_o_beater h_o_reader h_o_dice h_o_trialWay h_o_trial h_o_otherTrial h_o_sumsRe h_o_sumsIm h_o_tally h_o_image h_o_tape h_o_wave_re h_o_wave_im h_o_wave_wasIm h_o_wave_halved h_o_way_shifts o_imageKept o_taped o_wave_exp o_wave_done o_wave_backward o_way_size o_way_log o_way_wordBits o_way_limit o_way_radix o_way_order o_way_near o_way_seed o_way_stages o_wave_wasRe) sz) := by
  refine met_l (cc := cX9_productSum) (maxL := 7) (plainFor_of_name (by decide)) (Nat.le_of_ble_eq_true rfl) (fun p e s m below meth c A ls Q hx hb hml hts hown hK hP hD hS hA hl hret => ?_)
  have hown : s.vm.findClass RX9 = some m.cls := hown
  have hl : lv_has ls 7 [(0, .ref h_o), (1, .ref h_o_wave_wasRe), (2, .int p2), (3, .int p3)] := hl
  have j6 : ∀ (n : Nat) (v2 : Int32) (v3 : Int32) (v4 : Int64) (v6 : Int32) (H : Heap) (locs : List Loc) (ls : Array Slot), fX9_productSum_al1_6 o_way_size o_wave_wasRe n v2 v3 v4 v6 = some r → va_P G vwCl (wX9_productSum_al1 cI cJ cZ h_o h_o_wave h_o_way h_o_wave_wasRe h_o_past h_o_notes h_o_ring h_o_turns h_o_beater h_o_reader h_o_dice h_o_trialWay h_o_trial h_o_otherTrial h_o_sumsRe h_o_sumsIm h_o_tally h_o_image h_o_tape h_o_wave_re h_o_wave_im h_o_wave_wasIm h_o_wave_halved h_o_way_shifts o_imageKept o_taped o_wave_exp o_wave_done o_wave_backward o_way_size o_way_log o_way_wordBits o_way_limit o_way_radix o_way_order o_way_near o_way_seed o_way_stages o_wave_wasRe) H → va_D A (wX9_productSum_al1 cI cJ cZ h_o h_o_wave h_o_way h_o_wave_wasRe h_o_past h_o_notes h_o_ring h_o_turns h_o_beater h_o_reader h_o_dice h_o_trialWay h_o_trial h_o_otherTrial h_o_sumsRe h_o_sumsIm h_o_tally h_o_image h_o_tape h_o_wave_re h_o_wave_im h_o_wave_wasIm h_o_wave_halved h_o_way_shifts o_imageKept o_taped o_wave_exp o_wave_done o_wave_backward o_way_size o_way_log o_way_wordBits o_way_limit o_way_radix o_way_order o_way_near o_way_seed o_way_stages o_wave_wasRe) → va_S A s.heap H locs → lv_has ls 7 [(0, .ref h_o), (1, .ref h_o_wave_wasRe), (2, .int v2), (3, .int v3), (4, .long v4), (6, .int v6)] → W p l e ({ frames := 0, cells := 0, slots := 0, locals := 0 } : Room) s m ([.ref h_o, .ref h_o_wave_wasRe, .int p2, .int p3] : List Value).toArray below meth c H locs 0 0 Q (F0 m 6 ls []) := by
    intro n
    induction n with
    | zero =>
      intro v2 v3 v4 v6 H locs ls hf
      have hf : (none : Option (Int64)) = some r := hf
      cases hf
    | succ n ih =>
      intro v2 v3 v4 v6 H locs ls hf hP hD hS hl
      rw [fX9_productSum_al1_6.eq_2] at hf
      refine lv_iload hx hb dX9_productSum_6 (lv_at hl 5 rfl) ?_
      refine lv_aload_n hx hb dX9_productSum_8 rfl (lv_at hl 0 rfl) ?_
      refine rd (ci := 9) (C := RX9) (T := TX9) (N := 19) hx hb hts inX9 hown hK hP 0 0 rfl rfl (by decide) (hts _ q_fX9_10) rfl dX9_productSum_9 ?_
      refine rd (ci := 8) (C := RX8) (T := TX8) (N := 10) hx hb hts inX8 hown hK hP 2 0 rfl rfl (by decide) (hts _ q_fX9_115) rfl dX9_productSum_12 ?_
      refine lv_icmp_ge (tgt := 60) hx hb dX9_productSum_15 (by decide) (fun c_1 => ?_) (fun c_1 => ?_)
      · have hf := it_t c_1 hf
        refine lv_lload hx hb dX9_productSum_60 (lv_at hl 4 rfl) ?_
        cases hf
        exact hret _ _ _ _ dX9_productSum_62 hP hD hS
      · have hf := it_f c_1 hf
        refine lv_lload hx hb dX9_productSum_18 (lv_at hl 4 rfl) ?_
        refine lv_aload_n hx hb dX9_productSum_20 rfl (lv_at hl 0 rfl) ?_
        refine rd (ci := 9) (C := RX9) (T := TX9) (N := 19) hx hb hts inX9 hown hK hP 0 1 rfl rfl (by decide) (hts _ q_fX9_19) rfl dX9_productSum_21 ?_
        refine rd (ci := 7) (C := RX7) (T := TX7) (N := 8) hx hb hts inX7 hown hK hP 1 2 rfl rfl (by decide) (hts _ q_fX9_177) rfl dX9_productSum_24 ?_
        refine lv_iload hx hb dX9_productSum_27 (lv_at hl 5 rfl) ?_
        obtain ⟨g_2, hf⟩ := gd_x hf
        refine va_iald hx hb hK hP 3 0 rfl rfl (inb_x g_2) dX9_productSum_29 ?_
        refine lv_i2l hx hb dX9_productSum_30 rfl ?_
        refine lv_aload_n hx hb dX9_productSum_31 rfl (lv_at hl 1 rfl) ?_
        refine lv_iload_n hx hb dX9_productSum_32 rfl (lv_at hl 3 rfl) ?_
        refine lv_iload_n hx hb dX9_productSum_33 rfl (lv_at hl 2 rfl) ?_
        refine lv_iload hx hb dX9_productSum_34 (lv_at hl 5 rfl) ?_
        refine lv_imul hx hb dX9_productSum_36 ?_
        refine lv_iadd hx hb dX9_productSum_37 ?_
        refine lv_aload_n hx hb dX9_productSum_38 rfl (lv_at hl 0 rfl) ?_
        refine rd (ci := 9) (C := RX9) (T := TX9) (N := 19) hx hb hts inX9 hown hK hP 0 0 rfl rfl (by decide) (hts _ q_fX9_10) rfl dX9_productSum_39 ?_
        refine rd (ci := 8) (C := RX8) (T := TX8) (N := 10) hx hb hts inX8 hown hK hP 2 0 rfl rfl (by decide) (hts _ q_fX9_115) rfl dX9_productSum_42 ?_
        refine lv_iconst (v := (1 : Int32)) hx hb dX9_productSum_45 (by decide) ?_
        refine lv_isub hx hb dX9_productSum_46 ?_
        refine lv_iand hx hb dX9_productSum_47 ?_
        refine lv_topi (fun i_3 ei_3 => ?_)
        have hf := nm_x ei_3 hf
        obtain ⟨g_4, hf⟩ := gd_x hf
        refine va_iald hx hb hK hP 3 0 rfl rfl (inb_x g_4) dX9_productSum_48 ?_
        refine lv_i2l hx hb dX9_productSum_49 rfl ?_
        refine lv_lmul hx hb dX9_productSum_50 ?_
        refine lv_ladd hx hb dX9_productSum_51 ?_
        refine lv_topl (fun v4_5 ev4_5 => ?_)
        have hf := nm_x ev4_5 hf
        refine lv_lstore (lv' := [(4, .long v4_5), (0, .ref h_o), (1, .ref h_o_wave_wasRe), (2, .int v2), (3, .int v3), (6, .int v6)]) hx hb dX9_productSum_52 hl (by decide) rfl (fun ls hl => ?_)
        obtain ⟨v6_6, ev6_6⟩ : ∃ y : Int32, y = v6 + (1 : Int32) := ⟨_, rfl⟩
        have hf := nm_x ev6_6 hf
        refine lv_iinc (v := v6_6) (lv' := [(6, .int v6_6), (4, .long v4_5), (0, .ref h_o), (1, .ref h_o_wave_wasRe), (2, .int v2), (3, .int v3)]) hx hb dX9_productSum_54 hl (k := 5) rfl (by rw [ev6_6]; rfl) (by decide) rfl (fun ls hl => ?_)
        refine lv_goto (tgt := 6) hx hb dX9_productSum_57 (by decide) ?_
        exact ih v2 v3 v4_5 v6_6 H locs ls hf hP hD hS (lv_sub hl [2, 3, 4, 5, 1, 0] rfl)
  unfold fX9_productSum_al1 at hf
  obtain ⟨H, eH⟩ : ∃ H, H = s.heap := ⟨_, rfl⟩
  obtain ⟨locs, elocs⟩ : ∃ z : List Loc, z = [] := ⟨_, rfl⟩
  have hP : va_P G vwCl (wX9_productSum_al1 cI cJ cZ h_o h_o_wave h_o_way h_o_wave_wasRe h_o_past h_o_notes h_o_ring h_o_turns h_o_beater h_o_reader h_o_dice h_o_trialWay h_o_trial h_o_otherTrial h_o_sumsRe h_o_sumsIm h_o_tally h_o_image h_o_tape h_o_wave_re h_o_wave_im h_o_wave_wasIm h_o_wave_halved h_o_way_shifts o_imageKept o_taped o_wave_exp o_wave_done o_wave_backward o_way_size o_way_log o_way_wordBits o_way_limit o_way_radix o_way_order o_way_near o_way_seed o_way_stages o_wave_wasRe) H := by rw [eH]; exact hP
  have hS : va_S A s.heap H locs := by rw [eH, elocs]; exact hS
  suffices hgo : W p l e ({ frames := 0, cells := 0, slots := 0, locals := 0 } : Room) s m ([.ref h_o, .ref h_o_wave_wasRe, .int p2, .int p3] : List Value).toArray below meth c H locs 0 0 Q (F0 m 0 ls []) by rw [eH, elocs] at hgo; exact hgo
  clear eH elocs
  refine lv_lconst (v := (0 : Int64)) hx hb dX9_productSum_0 (by decide) ?_
  refine lv_lstore (lv' := [(4, .long (0 : Int64)), (0, .ref h_o), (1, .ref h_o_wave_wasRe), (2, .int p2), (3, .int p3)]) hx hb dX9_productSum_1 hl (by decide) rfl (fun ls hl => ?_)
  refine lv_iconst (v := (0 : Int32)) hx hb dX9_productSum_3 (by decide) ?_
  refine lv_istore (lv' := [(6, .int (0 : Int32)), (4, .long (0 : Int64)), (0, .ref h_o), (1, .ref h_o_wave_wasRe), (2, .int p2), (3, .int p3)]) hx hb dX9_productSum_4 hl (by decide) rfl (fun ls hl => ?_)
  exact j6 FU p2 p3 (0 : Int64) (0 : Int32) H locs ls hf hP hD hS (lv_sub hl [2, 3, 4, 5, 1, 0] rfl)
def wX9_like (cI cJ cZ : ClassId) (h_o h_o_wave h_o_way h_o_wave_wasRe h_o_past h_o_notes h_o_ring h_o_turns h_o_beater h_o_reader h_o_dice h_o_trialWay h_o_trial h_o_otherTrial h_o_sumsRe h_o_sumsIm h_o_tally h_o_image h_o_tape h_o_wave_re h_o_wave_im h_o_wave_wasIm h_o_wave_halved h_o_way_shifts : Nat) (o_imageKept : Int32) (o_taped : Int32) (o_wave_exp : Int32) (o_wave_done : Int32) (o_wave_backward : Int32) (o_way_size : Int32) (o_way_log : Int32) (o_way_wordBits : Int32) (o_way_limit : Int32) (o_way_radix : Int32) (o_way_order : Int32) (o_way_near : Int32) (o_way_seed : Int32) (o_way_stages : Int32) (o_wave_wasRe : Nat → Int32) : va_W := [(h_o, .inr (9, [.ref h_o_way, .ref h_o_wave, .ref h_o_past, .ref h_o_notes, .ref h_o_ring, .ref h_o_turns, .ref h_o_beater, .ref h_o_reader, .ref h_o_dice, .ref h_o_trialWay, .ref h_o_trial, .ref h_o_otherTrial, .ref h_o_sumsRe, .ref h_o_sumsIm, .ref h_o_tally, .ref h_o_image, .int o_imageKept, .ref h_o_tape, .int o_taped])), (h_o_wave, .inr (7, [.ref h_o_wave_re, .ref h_o_wave_im, .ref h_o_wave_wasRe, .ref h_o_wave_wasIm, .ref h_o_wave_halved, .int o_wave_exp, .int o_wave_done, .int o_wave_backward])), (h_o_way, .inr (8, [.int o_way_size, .int o_way_log, .int o_way_wordBits, .int o_way_limit, .int o_way_radix, .int o_way_order, .int o_way_near, .int o_way_seed, .int o_way_stages, .ref h_o_way_shifts])), (h_o_wave_wasRe, .inl (cI, 32, .inl o_wave_wasRe))]
def fX9_like (o_way_size : Int32) (o_wave_wasRe : Nat → Int32) (p1 : Int32) : Option (Int64) :=
  bd1 (fX9_isPlace o_way_size p1) (fun r_1 =>
  if r_1 = 0 then (
    some (-9223372036854775808 : Int64)
  ) else (
    bd1 (fX9_productSum_al1 o_way_size o_wave_wasRe (1 : Int32) p1) (fun r_4 =>
    some r_4)
  ))
set_option maxHeartbeats 4000000 in
set_option maxRecDepth 100000 in
theorem tX9_like (l : Launch) (G : va_G) (cI cJ cZ : ClassId) (sz : Nat) (h_o h_o_wave h_o_way h_o_wave_wasRe h_o_past h_o_notes h_o_ring h_o_turns h_o_beater h_o_reader h_o_dice h_o_trialWay h_o_trial h_o_otherTrial h_o_sumsRe h_o_sumsIm h_o_tally h_o_image h_o_tape h_o_wave_re h_o_wave_im h_o_wave_wasIm h_o_wave_halved h_o_way_shifts : Nat) (o_imageKept : Int32) (o_taped : Int32) (o_wave_exp : Int32) (o_wave_done : Int32) (o_wave_backward : Int32) (o_way_size : Int32) (o_way_log : Int32) (o_way_wordBits : Int32) (o_way_limit : Int32) (o_way_radix : Int32) (o_way_order : Int32) (o_way_near : Int32) (o_way_seed : Int32) (o_way_stages : Int32) (o_wave_wasRe : Nat → Int32) (p1 : Int32) (r : Int64) (hf : fX9_like o_way_size o_wave_wasRe p1 = some r) : Met l yX9_like (Cond.code yX9_like cX9_like 2 (some .long) :: BIG) ({ frames := 1, cells := 0, slots := 0, locals := 26 } : Room) (cP G (TY3 cI cJ cZ) [.ref h_o, .int p1] sz (wX9_like cI cJ cZ h_o h_o_wave h_o_way h_o_wave_wasRe h_o_past h_o_notes h_o_ring h_o_turns h_o_beater h_o_reader h_o_dice h_o_trialWay h_o_trial h_o_otherTrial h_o_sumsRe h_o_sumsIm h_o_tally h_o_image h_o_tape h_o_wave_re h_o_wave_im h_o_wave_wasIm h_o_wave_halved h_o_way_shifts o_imageKept o_taped o_wave_exp o_wave_done o_wave_backward o_way_size o_way_log o_way_wordBits o_way_limit o_way_radix o_way_order o_way_near o_way_seed o_way_stages o_wave_wasRe)) (cQ G (TY3 cI cJ cZ) sz (wX9_like cI cJ cZ h_o h_o_wave h_o_way h_o_wave_wasRe h_o_past h_o_notes h_o_ring h_o_turns h_o_beater h_o_reader h_o_dice h_o_trialWay h_o_trial h_o_otherTrial h_o_sumsRe h_o_sumsIm h_o_tally h_o_image h_o_tape h_o_wave_re h_o_wave_im h_o_wave_wasIm h_o_wave_halved h_o_way_shifts o_imageKept o_taped o_wave_exp o_wave_done o_wave_backward o_way_size o_way_log o_way_wordBits o_way_limit o_way_radix o_way_order o_way_near o_way_seed o_way_stages o_wave_wasRe) (wX9_like cI cJ cZ h_o h_o_wave h_o_way h_o_wave_wasRe h_o_past h_o_notes h_o_ring h_o_turns h_o_beater h_o_reader h_o_dice h_o_trialWay h_o_trial h_o_otherTrial h_o_sumsRe h_o_sumsIm h_o_tally h_o_image h_o_tape h_o_wave_re h_o_wave_im h_o_wave_wasIm h_o_wave_halved h_o_way_shifts o_imageKept o_taped o_wave_exp o_wave_done o_wave_backward o_way_size o_way_log o_way_wordBits o_way_limit o_way_radix o_way_order o_way_near o_way_seed o_way_stages o_wave_wasRe) (some (.long r))) 0 0 (va_A (wX9_like cI cJ cZ h_o h_o_wave h_o_way h_o_wave_wasRe h_o_past h_o_notes h_o_ring h_o_turns h_o_beater h_o_reader h_o_dice h_o_trialWay h_o_trial h_o_otherTrial h_o_sumsRe h_o_sumsIm h_o_tally h_o_image h_o_tape h_o_wave_re h_o_wave_im h_o_wave_wasIm h_o_wave_halved h_o_way_shifts o_imageKept o_taped o_wave_exp o_wave_done o_wave_backward o_way_size o_way_log o_way_wordBits o_way_limit o_way_radix o_way_order o_way_near o_way_seed o_way_stages o_wave_wasRe) sz) := by
  refine met_l (cc := cX9_like) (maxL := 2) (plainFor_of_name (by decide)) (Nat.le_of_ble_eq_true rfl) (fun p e s m below meth c A ls Q hx hb hml hts hown hK hP hD hS hA hl hret => ?_)
  have hown : s.vm.findClass RX9 = some m.cls := hown
  have hl : lv_has ls 2 [(0, .ref h_o), (1, .int p1)] := hl
  unfold fX9_like at hf
  obtain ⟨H, eH⟩ : ∃ H, H = s.heap := ⟨_, rfl⟩
  obtain ⟨locs, elocs⟩ : ∃ z : List Loc, z = [] := ⟨_, rfl⟩
  have hP : va_P G vwCl (wX9_like cI cJ cZ h_o h_o_wave h_o_way h_o_wave_wasRe h_o_past h_o_notes h_o_ring h_o_turns h_o_beater h_o_reader h_o_dice h_o_trialWay h_o_trial h_o_otherTrial h_o_sumsRe h_o_sumsIm h_o_tally h_o_image h_o_tape h_o_wave_re h_o_wave_im h_o_wave_wasIm h_o_wave_halved h_o_way_shifts o_imageKept o_taped o_wave_exp o_wave_done o_wave_backward o_way_size o_way_log o_way_wordBits o_way_limit o_way_radix o_way_order o_way_near o_way_seed o_way_stages o_wave_wasRe) H := by rw [eH]; exact hP
  have hS : va_S A s.heap H locs := by rw [eH, elocs]; exact hS
  suffices hgo : W p l e ({ frames := 1, cells := 0, slots := 0, locals := 26 } : Room) s m ([.ref h_o, .int p1] : List Value).toArray below meth c H locs 0 0 Q (F0 m 0 ls []) by rw [eH, elocs] at hgo; exact hgo
  clear eH elocs
  refine lv_aload_n hx hb dX9_like_0 rfl (lv_at hl 0 rfl) ?_
  refine lv_iload_n hx hb dX9_like_1 rfl (lv_at hl 1 rfl) ?_
  obtain ⟨r_1, e_2, hf⟩ := bd1_x hf
  refine call_v [.int p1] [] ⟨hx, hb, hml, hown, hts⟩ hK hP hD hS hA hl.1 (tX9_isPlace l G cI cJ cZ H.size h_o h_o_way h_o_wave h_o_past h_o_notes h_o_ring h_o_turns h_o_beater h_o_reader h_o_dice h_o_trialWay h_o_trial h_o_otherTrial h_o_sumsRe h_o_sumsIm h_o_tally h_o_image h_o_tape h_o_way_shifts o_imageKept o_taped o_way_size o_way_log o_way_wordBits o_way_limit o_way_radix o_way_order o_way_near o_way_seed o_way_stages p1 r_1 e_2) (cwV 1 hts (gv q_mX9_159 q_i_yX9_isPlace q_s_yX9_isPlace q_n_RX9 q_k_yX9_isPlace) rfl rfl rfl (by decide +kernel) ⟨by decide, by decide⟩) rfl rfl (Nat.le_of_ble_eq_true rfl) dX9_like_2 ⟨Nat.zero_le _, Nat.zero_le _⟩ (ci := 9) rfl 0 rfl [0, 2] [1, 3] [2, 0, 3, 1] rfl rfl (ws2 := (wX9_like cI cJ cZ h_o h_o_wave h_o_way h_o_wave_wasRe h_o_past h_o_notes h_o_ring h_o_turns h_o_beater h_o_reader h_o_dice h_o_trialWay h_o_trial h_o_otherTrial h_o_sumsRe h_o_sumsIm h_o_tally h_o_image h_o_tape h_o_wave_re h_o_wave_im h_o_wave_wasIm h_o_wave_halved h_o_way_shifts o_imageKept o_taped o_wave_exp o_wave_done o_wave_backward o_way_size o_way_log o_way_wordBits o_way_limit o_way_radix o_way_order o_way_near o_way_seed o_way_stages o_wave_wasRe)) rfl (fun H locs hP hD hS => ?_)
  refine W.eq (g2 := F0 m 5 ls [.int r_1]) rfl ?_
  refine lv_if_eq (tgt := 24) hx hb dX9_like_5 (by decide) (fun c_3 => ?_) (fun c_3 => ?_)
  · have hf := it_t c_3 hf
    refine lv_ldc2 (v := (-9223372036854775808 : Int64)) hx hb hown (hts _ q_cX9_358) dX9_like_24 ?_
    cases hf
    exact hret _ _ _ _ dX9_like_27 hP hD hS
  · have hf := it_f c_3 hf
    refine lv_aload_n hx hb dX9_like_8 rfl (lv_at hl 0 rfl) ?_
    refine lv_aload_n hx hb dX9_like_9 rfl (lv_at hl 0 rfl) ?_
    refine rd (ci := 9) (C := RX9) (T := TX9) (N := 19) hx hb hts inX9 hown hK hP 0 1 rfl rfl (by decide) (hts _ q_fX9_19) rfl dX9_like_10 ?_
    refine rd (ci := 7) (C := RX7) (T := TX7) (N := 8) hx hb hts inX7 hown hK hP 1 2 rfl rfl (by decide) (hts _ q_fX9_177) rfl dX9_like_13 ?_
    refine lv_iconst (v := (1 : Int32)) hx hb dX9_like_16 (by decide) ?_
    refine lv_iload_n hx hb dX9_like_17 rfl (lv_at hl 1 rfl) ?_
    obtain ⟨r_4, e_5, hf⟩ := bd1_x hf
    refine call_v [.ref h_o_wave_wasRe, .int (1 : Int32), .int p1] [] ⟨hx, hb, hml, hown, hts⟩ hK hP hD hS hA hl.1 (tX9_productSum_al1 l G cI cJ cZ H.size h_o h_o_wave h_o_way h_o_wave_wasRe h_o_past h_o_notes h_o_ring h_o_turns h_o_beater h_o_reader h_o_dice h_o_trialWay h_o_trial h_o_otherTrial h_o_sumsRe h_o_sumsIm h_o_tally h_o_image h_o_tape h_o_wave_re h_o_wave_im h_o_wave_wasIm h_o_wave_halved h_o_way_shifts o_imageKept o_taped o_wave_exp o_wave_done o_wave_backward o_way_size o_way_log o_way_wordBits o_way_limit o_way_radix o_way_order o_way_near o_way_seed o_way_stages o_wave_wasRe (1 : Int32) p1 r_4 e_5) (cwV 3 hts (gv q_mX9_382 q_i_yX9_productSum q_s_yX9_productSum q_n_RX9 q_k_yX9_productSum) rfl rfl rfl (by decide +kernel) ⟨by decide, by decide⟩) rfl rfl (Nat.le_of_ble_eq_true rfl) dX9_like_18 ⟨Nat.zero_le _, Nat.zero_le _⟩ (ci := 9) rfl 0 rfl [0, 1, 2, 3] [] [0, 1, 2, 3] rfl rfl (ws2 := (wX9_like cI cJ cZ h_o h_o_wave h_o_way h_o_wave_wasRe h_o_past h_o_notes h_o_ring h_o_turns h_o_beater h_o_reader h_o_dice h_o_trialWay h_o_trial h_o_otherTrial h_o_sumsRe h_o_sumsIm h_o_tally h_o_image h_o_tape h_o_wave_re h_o_wave_im h_o_wave_wasIm h_o_wave_halved h_o_way_shifts o_imageKept o_taped o_wave_exp o_wave_done o_wave_backward o_way_size o_way_log o_way_wordBits o_way_limit o_way_radix o_way_order o_way_near o_way_seed o_way_stages o_wave_wasRe)) rfl (fun H locs hP hD hS => ?_)
    refine W.eq (g2 := F0 m 21 ls [.long r_4]) rfl ?_
    refine lv_goto (tgt := 27) hx hb dX9_like_21 (by decide) ?_
    cases hf
    exact hret _ _ _ _ dX9_like_27 hP hD hS
def wX9_productSum (cI cJ cZ : ClassId) (h_o h_a1 h_o_wave h_o_way h_o_wave_wasRe h_o_past h_o_notes h_o_ring h_o_turns h_o_beater h_o_reader h_o_dice h_o_trialWay h_o_trial h_o_otherTrial h_o_sumsRe h_o_sumsIm h_o_tally h_o_image h_o_tape h_o_wave_re h_o_wave_im h_o_wave_wasIm h_o_wave_halved h_o_way_shifts : Nat) (o_imageKept : Int32) (o_taped : Int32) (a1 : Nat → Int32) (o_wave_exp : Int32) (o_wave_done : Int32) (o_wave_backward : Int32) (o_way_size : Int32) (o_way_log : Int32) (o_way_wordBits : Int32) (o_way_limit : Int32) (o_way_radix : Int32) (o_way_order : Int32) (o_way_near : Int32) (o_way_seed : Int32) (o_way_stages : Int32) (o_wave_wasRe : Nat → Int32) : va_W := [(h_o, .inr (9, [.ref h_o_way, .ref h_o_wave, .ref h_o_past, .ref h_o_notes, .ref h_o_ring, .ref h_o_turns, .ref h_o_beater, .ref h_o_reader, .ref h_o_dice, .ref h_o_trialWay, .ref h_o_trial, .ref h_o_otherTrial, .ref h_o_sumsRe, .ref h_o_sumsIm, .ref h_o_tally, .ref h_o_image, .int o_imageKept, .ref h_o_tape, .int o_taped])), (h_a1, .inl (cI, 32, .inl a1)), (h_o_wave, .inr (7, [.ref h_o_wave_re, .ref h_o_wave_im, .ref h_o_wave_wasRe, .ref h_o_wave_wasIm, .ref h_o_wave_halved, .int o_wave_exp, .int o_wave_done, .int o_wave_backward])), (h_o_way, .inr (8, [.int o_way_size, .int o_way_log, .int o_way_wordBits, .int o_way_limit, .int o_way_radix, .int o_way_order, .int o_way_near, .int o_way_seed, .int o_way_stages, .ref h_o_way_shifts])), (h_o_wave_wasRe, .inl (cI, 32, .inl o_wave_wasRe))]
def fX9_productSum_6 (a1 : Nat → Int32) (o_way_size : Int32) (o_wave_wasRe : Nat → Int32) : Nat → Int32 → Int32 → Int64 → Int32 → Option (Int64)
  | 0, _, _, _, _ => none
  | n + 1, v2, v3, v4, v6 =>
    if o_way_size ≤ v6 then (
      some v4
    ) else (
      gd (inb v6 32) (
      nm ((v3 + (v2 * v6)) &&& (o_way_size - (1 : Int32))) (fun i_3 =>
      gd (inb i_3 32) (
      nm (v4 + ((Int32.toInt64 (o_wave_wasRe (Int32.toNatClampNeg v6))) * (Int32.toInt64 (a1 (Int32.toNatClampNeg i_3))))) (fun v4_5 =>
      nm (v6 + (1 : Int32)) (fun v6_6 =>
      fX9_productSum_6 a1 o_way_size o_wave_wasRe n v2 v3 v4_5 v6_6)))))
    )
def fX9_productSum (a1 : Nat → Int32) (o_way_size : Int32) (o_wave_wasRe : Nat → Int32) (p2 : Int32) (p3 : Int32) : Option (Int64) :=
  fX9_productSum_6 a1 o_way_size o_wave_wasRe FU p2 p3 (0 : Int64) (0 : Int32)
set_option maxHeartbeats 4000000 in
set_option maxRecDepth 100000 in
theorem tX9_productSum (l : Launch) (G : va_G) (cI cJ cZ : ClassId) (sz : Nat) (h_o h_a1 h_o_wave h_o_way h_o_wave_wasRe h_o_past h_o_notes h_o_ring h_o_turns h_o_beater h_o_reader h_o_dice h_o_trialWay h_o_trial h_o_otherTrial h_o_sumsRe h_o_sumsIm h_o_tally h_o_image h_o_tape h_o_wave_re h_o_wave_im h_o_wave_wasIm h_o_wave_halved h_o_way_shifts : Nat) (o_imageKept : Int32) (o_taped : Int32) (a1 : Nat → Int32) (o_wave_exp : Int32) (o_wave_done : Int32) (o_wave_backward : Int32) (o_way_size : Int32) (o_way_log : Int32) (o_way_wordBits : Int32) (o_way_limit : Int32) (o_way_radix : Int32) (o_way_order : Int32) (o_way_near : Int32) (o_way_seed : Int32) (o_way_stages : Int32) (o_wave_wasRe : Nat → Int32) (p2 : Int32) (p3 : Int32) (r : Int64) (hf : fX9_productSum a1 o_way_size o_wave_wasRe p2 p3 = some r) : Met l yX9_productSum (Cond.code yX9_productSum cX9_productSum 7 (some .long) :: BIG) ({ frames := 0, cells := 0, slots := 0, locals := 0 } : Room) (cP G (TY3 cI cJ cZ) [.ref h_o, .ref h_a1, .int p2, .int p3] sz (wX9_productSum cI cJ cZ h_o h_a1 h_o_wave h_o_way h_o_wave_wasRe h_o_past h_o_notes h_o_ring h_o_turns h_o_beater h_o_reader h_o_dice h_o_trialWay h_o_trial h_o_otherTrial h_o_sumsRe h_o_sumsIm h_o_tally h_o_image h_o_tape h_o_wave_re h_o_wave_im h_o_wave_wasIm h_o_wave_halved h_o_way_shifts o_imageKept o_taped a1 o_wave_exp o_wave_done o_wave_backward o_way_size o_way_log o_way_wordBits o_way_limit o_way_radix o_way_order o_way_near o_way_seed o_way_stages o_wave_wasRe)) (cQ G (TY3 cI cJ cZ) sz (wX9_productSum cI cJ cZ h_o h_a1 h_o_wave h_o_way h_o_wave_wasRe h_o_past h_o_notes h_o_ring h_o_turns h_o_beater h_o_reader h_o_dice h_o_trialWay h_o_trial h_o_otherTrial h_o_sumsRe h_o_sumsIm h_o_tally h_o_image h_o_tape h_o_wave_re h_o_wave_im h_o_wave_wasIm h_o_wave_halved h_o_way_shifts o_imageKept o_taped a1 o_wave_exp o_wave_done o_wave_backward o_way_size o_way_log o_way_wordBits o_way_limit o_way_radix o_way_order o_way_near o_way_seed o_way_stages o_wave_wasRe) (wX9_productSum cI cJ cZ h_o h_a1 h_o_wave h_o_way h_o_wave_wasRe h_o_past h_o_notes h_o_ring h_o_turns h_o_beater h_o_reader h_o_dice h_o_trialWay h_o_trial h_o_otherTrial h_o_sumsRe h_o_sumsIm h_o_tally h_o_image h_o_tape h_o_wave_re h_o_wave_im h_o_wave_wasIm h_o_wave_halved h_o_way_shifts o_imageKept o_taped a1 o_wave_exp o_wave_done o_wave_backward o_way_size o_way_log o_way_wordBits o_way_limit o_way_radix o_way_order o_way_near o_way_seed o_way_stages o_wave_wasRe) (some (.long r))) 0 0 (va_A (wX9_productSum cI cJ cZ h_o h_a1 h_o_wave h_o_way h_o_wave_wasRe h_o_past h_o_notes h_o_ring h_o_turns h_o_beater h_o_reader h_o_dice h_o_trialWay h_o_trial h_o_otherTrial h_o_sumsRe h_o_sumsIm h_o_tally h_o_image h_o_tape h_o_wave_re h_o_wave_im h_o_wave_wasIm h_o_wave_halved h_o_way_shifts o_imageKept o_taped a1 o_wave_exp o_wave_done o_wave_backward o_way_size o_way_log o_way_wordBits o_way_limit o_way_radix o_way_order o_way_near o_way_seed o_way_stages o_wave_wasRe) sz) := by
  refine met_l (cc := cX9_productSum) (maxL := 7) (plainFor_of_name (by decide)) (Nat.le_of_ble_eq_true rfl) (fun p e s m below meth c A ls Q hx hb hml hts hown hK hP hD hS hA hl hret => ?_)
  have hown : s.vm.findClass RX9 = some m.cls := hown
  have hl : lv_has ls 7 [(0, .ref h_o), (1, .ref h_a1), (2, .int p2), (3, .int p3)] := hl
  have j6 : ∀ (n : Nat) (v2 : Int32) (v3 : Int32) (v4 : Int64) (v6 : Int32) (H : Heap) (locs : List Loc) (ls : Array Slot), fX9_productSum_6 a1 o_way_size o_wave_wasRe n v2 v3 v4 v6 = some r → va_P G vwCl (wX9_productSum cI cJ cZ h_o h_a1 h_o_wave h_o_way h_o_wave_wasRe h_o_past h_o_notes h_o_ring h_o_turns h_o_beater h_o_reader h_o_dice h_o_trialWay h_o_trial h_o_otherTrial h_o_sumsRe h_o_sumsIm h_o_tally h_o_image h_o_tape h_o_wave_re h_o_wave_im h_o_wave_wasIm h_o_wave_halved h_o_way_shifts o_imageKept o_taped a1 o_wave_exp o_wave_done o_wave_backward o_way_size o_way_log o_way_wordBits o_way_limit o_way_radix o_way_order o_way_near o_way_seed o_way_stages o_wave_wasRe) H → va_D A (wX9_productSum cI cJ cZ h_o h_a1 h_o_wave h_o_way h_o_wave_wasRe h_o_past h_o_notes h_o_ring h_o_turns h_o_beater h_o_reader h_o_dice h_o_trialWay h_o_trial h_o_otherTrial h_o_sumsRe h_o_sumsIm h_o_tally h_o_image h_o_tape h_o_wave_re h_o_wave_im h_o_wave_wasIm h_o_wave_halved h_o_way_shifts o_imageKept o_taped a1 o_wave_exp o_wave_done o_wave_backward o_way_size o_way_log o_way_wordBits o_way_limit o_way_radix o_way_order o_way_near o_way_seed o_way_stages o_wave_wasRe) → va_S A s.heap H locs → lv_has ls 7 [(0, .ref h_o), (1, .ref h_a1), (2, .int v2), (3, .int v3), (4, .long v4), (6, .int v6)] → W p l e ({ frames := 0, cells := 0, slots := 0, locals := 0 } : Room) s m ([.ref h_o, .ref h_a1, .int p2, .int p3] : List Value).toArray below meth c H locs 0 0 Q (F0 m 6 ls []) := by
    intro n
    induction n with
    | zero =>
      intro v2 v3 v4 v6 H locs ls hf
      have hf : (none : Option (Int64)) = some r := hf
      cases hf
    | succ n ih =>
      intro v2 v3 v4 v6 H locs ls hf hP hD hS hl
      rw [fX9_productSum_6.eq_2] at hf
      refine lv_iload hx hb dX9_productSum_6 (lv_at hl 5 rfl) ?_
      refine lv_aload_n hx hb dX9_productSum_8 rfl (lv_at hl 0 rfl) ?_
      refine rd (ci := 9) (C := RX9) (T := TX9) (N := 19) hx hb hts inX9 hown hK hP 0 0 rfl rfl (by decide) (hts _ q_fX9_10) rfl dX9_productSum_9 ?_
      refine rd (ci := 8) (C := RX8) (T := TX8) (N := 10) hx hb hts inX8 hown hK hP 3 0 rfl rfl (by decide) (hts _ q_fX9_115) rfl dX9_productSum_12 ?_
      refine lv_icmp_ge (tgt := 60) hx hb dX9_productSum_15 (by decide) (fun c_1 => ?_) (fun c_1 => ?_)
      · have hf := it_t c_1 hf
        refine lv_lload hx hb dX9_productSum_60 (lv_at hl 4 rfl) ?_
        cases hf
        exact hret _ _ _ _ dX9_productSum_62 hP hD hS
      · have hf := it_f c_1 hf
        refine lv_lload hx hb dX9_productSum_18 (lv_at hl 4 rfl) ?_
        refine lv_aload_n hx hb dX9_productSum_20 rfl (lv_at hl 0 rfl) ?_
        refine rd (ci := 9) (C := RX9) (T := TX9) (N := 19) hx hb hts inX9 hown hK hP 0 1 rfl rfl (by decide) (hts _ q_fX9_19) rfl dX9_productSum_21 ?_
        refine rd (ci := 7) (C := RX7) (T := TX7) (N := 8) hx hb hts inX7 hown hK hP 2 2 rfl rfl (by decide) (hts _ q_fX9_177) rfl dX9_productSum_24 ?_
        refine lv_iload hx hb dX9_productSum_27 (lv_at hl 5 rfl) ?_
        obtain ⟨g_2, hf⟩ := gd_x hf
        refine va_iald hx hb hK hP 4 0 rfl rfl (inb_x g_2) dX9_productSum_29 ?_
        refine lv_i2l hx hb dX9_productSum_30 rfl ?_
        refine lv_aload_n hx hb dX9_productSum_31 rfl (lv_at hl 1 rfl) ?_
        refine lv_iload_n hx hb dX9_productSum_32 rfl (lv_at hl 3 rfl) ?_
        refine lv_iload_n hx hb dX9_productSum_33 rfl (lv_at hl 2 rfl) ?_
        refine lv_iload hx hb dX9_productSum_34 (lv_at hl 5 rfl) ?_
        refine lv_imul hx hb dX9_productSum_36 ?_
        refine lv_iadd hx hb dX9_productSum_37 ?_
        refine lv_aload_n hx hb dX9_productSum_38 rfl (lv_at hl 0 rfl) ?_
        refine rd (ci := 9) (C := RX9) (T := TX9) (N := 19) hx hb hts inX9 hown hK hP 0 0 rfl rfl (by decide) (hts _ q_fX9_10) rfl dX9_productSum_39 ?_
        refine rd (ci := 8) (C := RX8) (T := TX8) (N := 10) hx hb hts inX8 hown hK hP 3 0 rfl rfl (by decide) (hts _ q_fX9_115) rfl dX9_productSum_42 ?_
        refine lv_iconst (v := (1 : Int32)) hx hb dX9_productSum_45 (by decide) ?_
        refine lv_isub hx hb dX9_productSum_46 ?_
        refine lv_iand hx hb dX9_productSum_47 ?_
        refine lv_topi (fun i_3 ei_3 => ?_)
        have hf := nm_x ei_3 hf
        obtain ⟨g_4, hf⟩ := gd_x hf
        refine va_iald hx hb hK hP 1 0 rfl rfl (inb_x g_4) dX9_productSum_48 ?_
        refine lv_i2l hx hb dX9_productSum_49 rfl ?_
        refine lv_lmul hx hb dX9_productSum_50 ?_
        refine lv_ladd hx hb dX9_productSum_51 ?_
        refine lv_topl (fun v4_5 ev4_5 => ?_)
        have hf := nm_x ev4_5 hf
        refine lv_lstore (lv' := [(4, .long v4_5), (0, .ref h_o), (1, .ref h_a1), (2, .int v2), (3, .int v3), (6, .int v6)]) hx hb dX9_productSum_52 hl (by decide) rfl (fun ls hl => ?_)
        obtain ⟨v6_6, ev6_6⟩ : ∃ y : Int32, y = v6 + (1 : Int32) := ⟨_, rfl⟩
        have hf := nm_x ev6_6 hf
        refine lv_iinc (v := v6_6) (lv' := [(6, .int v6_6), (4, .long v4_5), (0, .ref h_o), (1, .ref h_a1), (2, .int v2), (3, .int v3)]) hx hb dX9_productSum_54 hl (k := 5) rfl (by rw [ev6_6]; rfl) (by decide) rfl (fun ls hl => ?_)
        refine lv_goto (tgt := 6) hx hb dX9_productSum_57 (by decide) ?_
        exact ih v2 v3 v4_5 v6_6 H locs ls hf hP hD hS (lv_sub hl [2, 3, 4, 5, 1, 0] rfl)
  unfold fX9_productSum at hf
  obtain ⟨H, eH⟩ : ∃ H, H = s.heap := ⟨_, rfl⟩
  obtain ⟨locs, elocs⟩ : ∃ z : List Loc, z = [] := ⟨_, rfl⟩
  have hP : va_P G vwCl (wX9_productSum cI cJ cZ h_o h_a1 h_o_wave h_o_way h_o_wave_wasRe h_o_past h_o_notes h_o_ring h_o_turns h_o_beater h_o_reader h_o_dice h_o_trialWay h_o_trial h_o_otherTrial h_o_sumsRe h_o_sumsIm h_o_tally h_o_image h_o_tape h_o_wave_re h_o_wave_im h_o_wave_wasIm h_o_wave_halved h_o_way_shifts o_imageKept o_taped a1 o_wave_exp o_wave_done o_wave_backward o_way_size o_way_log o_way_wordBits o_way_limit o_way_radix o_way_order o_way_near o_way_seed o_way_stages o_wave_wasRe) H := by rw [eH]; exact hP
  have hS : va_S A s.heap H locs := by rw [eH, elocs]; exact hS
  suffices hgo : W p l e ({ frames := 0, cells := 0, slots := 0, locals := 0 } : Room) s m ([.ref h_o, .ref h_a1, .int p2, .int p3] : List Value).toArray below meth c H locs 0 0 Q (F0 m 0 ls []) by rw [eH, elocs] at hgo; exact hgo
  clear eH elocs
  refine lv_lconst (v := (0 : Int64)) hx hb dX9_productSum_0 (by decide) ?_
  refine lv_lstore (lv' := [(4, .long (0 : Int64)), (0, .ref h_o), (1, .ref h_a1), (2, .int p2), (3, .int p3)]) hx hb dX9_productSum_1 hl (by decide) rfl (fun ls hl => ?_)
  refine lv_iconst (v := (0 : Int32)) hx hb dX9_productSum_3 (by decide) ?_
  refine lv_istore (lv' := [(6, .int (0 : Int32)), (4, .long (0 : Int64)), (0, .ref h_o), (1, .ref h_a1), (2, .int p2), (3, .int p3)]) hx hb dX9_productSum_4 hl (by decide) rfl (fun ls hl => ?_)
  exact j6 FU p2 p3 (0 : Int64) (0 : Int32) H locs ls hf hP hD hS (lv_sub hl [2, 3, 4, 5, 1, 0] rfl)
def wX9_crossed (cI cJ cZ : ClassId) (h_o h_o_wave h_o_way h_o_wave_wasIm h_o_wave_wasRe h_o_past h_o_notes h_o_ring h_o_turns h_o_beater h_o_reader h_o_dice h_o_trialWay h_o_trial h_o_otherTrial h_o_sumsRe h_o_sumsIm h_o_tally h_o_image h_o_tape h_o_wave_re h_o_wave_im h_o_wave_halved h_o_way_shifts : Nat) (o_imageKept : Int32) (o_taped : Int32) (o_wave_exp : Int32) (o_wave_done : Int32) (o_wave_backward : Int32) (o_way_size : Int32) (o_way_log : Int32) (o_way_wordBits : Int32) (o_way_limit : Int32) (o_way_radix : Int32) (o_way_order : Int32) (o_way_near : Int32) (o_way_seed : Int32) (o_way_stages : Int32) (o_wave_wasIm : Nat → Int32) (o_wave_wasRe : Nat → Int32) : va_W := [(h_o, .inr (9, [.ref h_o_way, .ref h_o_wave, .ref h_o_past, .ref h_o_notes, .ref h_o_ring, .ref h_o_turns, .ref h_o_beater, .ref h_o_reader, .ref h_o_dice, .ref h_o_trialWay, .ref h_o_trial, .ref h_o_otherTrial, .ref h_o_sumsRe, .ref h_o_sumsIm, .ref h_o_tally, .ref h_o_image, .int o_imageKept, .ref h_o_tape, .int o_taped])), (h_o_wave, .inr (7, [.ref h_o_wave_re, .ref h_o_wave_im, .ref h_o_wave_wasRe, .ref h_o_wave_wasIm, .ref h_o_wave_halved, .int o_wave_exp, .int o_wave_done, .int o_wave_backward])), (h_o_way, .inr (8, [.int o_way_size, .int o_way_log, .int o_way_wordBits, .int o_way_limit, .int o_way_radix, .int o_way_order, .int o_way_near, .int o_way_seed, .int o_way_stages, .ref h_o_way_shifts])), (h_o_wave_wasIm, .inl (cI, 32, .inl o_wave_wasIm)), (h_o_wave_wasRe, .inl (cI, 32, .inl o_wave_wasRe))]
def fX9_crossed (o_way_size : Int32) (o_wave_wasIm : Nat → Int32) (o_wave_wasRe : Nat → Int32) (p1 : Int32) : Option (Int64) :=
  bd1 (fX9_isPlace o_way_size p1) (fun r_1 =>
  if r_1 = 0 then (
    some (-9223372036854775808 : Int64)
  ) else (
    bd1 (fX9_productSum o_wave_wasIm o_way_size o_wave_wasRe (1 : Int32) p1) (fun r_4 =>
    some r_4)
  ))
set_option maxHeartbeats 4000000 in
set_option maxRecDepth 100000 in
theorem tX9_crossed (l : Launch) (G : va_G) (cI cJ cZ : ClassId) (sz : Nat) (h_o h_o_wave h_o_way h_o_wave_wasIm h_o_wave_wasRe h_o_past h_o_notes h_o_ring h_o_turns h_o_beater h_o_reader h_o_dice h_o_trialWay h_o_trial h_o_otherTrial h_o_sumsRe h_o_sumsIm h_o_tally h_o_image h_o_tape h_o_wave_re h_o_wave_im h_o_wave_halved h_o_way_shifts : Nat) (o_imageKept : Int32) (o_taped : Int32) (o_wave_exp : Int32) (o_wave_done : Int32) (o_wave_backward : Int32) (o_way_size : Int32) (o_way_log : Int32) (o_way_wordBits : Int32) (o_way_limit : Int32) (o_way_radix : Int32) (o_way_order : Int32) (o_way_near : Int32) (o_way_seed : Int32) (o_way_stages : Int32) (o_wave_wasIm : Nat → Int32) (o_wave_wasRe : Nat → Int32) (p1 : Int32) (r : Int64) (hf : fX9_crossed o_way_size o_wave_wasIm o_wave_wasRe p1 = some r) : Met l yX9_crossed (Cond.code yX9_crossed cX9_crossed 2 (some .long) :: BIG) ({ frames := 1, cells := 0, slots := 0, locals := 26 } : Room) (cP G (TY3 cI cJ cZ) [.ref h_o, .int p1] sz (wX9_crossed cI cJ cZ h_o h_o_wave h_o_way h_o_wave_wasIm h_o_wave_wasRe h_o_past h_o_notes h_o_ring h_o_turns h_o_beater h_o_reader h_o_dice h_o_trialWay h_o_trial h_o_otherTrial h_o_sumsRe h_o_sumsIm h_o_tally h_o_image h_o_tape h_o_wave_re h_o_wave_im h_o_wave_halved h_o_way_shifts o_imageKept o_taped o_wave_exp o_wave_done o_wave_backward o_way_size o_way_log o_way_wordBits o_way_limit o_way_radix o_way_order o_way_near o_way_seed o_way_stages o_wave_wasIm o_wave_wasRe)) (cQ G (TY3 cI cJ cZ) sz (wX9_crossed cI cJ cZ h_o h_o_wave h_o_way h_o_wave_wasIm h_o_wave_wasRe h_o_past h_o_notes h_o_ring h_o_turns h_o_beater h_o_reader h_o_dice h_o_trialWay h_o_trial h_o_otherTrial h_o_sumsRe h_o_sumsIm h_o_tally h_o_image h_o_tape h_o_wave_re h_o_wave_im h_o_wave_halved h_o_way_shifts o_imageKept o_taped o_wave_exp o_wave_done o_wave_backward o_way_size o_way_log o_way_wordBits o_way_limit o_way_radix o_way_order o_way_near o_way_seed o_way_stages o_wave_wasIm o_wave_wasRe) (wX9_crossed cI cJ cZ h_o h_o_wave h_o_way h_o_wave_wasIm h_o_wave_wasRe h_o_past h_o_notes h_o_ring h_o_turns h_o_beater h_o_reader h_o_dice h_o_trialWay h_o_trial h_o_otherTrial h_o_sumsRe h_o_sumsIm h_o_tally h_o_image h_o_tape h_o_wave_re h_o_wave_im h_o_wave_halved h_o_way_shifts o_imageKept o_taped o_wave_exp o_wave_done o_wave_backward o_way_size o_way_log o_way_wordBits o_way_limit o_way_radix o_way_order o_way_near o_way_seed o_way_stages o_wave_wasIm o_wave_wasRe) (some (.long r))) 0 0 (va_A (wX9_crossed cI cJ cZ h_o h_o_wave h_o_way h_o_wave_wasIm h_o_wave_wasRe h_o_past h_o_notes h_o_ring h_o_turns h_o_beater h_o_reader h_o_dice h_o_trialWay h_o_trial h_o_otherTrial h_o_sumsRe h_o_sumsIm h_o_tally h_o_image h_o_tape h_o_wave_re h_o_wave_im h_o_wave_halved h_o_way_shifts o_imageKept o_taped o_wave_exp o_wave_done o_wave_backward o_way_size o_way_log o_way_wordBits o_way_limit o_way_radix o_way_order o_way_near o_way_seed o_way_stages o_wave_wasIm o_wave_wasRe) sz) := by
  refine met_l (cc := cX9_crossed) (maxL := 2) (plainFor_of_name (by decide)) (Nat.le_of_ble_eq_true rfl) (fun p e s m below meth c A ls Q hx hb hml hts hown hK hP hD hS hA hl hret => ?_)
  have hown : s.vm.findClass RX9 = some m.cls := hown
  have hl : lv_has ls 2 [(0, .ref h_o), (1, .int p1)] := hl
  unfold fX9_crossed at hf
  obtain ⟨H, eH⟩ : ∃ H, H = s.heap := ⟨_, rfl⟩
  obtain ⟨locs, elocs⟩ : ∃ z : List Loc, z = [] := ⟨_, rfl⟩
  have hP : va_P G vwCl (wX9_crossed cI cJ cZ h_o h_o_wave h_o_way h_o_wave_wasIm h_o_wave_wasRe h_o_past h_o_notes h_o_ring h_o_turns h_o_beater h_o_reader h_o_dice h_o_trialWay h_o_trial h_o_otherTrial h_o_sumsRe h_o_sumsIm h_o_tally h_o_image h_o_tape h_o_wave_re h_o_wave_im h_o_wave_halved h_o_way_shifts o_imageKept o_taped o_wave_exp o_wave_done o_wave_backward o_way_size o_way_log o_way_wordBits o_way_limit o_way_radix o_way_order o_way_near o_way_seed o_way_stages o_wave_wasIm o_wave_wasRe) H := by rw [eH]; exact hP
  have hS : va_S A s.heap H locs := by rw [eH, elocs]; exact hS
  suffices hgo : W p l e ({ frames := 1, cells := 0, slots := 0, locals := 26 } : Room) s m ([.ref h_o, .int p1] : List Value).toArray below meth c H locs 0 0 Q (F0 m 0 ls []) by rw [eH, elocs] at hgo; exact hgo
  clear eH elocs
  refine lv_aload_n hx hb dX9_crossed_0 rfl (lv_at hl 0 rfl) ?_
  refine lv_iload_n hx hb dX9_crossed_1 rfl (lv_at hl 1 rfl) ?_
  obtain ⟨r_1, e_2, hf⟩ := bd1_x hf
  refine call_v [.int p1] [] ⟨hx, hb, hml, hown, hts⟩ hK hP hD hS hA hl.1 (tX9_isPlace l G cI cJ cZ H.size h_o h_o_way h_o_wave h_o_past h_o_notes h_o_ring h_o_turns h_o_beater h_o_reader h_o_dice h_o_trialWay h_o_trial h_o_otherTrial h_o_sumsRe h_o_sumsIm h_o_tally h_o_image h_o_tape h_o_way_shifts o_imageKept o_taped o_way_size o_way_log o_way_wordBits o_way_limit o_way_radix o_way_order o_way_near o_way_seed o_way_stages p1 r_1 e_2) (cwV 1 hts (gv q_mX9_159 q_i_yX9_isPlace q_s_yX9_isPlace q_n_RX9 q_k_yX9_isPlace) rfl rfl rfl (by decide +kernel) ⟨by decide, by decide⟩) rfl rfl (Nat.le_of_ble_eq_true rfl) dX9_crossed_2 ⟨Nat.zero_le _, Nat.zero_le _⟩ (ci := 9) rfl 0 rfl [0, 2] [1, 3, 4] [3, 0, 4, 1, 2] rfl rfl (ws2 := (wX9_crossed cI cJ cZ h_o h_o_wave h_o_way h_o_wave_wasIm h_o_wave_wasRe h_o_past h_o_notes h_o_ring h_o_turns h_o_beater h_o_reader h_o_dice h_o_trialWay h_o_trial h_o_otherTrial h_o_sumsRe h_o_sumsIm h_o_tally h_o_image h_o_tape h_o_wave_re h_o_wave_im h_o_wave_halved h_o_way_shifts o_imageKept o_taped o_wave_exp o_wave_done o_wave_backward o_way_size o_way_log o_way_wordBits o_way_limit o_way_radix o_way_order o_way_near o_way_seed o_way_stages o_wave_wasIm o_wave_wasRe)) rfl (fun H locs hP hD hS => ?_)
  refine W.eq (g2 := F0 m 5 ls [.int r_1]) rfl ?_
  refine lv_if_eq (tgt := 24) hx hb dX9_crossed_5 (by decide) (fun c_3 => ?_) (fun c_3 => ?_)
  · have hf := it_t c_3 hf
    refine lv_ldc2 (v := (-9223372036854775808 : Int64)) hx hb hown (hts _ q_cX9_358) dX9_crossed_24 ?_
    cases hf
    exact hret _ _ _ _ dX9_crossed_27 hP hD hS
  · have hf := it_f c_3 hf
    refine lv_aload_n hx hb dX9_crossed_8 rfl (lv_at hl 0 rfl) ?_
    refine lv_aload_n hx hb dX9_crossed_9 rfl (lv_at hl 0 rfl) ?_
    refine rd (ci := 9) (C := RX9) (T := TX9) (N := 19) hx hb hts inX9 hown hK hP 0 1 rfl rfl (by decide) (hts _ q_fX9_19) rfl dX9_crossed_10 ?_
    refine rd (ci := 7) (C := RX7) (T := TX7) (N := 8) hx hb hts inX7 hown hK hP 1 3 rfl rfl (by decide) (hts _ q_fX9_180) rfl dX9_crossed_13 ?_
    refine lv_iconst (v := (1 : Int32)) hx hb dX9_crossed_16 (by decide) ?_
    refine lv_iload_n hx hb dX9_crossed_17 rfl (lv_at hl 1 rfl) ?_
    obtain ⟨r_4, e_5, hf⟩ := bd1_x hf
    refine call_v [.ref h_o_wave_wasIm, .int (1 : Int32), .int p1] [] ⟨hx, hb, hml, hown, hts⟩ hK hP hD hS hA hl.1 (tX9_productSum l G cI cJ cZ H.size h_o h_o_wave_wasIm h_o_wave h_o_way h_o_wave_wasRe h_o_past h_o_notes h_o_ring h_o_turns h_o_beater h_o_reader h_o_dice h_o_trialWay h_o_trial h_o_otherTrial h_o_sumsRe h_o_sumsIm h_o_tally h_o_image h_o_tape h_o_wave_re h_o_wave_im h_o_wave_wasIm h_o_wave_halved h_o_way_shifts o_imageKept o_taped o_wave_wasIm o_wave_exp o_wave_done o_wave_backward o_way_size o_way_log o_way_wordBits o_way_limit o_way_radix o_way_order o_way_near o_way_seed o_way_stages o_wave_wasRe (1 : Int32) p1 r_4 e_5) (cwV 3 hts (gv q_mX9_382 q_i_yX9_productSum q_s_yX9_productSum q_n_RX9 q_k_yX9_productSum) rfl rfl rfl (by decide +kernel) ⟨by decide, by decide⟩) rfl rfl (Nat.le_of_ble_eq_true rfl) dX9_crossed_18 ⟨Nat.zero_le _, Nat.zero_le _⟩ (ci := 9) rfl 0 rfl [0, 3, 1, 2, 4] [] [0, 2, 3, 1, 4] rfl rfl (ws2 := (wX9_crossed cI cJ cZ h_o h_o_wave h_o_way h_o_wave_wasIm h_o_wave_wasRe h_o_past h_o_notes h_o_ring h_o_turns h_o_beater h_o_reader h_o_dice h_o_trialWay h_o_trial h_o_otherTrial h_o_sumsRe h_o_sumsIm h_o_tally h_o_image h_o_tape h_o_wave_re h_o_wave_im h_o_wave_halved h_o_way_shifts o_imageKept o_taped o_wave_exp o_wave_done o_wave_backward o_way_size o_way_log o_way_wordBits o_way_limit o_way_radix o_way_order o_way_near o_way_seed o_way_stages o_wave_wasIm o_wave_wasRe)) rfl (fun H locs hP hD hS => ?_)
    refine W.eq (g2 := F0 m 21 ls [.long r_4]) rfl ?_
    refine lv_goto (tgt := 27) hx hb dX9_crossed_21 (by decide) ?_
    cases hf
    exact hret _ _ _ _ dX9_crossed_27 hP hD hS
def wX9_foldWhole (cI cJ cZ : ClassId) (h_o h_o_wave h_o_way h_o_wave_wasIm h_o_wave_wasRe h_o_past h_o_notes h_o_ring h_o_turns h_o_beater h_o_reader h_o_dice h_o_trialWay h_o_trial h_o_otherTrial h_o_sumsRe h_o_sumsIm h_o_tally h_o_image h_o_tape h_o_wave_re h_o_wave_im h_o_wave_halved h_o_way_shifts : Nat) (o_imageKept : Int32) (o_taped : Int32) (o_wave_exp : Int32) (o_wave_done : Int32) (o_wave_backward : Int32) (o_way_size : Int32) (o_way_log : Int32) (o_way_wordBits : Int32) (o_way_limit : Int32) (o_way_radix : Int32) (o_way_order : Int32) (o_way_near : Int32) (o_way_seed : Int32) (o_way_stages : Int32) (o_wave_wasIm : Nat → Int32) (o_wave_wasRe : Nat → Int32) : va_W := [(h_o, .inr (9, [.ref h_o_way, .ref h_o_wave, .ref h_o_past, .ref h_o_notes, .ref h_o_ring, .ref h_o_turns, .ref h_o_beater, .ref h_o_reader, .ref h_o_dice, .ref h_o_trialWay, .ref h_o_trial, .ref h_o_otherTrial, .ref h_o_sumsRe, .ref h_o_sumsIm, .ref h_o_tally, .ref h_o_image, .int o_imageKept, .ref h_o_tape, .int o_taped])), (h_o_wave, .inr (7, [.ref h_o_wave_re, .ref h_o_wave_im, .ref h_o_wave_wasRe, .ref h_o_wave_wasIm, .ref h_o_wave_halved, .int o_wave_exp, .int o_wave_done, .int o_wave_backward])), (h_o_way, .inr (8, [.int o_way_size, .int o_way_log, .int o_way_wordBits, .int o_way_limit, .int o_way_radix, .int o_way_order, .int o_way_near, .int o_way_seed, .int o_way_stages, .ref h_o_way_shifts])), (h_o_wave_wasIm, .inl (cI, 32, .inl o_wave_wasIm)), (h_o_wave_wasRe, .inl (cI, 32, .inl o_wave_wasRe))]
def fX9_foldWhole (o_way_size : Int32) (o_wave_wasIm : Nat → Int32) (o_wave_wasRe : Nat → Int32) (p1 : Int32) : Option (Int64) :=
  bd1 (fX9_isPlace o_way_size p1) (fun r_1 =>
  if r_1 = 0 then (
    some (-9223372036854775808 : Int64)
  ) else (
    bd1 (fX9_productSum o_wave_wasIm o_way_size o_wave_wasRe (-1 : Int32) p1) (fun r_4 =>
    some r_4)
  ))
set_option maxHeartbeats 4000000 in
set_option maxRecDepth 100000 in
theorem tX9_foldWhole (l : Launch) (G : va_G) (cI cJ cZ : ClassId) (sz : Nat) (h_o h_o_wave h_o_way h_o_wave_wasIm h_o_wave_wasRe h_o_past h_o_notes h_o_ring h_o_turns h_o_beater h_o_reader h_o_dice h_o_trialWay h_o_trial h_o_otherTrial h_o_sumsRe h_o_sumsIm h_o_tally h_o_image h_o_tape h_o_wave_re h_o_wave_im h_o_wave_halved h_o_way_shifts : Nat) (o_imageKept : Int32) (o_taped : Int32) (o_wave_exp : Int32) (o_wave_done : Int32) (o_wave_backward : Int32) (o_way_size : Int32) (o_way_log : Int32) (o_way_wordBits : Int32) (o_way_limit : Int32) (o_way_radix : Int32) (o_way_order : Int32) (o_way_near : Int32) (o_way_seed : Int32) (o_way_stages : Int32) (o_wave_wasIm : Nat → Int32) (o_wave_wasRe : Nat → Int32) (p1 : Int32) (r : Int64) (hf : fX9_foldWhole o_way_size o_wave_wasIm o_wave_wasRe p1 = some r) : Met l yX9_foldWhole (Cond.code yX9_foldWhole cX9_foldWhole 2 (some .long) :: BIG) ({ frames := 1, cells := 0, slots := 0, locals := 26 } : Room) (cP G (TY3 cI cJ cZ) [.ref h_o, .int p1] sz (wX9_foldWhole cI cJ cZ h_o h_o_wave h_o_way h_o_wave_wasIm h_o_wave_wasRe h_o_past h_o_notes h_o_ring h_o_turns h_o_beater h_o_reader h_o_dice h_o_trialWay h_o_trial h_o_otherTrial h_o_sumsRe h_o_sumsIm h_o_tally h_o_image h_o_tape h_o_wave_re h_o_wave_im h_o_wave_halved h_o_way_shifts o_imageKept o_taped o_wave_exp o_wave_done o_wave_backward o_way_size o_way_log o_way_wordBits o_way_limit o_way_radix o_way_order o_way_near o_way_seed o_way_stages o_wave_wasIm o_wave_wasRe)) (cQ G (TY3 cI cJ cZ) sz (wX9_foldWhole cI cJ cZ h_o h_o_wave h_o_way h_o_wave_wasIm h_o_wave_wasRe h_o_past h_o_notes h_o_ring h_o_turns h_o_beater h_o_reader h_o_dice h_o_trialWay h_o_trial h_o_otherTrial h_o_sumsRe h_o_sumsIm h_o_tally h_o_image h_o_tape h_o_wave_re h_o_wave_im h_o_wave_halved h_o_way_shifts o_imageKept o_taped o_wave_exp o_wave_done o_wave_backward o_way_size o_way_log o_way_wordBits o_way_limit o_way_radix o_way_order o_way_near o_way_seed o_way_stages o_wave_wasIm o_wave_wasRe) (wX9_foldWhole cI cJ cZ h_o h_o_wave h_o_way h_o_wave_wasIm h_o_wave_wasRe h_o_past h_o_notes h_o_ring h_o_turns h_o_beater h_o_reader h_o_dice h_o_trialWay h_o_trial h_o_otherTrial h_o_sumsRe h_o_sumsIm h_o_tally h_o_image h_o_tape h_o_wave_re h_o_wave_im h_o_wave_halved h_o_way_shifts o_imageKept o_taped o_wave_exp o_wave_done o_wave_backward o_way_size o_way_log o_way_wordBits o_way_limit o_way_radix o_way_order o_way_near o_way_seed o_way_stages o_wave_wasIm o_wave_wasRe) (some (.long r))) 0 0 (va_A (wX9_foldWhole cI cJ cZ h_o h_o_wave h_o_way h_o_wave_wasIm h_o_wave_wasRe h_o_past h_o_notes h_o_ring h_o_turns h_o_beater h_o_reader h_o_dice h_o_trialWay h_o_trial h_o_otherTrial h_o_sumsRe h_o_sumsIm h_o_tally h_o_image h_o_tape h_o_wave_re h_o_wave_im h_o_wave_halved h_o_way_shifts o_imageKept o_taped o_wave_exp o_wave_done o_wave_backward o_way_size o_way_log o_way_wordBits o_way_limit o_way_radix o_way_order o_way_near o_way_seed o_way_stages o_wave_wasIm o_wave_wasRe) sz) := by
  refine met_l (cc := cX9_foldWhole) (maxL := 2) (plainFor_of_name (by decide)) (Nat.le_of_ble_eq_true rfl) (fun p e s m below meth c A ls Q hx hb hml hts hown hK hP hD hS hA hl hret => ?_)
  have hown : s.vm.findClass RX9 = some m.cls := hown
  have hl : lv_has ls 2 [(0, .ref h_o), (1, .int p1)] := hl
  unfold fX9_foldWhole at hf
  obtain ⟨H, eH⟩ : ∃ H, H = s.heap := ⟨_, rfl⟩
  obtain ⟨locs, elocs⟩ : ∃ z : List Loc, z = [] := ⟨_, rfl⟩
  have hP : va_P G vwCl (wX9_foldWhole cI cJ cZ h_o h_o_wave h_o_way h_o_wave_wasIm h_o_wave_wasRe h_o_past h_o_notes h_o_ring h_o_turns h_o_beater h_o_reader h_o_dice h_o_trialWay h_o_trial h_o_otherTrial h_o_sumsRe h_o_sumsIm h_o_tally h_o_image h_o_tape h_o_wave_re h_o_wave_im h_o_wave_halved h_o_way_shifts o_imageKept o_taped o_wave_exp o_wave_done o_wave_backward o_way_size o_way_log o_way_wordBits o_way_limit o_way_radix o_way_order o_way_near o_way_seed o_way_stages o_wave_wasIm o_wave_wasRe) H := by rw [eH]; exact hP
  have hS : va_S A s.heap H locs := by rw [eH, elocs]; exact hS
  suffices hgo : W p l e ({ frames := 1, cells := 0, slots := 0, locals := 26 } : Room) s m ([.ref h_o, .int p1] : List Value).toArray below meth c H locs 0 0 Q (F0 m 0 ls []) by rw [eH, elocs] at hgo; exact hgo
  clear eH elocs
  refine lv_aload_n hx hb dX9_foldWhole_0 rfl (lv_at hl 0 rfl) ?_
  refine lv_iload_n hx hb dX9_foldWhole_1 rfl (lv_at hl 1 rfl) ?_
  obtain ⟨r_1, e_2, hf⟩ := bd1_x hf
  refine call_v [.int p1] [] ⟨hx, hb, hml, hown, hts⟩ hK hP hD hS hA hl.1 (tX9_isPlace l G cI cJ cZ H.size h_o h_o_way h_o_wave h_o_past h_o_notes h_o_ring h_o_turns h_o_beater h_o_reader h_o_dice h_o_trialWay h_o_trial h_o_otherTrial h_o_sumsRe h_o_sumsIm h_o_tally h_o_image h_o_tape h_o_way_shifts o_imageKept o_taped o_way_size o_way_log o_way_wordBits o_way_limit o_way_radix o_way_order o_way_near o_way_seed o_way_stages p1 r_1 e_2) (cwV 1 hts (gv q_mX9_159 q_i_yX9_isPlace q_s_yX9_isPlace q_n_RX9 q_k_yX9_isPlace) rfl rfl rfl (by decide +kernel) ⟨by decide, by decide⟩) rfl rfl (Nat.le_of_ble_eq_true rfl) dX9_foldWhole_2 ⟨Nat.zero_le _, Nat.zero_le _⟩ (ci := 9) rfl 0 rfl [0, 2] [1, 3, 4] [3, 0, 4, 1, 2] rfl rfl (ws2 := (wX9_foldWhole cI cJ cZ h_o h_o_wave h_o_way h_o_wave_wasIm h_o_wave_wasRe h_o_past h_o_notes h_o_ring h_o_turns h_o_beater h_o_reader h_o_dice h_o_trialWay h_o_trial h_o_otherTrial h_o_sumsRe h_o_sumsIm h_o_tally h_o_image h_o_tape h_o_wave_re h_o_wave_im h_o_wave_halved h_o_way_shifts o_imageKept o_taped o_wave_exp o_wave_done o_wave_backward o_way_size o_way_log o_way_wordBits o_way_limit o_way_radix o_way_order o_way_near o_way_seed o_way_stages o_wave_wasIm o_wave_wasRe)) rfl (fun H locs hP hD hS => ?_)
  refine W.eq (g2 := F0 m 5 ls [.int r_1]) rfl ?_
  refine lv_if_eq (tgt := 24) hx hb dX9_foldWhole_5 (by decide) (fun c_3 => ?_) (fun c_3 => ?_)
  · have hf := it_t c_3 hf
    refine lv_ldc2 (v := (-9223372036854775808 : Int64)) hx hb hown (hts _ q_cX9_358) dX9_foldWhole_24 ?_
    cases hf
    exact hret _ _ _ _ dX9_foldWhole_27 hP hD hS
  · have hf := it_f c_3 hf
    refine lv_aload_n hx hb dX9_foldWhole_8 rfl (lv_at hl 0 rfl) ?_
    refine lv_aload_n hx hb dX9_foldWhole_9 rfl (lv_at hl 0 rfl) ?_
    refine rd (ci := 9) (C := RX9) (T := TX9) (N := 19) hx hb hts inX9 hown hK hP 0 1 rfl rfl (by decide) (hts _ q_fX9_19) rfl dX9_foldWhole_10 ?_
    refine rd (ci := 7) (C := RX7) (T := TX7) (N := 8) hx hb hts inX7 hown hK hP 1 3 rfl rfl (by decide) (hts _ q_fX9_180) rfl dX9_foldWhole_13 ?_
    refine lv_iconst (v := (-1 : Int32)) hx hb dX9_foldWhole_16 (by decide) ?_
    refine lv_iload_n hx hb dX9_foldWhole_17 rfl (lv_at hl 1 rfl) ?_
    obtain ⟨r_4, e_5, hf⟩ := bd1_x hf
    refine call_v [.ref h_o_wave_wasIm, .int (-1 : Int32), .int p1] [] ⟨hx, hb, hml, hown, hts⟩ hK hP hD hS hA hl.1 (tX9_productSum l G cI cJ cZ H.size h_o h_o_wave_wasIm h_o_wave h_o_way h_o_wave_wasRe h_o_past h_o_notes h_o_ring h_o_turns h_o_beater h_o_reader h_o_dice h_o_trialWay h_o_trial h_o_otherTrial h_o_sumsRe h_o_sumsIm h_o_tally h_o_image h_o_tape h_o_wave_re h_o_wave_im h_o_wave_wasIm h_o_wave_halved h_o_way_shifts o_imageKept o_taped o_wave_wasIm o_wave_exp o_wave_done o_wave_backward o_way_size o_way_log o_way_wordBits o_way_limit o_way_radix o_way_order o_way_near o_way_seed o_way_stages o_wave_wasRe (-1 : Int32) p1 r_4 e_5) (cwV 3 hts (gv q_mX9_382 q_i_yX9_productSum q_s_yX9_productSum q_n_RX9 q_k_yX9_productSum) rfl rfl rfl (by decide +kernel) ⟨by decide, by decide⟩) rfl rfl (Nat.le_of_ble_eq_true rfl) dX9_foldWhole_18 ⟨Nat.zero_le _, Nat.zero_le _⟩ (ci := 9) rfl 0 rfl [0, 3, 1, 2, 4] [] [0, 2, 3, 1, 4] rfl rfl (ws2 := (wX9_foldWhole cI cJ cZ h_o h_o_wave h_o_way h_o_wave_wasIm h_o_wave_wasRe h_o_past h_o_notes h_o_ring h_o_turns h_o_beater h_o_reader h_o_dice h_o_trialWay h_o_trial h_o_otherTrial h_o_sumsRe h_o_sumsIm h_o_tally h_o_image h_o_tape h_o_wave_re h_o_wave_im h_o_wave_halved h_o_way_shifts o_imageKept o_taped o_wave_exp o_wave_done o_wave_backward o_way_size o_way_log o_way_wordBits o_way_limit o_way_radix o_way_order o_way_near o_way_seed o_way_stages o_wave_wasIm o_wave_wasRe)) rfl (fun H locs hP hD hS => ?_)
    refine W.eq (g2 := F0 m 21 ls [.long r_4]) rfl ?_
    refine lv_goto (tgt := 27) hx hb dX9_foldWhole_21 (by decide) ?_
    cases hf
    exact hret _ _ _ _ dX9_foldWhole_27 hP hD hS
def wX9_greatestProduct_al1 (cI cJ cZ : ClassId) (h_o h_o_wave h_o_way h_o_wave_wasRe h_o_past h_o_notes h_o_ring h_o_turns h_o_beater h_o_reader h_o_dice h_o_trialWay h_o_trial h_o_otherTrial h_o_sumsRe h_o_sumsIm h_o_tally h_o_image h_o_tape h_o_wave_re h_o_wave_im h_o_wave_wasIm h_o_wave_halved h_o_way_shifts : Nat) (o_imageKept : Int32) (o_taped : Int32) (o_wave_exp : Int32) (o_wave_done : Int32) (o_wave_backward : Int32) (o_way_size : Int32) (o_way_log : Int32) (o_way_wordBits : Int32) (o_way_limit : Int32) (o_way_radix : Int32) (o_way_order : Int32) (o_way_near : Int32) (o_way_seed : Int32) (o_way_stages : Int32) (o_wave_wasRe : Nat → Int32) : va_W := [(h_o, .inr (9, [.ref h_o_way, .ref h_o_wave, .ref h_o_past, .ref h_o_notes, .ref h_o_ring, .ref h_o_turns, .ref h_o_beater, .ref h_o_reader, .ref h_o_dice, .ref h_o_trialWay, .ref h_o_trial, .ref h_o_otherTrial, .ref h_o_sumsRe, .ref h_o_sumsIm, .ref h_o_tally, .ref h_o_image, .int o_imageKept, .ref h_o_tape, .int o_taped])), (h_o_wave, .inr (7, [.ref h_o_wave_re, .ref h_o_wave_im, .ref h_o_wave_wasRe, .ref h_o_wave_wasIm, .ref h_o_wave_halved, .int o_wave_exp, .int o_wave_done, .int o_wave_backward])), (h_o_way, .inr (8, [.int o_way_size, .int o_way_log, .int o_way_wordBits, .int o_way_limit, .int o_way_radix, .int o_way_order, .int o_way_near, .int o_way_seed, .int o_way_stages, .ref h_o_way_shifts])), (h_o_wave_wasRe, .inl (cI, 32, .inl o_wave_wasRe))]
def fX9_greatestProduct_al1_53 (o_way_size : Int32) (o_wave_wasRe : Nat → Int32) (k16 : Int32 → Int64 → Int32 → Option (Int32)) (v3 : Int32) (v4 : Int64) (v6 : Int32) : Option (Int32) :=
  nm (v6 + (1 : Int32)) (fun v6_8 =>
  k16 v3 v4 v6_8)
def fX9_greatestProduct_al1_16 (o_way_size : Int32) (o_wave_wasRe : Nat → Int32) : Nat → Int32 → Int64 → Int32 → Option (Int32)
  | 0, _, _, _ => none
  | n + 1, v3, v4, v6 =>
    if o_way_size ≤ v6 then (
      some v3
    ) else (
      bd1 (fX9_productSum_al1 o_way_size o_wave_wasRe (1 : Int32) v6) (fun r_5 =>
      if r_5 ≤ v4 then (
        fX9_greatestProduct_al1_53 o_way_size o_wave_wasRe (fX9_greatestProduct_al1_16 o_way_size o_wave_wasRe n) v3 v4 v6
      ) else (
        fX9_greatestProduct_al1_53 o_way_size o_wave_wasRe (fX9_greatestProduct_al1_16 o_way_size o_wave_wasRe n) v6 r_5 v6
      ))
    )
def fX9_greatestProduct_al1 (o_way_size : Int32) (o_wave_wasRe : Nat → Int32) (p2 : Int32) : Option (Int32) :=
  bd1 (fX9_productSum_al1 o_way_size o_wave_wasRe (1 : Int32) p2) (fun r_1 =>
  nm (p2 + (1 : Int32)) (fun v6_3 =>
  fX9_greatestProduct_al1_16 o_way_size o_wave_wasRe FU p2 r_1 v6_3))
set_option maxHeartbeats 4000000 in
set_option maxRecDepth 100000 in
theorem tX9_greatestProduct_al1 (l : Launch) (G : va_G) (cI cJ cZ : ClassId) (sz : Nat) (h_o h_o_wave h_o_way h_o_wave_wasRe h_o_past h_o_notes h_o_ring h_o_turns h_o_beater h_o_reader h_o_dice h_o_trialWay h_o_trial h_o_otherTrial h_o_sumsRe h_o_sumsIm h_o_tally h_o_image h_o_tape h_o_wave_re h_o_wave_im h_o_wave_wasIm h_o_wave_halved h_o_way_shifts : Nat) (o_imageKept : Int32) (o_taped : Int32) (o_wave_exp : Int32) (o_wave_done : Int32) (o_wave_backward : Int32) (o_way_size : Int32) (o_way_log : Int32) (o_way_wordBits : Int32) (o_way_limit : Int32) (o_way_radix : Int32) (o_way_order : Int32) (o_way_near : Int32) (o_way_seed : Int32) (o_way_stages : Int32) (o_wave_wasRe : Nat → Int32) (p2 : Int32) (r : Int32) (hf : fX9_greatestProduct_al1 o_way_size o_wave_wasRe p2 = some r) : Met l yX9_greatestProduct (Cond.code yX9_greatestProduct cX9_greatestProduct 9 (some .int) :: BIG) ({ frames := 1, cells := 0, slots := 0, locals := 26 } : Room) (cP G (TY3 cI cJ cZ) [.ref h_o, .ref h_o_wave_wasRe, .int p2] sz (wX9_greatestProduct_al1 cI cJ cZ h_o h_o_wave h_o_way h_o_wave_wasRe h_o_past h_o_notes h_o_ring h_o_turns h_o_beater h_o_reader h_o_dice h_o_trialWay h_o_trial h_o_otherTrial h_o_sumsRe h_o_sumsIm h_o_tally h_o_image h_o_tape h_o_wave_re h_o_wave_im h_o_wave_wasIm h_o_wave_halved h_o_way_shifts o_imageKept o_taped o_wave_exp o_wave_done o_wave_backward o_way_size o_way_log o_way_wordBits o_way_limit o_way_radix o_way_order o_way_near o_way_seed o_way_stages o_wave_wasRe)) (cQ G (TY3 cI cJ cZ) sz (wX9_greatestProduct_al1 cI cJ cZ h_o h_o_wave h_o_way h_o_wave_wasRe h_o_past h_o_notes h_o_ring h_o_turns h_o_beater h_o_reader h_o_dice h_o_trialWay h_o_trial h_o_otherTrial h_o_sumsRe h_o_sumsIm h_o_tally h_o_image h_o_tape h_o_wave_re h_o_wave_im h_o_wave_wasIm h_o_wave_halved h_o_way_shifts o_imageKept o_taped o_wave_exp o_wave_done o_wave_backward o_way_size o_way_log o_way_wordBits o_way_limit o_way_radix o_way_order o_way_near o_way_seed o_way_stages o_wave_wasRe) (wX9_greatestProduct_al1 cI cJ cZ h_o h_o_wave h_o_way h_o_wave_wasRe h_o_past h_o_notes h_o_ring h_o_turns h_o_beater h_o_reader h_o_dice h_o_trialWay h_o_trial h_o_otherTrial h_o_sumsRe h_o_sumsIm h_o_tally h_o_image h_o_tape h_o_wave_re h_o_wave_im h_o_wave_wasIm h_o_wave_halved h_o_way_shifts o_imageKept o_taped o_wave_exp o_wave_done o_wave_backward o_way_size o_way_log o_way_wordBits o_way_limit o_way_radix o_way_order o_way_near o_way_seed o_way_stages o_wave_wasRe) (some (.int r))) 0 0 (va_A (wX9_greatestProduct_al1 cI cJ cZ h_o h_o_wave h_o_way h_o_wave_wasRe h_o_past h_o_notes h_o_ring h_o_turns h_o_beater h_o_reader h_o_dice h_o_trialWay h_o_trial h_o_otherTrial h_o_sumsRe h_o_sumsIm h_o_tally h_o_image h_o_tape h_o_wave_re h_o_wave_im h_o_wave_wasIm h_o_wave_halved h_o_way_shifts o_imageKept o_taped o_wave_exp o_wave_done o_wave_backward o_way_size o_way_log o_way_wordBits o_way_limit o_way_radix o_way_order o_way_near o_way_seed o_way_stages o_wave_wasRe) sz) := by
  refine met_i (cc := cX9_greatestProduct) (maxL := 9) (plainFor_of_name (by decide)) (Nat.le_of_ble_eq_true rfl) (fun p e s m below meth c A ls Q hx hb hml hts hown hK hP hD hS hA hl hret => ?_)
  have hown : s.vm.findClass RX9 = some m.cls := hown
  have hl : lv_has ls 9 [(0, .ref h_o), (1, .ref h_o_wave_wasRe), (2, .int p2)] := hl
  have j53 : ∀ (k16 : Int32 → Int64 → Int32 → Option (Int32)), (∀ (v3 : Int32) (v4 : Int64) (v6 : Int32) (H : Heap) (locs : List Loc) (ls : Array Slot), k16 v3 v4 v6 = some r → va_P G vwCl (wX9_greatestProduct_al1 cI cJ cZ h_o h_o_wave h_o_way h_o_wave_wasRe h_o_past h_o_notes h_o_ring h_o_turns h_o_beater h_o_reader h_o_dice h_o_trialWay h_o_trial h_o_otherTrial h_o_sumsRe h_o_sumsIm h_o_tally h_o_image h_o_tape h_o_wave_re h_o_wave_im h_o_wave_wasIm h_o_wave_halved h_o_way_shifts o_imageKept o_taped o_wave_exp o_wave_done o_wave_backward o_way_size o_way_log o_way_wordBits o_way_limit o_way_radix o_way_order o_way_near o_way_seed o_way_stages o_wave_wasRe) H → va_D A (wX9_greatestProduct_al1 cI cJ cZ h_o h_o_wave h_o_way h_o_wave_wasRe h_o_past h_o_notes h_o_ring h_o_turns h_o_beater h_o_reader h_o_dice h_o_trialWay h_o_trial h_o_otherTrial h_o_sumsRe h_o_sumsIm h_o_tally h_o_image h_o_tape h_o_wave_re h_o_wave_im h_o_wave_wasIm h_o_wave_halved h_o_way_shifts o_imageKept o_taped o_wave_exp o_wave_done o_wave_backward o_way_size o_way_log o_way_wordBits o_way_limit o_way_radix o_way_order o_way_near o_way_seed o_way_stages o_wave_wasRe) → va_S A s.heap H locs → lv_has ls 9 [(0, .ref h_o), (1, .ref h_o_wave_wasRe), (3, .int v3), (4, .long v4), (6, .int v6)] → W p l e ({ frames := 1, cells := 0, slots := 0, locals := 26 } : Room) s m ([.ref h_o, .ref h_o_wave_wasRe, .int p2] : List Value).toArray below meth c H locs 0 0 Q (F0 m 16 ls [])) → ∀ (v3 : Int32) (v4 : Int64) (v6 : Int32) (H : Heap) (locs : List Loc) (ls : Array Slot), fX9_greatestProduct_al1_53 o_way_size o_wave_wasRe k16 v3 v4 v6 = some r → va_P G vwCl (wX9_greatestProduct_al1 cI cJ cZ h_o h_o_wave h_o_way h_o_wave_wasRe h_o_past h_o_notes h_o_ring h_o_turns h_o_beater h_o_reader h_o_dice h_o_trialWay h_o_trial h_o_otherTrial h_o_sumsRe h_o_sumsIm h_o_tally h_o_image h_o_tape h_o_wave_re h_o_wave_im h_o_wave_wasIm h_o_wave_halved h_o_way_shifts o_imageKept o_taped o_wave_exp o_wave_done o_wave_backward o_way_size o_way_log o_way_wordBits o_way_limit o_way_radix o_way_order o_way_near o_way_seed o_way_stages o_wave_wasRe) H → va_D A (wX9_greatestProduct_al1 cI cJ cZ h_o h_o_wave h_o_way h_o_wave_wasRe h_o_past h_o_notes h_o_ring h_o_turns h_o_beater h_o_reader h_o_dice h_o_trialWay h_o_trial h_o_otherTrial h_o_sumsRe h_o_sumsIm h_o_tally h_o_image h_o_tape h_o_wave_re h_o_wave_im h_o_wave_wasIm h_o_wave_halved h_o_way_shifts o_imageKept o_taped o_wave_exp o_wave_done o_wave_backward o_way_size o_way_log o_way_wordBits o_way_limit o_way_radix o_way_order o_way_near o_way_seed o_way_stages o_wave_wasRe) → va_S A s.heap H locs → lv_has ls 9 [(0, .ref h_o), (1, .ref h_o_wave_wasRe), (3, .int v3), (4, .long v4), (6, .int v6)] → W p l e ({ frames := 1, cells := 0, slots := 0, locals := 26 } : Room) s m ([.ref h_o, .ref h_o_wave_wasRe, .int p2] : List Value).toArray below meth c H locs 0 0 Q (F0 m 53 ls []) := by
    intro k16 hk16 v3 v4 v6 H locs ls hf hP hD hS hl
    unfold fX9_greatestProduct_al1_53 at hf
    obtain ⟨v6_8, ev6_8⟩ : ∃ y : Int32, y = v6 + (1 : Int32) := ⟨_, rfl⟩
    have hf := nm_x ev6_8 hf
    refine lv_iinc (v := v6_8) (lv' := [(6, .int v6_8), (0, .ref h_o), (1, .ref h_o_wave_wasRe), (3, .int v3), (4, .long v4)]) hx hb dX9_greatestProduct_53 hl (k := 4) rfl (by rw [ev6_8]; rfl) (by decide) rfl (fun ls hl => ?_)
    refine lv_goto (tgt := 16) hx hb dX9_greatestProduct_56 (by decide) ?_
    exact hk16 v3 v4 v6_8 H locs ls hf hP hD hS (lv_sub hl [1, 2, 3, 4, 0] rfl)
  have j16 : ∀ (n : Nat) (v3 : Int32) (v4 : Int64) (v6 : Int32) (H : Heap) (locs : List Loc) (ls : Array Slot), fX9_greatestProduct_al1_16 o_way_size o_wave_wasRe n v3 v4 v6 = some r → va_P G vwCl (wX9_greatestProduct_al1 cI cJ cZ h_o h_o_wave h_o_way h_o_wave_wasRe h_o_past h_o_notes h_o_ring h_o_turns h_o_beater h_o_reader h_o_dice h_o_trialWay h_o_trial h_o_otherTrial h_o_sumsRe h_o_sumsIm h_o_tally h_o_image h_o_tape h_o_wave_re h_o_wave_im h_o_wave_wasIm h_o_wave_halved h_o_way_shifts o_imageKept o_taped o_wave_exp o_wave_done o_wave_backward o_way_size o_way_log o_way_wordBits o_way_limit o_way_radix o_way_order o_way_near o_way_seed o_way_stages o_wave_wasRe) H → va_D A (wX9_greatestProduct_al1 cI cJ cZ h_o h_o_wave h_o_way h_o_wave_wasRe h_o_past h_o_notes h_o_ring h_o_turns h_o_beater h_o_reader h_o_dice h_o_trialWay h_o_trial h_o_otherTrial h_o_sumsRe h_o_sumsIm h_o_tally h_o_image h_o_tape h_o_wave_re h_o_wave_im h_o_wave_wasIm h_o_wave_halved h_o_way_shifts o_imageKept o_taped o_wave_exp o_wave_done o_wave_backward o_way_size o_way_log o_way_wordBits o_way_limit o_way_radix o_way_order o_way_near o_way_seed o_way_stages o_wave_wasRe) → va_S A s.heap H locs → lv_has ls 9 [(0, .ref h_o), (1, .ref h_o_wave_wasRe), (3, .int v3), (4, .long v4), (6, .int v6)] → W p l e ({ frames := 1, cells := 0, slots := 0, locals := 26 } : Room) s m ([.ref h_o, .ref h_o_wave_wasRe, .int p2] : List Value).toArray below meth c H locs 0 0 Q (F0 m 16 ls []) := by
    intro n
    induction n with
    | zero =>
      intro v3 v4 v6 H locs ls hf
      have hf : (none : Option (Int32)) = some r := hf
      cases hf
    | succ n ih =>
      intro v3 v4 v6 H locs ls hf hP hD hS hl
      rw [fX9_greatestProduct_al1_16.eq_2] at hf
      refine lv_iload hx hb dX9_greatestProduct_16 (lv_at hl 4 rfl) ?_
      refine lv_aload_n hx hb dX9_greatestProduct_18 rfl (lv_at hl 0 rfl) ?_
      refine rd (ci := 9) (C := RX9) (T := TX9) (N := 19) hx hb hts inX9 hown hK hP 0 0 rfl rfl (by decide) (hts _ q_fX9_10) rfl dX9_greatestProduct_19 ?_
      refine rd (ci := 8) (C := RX8) (T := TX8) (N := 10) hx hb hts inX8 hown hK hP 2 0 rfl rfl (by decide) (hts _ q_fX9_115) rfl dX9_greatestProduct_22 ?_
      refine lv_icmp_ge (tgt := 59) hx hb dX9_greatestProduct_25 (by decide) (fun c_4 => ?_) (fun c_4 => ?_)
      · have hf := it_t c_4 hf
        refine lv_iload_n hx hb dX9_greatestProduct_59 rfl (lv_at hl 2 rfl) ?_
        cases hf
        exact hret _ _ _ _ dX9_greatestProduct_60 hP hD hS
      · have hf := it_f c_4 hf
        refine lv_aload_n hx hb dX9_greatestProduct_28 rfl (lv_at hl 0 rfl) ?_
        refine lv_aload_n hx hb dX9_greatestProduct_29 rfl (lv_at hl 1 rfl) ?_
        refine lv_iconst (v := (1 : Int32)) hx hb dX9_greatestProduct_30 (by decide) ?_
        refine lv_iload hx hb dX9_greatestProduct_31 (lv_at hl 4 rfl) ?_
        obtain ⟨r_5, e_6, hf⟩ := bd1_x hf
        refine call_v [.ref h_o_wave_wasRe, .int (1 : Int32), .int v6] [] ⟨hx, hb, hml, hown, hts⟩ hK hP hD hS hA hl.1 (tX9_productSum_al1 l G cI cJ cZ H.size h_o h_o_wave h_o_way h_o_wave_wasRe h_o_past h_o_notes h_o_ring h_o_turns h_o_beater h_o_reader h_o_dice h_o_trialWay h_o_trial h_o_otherTrial h_o_sumsRe h_o_sumsIm h_o_tally h_o_image h_o_tape h_o_wave_re h_o_wave_im h_o_wave_wasIm h_o_wave_halved h_o_way_shifts o_imageKept o_taped o_wave_exp o_wave_done o_wave_backward o_way_size o_way_log o_way_wordBits o_way_limit o_way_radix o_way_order o_way_near o_way_seed o_way_stages o_wave_wasRe (1 : Int32) v6 r_5 e_6) (cwV 3 hts (gv q_mX9_382 q_i_yX9_productSum q_s_yX9_productSum q_n_RX9 q_k_yX9_productSum) rfl rfl rfl (by decide +kernel) ⟨by decide, by decide⟩) rfl rfl (Nat.le_of_ble_eq_true rfl) dX9_greatestProduct_33 ⟨Nat.zero_le _, Nat.zero_le _⟩ (ci := 9) rfl 0 rfl [0, 1, 2, 3] [] [0, 1, 2, 3] rfl rfl (ws2 := (wX9_greatestProduct_al1 cI cJ cZ h_o h_o_wave h_o_way h_o_wave_wasRe h_o_past h_o_notes h_o_ring h_o_turns h_o_beater h_o_reader h_o_dice h_o_trialWay h_o_trial h_o_otherTrial h_o_sumsRe h_o_sumsIm h_o_tally h_o_image h_o_tape h_o_wave_re h_o_wave_im h_o_wave_wasIm h_o_wave_halved h_o_way_shifts o_imageKept o_taped o_wave_exp o_wave_done o_wave_backward o_way_size o_way_log o_way_wordBits o_way_limit o_way_radix o_way_order o_way_near o_way_seed o_way_stages o_wave_wasRe)) rfl (fun H locs hP hD hS => ?_)
        refine W.eq (g2 := F0 m 36 ls [.long r_5]) rfl ?_
        refine lv_lstore (lv' := [(7, .long r_5), (0, .ref h_o), (1, .ref h_o_wave_wasRe), (3, .int v3), (4, .long v4), (6, .int v6)]) hx hb dX9_greatestProduct_36 hl (by decide) rfl (fun ls hl => ?_)
        refine lv_lload hx hb dX9_greatestProduct_38 (lv_at hl 0 rfl) ?_
        refine lv_lload hx hb dX9_greatestProduct_40 (lv_at hl 4 rfl) ?_
        refine lc_le (tgt := 53) hx hb dX9_greatestProduct_42 dX9_greatestProduct_43 (by decide) (fun c_7 => ?_) (fun c_7 => ?_)
        · have hf := it_t c_7 hf
          exact j53 (fX9_greatestProduct_al1_16 o_way_size o_wave_wasRe n) ih v3 v4 v6 H locs ls hf hP hD hS (lv_sub hl [1, 2, 3, 4, 5] rfl)
        · have hf := it_f c_7 hf
          refine lv_lload hx hb dX9_greatestProduct_46 (lv_at hl 0 rfl) ?_
          refine lv_lstore (lv' := [(4, .long r_5), (7, .long r_5), (0, .ref h_o), (1, .ref h_o_wave_wasRe), (3, .int v3), (6, .int v6)]) hx hb dX9_greatestProduct_48 hl (by decide) rfl (fun ls hl => ?_)
          refine lv_iload hx hb dX9_greatestProduct_50 (lv_at hl 5 rfl) ?_
          refine lv_istore_n (lv' := [(3, .int v6), (4, .long r_5), (7, .long r_5), (0, .ref h_o), (1, .ref h_o_wave_wasRe), (6, .int v6)]) hx hb dX9_greatestProduct_52 rfl hl (by decide) rfl (fun ls hl => ?_)
          exact j53 (fX9_greatestProduct_al1_16 o_way_size o_wave_wasRe n) ih v6 r_5 v6 H locs ls hf hP hD hS (lv_sub hl [3, 4, 0, 1, 5] rfl)
  unfold fX9_greatestProduct_al1 at hf
  obtain ⟨H, eH⟩ : ∃ H, H = s.heap := ⟨_, rfl⟩
  obtain ⟨locs, elocs⟩ : ∃ z : List Loc, z = [] := ⟨_, rfl⟩
  have hP : va_P G vwCl (wX9_greatestProduct_al1 cI cJ cZ h_o h_o_wave h_o_way h_o_wave_wasRe h_o_past h_o_notes h_o_ring h_o_turns h_o_beater h_o_reader h_o_dice h_o_trialWay h_o_trial h_o_otherTrial h_o_sumsRe h_o_sumsIm h_o_tally h_o_image h_o_tape h_o_wave_re h_o_wave_im h_o_wave_wasIm h_o_wave_halved h_o_way_shifts o_imageKept o_taped o_wave_exp o_wave_done o_wave_backward o_way_size o_way_log o_way_wordBits o_way_limit o_way_radix o_way_order o_way_near o_way_seed o_way_stages o_wave_wasRe) H := by rw [eH]; exact hP
  have hS : va_S A s.heap H locs := by rw [eH, elocs]; exact hS
  suffices hgo : W p l e ({ frames := 1, cells := 0, slots := 0, locals := 26 } : Room) s m ([.ref h_o, .ref h_o_wave_wasRe, .int p2] : List Value).toArray below meth c H locs 0 0 Q (F0 m 0 ls []) by rw [eH, elocs] at hgo; exact hgo
  clear eH elocs
  refine lv_iload_n hx hb dX9_greatestProduct_0 rfl (lv_at hl 2 rfl) ?_
  refine lv_istore_n (lv' := [(3, .int p2), (0, .ref h_o), (1, .ref h_o_wave_wasRe), (2, .int p2)]) hx hb dX9_greatestProduct_1 rfl hl (by decide) rfl (fun ls hl => ?_)
  refine lv_aload_n hx hb dX9_greatestProduct_2 rfl (lv_at hl 1 rfl) ?_
  refine lv_aload_n hx hb dX9_greatestProduct_3 rfl (lv_at hl 2 rfl) ?_
  refine lv_iconst (v := (1 : Int32)) hx hb dX9_greatestProduct_4 (by decide) ?_
  refine lv_iload_n hx hb dX9_greatestProduct_5 rfl (lv_at hl 3 rfl) ?_
  obtain ⟨r_1, e_2, hf⟩ := bd1_x hf
  refine call_v [.ref h_o_wave_wasRe, .int (1 : Int32), .int p2] [] ⟨hx, hb, hml, hown, hts⟩ hK hP hD hS hA hl.1 (tX9_productSum_al1 l G cI cJ cZ H.size h_o h_o_wave h_o_way h_o_wave_wasRe h_o_past h_o_notes h_o_ring h_o_turns h_o_beater h_o_reader h_o_dice h_o_trialWay h_o_trial h_o_otherTrial h_o_sumsRe h_o_sumsIm h_o_tally h_o_image h_o_tape h_o_wave_re h_o_wave_im h_o_wave_wasIm h_o_wave_halved h_o_way_shifts o_imageKept o_taped o_wave_exp o_wave_done o_wave_backward o_way_size o_way_log o_way_wordBits o_way_limit o_way_radix o_way_order o_way_near o_way_seed o_way_stages o_wave_wasRe (1 : Int32) p2 r_1 e_2) (cwV 3 hts (gv q_mX9_382 q_i_yX9_productSum q_s_yX9_productSum q_n_RX9 q_k_yX9_productSum) rfl rfl rfl (by decide +kernel) ⟨by decide, by decide⟩) rfl rfl (Nat.le_of_ble_eq_true rfl) dX9_greatestProduct_6 ⟨Nat.zero_le _, Nat.zero_le _⟩ (ci := 9) rfl 0 rfl [0, 1, 2, 3] [] [0, 1, 2, 3] rfl rfl (ws2 := (wX9_greatestProduct_al1 cI cJ cZ h_o h_o_wave h_o_way h_o_wave_wasRe h_o_past h_o_notes h_o_ring h_o_turns h_o_beater h_o_reader h_o_dice h_o_trialWay h_o_trial h_o_otherTrial h_o_sumsRe h_o_sumsIm h_o_tally h_o_image h_o_tape h_o_wave_re h_o_wave_im h_o_wave_wasIm h_o_wave_halved h_o_way_shifts o_imageKept o_taped o_wave_exp o_wave_done o_wave_backward o_way_size o_way_log o_way_wordBits o_way_limit o_way_radix o_way_order o_way_near o_way_seed o_way_stages o_wave_wasRe)) rfl (fun H locs hP hD hS => ?_)
  refine W.eq (g2 := F0 m 9 ls [.long r_1]) rfl ?_
  refine lv_lstore (lv' := [(4, .long r_1), (3, .int p2), (0, .ref h_o), (1, .ref h_o_wave_wasRe), (2, .int p2)]) hx hb dX9_greatestProduct_9 hl (by decide) rfl (fun ls hl => ?_)
  refine lv_iload_n hx hb dX9_greatestProduct_11 rfl (lv_at hl 4 rfl) ?_
  refine lv_iconst (v := (1 : Int32)) hx hb dX9_greatestProduct_12 (by decide) ?_
  refine lv_iadd hx hb dX9_greatestProduct_13 ?_
  refine lv_topi (fun v6_3 ev6_3 => ?_)
  have hf := nm_x ev6_3 hf
  refine lv_istore (lv' := [(6, .int v6_3), (4, .long r_1), (3, .int p2), (0, .ref h_o), (1, .ref h_o_wave_wasRe), (2, .int p2)]) hx hb dX9_greatestProduct_14 hl (by decide) rfl (fun ls hl => ?_)
  exact j16 FU p2 r_1 v6_3 H locs ls hf hP hD hS (lv_sub hl [3, 4, 2, 1, 0] rfl)
def wX9_period (cI cJ cZ : ClassId) (h_o h_o_wave h_o_way h_o_wave_wasRe h_o_past h_o_notes h_o_ring h_o_turns h_o_beater h_o_reader h_o_dice h_o_trialWay h_o_trial h_o_otherTrial h_o_sumsRe h_o_sumsIm h_o_tally h_o_image h_o_tape h_o_wave_re h_o_wave_im h_o_wave_wasIm h_o_wave_halved h_o_way_shifts : Nat) (o_imageKept : Int32) (o_taped : Int32) (o_wave_exp : Int32) (o_wave_done : Int32) (o_wave_backward : Int32) (o_way_size : Int32) (o_way_log : Int32) (o_way_wordBits : Int32) (o_way_limit : Int32) (o_way_radix : Int32) (o_way_order : Int32) (o_way_near : Int32) (o_way_seed : Int32) (o_way_stages : Int32) (o_wave_wasRe : Nat → Int32) : va_W := [(h_o, .inr (9, [.ref h_o_way, .ref h_o_wave, .ref h_o_past, .ref h_o_notes, .ref h_o_ring, .ref h_o_turns, .ref h_o_beater, .ref h_o_reader, .ref h_o_dice, .ref h_o_trialWay, .ref h_o_trial, .ref h_o_otherTrial, .ref h_o_sumsRe, .ref h_o_sumsIm, .ref h_o_tally, .ref h_o_image, .int o_imageKept, .ref h_o_tape, .int o_taped])), (h_o_wave, .inr (7, [.ref h_o_wave_re, .ref h_o_wave_im, .ref h_o_wave_wasRe, .ref h_o_wave_wasIm, .ref h_o_wave_halved, .int o_wave_exp, .int o_wave_done, .int o_wave_backward])), (h_o_way, .inr (8, [.int o_way_size, .int o_way_log, .int o_way_wordBits, .int o_way_limit, .int o_way_radix, .int o_way_order, .int o_way_near, .int o_way_seed, .int o_way_stages, .ref h_o_way_shifts])), (h_o_wave_wasRe, .inl (cI, 32, .inl o_wave_wasRe))]
def fX9_period (o_way_size : Int32) (o_wave_wasRe : Nat → Int32) : Option (Int32) :=
  bd1 (fX9_greatestProduct_al1 o_way_size o_wave_wasRe (1 : Int32)) (fun r_1 =>
  some r_1)
set_option maxHeartbeats 4000000 in
set_option maxRecDepth 100000 in
theorem tX9_period (l : Launch) (G : va_G) (cI cJ cZ : ClassId) (sz : Nat) (h_o h_o_wave h_o_way h_o_wave_wasRe h_o_past h_o_notes h_o_ring h_o_turns h_o_beater h_o_reader h_o_dice h_o_trialWay h_o_trial h_o_otherTrial h_o_sumsRe h_o_sumsIm h_o_tally h_o_image h_o_tape h_o_wave_re h_o_wave_im h_o_wave_wasIm h_o_wave_halved h_o_way_shifts : Nat) (o_imageKept : Int32) (o_taped : Int32) (o_wave_exp : Int32) (o_wave_done : Int32) (o_wave_backward : Int32) (o_way_size : Int32) (o_way_log : Int32) (o_way_wordBits : Int32) (o_way_limit : Int32) (o_way_radix : Int32) (o_way_order : Int32) (o_way_near : Int32) (o_way_seed : Int32) (o_way_stages : Int32) (o_wave_wasRe : Nat → Int32) (r : Int32) (hf : fX9_period o_way_size o_wave_wasRe = some r) : Met l yX9_period (Cond.code yX9_period cX9_period 1 (some .int) :: BIG) ({ frames := 2, cells := 0, slots := 0, locals := 54 } : Room) (cP G (TY3 cI cJ cZ) [.ref h_o] sz (wX9_period cI cJ cZ h_o h_o_wave h_o_way h_o_wave_wasRe h_o_past h_o_notes h_o_ring h_o_turns h_o_beater h_o_reader h_o_dice h_o_trialWay h_o_trial h_o_otherTrial h_o_sumsRe h_o_sumsIm h_o_tally h_o_image h_o_tape h_o_wave_re h_o_wave_im h_o_wave_wasIm h_o_wave_halved h_o_way_shifts o_imageKept o_taped o_wave_exp o_wave_done o_wave_backward o_way_size o_way_log o_way_wordBits o_way_limit o_way_radix o_way_order o_way_near o_way_seed o_way_stages o_wave_wasRe)) (cQ G (TY3 cI cJ cZ) sz (wX9_period cI cJ cZ h_o h_o_wave h_o_way h_o_wave_wasRe h_o_past h_o_notes h_o_ring h_o_turns h_o_beater h_o_reader h_o_dice h_o_trialWay h_o_trial h_o_otherTrial h_o_sumsRe h_o_sumsIm h_o_tally h_o_image h_o_tape h_o_wave_re h_o_wave_im h_o_wave_wasIm h_o_wave_halved h_o_way_shifts o_imageKept o_taped o_wave_exp o_wave_done o_wave_backward o_way_size o_way_log o_way_wordBits o_way_limit o_way_radix o_way_order o_way_near o_way_seed o_way_stages o_wave_wasRe) (wX9_period cI cJ cZ h_o h_o_wave h_o_way h_o_wave_wasRe h_o_past h_o_notes h_o_ring h_o_turns h_o_beater h_o_reader h_o_dice h_o_trialWay h_o_trial h_o_otherTrial h_o_sumsRe h_o_sumsIm h_o_tally h_o_image h_o_tape h_o_wave_re h_o_wave_im h_o_wave_wasIm h_o_wave_halved h_o_way_shifts o_imageKept o_taped o_wave_exp o_wave_done o_wave_backward o_way_size o_way_log o_way_wordBits o_way_limit o_way_radix o_way_order o_way_near o_way_seed o_way_stages o_wave_wasRe) (some (.int r))) 0 0 (va_A (wX9_period cI cJ cZ h_o h_o_wave h_o_way h_o_wave_wasRe h_o_past h_o_notes h_o_ring h_o_turns h_o_beater h_o_reader h_o_dice h_o_trialWay h_o_trial h_o_otherTrial h_o_sumsRe h_o_sumsIm h_o_tally h_o_image h_o_tape h_o_wave_re h_o_wave_im h_o_wave_wasIm h_o_wave_halved h_o_way_shifts o_imageKept o_taped o_wave_exp o_wave_done o_wave_backward o_way_size o_way_log o_way_wordBits o_way_limit o_way_radix o_way_order o_way_near o_way_seed o_way_stages o_wave_wasRe) sz) := by
  refine met_i (cc := cX9_period) (maxL := 1) (plainFor_of_name (by decide)) (Nat.le_of_ble_eq_true rfl) (fun p e s m below meth c A ls Q hx hb hml hts hown hK hP hD hS hA hl hret => ?_)
  have hown : s.vm.findClass RX9 = some m.cls := hown
  have hl : lv_has ls 1 [(0, .ref h_o)] := hl
  unfold fX9_period at hf
  obtain ⟨H, eH⟩ : ∃ H, H = s.heap := ⟨_, rfl⟩
  obtain ⟨locs, elocs⟩ : ∃ z : List Loc, z = [] := ⟨_, rfl⟩
  have hP : va_P G vwCl (wX9_period cI cJ cZ h_o h_o_wave h_o_way h_o_wave_wasRe h_o_past h_o_notes h_o_ring h_o_turns h_o_beater h_o_reader h_o_dice h_o_trialWay h_o_trial h_o_otherTrial h_o_sumsRe h_o_sumsIm h_o_tally h_o_image h_o_tape h_o_wave_re h_o_wave_im h_o_wave_wasIm h_o_wave_halved h_o_way_shifts o_imageKept o_taped o_wave_exp o_wave_done o_wave_backward o_way_size o_way_log o_way_wordBits o_way_limit o_way_radix o_way_order o_way_near o_way_seed o_way_stages o_wave_wasRe) H := by rw [eH]; exact hP
  have hS : va_S A s.heap H locs := by rw [eH, elocs]; exact hS
  suffices hgo : W p l e ({ frames := 2, cells := 0, slots := 0, locals := 54 } : Room) s m ([.ref h_o] : List Value).toArray below meth c H locs 0 0 Q (F0 m 0 ls []) by rw [eH, elocs] at hgo; exact hgo
  clear eH elocs
  refine lv_aload_n hx hb dX9_period_0 rfl (lv_at hl 0 rfl) ?_
  refine lv_aload_n hx hb dX9_period_1 rfl (lv_at hl 0 rfl) ?_
  refine rd (ci := 9) (C := RX9) (T := TX9) (N := 19) hx hb hts inX9 hown hK hP 0 1 rfl rfl (by decide) (hts _ q_fX9_19) rfl dX9_period_2 ?_
  refine rd (ci := 7) (C := RX7) (T := TX7) (N := 8) hx hb hts inX7 hown hK hP 1 2 rfl rfl (by decide) (hts _ q_fX9_177) rfl dX9_period_5 ?_
  refine lv_iconst (v := (1 : Int32)) hx hb dX9_period_8 (by decide) ?_
  obtain ⟨r_1, e_2, hf⟩ := bd1_x hf
  refine call_v [.ref h_o_wave_wasRe, .int (1 : Int32)] [] ⟨hx, hb, hml, hown, hts⟩ hK hP hD hS hA hl.1 (tX9_greatestProduct_al1 l G cI cJ cZ H.size h_o h_o_wave h_o_way h_o_wave_wasRe h_o_past h_o_notes h_o_ring h_o_turns h_o_beater h_o_reader h_o_dice h_o_trialWay h_o_trial h_o_otherTrial h_o_sumsRe h_o_sumsIm h_o_tally h_o_image h_o_tape h_o_wave_re h_o_wave_im h_o_wave_wasIm h_o_wave_halved h_o_way_shifts o_imageKept o_taped o_wave_exp o_wave_done o_wave_backward o_way_size o_way_log o_way_wordBits o_way_limit o_way_radix o_way_order o_way_near o_way_seed o_way_stages o_wave_wasRe (1 : Int32) r_1 e_2) (cwV 2 hts (gv q_mX9_386 q_i_yX9_greatestProduct q_s_yX9_greatestProduct q_n_RX9 q_k_yX9_greatestProduct) rfl rfl rfl (by decide +kernel) ⟨by decide, by decide⟩) rfl rfl (Nat.le_of_ble_eq_true rfl) dX9_period_9 ⟨Nat.zero_le _, Nat.zero_le _⟩ (ci := 9) rfl 0 rfl [0, 1, 2, 3] [] [0, 1, 2, 3] rfl rfl (ws2 := (wX9_period cI cJ cZ h_o h_o_wave h_o_way h_o_wave_wasRe h_o_past h_o_notes h_o_ring h_o_turns h_o_beater h_o_reader h_o_dice h_o_trialWay h_o_trial h_o_otherTrial h_o_sumsRe h_o_sumsIm h_o_tally h_o_image h_o_tape h_o_wave_re h_o_wave_im h_o_wave_wasIm h_o_wave_halved h_o_way_shifts o_imageKept o_taped o_wave_exp o_wave_done o_wave_backward o_way_size o_way_log o_way_wordBits o_way_limit o_way_radix o_way_order o_way_near o_way_seed o_way_stages o_wave_wasRe)) rfl (fun H locs hP hD hS => ?_)
  refine W.eq (g2 := F0 m 12 ls [.int r_1]) rfl ?_
  cases hf
  exact hret _ _ _ _ dX9_period_12 hP hD hS
def wX9_greatestProduct (cI cJ cZ : ClassId) (h_o h_a1 h_o_wave h_o_way h_o_wave_wasRe h_o_past h_o_notes h_o_ring h_o_turns h_o_beater h_o_reader h_o_dice h_o_trialWay h_o_trial h_o_otherTrial h_o_sumsRe h_o_sumsIm h_o_tally h_o_image h_o_tape h_o_wave_re h_o_wave_im h_o_wave_wasIm h_o_wave_halved h_o_way_shifts : Nat) (o_imageKept : Int32) (o_taped : Int32) (a1 : Nat → Int32) (o_wave_exp : Int32) (o_wave_done : Int32) (o_wave_backward : Int32) (o_way_size : Int32) (o_way_log : Int32) (o_way_wordBits : Int32) (o_way_limit : Int32) (o_way_radix : Int32) (o_way_order : Int32) (o_way_near : Int32) (o_way_seed : Int32) (o_way_stages : Int32) (o_wave_wasRe : Nat → Int32) : va_W := [(h_o, .inr (9, [.ref h_o_way, .ref h_o_wave, .ref h_o_past, .ref h_o_notes, .ref h_o_ring, .ref h_o_turns, .ref h_o_beater, .ref h_o_reader, .ref h_o_dice, .ref h_o_trialWay, .ref h_o_trial, .ref h_o_otherTrial, .ref h_o_sumsRe, .ref h_o_sumsIm, .ref h_o_tally, .ref h_o_image, .int o_imageKept, .ref h_o_tape, .int o_taped])), (h_a1, .inl (cI, 32, .inl a1)), (h_o_wave, .inr (7, [.ref h_o_wave_re, .ref h_o_wave_im, .ref h_o_wave_wasRe, .ref h_o_wave_wasIm, .ref h_o_wave_halved, .int o_wave_exp, .int o_wave_done, .int o_wave_backward])), (h_o_way, .inr (8, [.int o_way_size, .int o_way_log, .int o_way_wordBits, .int o_way_limit, .int o_way_radix, .int o_way_order, .int o_way_near, .int o_way_seed, .int o_way_stages, .ref h_o_way_shifts])), (h_o_wave_wasRe, .inl (cI, 32, .inl o_wave_wasRe))]
def fX9_greatestProduct_53 (a1 : Nat → Int32) (o_way_size : Int32) (o_wave_wasRe : Nat → Int32) (k16 : Int32 → Int64 → Int32 → Option (Int32)) (v3 : Int32) (v4 : Int64) (v6 : Int32) : Option (Int32) :=
  nm (v6 + (1 : Int32)) (fun v6_8 =>
  k16 v3 v4 v6_8)
def fX9_greatestProduct_16 (a1 : Nat → Int32) (o_way_size : Int32) (o_wave_wasRe : Nat → Int32) : Nat → Int32 → Int64 → Int32 → Option (Int32)
  | 0, _, _, _ => none
  | n + 1, v3, v4, v6 =>
    if o_way_size ≤ v6 then (
      some v3
    ) else (
      bd1 (fX9_productSum a1 o_way_size o_wave_wasRe (1 : Int32) v6) (fun r_5 =>
      if r_5 ≤ v4 then (
        fX9_greatestProduct_53 a1 o_way_size o_wave_wasRe (fX9_greatestProduct_16 a1 o_way_size o_wave_wasRe n) v3 v4 v6
      ) else (
        fX9_greatestProduct_53 a1 o_way_size o_wave_wasRe (fX9_greatestProduct_16 a1 o_way_size o_wave_wasRe n) v6 r_5 v6
      ))
    )
def fX9_greatestProduct (a1 : Nat → Int32) (o_way_size : Int32) (o_wave_wasRe : Nat → Int32) (p2 : Int32) : Option (Int32) :=
  bd1 (fX9_productSum a1 o_way_size o_wave_wasRe (1 : Int32) p2) (fun r_1 =>
  nm (p2 + (1 : Int32)) (fun v6_3 =>
  fX9_greatestProduct_16 a1 o_way_size o_wave_wasRe FU p2 r_1 v6_3))
set_option maxHeartbeats 4000000 in
set_option maxRecDepth 100000 in
theorem tX9_greatestProduct (l : Launch) (G : va_G) (cI cJ cZ : ClassId) (sz : Nat) (h_o h_a1 h_o_wave h_o_way h_o_wave_wasRe h_o_past h_o_notes h_o_ring h_o_turns h_o_beater h_o_reader h_o_dice h_o_trialWay h_o_trial h_o_otherTrial h_o_sumsRe h_o_sumsIm h_o_tally h_o_image h_o_tape h_o_wave_re h_o_wave_im h_o_wave_wasIm h_o_wave_halved h_o_way_shifts : Nat) (o_imageKept : Int32) (o_taped : Int32) (a1 : Nat → Int32) (o_wave_exp : Int32) (o_wave_done : Int32) (o_wave_backward : Int32) (o_way_size : Int32) (o_way_log : Int32) (o_way_wordBits : Int32) (o_way_limit : Int32) (o_way_radix : Int32) (o_way_order : Int32) (o_way_near : Int32) (o_way_seed : Int32) (o_way_stages : Int32) (o_wave_wasRe : Nat → Int32) (p2 : Int32) (r : Int32) (hf : fX9_greatestProduct a1 o_way_size o_wave_wasRe p2 = some r) : Met l yX9_greatestProduct (Cond.code yX9_greatestProduct cX9_greatestProduct 9 (some .int) :: BIG) ({ frames := 1, cells := 0, slots := 0, locals := 26 } : Room) (cP G (TY3 cI cJ cZ) [.ref h_o, .ref h_a1, .int p2] sz (wX9_greatestProduct cI cJ cZ h_o h_a1 h_o_wave h_o_way h_o_wave_wasRe h_o_past h_o_notes h_o_ring h_o_turns h_o_beater h_o_reader h_o_dice h_o_trialWay h_o_trial h_o_otherTrial h_o_sumsRe h_o_sumsIm h_o_tally h_o_image h_o_tape h_o_wave_re h_o_wave_im h_o_wave_wasIm h_o_wave_halved h_o_way_shifts o_imageKept o_taped a1 o_wave_exp o_wave_done o_wave_backward o_way_size o_way_log o_way_wordBits o_way_limit o_way_radix o_way_order o_way_near o_way_seed o_way_stages o_wave_wasRe)) (cQ G (TY3 cI cJ cZ) sz (wX9_greatestProduct cI cJ cZ h_o h_a1 h_o_wave h_o_way h_o_wave_wasRe h_o_past h_o_notes h_o_ring h_o_turns h_o_beater h_o_reader h_o_dice h_o_trialWay h_o_trial h_o_otherTrial h_o_sumsRe h_o_sumsIm h_o_tally h_o_image h_o_tape h_o_wave_re h_o_wave_im h_o_wave_wasIm h_o_wave_halved h_o_way_shifts o_imageKept o_taped a1 o_wave_exp o_wave_done o_wave_backward o_way_size o_way_log o_way_wordBits o_way_limit o_way_radix o_way_order o_way_near o_way_seed o_way_stages o_wave_wasRe) (wX9_greatestProduct cI cJ cZ h_o h_a1 h_o_wave h_o_way h_o_wave_wasRe h_o_past h_o_notes h_o_ring h_o_turns h_o_beater h_o_reader h_o_dice h_o_trialWay h_o_trial h_o_otherTrial h_o_sumsRe h_o_sumsIm h_o_tally h_o_image h_o_tape h_o_wave_re h_o_wave_im h_o_wave_wasIm h_o_wave_halved h_o_way_shifts o_imageKept o_taped a1 o_wave_exp o_wave_done o_wave_backward o_way_size o_way_log o_way_wordBits o_way_limit o_way_radix o_way_order o_way_near o_way_seed o_way_stages o_wave_wasRe) (some (.int r))) 0 0 (va_A (wX9_greatestProduct cI cJ cZ h_o h_a1 h_o_wave h_o_way h_o_wave_wasRe h_o_past h_o_notes h_o_ring h_o_turns h_o_beater h_o_reader h_o_dice h_o_trialWay h_o_trial h_o_otherTrial h_o_sumsRe h_o_sumsIm h_o_tally h_o_image h_o_tape h_o_wave_re h_o_wave_im h_o_wave_wasIm h_o_wave_halved h_o_way_shifts o_imageKept o_taped a1 o_wave_exp o_wave_done o_wave_backward o_way_size o_way_log o_way_wordBits o_way_limit o_way_radix o_way_order o_way_near o_way_seed o_way_stages o_wave_wasRe) sz) := by
  refine met_i (cc := cX9_greatestProduct) (maxL := 9) (plainFor_of_name (by decide)) (Nat.le_of_ble_eq_true rfl) (fun p e s m below meth c A ls Q hx hb hml hts hown hK hP hD hS hA hl hret => ?_)
  have hown : s.vm.findClass RX9 = some m.cls := hown
  have hl : lv_has ls 9 [(0, .ref h_o), (1, .ref h_a1), (2, .int p2)] := hl
  have j53 : ∀ (k16 : Int32 → Int64 → Int32 → Option (Int32)), (∀ (v3 : Int32) (v4 : Int64) (v6 : Int32) (H : Heap) (locs : List Loc) (ls : Array Slot), k16 v3 v4 v6 = some r → va_P G vwCl (wX9_greatestProduct cI cJ cZ h_o h_a1 h_o_wave h_o_way h_o_wave_wasRe h_o_past h_o_notes h_o_ring h_o_turns h_o_beater h_o_reader h_o_dice h_o_trialWay h_o_trial h_o_otherTrial h_o_sumsRe h_o_sumsIm h_o_tally h_o_image h_o_tape h_o_wave_re h_o_wave_im h_o_wave_wasIm h_o_wave_halved h_o_way_shifts o_imageKept o_taped a1 o_wave_exp o_wave_done o_wave_backward o_way_size o_way_log o_way_wordBits o_way_limit o_way_radix o_way_order o_way_near o_way_seed o_way_stages o_wave_wasRe) H → va_D A (wX9_greatestProduct cI cJ cZ h_o h_a1 h_o_wave h_o_way h_o_wave_wasRe h_o_past h_o_notes h_o_ring h_o_turns h_o_beater h_o_reader h_o_dice h_o_trialWay h_o_trial h_o_otherTrial h_o_sumsRe h_o_sumsIm h_o_tally h_o_image h_o_tape h_o_wave_re h_o_wave_im h_o_wave_wasIm h_o_wave_halved h_o_way_shifts o_imageKept o_taped a1 o_wave_exp o_wave_done o_wave_backward o_way_size o_way_log o_way_wordBits o_way_limit o_way_radix o_way_order o_way_near o_way_seed o_way_stages o_wave_wasRe) → va_S A s.heap H locs → lv_has ls 9 [(0, .ref h_o), (1, .ref h_a1), (3, .int v3), (4, .long v4), (6, .int v6)] → W p l e ({ frames := 1, cells := 0, slots := 0, locals := 26 } : Room) s m ([.ref h_o, .ref h_a1, .int p2] : List Value).toArray below meth c H locs 0 0 Q (F0 m 16 ls [])) → ∀ (v3 : Int32) (v4 : Int64) (v6 : Int32) (H : Heap) (locs : List Loc) (ls : Array Slot), fX9_greatestProduct_53 a1 o_way_size o_wave_wasRe k16 v3 v4 v6 = some r → va_P G vwCl (wX9_greatestProduct cI cJ cZ h_o h_a1 h_o_wave h_o_way h_o_wave_wasRe h_o_past h_o_notes h_o_ring h_o_turns h_o_beater h_o_reader h_o_dice h_o_trialWay h_o_trial h_o_otherTrial h_o_sumsRe h_o_sumsIm h_o_tally h_o_image h_o_tape h_o_wave_re h_o_wave_im h_o_wave_wasIm h_o_wave_halved h_o_way_shifts o_imageKept o_taped a1 o_wave_exp o_wave_done o_wave_backward o_way_size o_way_log o_way_wordBits o_way_limit o_way_radix o_way_order o_way_near o_way_seed o_way_stages o_wave_wasRe) H → va_D A (wX9_greatestProduct cI cJ cZ h_o h_a1 h_o_wave h_o_way h_o_wave_wasRe h_o_past h_o_notes h_o_ring h_o_turns h_o_beater h_o_reader h_o_dice h_o_trialWay h_o_trial h_o_otherTrial h_o_sumsRe h_o_sumsIm h_o_tally h_o_image h_o_tape h_o_wave_re h_o_wave_im h_o_wave_wasIm h_o_wave_halved h_o_way_shifts o_imageKept o_taped a1 o_wave_exp o_wave_done o_wave_backward o_way_size o_way_log o_way_wordBits o_way_limit o_way_radix o_way_order o_way_near o_way_seed o_way_stages o_wave_wasRe) → va_S A s.heap H locs → lv_has ls 9 [(0, .ref h_o), (1, .ref h_a1), (3, .int v3), (4, .long v4), (6, .int v6)] → W p l e ({ frames := 1, cells := 0, slots := 0, locals := 26 } : Room) s m ([.ref h_o, .ref h_a1, .int p2] : List Value).toArray below meth c H locs 0 0 Q (F0 m 53 ls []) := by
    intro k16 hk16 v3 v4 v6 H locs ls hf hP hD hS hl
    unfold fX9_greatestProduct_53 at hf
    obtain ⟨v6_8, ev6_8⟩ : ∃ y : Int32, y = v6 + (1 : Int32) := ⟨_, rfl⟩
    have hf := nm_x ev6_8 hf
    refine lv_iinc (v := v6_8) (lv' := [(6, .int v6_8), (0, .ref h_o), (1, .ref h_a1), (3, .int v3), (4, .long v4)]) hx hb dX9_greatestProduct_53 hl (k := 4) rfl (by rw [ev6_8]; rfl) (by decide) rfl (fun ls hl => ?_)
    refine lv_goto (tgt := 16) hx hb dX9_greatestProduct_56 (by decide) ?_
    exact hk16 v3 v4 v6_8 H locs ls hf hP hD hS (lv_sub hl [1, 2, 3, 4, 0] rfl)
  have j16 : ∀ (n : Nat) (v3 : Int32) (v4 : Int64) (v6 : Int32) (H : Heap) (locs : List Loc) (ls : Array Slot), fX9_greatestProduct_16 a1 o_way_size o_wave_wasRe n v3 v4 v6 = some r → va_P G vwCl (wX9_greatestProduct cI cJ cZ h_o h_a1 h_o_wave h_o_way h_o_wave_wasRe h_o_past h_o_notes h_o_ring h_o_turns h_o_beater h_o_reader h_o_dice h_o_trialWay h_o_trial h_o_otherTrial h_o_sumsRe h_o_sumsIm h_o_tally h_o_image h_o_tape h_o_wave_re h_o_wave_im h_o_wave_wasIm h_o_wave_halved h_o_way_shifts o_imageKept o_taped a1 o_wave_exp o_wave_done o_wave_backward o_way_size o_way_log o_way_wordBits o_way_limit o_way_radix o_way_order o_way_near o_way_seed o_way_stages o_wave_wasRe) H → va_D A (wX9_greatestProduct cI cJ cZ h_o h_a1 h_o_wave h_o_way h_o_wave_wasRe h_o_past h_o_notes h_o_ring h_o_turns h_o_beater h_o_reader h_o_dice h_o_trialWay h_o_trial h_o_otherTrial h_o_sumsRe h_o_sumsIm h_o_tally h_o_image h_o_tape h_o_wave_re h_o_wave_im h_o_wave_wasIm h_o_wave_halved h_o_way_shifts o_imageKept o_taped a1 o_wave_exp o_wave_done o_wave_backward o_way_size o_way_log o_way_wordBits o_way_limit o_way_radix o_way_order o_way_near o_way_seed o_way_stages o_wave_wasRe) → va_S A s.heap H locs → lv_has ls 9 [(0, .ref h_o), (1, .ref h_a1), (3, .int v3), (4, .long v4), (6, .int v6)] → W p l e ({ frames := 1, cells := 0, slots := 0, locals := 26 } : Room) s m ([.ref h_o, .ref h_a1, .int p2] : List Value).toArray below meth c H locs 0 0 Q (F0 m 16 ls []) := by
    intro n
    induction n with
    | zero =>
      intro v3 v4 v6 H locs ls hf
      have hf : (none : Option (Int32)) = some r := hf
      cases hf
    | succ n ih =>
      intro v3 v4 v6 H locs ls hf hP hD hS hl
      rw [fX9_greatestProduct_16.eq_2] at hf
      refine lv_iload hx hb dX9_greatestProduct_16 (lv_at hl 4 rfl) ?_
      refine lv_aload_n hx hb dX9_greatestProduct_18 rfl (lv_at hl 0 rfl) ?_
      refine rd (ci := 9) (C := RX9) (T := TX9) (N := 19) hx hb hts inX9 hown hK hP 0 0 rfl rfl (by decide) (hts _ q_fX9_10) rfl dX9_greatestProduct_19 ?_
      refine rd (ci := 8) (C := RX8) (T := TX8) (N := 10) hx hb hts inX8 hown hK hP 3 0 rfl rfl (by decide) (hts _ q_fX9_115) rfl dX9_greatestProduct_22 ?_
      refine lv_icmp_ge (tgt := 59) hx hb dX9_greatestProduct_25 (by decide) (fun c_4 => ?_) (fun c_4 => ?_)
      · have hf := it_t c_4 hf
        refine lv_iload_n hx hb dX9_greatestProduct_59 rfl (lv_at hl 2 rfl) ?_
        cases hf
        exact hret _ _ _ _ dX9_greatestProduct_60 hP hD hS
      · have hf := it_f c_4 hf
        refine lv_aload_n hx hb dX9_greatestProduct_28 rfl (lv_at hl 0 rfl) ?_
        refine lv_aload_n hx hb dX9_greatestProduct_29 rfl (lv_at hl 1 rfl) ?_
        refine lv_iconst (v := (1 : Int32)) hx hb dX9_greatestProduct_30 (by decide) ?_
        refine lv_iload hx hb dX9_greatestProduct_31 (lv_at hl 4 rfl) ?_
        obtain ⟨r_5, e_6, hf⟩ := bd1_x hf
        refine call_v [.ref h_a1, .int (1 : Int32), .int v6] [] ⟨hx, hb, hml, hown, hts⟩ hK hP hD hS hA hl.1 (tX9_productSum l G cI cJ cZ H.size h_o h_a1 h_o_wave h_o_way h_o_wave_wasRe h_o_past h_o_notes h_o_ring h_o_turns h_o_beater h_o_reader h_o_dice h_o_trialWay h_o_trial h_o_otherTrial h_o_sumsRe h_o_sumsIm h_o_tally h_o_image h_o_tape h_o_wave_re h_o_wave_im h_o_wave_wasIm h_o_wave_halved h_o_way_shifts o_imageKept o_taped a1 o_wave_exp o_wave_done o_wave_backward o_way_size o_way_log o_way_wordBits o_way_limit o_way_radix o_way_order o_way_near o_way_seed o_way_stages o_wave_wasRe (1 : Int32) v6 r_5 e_6) (cwV 3 hts (gv q_mX9_382 q_i_yX9_productSum q_s_yX9_productSum q_n_RX9 q_k_yX9_productSum) rfl rfl rfl (by decide +kernel) ⟨by decide, by decide⟩) rfl rfl (Nat.le_of_ble_eq_true rfl) dX9_greatestProduct_33 ⟨Nat.zero_le _, Nat.zero_le _⟩ (ci := 9) rfl 0 rfl [0, 1, 2, 3, 4] [] [0, 1, 2, 3, 4] rfl rfl (ws2 := (wX9_greatestProduct cI cJ cZ h_o h_a1 h_o_wave h_o_way h_o_wave_wasRe h_o_past h_o_notes h_o_ring h_o_turns h_o_beater h_o_reader h_o_dice h_o_trialWay h_o_trial h_o_otherTrial h_o_sumsRe h_o_sumsIm h_o_tally h_o_image h_o_tape h_o_wave_re h_o_wave_im h_o_wave_wasIm h_o_wave_halved h_o_way_shifts o_imageKept o_taped a1 o_wave_exp o_wave_done o_wave_backward o_way_size o_way_log o_way_wordBits o_way_limit o_way_radix o_way_order o_way_near o_way_seed o_way_stages o_wave_wasRe)) rfl (fun H locs hP hD hS => ?_)
        refine W.eq (g2 := F0 m 36 ls [.long r_5]) rfl ?_
        refine lv_lstore (lv' := [(7, .long r_5), (0, .ref h_o), (1, .ref h_a1), (3, .int v3), (4, .long v4), (6, .int v6)]) hx hb dX9_greatestProduct_36 hl (by decide) rfl (fun ls hl => ?_)
        refine lv_lload hx hb dX9_greatestProduct_38 (lv_at hl 0 rfl) ?_
        refine lv_lload hx hb dX9_greatestProduct_40 (lv_at hl 4 rfl) ?_
        refine lc_le (tgt := 53) hx hb dX9_greatestProduct_42 dX9_greatestProduct_43 (by decide) (fun c_7 => ?_) (fun c_7 => ?_)
        · have hf := it_t c_7 hf
          exact j53 (fX9_greatestProduct_16 a1 o_way_size o_wave_wasRe n) ih v3 v4 v6 H locs ls hf hP hD hS (lv_sub hl [1, 2, 3, 4, 5] rfl)
        · have hf := it_f c_7 hf
          refine lv_lload hx hb dX9_greatestProduct_46 (lv_at hl 0 rfl) ?_
          refine lv_lstore (lv' := [(4, .long r_5), (7, .long r_5), (0, .ref h_o), (1, .ref h_a1), (3, .int v3), (6, .int v6)]) hx hb dX9_greatestProduct_48 hl (by decide) rfl (fun ls hl => ?_)
          refine lv_iload hx hb dX9_greatestProduct_50 (lv_at hl 5 rfl) ?_
          refine lv_istore_n (lv' := [(3, .int v6), (4, .long r_5), (7, .long r_5), (0, .ref h_o), (1, .ref h_a1), (6, .int v6)]) hx hb dX9_greatestProduct_52 rfl hl (by decide) rfl (fun ls hl => ?_)
          exact j53 (fX9_greatestProduct_16 a1 o_way_size o_wave_wasRe n) ih v6 r_5 v6 H locs ls hf hP hD hS (lv_sub hl [3, 4, 0, 1, 5] rfl)
  unfold fX9_greatestProduct at hf
  obtain ⟨H, eH⟩ : ∃ H, H = s.heap := ⟨_, rfl⟩
  obtain ⟨locs, elocs⟩ : ∃ z : List Loc, z = [] := ⟨_, rfl⟩
  have hP : va_P G vwCl (wX9_greatestProduct cI cJ cZ h_o h_a1 h_o_wave h_o_way h_o_wave_wasRe h_o_past h_o_notes h_o_ring h_o_turns h_o_beater h_o_reader h_o_dice h_o_trialWay h_o_trial h_o_otherTrial h_o_sumsRe h_o_sumsIm h_o_tally h_o_image h_o_tape h_o_wave_re h_o_wave_im h_o_wave_wasIm h_o_wave_halved h_o_way_shifts o_imageKept o_taped a1 o_wave_exp o_wave_done o_wave_backward o_way_size o_way_log o_way_wordBits o_way_limit o_way_radix o_way_order o_way_near o_way_seed o_way_stages o_wave_wasRe) H := by rw [eH]; exact hP
  have hS : va_S A s.heap H locs := by rw [eH, elocs]; exact hS
  suffices hgo : W p l e ({ frames := 1, cells := 0, slots := 0, locals := 26 } : Room) s m ([.ref h_o, .ref h_a1, .int p2] : List Value).toArray below meth c H locs 0 0 Q (F0 m 0 ls []) by rw [eH, elocs] at hgo; exact hgo
  clear eH elocs
  refine lv_iload_n hx hb dX9_greatestProduct_0 rfl (lv_at hl 2 rfl) ?_
  refine lv_istore_n (lv' := [(3, .int p2), (0, .ref h_o), (1, .ref h_a1), (2, .int p2)]) hx hb dX9_greatestProduct_1 rfl hl (by decide) rfl (fun ls hl => ?_)
  refine lv_aload_n hx hb dX9_greatestProduct_2 rfl (lv_at hl 1 rfl) ?_
  refine lv_aload_n hx hb dX9_greatestProduct_3 rfl (lv_at hl 2 rfl) ?_
  refine lv_iconst (v := (1 : Int32)) hx hb dX9_greatestProduct_4 (by decide) ?_
  refine lv_iload_n hx hb dX9_greatestProduct_5 rfl (lv_at hl 3 rfl) ?_
  obtain ⟨r_1, e_2, hf⟩ := bd1_x hf
  refine call_v [.ref h_a1, .int (1 : Int32), .int p2] [] ⟨hx, hb, hml, hown, hts⟩ hK hP hD hS hA hl.1 (tX9_productSum l G cI cJ cZ H.size h_o h_a1 h_o_wave h_o_way h_o_wave_wasRe h_o_past h_o_notes h_o_ring h_o_turns h_o_beater h_o_reader h_o_dice h_o_trialWay h_o_trial h_o_otherTrial h_o_sumsRe h_o_sumsIm h_o_tally h_o_image h_o_tape h_o_wave_re h_o_wave_im h_o_wave_wasIm h_o_wave_halved h_o_way_shifts o_imageKept o_taped a1 o_wave_exp o_wave_done o_wave_backward o_way_size o_way_log o_way_wordBits o_way_limit o_way_radix o_way_order o_way_near o_way_seed o_way_stages o_wave_wasRe (1 : Int32) p2 r_1 e_2) (cwV 3 hts (gv q_mX9_382 q_i_yX9_productSum q_s_yX9_productSum q_n_RX9 q_k_yX9_productSum) rfl rfl rfl (by decide +kernel) ⟨by decide, by decide⟩) rfl rfl (Nat.le_of_ble_eq_true rfl) dX9_greatestProduct_6 ⟨Nat.zero_le _, Nat.zero_le _⟩ (ci := 9) rfl 0 rfl [0, 1, 2, 3, 4] [] [0, 1, 2, 3, 4] rfl rfl (ws2 := (wX9_greatestProduct cI cJ cZ h_o h_a1 h_o_wave h_o_way h_o_wave_wasRe h_o_past h_o_notes h_o_ring h_o_turns h_o_beater h_o_reader h_o_dice h_o_trialWay h_o_trial h_o_otherTrial h_o_sumsRe h_o_sumsIm h_o_tally h_o_image h_o_tape h_o_wave_re h_o_wave_im h_o_wave_wasIm h_o_wave_halved h_o_way_shifts o_imageKept o_taped a1 o_wave_exp o_wave_done o_wave_backward o_way_size o_way_log o_way_wordBits o_way_limit o_way_radix o_way_order o_way_near o_way_seed o_way_stages o_wave_wasRe)) rfl (fun H locs hP hD hS => ?_)
  refine W.eq (g2 := F0 m 9 ls [.long r_1]) rfl ?_
  refine lv_lstore (lv' := [(4, .long r_1), (3, .int p2), (0, .ref h_o), (1, .ref h_a1), (2, .int p2)]) hx hb dX9_greatestProduct_9 hl (by decide) rfl (fun ls hl => ?_)
  refine lv_iload_n hx hb dX9_greatestProduct_11 rfl (lv_at hl 4 rfl) ?_
  refine lv_iconst (v := (1 : Int32)) hx hb dX9_greatestProduct_12 (by decide) ?_
  refine lv_iadd hx hb dX9_greatestProduct_13 ?_
  refine lv_topi (fun v6_3 ev6_3 => ?_)
  have hf := nm_x ev6_3 hf
  refine lv_istore (lv' := [(6, .int v6_3), (4, .long r_1), (3, .int p2), (0, .ref h_o), (1, .ref h_a1), (2, .int p2)]) hx hb dX9_greatestProduct_14 hl (by decide) rfl (fun ls hl => ?_)
  exact j16 FU p2 r_1 v6_3 H locs ls hf hP hD hS (lv_sub hl [3, 4, 2, 1, 0] rfl)
def wX9_lag (cI cJ cZ : ClassId) (h_o h_o_wave h_o_way h_o_wave_wasIm h_o_wave_wasRe h_o_past h_o_notes h_o_ring h_o_turns h_o_beater h_o_reader h_o_dice h_o_trialWay h_o_trial h_o_otherTrial h_o_sumsRe h_o_sumsIm h_o_tally h_o_image h_o_tape h_o_wave_re h_o_wave_im h_o_wave_halved h_o_way_shifts : Nat) (o_imageKept : Int32) (o_taped : Int32) (o_wave_exp : Int32) (o_wave_done : Int32) (o_wave_backward : Int32) (o_way_size : Int32) (o_way_log : Int32) (o_way_wordBits : Int32) (o_way_limit : Int32) (o_way_radix : Int32) (o_way_order : Int32) (o_way_near : Int32) (o_way_seed : Int32) (o_way_stages : Int32) (o_wave_wasIm : Nat → Int32) (o_wave_wasRe : Nat → Int32) : va_W := [(h_o, .inr (9, [.ref h_o_way, .ref h_o_wave, .ref h_o_past, .ref h_o_notes, .ref h_o_ring, .ref h_o_turns, .ref h_o_beater, .ref h_o_reader, .ref h_o_dice, .ref h_o_trialWay, .ref h_o_trial, .ref h_o_otherTrial, .ref h_o_sumsRe, .ref h_o_sumsIm, .ref h_o_tally, .ref h_o_image, .int o_imageKept, .ref h_o_tape, .int o_taped])), (h_o_wave, .inr (7, [.ref h_o_wave_re, .ref h_o_wave_im, .ref h_o_wave_wasRe, .ref h_o_wave_wasIm, .ref h_o_wave_halved, .int o_wave_exp, .int o_wave_done, .int o_wave_backward])), (h_o_way, .inr (8, [.int o_way_size, .int o_way_log, .int o_way_wordBits, .int o_way_limit, .int o_way_radix, .int o_way_order, .int o_way_near, .int o_way_seed, .int o_way_stages, .ref h_o_way_shifts])), (h_o_wave_wasIm, .inl (cI, 32, .inl o_wave_wasIm)), (h_o_wave_wasRe, .inl (cI, 32, .inl o_wave_wasRe))]
def fX9_lag (o_way_size : Int32) (o_wave_wasIm : Nat → Int32) (o_wave_wasRe : Nat → Int32) : Option (Int32) :=
  bd1 (fX9_greatestProduct o_wave_wasIm o_way_size o_wave_wasRe (0 : Int32)) (fun r_1 =>
  some r_1)
set_option maxHeartbeats 4000000 in
set_option maxRecDepth 100000 in
theorem tX9_lag (l : Launch) (G : va_G) (cI cJ cZ : ClassId) (sz : Nat) (h_o h_o_wave h_o_way h_o_wave_wasIm h_o_wave_wasRe h_o_past h_o_notes h_o_ring h_o_turns h_o_beater h_o_reader h_o_dice h_o_trialWay h_o_trial h_o_otherTrial h_o_sumsRe h_o_sumsIm h_o_tally h_o_image h_o_tape h_o_wave_re h_o_wave_im h_o_wave_halved h_o_way_shifts : Nat) (o_imageKept : Int32) (o_taped : Int32) (o_wave_exp : Int32) (o_wave_done : Int32) (o_wave_backward : Int32) (o_way_size : Int32) (o_way_log : Int32) (o_way_wordBits : Int32) (o_way_limit : Int32) (o_way_radix : Int32) (o_way_order : Int32) (o_way_near : Int32) (o_way_seed : Int32) (o_way_stages : Int32) (o_wave_wasIm : Nat → Int32) (o_wave_wasRe : Nat → Int32) (r : Int32) (hf : fX9_lag o_way_size o_wave_wasIm o_wave_wasRe = some r) : Met l yX9_lag (Cond.code yX9_lag cX9_lag 1 (some .int) :: BIG) ({ frames := 2, cells := 0, slots := 0, locals := 54 } : Room) (cP G (TY3 cI cJ cZ) [.ref h_o] sz (wX9_lag cI cJ cZ h_o h_o_wave h_o_way h_o_wave_wasIm h_o_wave_wasRe h_o_past h_o_notes h_o_ring h_o_turns h_o_beater h_o_reader h_o_dice h_o_trialWay h_o_trial h_o_otherTrial h_o_sumsRe h_o_sumsIm h_o_tally h_o_image h_o_tape h_o_wave_re h_o_wave_im h_o_wave_halved h_o_way_shifts o_imageKept o_taped o_wave_exp o_wave_done o_wave_backward o_way_size o_way_log o_way_wordBits o_way_limit o_way_radix o_way_order o_way_near o_way_seed o_way_stages o_wave_wasIm o_wave_wasRe)) (cQ G (TY3 cI cJ cZ) sz (wX9_lag cI cJ cZ h_o h_o_wave h_o_way h_o_wave_wasIm h_o_wave_wasRe h_o_past h_o_notes h_o_ring h_o_turns h_o_beater h_o_reader h_o_dice h_o_trialWay h_o_trial h_o_otherTrial h_o_sumsRe h_o_sumsIm h_o_tally h_o_image h_o_tape h_o_wave_re h_o_wave_im h_o_wave_halved h_o_way_shifts o_imageKept o_taped o_wave_exp o_wave_done o_wave_backward o_way_size o_way_log o_way_wordBits o_way_limit o_way_radix o_way_order o_way_near o_way_seed o_way_stages o_wave_wasIm o_wave_wasRe) (wX9_lag cI cJ cZ h_o h_o_wave h_o_way h_o_wave_wasIm h_o_wave_wasRe h_o_past h_o_notes h_o_ring h_o_turns h_o_beater h_o_reader h_o_dice h_o_trialWay h_o_trial h_o_otherTrial h_o_sumsRe h_o_sumsIm h_o_tally h_o_image h_o_tape h_o_wave_re h_o_wave_im h_o_wave_halved h_o_way_shifts o_imageKept o_taped o_wave_exp o_wave_done o_wave_backward o_way_size o_way_log o_way_wordBits o_way_limit o_way_radix o_way_order o_way_near o_way_seed o_way_stages o_wave_wasIm o_wave_wasRe) (some (.int r))) 0 0 (va_A (wX9_lag cI cJ cZ h_o h_o_wave h_o_way h_o_wave_wasIm h_o_wave_wasRe h_o_past h_o_notes h_o_ring h_o_turns h_o_beater h_o_reader h_o_dice h_o_trialWay h_o_trial h_o_otherTrial h_o_sumsRe h_o_sumsIm h_o_tally h_o_image h_o_tape h_o_wave_re h_o_wave_im h_o_wave_halved h_o_way_shifts o_imageKept o_taped o_wave_exp o_wave_done o_wave_backward o_way_size o_way_log o_way_wordBits o_way_limit o_way_radix o_way_order o_way_near o_way_seed o_way_stages o_wave_wasIm o_wave_wasRe) sz) := by
  refine met_i (cc := cX9_lag) (maxL := 1) (plainFor_of_name (by decide)) (Nat.le_of_ble_eq_true rfl) (fun p e s m below meth c A ls Q hx hb hml hts hown hK hP hD hS hA hl hret => ?_)
  have hown : s.vm.findClass RX9 = some m.cls := hown
  have hl : lv_has ls 1 [(0, .ref h_o)] := hl
  unfold fX9_lag at hf
  obtain ⟨H, eH⟩ : ∃ H, H = s.heap := ⟨_, rfl⟩
  obtain ⟨locs, elocs⟩ : ∃ z : List Loc, z = [] := ⟨_, rfl⟩
  have hP : va_P G vwCl (wX9_lag cI cJ cZ h_o h_o_wave h_o_way h_o_wave_wasIm h_o_wave_wasRe h_o_past h_o_notes h_o_ring h_o_turns h_o_beater h_o_reader h_o_dice h_o_trialWay h_o_trial h_o_otherTrial h_o_sumsRe h_o_sumsIm h_o_tally h_o_image h_o_tape h_o_wave_re h_o_wave_im h_o_wave_halved h_o_way_shifts o_imageKept o_taped o_wave_exp o_wave_done o_wave_backward o_way_size o_way_log o_way_wordBits o_way_limit o_way_radix o_way_order o_way_near o_way_seed o_way_stages o_wave_wasIm o_wave_wasRe) H := by rw [eH]; exact hP
  have hS : va_S A s.heap H locs := by rw [eH, elocs]; exact hS
  suffices hgo : W p l e ({ frames := 2, cells := 0, slots := 0, locals := 54 } : Room) s m ([.ref h_o] : List Value).toArray below meth c H locs 0 0 Q (F0 m 0 ls []) by rw [eH, elocs] at hgo; exact hgo
  clear eH elocs
  refine lv_aload_n hx hb dX9_lag_0 rfl (lv_at hl 0 rfl) ?_
  refine lv_aload_n hx hb dX9_lag_1 rfl (lv_at hl 0 rfl) ?_
  refine rd (ci := 9) (C := RX9) (T := TX9) (N := 19) hx hb hts inX9 hown hK hP 0 1 rfl rfl (by decide) (hts _ q_fX9_19) rfl dX9_lag_2 ?_
  refine rd (ci := 7) (C := RX7) (T := TX7) (N := 8) hx hb hts inX7 hown hK hP 1 3 rfl rfl (by decide) (hts _ q_fX9_180) rfl dX9_lag_5 ?_
  refine lv_iconst (v := (0 : Int32)) hx hb dX9_lag_8 (by decide) ?_
  obtain ⟨r_1, e_2, hf⟩ := bd1_x hf
  refine call_v [.ref h_o_wave_wasIm, .int (0 : Int32)] [] ⟨hx, hb, hml, hown, hts⟩ hK hP hD hS hA hl.1 (tX9_greatestProduct l G cI cJ cZ H.size h_o h_o_wave_wasIm h_o_wave h_o_way h_o_wave_wasRe h_o_past h_o_notes h_o_ring h_o_turns h_o_beater h_o_reader h_o_dice h_o_trialWay h_o_trial h_o_otherTrial h_o_sumsRe h_o_sumsIm h_o_tally h_o_image h_o_tape h_o_wave_re h_o_wave_im h_o_wave_wasIm h_o_wave_halved h_o_way_shifts o_imageKept o_taped o_wave_wasIm o_wave_exp o_wave_done o_wave_backward o_way_size o_way_log o_way_wordBits o_way_limit o_way_radix o_way_order o_way_near o_way_seed o_way_stages o_wave_wasRe (0 : Int32) r_1 e_2) (cwV 2 hts (gv q_mX9_386 q_i_yX9_greatestProduct q_s_yX9_greatestProduct q_n_RX9 q_k_yX9_greatestProduct) rfl rfl rfl (by decide +kernel) ⟨by decide, by decide⟩) rfl rfl (Nat.le_of_ble_eq_true rfl) dX9_lag_9 ⟨Nat.zero_le _, Nat.zero_le _⟩ (ci := 9) rfl 0 rfl [0, 3, 1, 2, 4] [] [0, 2, 3, 1, 4] rfl rfl (ws2 := (wX9_lag cI cJ cZ h_o h_o_wave h_o_way h_o_wave_wasIm h_o_wave_wasRe h_o_past h_o_notes h_o_ring h_o_turns h_o_beater h_o_reader h_o_dice h_o_trialWay h_o_trial h_o_otherTrial h_o_sumsRe h_o_sumsIm h_o_tally h_o_image h_o_tape h_o_wave_re h_o_wave_im h_o_wave_halved h_o_way_shifts o_imageKept o_taped o_wave_exp o_wave_done o_wave_backward o_way_size o_way_log o_way_wordBits o_way_limit o_way_radix o_way_order o_way_near o_way_seed o_way_stages o_wave_wasIm o_wave_wasRe)) rfl (fun H locs hP hD hS => ?_)
  refine W.eq (g2 := F0 m 12 ls [.int r_1]) rfl ?_
  cases hf
  exact hret _ _ _ _ dX9_lag_12 hP hD hS
def wX9_bin (cI cJ cZ : ClassId) (h_o h_o_ring h_o_wave h_o_way h_o_ring_powers h_o_wave_wasRe h_o_past h_o_notes h_o_turns h_o_beater h_o_reader h_o_dice h_o_trialWay h_o_trial h_o_otherTrial h_o_sumsRe h_o_sumsIm h_o_tally h_o_image h_o_tape h_o_wave_re h_o_wave_im h_o_wave_wasIm h_o_wave_halved h_o_way_shifts : Nat) (o_imageKept : Int32) (o_taped : Int32) (o_ring_size : Int32) (o_ring_log : Int32) (o_wave_exp : Int32) (o_wave_done : Int32) (o_wave_backward : Int32) (o_way_size : Int32) (o_way_log : Int32) (o_way_wordBits : Int32) (o_way_limit : Int32) (o_way_radix : Int32) (o_way_order : Int32) (o_way_near : Int32) (o_way_seed : Int32) (o_way_stages : Int32) (o_ring_powers : Nat → Int32) (o_wave_wasRe : Nat → Int32) : va_W := [(h_o, .inr (9, [.ref h_o_way, .ref h_o_wave, .ref h_o_past, .ref h_o_notes, .ref h_o_ring, .ref h_o_turns, .ref h_o_beater, .ref h_o_reader, .ref h_o_dice, .ref h_o_trialWay, .ref h_o_trial, .ref h_o_otherTrial, .ref h_o_sumsRe, .ref h_o_sumsIm, .ref h_o_tally, .ref h_o_image, .int o_imageKept, .ref h_o_tape, .int o_taped])), (h_o_ring, .inr (5, [.ref h_o_ring_powers, .int o_ring_size, .int o_ring_log])), (h_o_wave, .inr (7, [.ref h_o_wave_re, .ref h_o_wave_im, .ref h_o_wave_wasRe, .ref h_o_wave_wasIm, .ref h_o_wave_halved, .int o_wave_exp, .int o_wave_done, .int o_wave_backward])), (h_o_way, .inr (8, [.int o_way_size, .int o_way_log, .int o_way_wordBits, .int o_way_limit, .int o_way_radix, .int o_way_order, .int o_way_near, .int o_way_seed, .int o_way_stages, .ref h_o_way_shifts])), (h_o_ring_powers, .inl (cI, 32, .inl o_ring_powers)), (h_o_wave_wasRe, .inl (cI, 32, .inl o_wave_wasRe))]
def fX9_bin (o_ring_size : Int32) (o_way_size : Int32) (o_ring_powers : Nat → Int32) (o_wave_wasRe : Nat → Int32) (p1 : Int32) : Option (Int32) :=
  bd1 (fX9_isPlace o_way_size p1) (fun r_1 =>
  if r_1 = 0 then (
    some (-1 : Int32)
  ) else (
    bd1 (fX5_binWithout o_ring_size o_wave_wasRe o_ring_powers p1 (-1 : Int32)) (fun r_4 =>
    some r_4)
  ))
set_option maxHeartbeats 4000000 in
set_option maxRecDepth 100000 in
theorem tX9_bin (l : Launch) (G : va_G) (cI cJ cZ : ClassId) (sz : Nat) (h_o h_o_ring h_o_wave h_o_way h_o_ring_powers h_o_wave_wasRe h_o_past h_o_notes h_o_turns h_o_beater h_o_reader h_o_dice h_o_trialWay h_o_trial h_o_otherTrial h_o_sumsRe h_o_sumsIm h_o_tally h_o_image h_o_tape h_o_wave_re h_o_wave_im h_o_wave_wasIm h_o_wave_halved h_o_way_shifts : Nat) (o_imageKept : Int32) (o_taped : Int32) (o_ring_size : Int32) (o_ring_log : Int32) (o_wave_exp : Int32) (o_wave_done : Int32) (o_wave_backward : Int32) (o_way_size : Int32) (o_way_log : Int32) (o_way_wordBits : Int32) (o_way_limit : Int32) (o_way_radix : Int32) (o_way_order : Int32) (o_way_near : Int32) (o_way_seed : Int32) (o_way_stages : Int32) (o_ring_powers : Nat → Int32) (o_wave_wasRe : Nat → Int32) (p1 : Int32) (r : Int32) (hf : fX9_bin o_ring_size o_way_size o_ring_powers o_wave_wasRe p1 = some r) : Met l yX9_bin (Cond.code yX9_bin cX9_bin 2 (some .int) :: BIG) ({ frames := 2, cells := 0, slots := 0, locals := 47 } : Room) (cP G (TY3 cI cJ cZ) [.ref h_o, .int p1] sz (wX9_bin cI cJ cZ h_o h_o_ring h_o_wave h_o_way h_o_ring_powers h_o_wave_wasRe h_o_past h_o_notes h_o_turns h_o_beater h_o_reader h_o_dice h_o_trialWay h_o_trial h_o_otherTrial h_o_sumsRe h_o_sumsIm h_o_tally h_o_image h_o_tape h_o_wave_re h_o_wave_im h_o_wave_wasIm h_o_wave_halved h_o_way_shifts o_imageKept o_taped o_ring_size o_ring_log o_wave_exp o_wave_done o_wave_backward o_way_size o_way_log o_way_wordBits o_way_limit o_way_radix o_way_order o_way_near o_way_seed o_way_stages o_ring_powers o_wave_wasRe)) (cQ G (TY3 cI cJ cZ) sz (wX9_bin cI cJ cZ h_o h_o_ring h_o_wave h_o_way h_o_ring_powers h_o_wave_wasRe h_o_past h_o_notes h_o_turns h_o_beater h_o_reader h_o_dice h_o_trialWay h_o_trial h_o_otherTrial h_o_sumsRe h_o_sumsIm h_o_tally h_o_image h_o_tape h_o_wave_re h_o_wave_im h_o_wave_wasIm h_o_wave_halved h_o_way_shifts o_imageKept o_taped o_ring_size o_ring_log o_wave_exp o_wave_done o_wave_backward o_way_size o_way_log o_way_wordBits o_way_limit o_way_radix o_way_order o_way_near o_way_seed o_way_stages o_ring_powers o_wave_wasRe) (wX9_bin cI cJ cZ h_o h_o_ring h_o_wave h_o_way h_o_ring_powers h_o_wave_wasRe h_o_past h_o_notes h_o_turns h_o_beater h_o_reader h_o_dice h_o_trialWay h_o_trial h_o_otherTrial h_o_sumsRe h_o_sumsIm h_o_tally h_o_image h_o_tape h_o_wave_re h_o_wave_im h_o_wave_wasIm h_o_wave_halved h_o_way_shifts o_imageKept o_taped o_ring_size o_ring_log o_wave_exp o_wave_done o_wave_backward o_way_size o_way_log o_way_wordBits o_way_limit o_way_radix o_way_order o_way_near o_way_seed o_way_stages o_ring_powers o_wave_wasRe) (some (.int r))) 0 0 (va_A (wX9_bin cI cJ cZ h_o h_o_ring h_o_wave h_o_way h_o_ring_powers h_o_wave_wasRe h_o_past h_o_notes h_o_turns h_o_beater h_o_reader h_o_dice h_o_trialWay h_o_trial h_o_otherTrial h_o_sumsRe h_o_sumsIm h_o_tally h_o_image h_o_tape h_o_wave_re h_o_wave_im h_o_wave_wasIm h_o_wave_halved h_o_way_shifts o_imageKept o_taped o_ring_size o_ring_log o_wave_exp o_wave_done o_wave_backward o_way_size o_way_log o_way_wordBits o_way_limit o_way_radix o_way_order o_way_near o_way_seed o_way_stages o_ring_powers o_wave_wasRe) sz) := by
  refine met_i (cc := cX9_bin) (maxL := 2) (plainFor_of_name (by decide)) (Nat.le_of_ble_eq_true rfl) (fun p e s m below meth c A ls Q hx hb hml hts hown hK hP hD hS hA hl hret => ?_)
  have hown : s.vm.findClass RX9 = some m.cls := hown
  have hl : lv_has ls 2 [(0, .ref h_o), (1, .int p1)] := hl
  unfold fX9_bin at hf
  obtain ⟨H, eH⟩ : ∃ H, H = s.heap := ⟨_, rfl⟩
  obtain ⟨locs, elocs⟩ : ∃ z : List Loc, z = [] := ⟨_, rfl⟩
  have hP : va_P G vwCl (wX9_bin cI cJ cZ h_o h_o_ring h_o_wave h_o_way h_o_ring_powers h_o_wave_wasRe h_o_past h_o_notes h_o_turns h_o_beater h_o_reader h_o_dice h_o_trialWay h_o_trial h_o_otherTrial h_o_sumsRe h_o_sumsIm h_o_tally h_o_image h_o_tape h_o_wave_re h_o_wave_im h_o_wave_wasIm h_o_wave_halved h_o_way_shifts o_imageKept o_taped o_ring_size o_ring_log o_wave_exp o_wave_done o_wave_backward o_way_size o_way_log o_way_wordBits o_way_limit o_way_radix o_way_order o_way_near o_way_seed o_way_stages o_ring_powers o_wave_wasRe) H := by rw [eH]; exact hP
  have hS : va_S A s.heap H locs := by rw [eH, elocs]; exact hS
  suffices hgo : W p l e ({ frames := 2, cells := 0, slots := 0, locals := 47 } : Room) s m ([.ref h_o, .int p1] : List Value).toArray below meth c H locs 0 0 Q (F0 m 0 ls []) by rw [eH, elocs] at hgo; exact hgo
  clear eH elocs
  refine lv_aload_n hx hb dX9_bin_0 rfl (lv_at hl 0 rfl) ?_
  refine lv_iload_n hx hb dX9_bin_1 rfl (lv_at hl 1 rfl) ?_
  obtain ⟨r_1, e_2, hf⟩ := bd1_x hf
  refine call_v [.int p1] [] ⟨hx, hb, hml, hown, hts⟩ hK hP hD hS hA hl.1 (tX9_isPlace l G cI cJ cZ H.size h_o h_o_way h_o_wave h_o_past h_o_notes h_o_ring h_o_turns h_o_beater h_o_reader h_o_dice h_o_trialWay h_o_trial h_o_otherTrial h_o_sumsRe h_o_sumsIm h_o_tally h_o_image h_o_tape h_o_way_shifts o_imageKept o_taped o_way_size o_way_log o_way_wordBits o_way_limit o_way_radix o_way_order o_way_near o_way_seed o_way_stages p1 r_1 e_2) (cwV 1 hts (gv q_mX9_159 q_i_yX9_isPlace q_s_yX9_isPlace q_n_RX9 q_k_yX9_isPlace) rfl rfl rfl (by decide +kernel) ⟨by decide, by decide⟩) rfl rfl (Nat.le_of_ble_eq_true rfl) dX9_bin_2 ⟨Nat.zero_le _, Nat.zero_le _⟩ (ci := 9) rfl 0 rfl [0, 3] [1, 2, 4, 5] [4, 0, 1, 5, 2, 3] rfl rfl (ws2 := (wX9_bin cI cJ cZ h_o h_o_ring h_o_wave h_o_way h_o_ring_powers h_o_wave_wasRe h_o_past h_o_notes h_o_turns h_o_beater h_o_reader h_o_dice h_o_trialWay h_o_trial h_o_otherTrial h_o_sumsRe h_o_sumsIm h_o_tally h_o_image h_o_tape h_o_wave_re h_o_wave_im h_o_wave_wasIm h_o_wave_halved h_o_way_shifts o_imageKept o_taped o_ring_size o_ring_log o_wave_exp o_wave_done o_wave_backward o_way_size o_way_log o_way_wordBits o_way_limit o_way_radix o_way_order o_way_near o_way_seed o_way_stages o_ring_powers o_wave_wasRe)) rfl (fun H locs hP hD hS => ?_)
  refine W.eq (g2 := F0 m 5 ls [.int r_1]) rfl ?_
  refine lv_if_eq (tgt := 27) hx hb dX9_bin_5 (by decide) (fun c_3 => ?_) (fun c_3 => ?_)
  · have hf := it_t c_3 hf
    refine lv_iconst (v := (-1 : Int32)) hx hb dX9_bin_27 (by decide) ?_
    cases hf
    exact hret _ _ _ _ dX9_bin_28 hP hD hS
  · have hf := it_f c_3 hf
    refine lv_aload_n hx hb dX9_bin_8 rfl (lv_at hl 0 rfl) ?_
    refine rd (ci := 9) (C := RX9) (T := TX9) (N := 19) hx hb hts inX9 hown hK hP 0 4 rfl rfl (by decide) (hts _ q_fX9_40) rfl dX9_bin_9 ?_
    refine lv_aload_n hx hb dX9_bin_12 rfl (lv_at hl 0 rfl) ?_
    refine rd (ci := 9) (C := RX9) (T := TX9) (N := 19) hx hb hts inX9 hown hK hP 0 1 rfl rfl (by decide) (hts _ q_fX9_19) rfl dX9_bin_13 ?_
    refine rd (ci := 7) (C := RX7) (T := TX7) (N := 8) hx hb hts inX7 hown hK hP 2 2 rfl rfl (by decide) (hts _ q_fX9_177) rfl dX9_bin_16 ?_
    refine lv_iload_n hx hb dX9_bin_19 rfl (lv_at hl 1 rfl) ?_
    refine lv_iconst (v := (-1 : Int32)) hx hb dX9_bin_20 (by decide) ?_
    obtain ⟨r_4, e_5, hf⟩ := bd1_x hf
    refine call_v [.ref h_o_wave_wasRe, .int p1, .int (-1 : Int32)] [] ⟨hx, hb, hml, hown, hts⟩ hK hP hD hS hA hl.1 (tX5_binWithout l G cI cJ cZ H.size h_o_ring h_o_wave_wasRe h_o_ring_powers o_ring_size o_ring_log o_wave_wasRe o_ring_powers p1 (-1 : Int32) r_4 e_5) (cwV 3 hts (gv q_mX9_389 q_i_yX5_binWithout q_s_yX5_binWithout q_n_RX5 q_k_yX5_binWithout) rfl rfl rfl (by decide +kernel) ⟨by decide, by decide⟩) rfl rfl (Nat.le_of_ble_eq_true rfl) dX9_bin_21 ⟨Nat.zero_le _, Nat.zero_le _⟩ (ci := 5) rfl 0 rfl [1, 5, 4] [0, 2, 3] [0, 3, 1, 2, 5, 4] rfl rfl (ws2 := (wX9_bin cI cJ cZ h_o h_o_ring h_o_wave h_o_way h_o_ring_powers h_o_wave_wasRe h_o_past h_o_notes h_o_turns h_o_beater h_o_reader h_o_dice h_o_trialWay h_o_trial h_o_otherTrial h_o_sumsRe h_o_sumsIm h_o_tally h_o_image h_o_tape h_o_wave_re h_o_wave_im h_o_wave_wasIm h_o_wave_halved h_o_way_shifts o_imageKept o_taped o_ring_size o_ring_log o_wave_exp o_wave_done o_wave_backward o_way_size o_way_log o_way_wordBits o_way_limit o_way_radix o_way_order o_way_near o_way_seed o_way_stages o_ring_powers o_wave_wasRe)) rfl (fun H locs hP hD hS => ?_)
    refine W.eq (g2 := F0 m 24 ls [.int r_4]) rfl ?_
    refine lv_goto (tgt := 28) hx hb dX9_bin_24 (by decide) ?_
    cases hf
    exact hret _ _ _ _ dX9_bin_28 hP hD hS
def wX9_fold (cI cJ cZ : ClassId) (h_o h_o_wave h_o_way h_o_wave_wasIm h_o_wave_wasRe h_o_past h_o_notes h_o_ring h_o_turns h_o_beater h_o_reader h_o_dice h_o_trialWay h_o_trial h_o_otherTrial h_o_sumsRe h_o_sumsIm h_o_tally h_o_image h_o_tape h_o_wave_re h_o_wave_im h_o_wave_halved h_o_way_shifts : Nat) (o_imageKept : Int32) (o_taped : Int32) (o_wave_exp : Int32) (o_wave_done : Int32) (o_wave_backward : Int32) (o_way_size : Int32) (o_way_log : Int32) (o_way_wordBits : Int32) (o_way_limit : Int32) (o_way_radix : Int32) (o_way_order : Int32) (o_way_near : Int32) (o_way_seed : Int32) (o_way_stages : Int32) (o_wave_wasIm : Nat → Int32) (o_wave_wasRe : Nat → Int32) : va_W := [(h_o, .inr (9, [.ref h_o_way, .ref h_o_wave, .ref h_o_past, .ref h_o_notes, .ref h_o_ring, .ref h_o_turns, .ref h_o_beater, .ref h_o_reader, .ref h_o_dice, .ref h_o_trialWay, .ref h_o_trial, .ref h_o_otherTrial, .ref h_o_sumsRe, .ref h_o_sumsIm, .ref h_o_tally, .ref h_o_image, .int o_imageKept, .ref h_o_tape, .int o_taped])), (h_o_wave, .inr (7, [.ref h_o_wave_re, .ref h_o_wave_im, .ref h_o_wave_wasRe, .ref h_o_wave_wasIm, .ref h_o_wave_halved, .int o_wave_exp, .int o_wave_done, .int o_wave_backward])), (h_o_way, .inr (8, [.int o_way_size, .int o_way_log, .int o_way_wordBits, .int o_way_limit, .int o_way_radix, .int o_way_order, .int o_way_near, .int o_way_seed, .int o_way_stages, .ref h_o_way_shifts])), (h_o_wave_wasIm, .inl (cI, 32, .inl o_wave_wasIm)), (h_o_wave_wasRe, .inl (cI, 32, .inl o_wave_wasRe))]
def fX9_fold (o_way_size : Int32) (o_wave_wasIm : Nat → Int32) (o_wave_wasRe : Nat → Int32) (p1 : Int32) : Option (Int32) :=
  bd1 (fX9_isPlace o_way_size p1) (fun r_1 =>
  if r_1 = 0 then (
    some (-1 : Int32)
  ) else (
    bd1 (fX9_productSum o_wave_wasIm o_way_size o_wave_wasRe (-1 : Int32) p1) (fun r_4 =>
    bd1 (fJ9_floorMod_f86c9 r_4 (97 : Int64)) (fun r_6 =>
    some (Int64.toInt32 r_6)))
  ))
set_option maxHeartbeats 4000000 in
set_option maxRecDepth 100000 in
theorem tX9_fold (l : Launch) (G : va_G) (cI cJ cZ : ClassId) (sz : Nat) (h_o h_o_wave h_o_way h_o_wave_wasIm h_o_wave_wasRe h_o_past h_o_notes h_o_ring h_o_turns h_o_beater h_o_reader h_o_dice h_o_trialWay h_o_trial h_o_otherTrial h_o_sumsRe h_o_sumsIm h_o_tally h_o_image h_o_tape h_o_wave_re h_o_wave_im h_o_wave_halved h_o_way_shifts : Nat) (o_imageKept : Int32) (o_taped : Int32) (o_wave_exp : Int32) (o_wave_done : Int32) (o_wave_backward : Int32) (o_way_size : Int32) (o_way_log : Int32) (o_way_wordBits : Int32) (o_way_limit : Int32) (o_way_radix : Int32) (o_way_order : Int32) (o_way_near : Int32) (o_way_seed : Int32) (o_way_stages : Int32) (o_wave_wasIm : Nat → Int32) (o_wave_wasRe : Nat → Int32) (p1 : Int32) (r : Int32) (hf : fX9_fold o_way_size o_wave_wasIm o_wave_wasRe p1 = some r) : Met l yX9_fold (Cond.code yX9_fold cX9_fold 2 (some .int) :: BIG) ({ frames := 1, cells := 0, slots := 0, locals := 26 } : Room) (cP G (TY3 cI cJ cZ) [.ref h_o, .int p1] sz (wX9_fold cI cJ cZ h_o h_o_wave h_o_way h_o_wave_wasIm h_o_wave_wasRe h_o_past h_o_notes h_o_ring h_o_turns h_o_beater h_o_reader h_o_dice h_o_trialWay h_o_trial h_o_otherTrial h_o_sumsRe h_o_sumsIm h_o_tally h_o_image h_o_tape h_o_wave_re h_o_wave_im h_o_wave_halved h_o_way_shifts o_imageKept o_taped o_wave_exp o_wave_done o_wave_backward o_way_size o_way_log o_way_wordBits o_way_limit o_way_radix o_way_order o_way_near o_way_seed o_way_stages o_wave_wasIm o_wave_wasRe)) (cQ G (TY3 cI cJ cZ) sz (wX9_fold cI cJ cZ h_o h_o_wave h_o_way h_o_wave_wasIm h_o_wave_wasRe h_o_past h_o_notes h_o_ring h_o_turns h_o_beater h_o_reader h_o_dice h_o_trialWay h_o_trial h_o_otherTrial h_o_sumsRe h_o_sumsIm h_o_tally h_o_image h_o_tape h_o_wave_re h_o_wave_im h_o_wave_halved h_o_way_shifts o_imageKept o_taped o_wave_exp o_wave_done o_wave_backward o_way_size o_way_log o_way_wordBits o_way_limit o_way_radix o_way_order o_way_near o_way_seed o_way_stages o_wave_wasIm o_wave_wasRe) (wX9_fold cI cJ cZ h_o h_o_wave h_o_way h_o_wave_wasIm h_o_wave_wasRe h_o_past h_o_notes h_o_ring h_o_turns h_o_beater h_o_reader h_o_dice h_o_trialWay h_o_trial h_o_otherTrial h_o_sumsRe h_o_sumsIm h_o_tally h_o_image h_o_tape h_o_wave_re h_o_wave_im h_o_wave_halved h_o_way_shifts o_imageKept o_taped o_wave_exp o_wave_done o_wave_backward o_way_size o_way_log o_way_wordBits o_way_limit o_way_radix o_way_order o_way_near o_way_seed o_way_stages o_wave_wasIm o_wave_wasRe) (some (.int r))) 0 0 (va_A (wX9_fold cI cJ cZ h_o h_o_wave h_o_way h_o_wave_wasIm h_o_wave_wasRe h_o_past h_o_notes h_o_ring h_o_turns h_o_beater h_o_reader h_o_dice h_o_trialWay h_o_trial h_o_otherTrial h_o_sumsRe h_o_sumsIm h_o_tally h_o_image h_o_tape h_o_wave_re h_o_wave_im h_o_wave_halved h_o_way_shifts o_imageKept o_taped o_wave_exp o_wave_done o_wave_backward o_way_size o_way_log o_way_wordBits o_way_limit o_way_radix o_way_order o_way_near o_way_seed o_way_stages o_wave_wasIm o_wave_wasRe) sz) := by
  refine met_i (cc := cX9_fold) (maxL := 2) (plainFor_of_name (by decide)) (Nat.le_of_ble_eq_true rfl) (fun p e s m below meth c A ls Q hx hb hml hts hown hK hP hD hS hA hl hret => ?_)
  have hown : s.vm.findClass RX9 = some m.cls := hown
  have hl : lv_has ls 2 [(0, .ref h_o), (1, .int p1)] := hl
  unfold fX9_fold at hf
  obtain ⟨H, eH⟩ : ∃ H, H = s.heap := ⟨_, rfl⟩
  obtain ⟨locs, elocs⟩ : ∃ z : List Loc, z = [] := ⟨_, rfl⟩
  have hP : va_P G vwCl (wX9_fold cI cJ cZ h_o h_o_wave h_o_way h_o_wave_wasIm h_o_wave_wasRe h_o_past h_o_notes h_o_ring h_o_turns h_o_beater h_o_reader h_o_dice h_o_trialWay h_o_trial h_o_otherTrial h_o_sumsRe h_o_sumsIm h_o_tally h_o_image h_o_tape h_o_wave_re h_o_wave_im h_o_wave_halved h_o_way_shifts o_imageKept o_taped o_wave_exp o_wave_done o_wave_backward o_way_size o_way_log o_way_wordBits o_way_limit o_way_radix o_way_order o_way_near o_way_seed o_way_stages o_wave_wasIm o_wave_wasRe) H := by rw [eH]; exact hP
  have hS : va_S A s.heap H locs := by rw [eH, elocs]; exact hS
  suffices hgo : W p l e ({ frames := 1, cells := 0, slots := 0, locals := 26 } : Room) s m ([.ref h_o, .int p1] : List Value).toArray below meth c H locs 0 0 Q (F0 m 0 ls []) by rw [eH, elocs] at hgo; exact hgo
  clear eH elocs
  refine lv_aload_n hx hb dX9_fold_0 rfl (lv_at hl 0 rfl) ?_
  refine lv_iload_n hx hb dX9_fold_1 rfl (lv_at hl 1 rfl) ?_
  obtain ⟨r_1, e_2, hf⟩ := bd1_x hf
  refine call_v [.int p1] [] ⟨hx, hb, hml, hown, hts⟩ hK hP hD hS hA hl.1 (tX9_isPlace l G cI cJ cZ H.size h_o h_o_way h_o_wave h_o_past h_o_notes h_o_ring h_o_turns h_o_beater h_o_reader h_o_dice h_o_trialWay h_o_trial h_o_otherTrial h_o_sumsRe h_o_sumsIm h_o_tally h_o_image h_o_tape h_o_way_shifts o_imageKept o_taped o_way_size o_way_log o_way_wordBits o_way_limit o_way_radix o_way_order o_way_near o_way_seed o_way_stages p1 r_1 e_2) (cwV 1 hts (gv q_mX9_159 q_i_yX9_isPlace q_s_yX9_isPlace q_n_RX9 q_k_yX9_isPlace) rfl rfl rfl (by decide +kernel) ⟨by decide, by decide⟩) rfl rfl (Nat.le_of_ble_eq_true rfl) dX9_fold_2 ⟨Nat.zero_le _, Nat.zero_le _⟩ (ci := 9) rfl 0 rfl [0, 2] [1, 3, 4] [3, 0, 4, 1, 2] rfl rfl (ws2 := (wX9_fold cI cJ cZ h_o h_o_wave h_o_way h_o_wave_wasIm h_o_wave_wasRe h_o_past h_o_notes h_o_ring h_o_turns h_o_beater h_o_reader h_o_dice h_o_trialWay h_o_trial h_o_otherTrial h_o_sumsRe h_o_sumsIm h_o_tally h_o_image h_o_tape h_o_wave_re h_o_wave_im h_o_wave_halved h_o_way_shifts o_imageKept o_taped o_wave_exp o_wave_done o_wave_backward o_way_size o_way_log o_way_wordBits o_way_limit o_way_radix o_way_order o_way_near o_way_seed o_way_stages o_wave_wasIm o_wave_wasRe)) rfl (fun H locs hP hD hS => ?_)
  refine W.eq (g2 := F0 m 5 ls [.int r_1]) rfl ?_
  refine lv_if_eq (tgt := 31) hx hb dX9_fold_5 (by decide) (fun c_3 => ?_) (fun c_3 => ?_)
  · have hf := it_t c_3 hf
    refine lv_iconst (v := (-1 : Int32)) hx hb dX9_fold_31 (by decide) ?_
    cases hf
    exact hret _ _ _ _ dX9_fold_32 hP hD hS
  · have hf := it_f c_3 hf
    refine lv_aload_n hx hb dX9_fold_8 rfl (lv_at hl 0 rfl) ?_
    refine lv_aload_n hx hb dX9_fold_9 rfl (lv_at hl 0 rfl) ?_
    refine rd (ci := 9) (C := RX9) (T := TX9) (N := 19) hx hb hts inX9 hown hK hP 0 1 rfl rfl (by decide) (hts _ q_fX9_19) rfl dX9_fold_10 ?_
    refine rd (ci := 7) (C := RX7) (T := TX7) (N := 8) hx hb hts inX7 hown hK hP 1 3 rfl rfl (by decide) (hts _ q_fX9_180) rfl dX9_fold_13 ?_
    refine lv_iconst (v := (-1 : Int32)) hx hb dX9_fold_16 (by decide) ?_
    refine lv_iload_n hx hb dX9_fold_17 rfl (lv_at hl 1 rfl) ?_
    obtain ⟨r_4, e_5, hf⟩ := bd1_x hf
    refine call_v [.ref h_o_wave_wasIm, .int (-1 : Int32), .int p1] [] ⟨hx, hb, hml, hown, hts⟩ hK hP hD hS hA hl.1 (tX9_productSum l G cI cJ cZ H.size h_o h_o_wave_wasIm h_o_wave h_o_way h_o_wave_wasRe h_o_past h_o_notes h_o_ring h_o_turns h_o_beater h_o_reader h_o_dice h_o_trialWay h_o_trial h_o_otherTrial h_o_sumsRe h_o_sumsIm h_o_tally h_o_image h_o_tape h_o_wave_re h_o_wave_im h_o_wave_wasIm h_o_wave_halved h_o_way_shifts o_imageKept o_taped o_wave_wasIm o_wave_exp o_wave_done o_wave_backward o_way_size o_way_log o_way_wordBits o_way_limit o_way_radix o_way_order o_way_near o_way_seed o_way_stages o_wave_wasRe (-1 : Int32) p1 r_4 e_5) (cwV 3 hts (gv q_mX9_382 q_i_yX9_productSum q_s_yX9_productSum q_n_RX9 q_k_yX9_productSum) rfl rfl rfl (by decide +kernel) ⟨by decide, by decide⟩) rfl rfl (Nat.le_of_ble_eq_true rfl) dX9_fold_18 ⟨Nat.zero_le _, Nat.zero_le _⟩ (ci := 9) rfl 0 rfl [0, 3, 1, 2, 4] [] [0, 2, 3, 1, 4] rfl rfl (ws2 := (wX9_fold cI cJ cZ h_o h_o_wave h_o_way h_o_wave_wasIm h_o_wave_wasRe h_o_past h_o_notes h_o_ring h_o_turns h_o_beater h_o_reader h_o_dice h_o_trialWay h_o_trial h_o_otherTrial h_o_sumsRe h_o_sumsIm h_o_tally h_o_image h_o_tape h_o_wave_re h_o_wave_im h_o_wave_halved h_o_way_shifts o_imageKept o_taped o_wave_exp o_wave_done o_wave_backward o_way_size o_way_log o_way_wordBits o_way_limit o_way_radix o_way_order o_way_near o_way_seed o_way_stages o_wave_wasIm o_wave_wasRe)) rfl (fun H locs hP hD hS => ?_)
    refine W.eq (g2 := F0 m 21 ls [.long r_4]) rfl ?_
    refine lv_ldc2 (v := (97 : Int64)) hx hb hown (hts _ q_cX9_393) dX9_fold_21 ?_
    obtain ⟨r_6, e_7, hf⟩ := bd1_x hf
    refine call_s [.long r_4, .long (97 : Int64)] [] ⟨hx, hb, hml, hown, hts⟩ hK hP hD hS hA hl.1 (tJ9_floorMod_f86c9 l G cI cJ cZ H.size r_4 (97 : Int64) r_6 e_7) (va_cwS 2 hts (gs q_mX9_395 q_s_yJ9_floorMod_f86c9 q_n_RJ9 q_k_yJ9_floorMod_f86c9) rfl rfl rfl (by decide +kernel) ⟨by decide, by decide⟩) rfl rfl (Nat.le_of_ble_eq_true rfl) dX9_fold_24 ⟨Nat.zero_le _, Nat.zero_le _⟩ [] [0, 1, 2, 3, 4] [0, 1, 2, 3, 4] rfl rfl (ws2 := (wX9_fold cI cJ cZ h_o h_o_wave h_o_way h_o_wave_wasIm h_o_wave_wasRe h_o_past h_o_notes h_o_ring h_o_turns h_o_beater h_o_reader h_o_dice h_o_trialWay h_o_trial h_o_otherTrial h_o_sumsRe h_o_sumsIm h_o_tally h_o_image h_o_tape h_o_wave_re h_o_wave_im h_o_wave_halved h_o_way_shifts o_imageKept o_taped o_wave_exp o_wave_done o_wave_backward o_way_size o_way_log o_way_wordBits o_way_limit o_way_radix o_way_order o_way_near o_way_seed o_way_stages o_wave_wasIm o_wave_wasRe)) rfl (fun H locs hP hD hS => ?_)
    refine W.eq (g2 := F0 m 27 ls [.long r_6]) rfl ?_
    refine lv_l2i hx hb dX9_fold_27 rfl ?_
    refine lv_goto (tgt := 32) hx hb dX9_fold_28 (by decide) ?_
    cases hf
    exact hret _ _ _ _ dX9_fold_32 hP hD hS
def wX9_unfold (cI cJ cZ : ClassId) (h_o h_o_ring h_o_way h_o_ring_powers h_o_wave h_o_past h_o_notes h_o_turns h_o_beater h_o_reader h_o_dice h_o_trialWay h_o_trial h_o_otherTrial h_o_sumsRe h_o_sumsIm h_o_tally h_o_image h_o_tape h_o_way_shifts : Nat) (o_imageKept : Int32) (o_taped : Int32) (o_ring_size : Int32) (o_ring_log : Int32) (o_way_size : Int32) (o_way_log : Int32) (o_way_wordBits : Int32) (o_way_limit : Int32) (o_way_radix : Int32) (o_way_order : Int32) (o_way_near : Int32) (o_way_seed : Int32) (o_way_stages : Int32) (o_ring_powers : Nat → Int32) : va_W := [(h_o, .inr (9, [.ref h_o_way, .ref h_o_wave, .ref h_o_past, .ref h_o_notes, .ref h_o_ring, .ref h_o_turns, .ref h_o_beater, .ref h_o_reader, .ref h_o_dice, .ref h_o_trialWay, .ref h_o_trial, .ref h_o_otherTrial, .ref h_o_sumsRe, .ref h_o_sumsIm, .ref h_o_tally, .ref h_o_image, .int o_imageKept, .ref h_o_tape, .int o_taped])), (h_o_ring, .inr (5, [.ref h_o_ring_powers, .int o_ring_size, .int o_ring_log])), (h_o_way, .inr (8, [.int o_way_size, .int o_way_log, .int o_way_wordBits, .int o_way_limit, .int o_way_radix, .int o_way_order, .int o_way_near, .int o_way_seed, .int o_way_stages, .ref h_o_way_shifts])), (h_o_ring_powers, .inl (cI, 32, .inl o_ring_powers))]
def fX9_unfold (o_ring_size : Int32) (o_ring_log : Int32) (o_way_size : Int32) (o_ring_powers : Nat → Int32) (p1 : Int32) (p2 : Int32) (p3 : Int32) : Option (Int32) :=
  bd1 (fX9_isPlace o_way_size p1) (fun r_1 =>
  if r_1 = 0 then (
    some (-1 : Int32)
  ) else (
    if p2 < 0 then (
      some (-1 : Int32)
    ) else (
      if (97 : Int32) ≤ p2 then (
        some (-1 : Int32)
      ) else (
        bd1 (fX9_isPlace o_way_size p3) (fun r_6 =>
        if r_6 = 0 then (
          some (-1 : Int32)
        ) else (
          bd1 (fX5_pointOf o_ring_size o_ring_log o_ring_powers p1 p2 p3) (fun r_9 =>
          some r_9)
        ))
      )
    )
  ))
set_option maxHeartbeats 4000000 in
set_option maxRecDepth 100000 in
theorem tX9_unfold (l : Launch) (G : va_G) (cI cJ cZ : ClassId) (sz : Nat) (h_o h_o_ring h_o_way h_o_ring_powers h_o_wave h_o_past h_o_notes h_o_turns h_o_beater h_o_reader h_o_dice h_o_trialWay h_o_trial h_o_otherTrial h_o_sumsRe h_o_sumsIm h_o_tally h_o_image h_o_tape h_o_way_shifts : Nat) (o_imageKept : Int32) (o_taped : Int32) (o_ring_size : Int32) (o_ring_log : Int32) (o_way_size : Int32) (o_way_log : Int32) (o_way_wordBits : Int32) (o_way_limit : Int32) (o_way_radix : Int32) (o_way_order : Int32) (o_way_near : Int32) (o_way_seed : Int32) (o_way_stages : Int32) (o_ring_powers : Nat → Int32) (p1 : Int32) (p2 : Int32) (p3 : Int32) (r : Int32) (hf : fX9_unfold o_ring_size o_ring_log o_way_size o_ring_powers p1 p2 p3 = some r) : Met l yX9_unfold (Cond.code yX9_unfold cX9_unfold 4 (some .int) :: BIG) ({ frames := 2, cells := 0, slots := 0, locals := 46 } : Room) (cP G (TY3 cI cJ cZ) [.ref h_o, .int p1, .int p2, .int p3] sz (wX9_unfold cI cJ cZ h_o h_o_ring h_o_way h_o_ring_powers h_o_wave h_o_past h_o_notes h_o_turns h_o_beater h_o_reader h_o_dice h_o_trialWay h_o_trial h_o_otherTrial h_o_sumsRe h_o_sumsIm h_o_tally h_o_image h_o_tape h_o_way_shifts o_imageKept o_taped o_ring_size o_ring_log o_way_size o_way_log o_way_wordBits o_way_limit o_way_radix o_way_order o_way_near o_way_seed o_way_stages o_ring_powers)) (cQ G (TY3 cI cJ cZ) sz (wX9_unfold cI cJ cZ h_o h_o_ring h_o_way h_o_ring_powers h_o_wave h_o_past h_o_notes h_o_turns h_o_beater h_o_reader h_o_dice h_o_trialWay h_o_trial h_o_otherTrial h_o_sumsRe h_o_sumsIm h_o_tally h_o_image h_o_tape h_o_way_shifts o_imageKept o_taped o_ring_size o_ring_log o_way_size o_way_log o_way_wordBits o_way_limit o_way_radix o_way_order o_way_near o_way_seed o_way_stages o_ring_powers) (wX9_unfold cI cJ cZ h_o h_o_ring h_o_way h_o_ring_powers h_o_wave h_o_past h_o_notes h_o_turns h_o_beater h_o_reader h_o_dice h_o_trialWay h_o_trial h_o_otherTrial h_o_sumsRe h_o_sumsIm h_o_tally h_o_image h_o_tape h_o_way_shifts o_imageKept o_taped o_ring_size o_ring_log o_way_size o_way_log o_way_wordBits o_way_limit o_way_radix o_way_order o_way_near o_way_seed o_way_stages o_ring_powers) (some (.int r))) 0 0 (va_A (wX9_unfold cI cJ cZ h_o h_o_ring h_o_way h_o_ring_powers h_o_wave h_o_past h_o_notes h_o_turns h_o_beater h_o_reader h_o_dice h_o_trialWay h_o_trial h_o_otherTrial h_o_sumsRe h_o_sumsIm h_o_tally h_o_image h_o_tape h_o_way_shifts o_imageKept o_taped o_ring_size o_ring_log o_way_size o_way_log o_way_wordBits o_way_limit o_way_radix o_way_order o_way_near o_way_seed o_way_stages o_ring_powers) sz) := by
  refine met_i (cc := cX9_unfold) (maxL := 4) (plainFor_of_name (by decide)) (Nat.le_of_ble_eq_true rfl) (fun p e s m below meth c A ls Q hx hb hml hts hown hK hP hD hS hA hl hret => ?_)
  have hown : s.vm.findClass RX9 = some m.cls := hown
  have hl : lv_has ls 4 [(0, .ref h_o), (1, .int p1), (2, .int p2), (3, .int p3)] := hl
  unfold fX9_unfold at hf
  obtain ⟨H, eH⟩ : ∃ H, H = s.heap := ⟨_, rfl⟩
  obtain ⟨locs, elocs⟩ : ∃ z : List Loc, z = [] := ⟨_, rfl⟩
  have hP : va_P G vwCl (wX9_unfold cI cJ cZ h_o h_o_ring h_o_way h_o_ring_powers h_o_wave h_o_past h_o_notes h_o_turns h_o_beater h_o_reader h_o_dice h_o_trialWay h_o_trial h_o_otherTrial h_o_sumsRe h_o_sumsIm h_o_tally h_o_image h_o_tape h_o_way_shifts o_imageKept o_taped o_ring_size o_ring_log o_way_size o_way_log o_way_wordBits o_way_limit o_way_radix o_way_order o_way_near o_way_seed o_way_stages o_ring_powers) H := by rw [eH]; exact hP
  have hS : va_S A s.heap H locs := by rw [eH, elocs]; exact hS
  suffices hgo : W p l e ({ frames := 2, cells := 0, slots := 0, locals := 46 } : Room) s m ([.ref h_o, .int p1, .int p2, .int p3] : List Value).toArray below meth c H locs 0 0 Q (F0 m 0 ls []) by rw [eH, elocs] at hgo; exact hgo
  clear eH elocs
  refine lv_aload_n hx hb dX9_unfold_0 rfl (lv_at hl 0 rfl) ?_
  refine lv_iload_n hx hb dX9_unfold_1 rfl (lv_at hl 1 rfl) ?_
  obtain ⟨r_1, e_2, hf⟩ := bd1_x hf
  refine call_v [.int p1] [] ⟨hx, hb, hml, hown, hts⟩ hK hP hD hS hA hl.1 (tX9_isPlace l G cI cJ cZ H.size h_o h_o_way h_o_wave h_o_past h_o_notes h_o_ring h_o_turns h_o_beater h_o_reader h_o_dice h_o_trialWay h_o_trial h_o_otherTrial h_o_sumsRe h_o_sumsIm h_o_tally h_o_image h_o_tape h_o_way_shifts o_imageKept o_taped o_way_size o_way_log o_way_wordBits o_way_limit o_way_radix o_way_order o_way_near o_way_seed o_way_stages p1 r_1 e_2) (cwV 1 hts (gv q_mX9_159 q_i_yX9_isPlace q_s_yX9_isPlace q_n_RX9 q_k_yX9_isPlace) rfl rfl rfl (by decide +kernel) ⟨by decide, by decide⟩) rfl rfl (Nat.le_of_ble_eq_true rfl) dX9_unfold_2 ⟨Nat.zero_le _, Nat.zero_le _⟩ (ci := 9) rfl 0 rfl [0, 2] [1, 3] [2, 0, 3, 1] rfl rfl (ws2 := (wX9_unfold cI cJ cZ h_o h_o_ring h_o_way h_o_ring_powers h_o_wave h_o_past h_o_notes h_o_turns h_o_beater h_o_reader h_o_dice h_o_trialWay h_o_trial h_o_otherTrial h_o_sumsRe h_o_sumsIm h_o_tally h_o_image h_o_tape h_o_way_shifts o_imageKept o_taped o_ring_size o_ring_log o_way_size o_way_log o_way_wordBits o_way_limit o_way_radix o_way_order o_way_near o_way_seed o_way_stages o_ring_powers)) rfl (fun H locs hP hD hS => ?_)
  refine W.eq (g2 := F0 m 5 ls [.int r_1]) rfl ?_
  refine lv_if_eq (tgt := 26) hx hb dX9_unfold_5 (by decide) (fun c_3 => ?_) (fun c_3 => ?_)
  · have hf := it_t c_3 hf
    refine lv_iconst (v := (-1 : Int32)) hx hb dX9_unfold_26 (by decide) ?_
    cases hf
    exact hret _ _ _ _ dX9_unfold_27 hP hD hS
  · have hf := it_f c_3 hf
    refine lv_iload_n hx hb dX9_unfold_8 rfl (lv_at hl 2 rfl) ?_
    refine lv_if_lt (tgt := 26) hx hb dX9_unfold_9 (by decide) (fun c_4 => ?_) (fun c_4 => ?_)
    · have hf := it_t c_4 hf
      refine lv_iconst (v := (-1 : Int32)) hx hb dX9_unfold_26 (by decide) ?_
      cases hf
      exact hret _ _ _ _ dX9_unfold_27 hP hD hS
    · have hf := it_f c_4 hf
      refine lv_iload_n hx hb dX9_unfold_12 rfl (lv_at hl 2 rfl) ?_
      refine lv_bipush (v := (97 : Int32)) hx hb dX9_unfold_13 (by decide) ?_
      refine lv_icmp_ge (tgt := 26) hx hb dX9_unfold_15 (by decide) (fun c_5 => ?_) (fun c_5 => ?_)
      · have hf := it_t c_5 hf
        refine lv_iconst (v := (-1 : Int32)) hx hb dX9_unfold_26 (by decide) ?_
        cases hf
        exact hret _ _ _ _ dX9_unfold_27 hP hD hS
      · have hf := it_f c_5 hf
        refine lv_aload_n hx hb dX9_unfold_18 rfl (lv_at hl 0 rfl) ?_
        refine lv_iload_n hx hb dX9_unfold_19 rfl (lv_at hl 3 rfl) ?_
        obtain ⟨r_6, e_7, hf⟩ := bd1_x hf
        refine call_v [.int p3] [] ⟨hx, hb, hml, hown, hts⟩ hK hP hD hS hA hl.1 (tX9_isPlace l G cI cJ cZ H.size h_o h_o_way h_o_wave h_o_past h_o_notes h_o_ring h_o_turns h_o_beater h_o_reader h_o_dice h_o_trialWay h_o_trial h_o_otherTrial h_o_sumsRe h_o_sumsIm h_o_tally h_o_image h_o_tape h_o_way_shifts o_imageKept o_taped o_way_size o_way_log o_way_wordBits o_way_limit o_way_radix o_way_order o_way_near o_way_seed o_way_stages p3 r_6 e_7) (cwV 1 hts (gv q_mX9_159 q_i_yX9_isPlace q_s_yX9_isPlace q_n_RX9 q_k_yX9_isPlace) rfl rfl rfl (by decide +kernel) ⟨by decide, by decide⟩) rfl rfl (Nat.le_of_ble_eq_true rfl) dX9_unfold_20 ⟨Nat.zero_le _, Nat.zero_le _⟩ (ci := 9) rfl 0 rfl [0, 2] [1, 3] [2, 0, 3, 1] rfl rfl (ws2 := (wX9_unfold cI cJ cZ h_o h_o_ring h_o_way h_o_ring_powers h_o_wave h_o_past h_o_notes h_o_turns h_o_beater h_o_reader h_o_dice h_o_trialWay h_o_trial h_o_otherTrial h_o_sumsRe h_o_sumsIm h_o_tally h_o_image h_o_tape h_o_way_shifts o_imageKept o_taped o_ring_size o_ring_log o_way_size o_way_log o_way_wordBits o_way_limit o_way_radix o_way_order o_way_near o_way_seed o_way_stages o_ring_powers)) rfl (fun H locs hP hD hS => ?_)
        refine W.eq (g2 := F0 m 23 ls [.int r_6]) rfl ?_
        refine lv_if_ne (tgt := 28) hx hb dX9_unfold_23 (by decide) (fun c_8 => ?_) (fun c_8 => ?_)
        · have hf := it_f c_8 hf
          refine lv_aload_n hx hb dX9_unfold_28 rfl (lv_at hl 0 rfl) ?_
          refine rd (ci := 9) (C := RX9) (T := TX9) (N := 19) hx hb hts inX9 hown hK hP 0 4 rfl rfl (by decide) (hts _ q_fX9_40) rfl dX9_unfold_29 ?_
          refine lv_iload_n hx hb dX9_unfold_32 rfl (lv_at hl 1 rfl) ?_
          refine lv_iload_n hx hb dX9_unfold_33 rfl (lv_at hl 2 rfl) ?_
          refine lv_iload_n hx hb dX9_unfold_34 rfl (lv_at hl 3 rfl) ?_
          obtain ⟨r_9, e_10, hf⟩ := bd1_x hf
          refine call_v [.int p1, .int p2, .int p3] [] ⟨hx, hb, hml, hown, hts⟩ hK hP hD hS hA hl.1 (tX5_pointOf l G cI cJ cZ H.size h_o_ring h_o_ring_powers o_ring_size o_ring_log o_ring_powers p1 p2 p3 r_9 e_10) (cwV 3 hts (gv q_mX9_398 q_i_yX5_pointOf q_s_yX5_pointOf q_n_RX5 q_k_yX5_pointOf) rfl rfl rfl (by decide +kernel) ⟨by decide, by decide⟩) rfl rfl (Nat.le_of_ble_eq_true rfl) dX9_unfold_35 ⟨Nat.zero_le _, Nat.zero_le _⟩ (ci := 5) rfl 0 rfl [1, 3] [0, 2] [0, 2, 1, 3] rfl rfl (ws2 := (wX9_unfold cI cJ cZ h_o h_o_ring h_o_way h_o_ring_powers h_o_wave h_o_past h_o_notes h_o_turns h_o_beater h_o_reader h_o_dice h_o_trialWay h_o_trial h_o_otherTrial h_o_sumsRe h_o_sumsIm h_o_tally h_o_image h_o_tape h_o_way_shifts o_imageKept o_taped o_ring_size o_ring_log o_way_size o_way_log o_way_wordBits o_way_limit o_way_radix o_way_order o_way_near o_way_seed o_way_stages o_ring_powers)) rfl (fun H locs hP hD hS => ?_)
          refine W.eq (g2 := F0 m 38 ls [.int r_9]) rfl ?_
          cases hf
          exact hret _ _ _ _ dX9_unfold_38 hP hD hS
        · have hf := it_t c_8 hf
          refine lv_iconst (v := (-1 : Int32)) hx hb dX9_unfold_26 (by decide) ?_
          cases hf
          exact hret _ _ _ _ dX9_unfold_27 hP hD hS
def wX9_note (cI cJ cZ : ClassId) (h_o h_o_notes h_o_way h_o_notes_bins h_o_notes_kinds h_o_notes_targets h_o_wave h_o_past h_o_ring h_o_turns h_o_beater h_o_reader h_o_dice h_o_trialWay h_o_trial h_o_otherTrial h_o_sumsRe h_o_sumsIm h_o_tally h_o_image h_o_tape h_o_way_shifts : Nat) (o_imageKept : Int32) (o_taped : Int32) (o_notes_total : Int32) (o_notes_knownBy : Int32) (o_way_size : Int32) (o_way_log : Int32) (o_way_wordBits : Int32) (o_way_limit : Int32) (o_way_radix : Int32) (o_way_order : Int32) (o_way_near : Int32) (o_way_seed : Int32) (o_way_stages : Int32) (o_notes_bins : Nat → Int32) (o_notes_kinds : Nat → Int32) (o_notes_targets : Nat → Int32) : va_W := [(h_o, .inr (9, [.ref h_o_way, .ref h_o_wave, .ref h_o_past, .ref h_o_notes, .ref h_o_ring, .ref h_o_turns, .ref h_o_beater, .ref h_o_reader, .ref h_o_dice, .ref h_o_trialWay, .ref h_o_trial, .ref h_o_otherTrial, .ref h_o_sumsRe, .ref h_o_sumsIm, .ref h_o_tally, .ref h_o_image, .int o_imageKept, .ref h_o_tape, .int o_taped])), (h_o_notes, .inr (2, [.ref h_o_notes_kinds, .ref h_o_notes_targets, .ref h_o_notes_bins, .int o_notes_total, .int o_notes_knownBy])), (h_o_way, .inr (8, [.int o_way_size, .int o_way_log, .int o_way_wordBits, .int o_way_limit, .int o_way_radix, .int o_way_order, .int o_way_near, .int o_way_seed, .int o_way_stages, .ref h_o_way_shifts])), (h_o_notes_bins, .inl (cI, 24, .inl o_notes_bins)), (h_o_notes_kinds, .inl (cI, 24, .inl o_notes_kinds)), (h_o_notes_targets, .inl (cI, 24, .inl o_notes_targets))]
def fX9_note_33 (o_notes_total : Int32) (o_notes_bins : Nat → Int32) (o_notes_kinds : Nat → Int32) (o_notes_targets : Nat → Int32) (v1 : Int32) (v2 : Int32) (s1 : Int32) : Option (Int32 × Int32 × (Nat → Int32) × (Nat → Int32) × (Nat → Int32)) :=
  bd5 (fX2_add o_notes_total o_notes_bins o_notes_kinds o_notes_targets s1 v1 v2) (fun r_7 o_notes_total_8 o_notes_bins_9 o_notes_kinds_10 o_notes_targets_11 =>
  some (r_7, o_notes_total_8, o_notes_bins_9, o_notes_kinds_10, o_notes_targets_11))
def fX9_note (o_notes_total : Int32) (o_way_size : Int32) (o_notes_bins : Nat → Int32) (o_notes_kinds : Nat → Int32) (o_notes_targets : Nat → Int32) (p1 : Int32) (p2 : Int32) (p3 : Int32) : Option (Int32 × Int32 × (Nat → Int32) × (Nat → Int32) × (Nat → Int32)) :=
  bd1 (fX9_isPlace o_way_size p1) (fun r_1 =>
  if r_1 = 0 then (
    some ((-1 : Int32), o_notes_total, o_notes_bins, o_notes_kinds, o_notes_targets)
  ) else (
    if p2 < 0 then (
      some ((-1 : Int32), o_notes_total, o_notes_bins, o_notes_kinds, o_notes_targets)
    ) else (
      if p2 < (97 : Int32) then (
        if p3 = 0 then (
          fX9_note_33 o_notes_total o_notes_bins o_notes_kinds o_notes_targets p1 p2 (0 : Int32)
        ) else (
          fX9_note_33 o_notes_total o_notes_bins o_notes_kinds o_notes_targets p1 p2 (1 : Int32)
        )
      ) else (
        some ((-1 : Int32), o_notes_total, o_notes_bins, o_notes_kinds, o_notes_targets)
      )
    )
  ))
set_option maxHeartbeats 4000000 in
set_option maxRecDepth 100000 in
theorem tX9_note (l : Launch) (G : va_G) (cI cJ cZ : ClassId) (sz : Nat) (h_o h_o_notes h_o_way h_o_notes_bins h_o_notes_kinds h_o_notes_targets h_o_wave h_o_past h_o_ring h_o_turns h_o_beater h_o_reader h_o_dice h_o_trialWay h_o_trial h_o_otherTrial h_o_sumsRe h_o_sumsIm h_o_tally h_o_image h_o_tape h_o_way_shifts : Nat) (o_imageKept : Int32) (o_taped : Int32) (o_notes_total : Int32) (o_notes_knownBy : Int32) (o_way_size : Int32) (o_way_log : Int32) (o_way_wordBits : Int32) (o_way_limit : Int32) (o_way_radix : Int32) (o_way_order : Int32) (o_way_near : Int32) (o_way_seed : Int32) (o_way_stages : Int32) (o_notes_bins : Nat → Int32) (o_notes_kinds : Nat → Int32) (o_notes_targets : Nat → Int32) (p1 : Int32) (p2 : Int32) (p3 : Int32) (r : Int32) (out_o_notes_total : Int32) (out_o_notes_bins : Nat → Int32) (out_o_notes_kinds : Nat → Int32) (out_o_notes_targets : Nat → Int32) (hf : fX9_note o_notes_total o_way_size o_notes_bins o_notes_kinds o_notes_targets p1 p2 p3 = some (r, out_o_notes_total, out_o_notes_bins, out_o_notes_kinds, out_o_notes_targets)) : Met l yX9_note (Cond.code yX9_note cX9_note 4 (some .int) :: BIG) ({ frames := 1, cells := 0, slots := 0, locals := 23 } : Room) (cP G (TY3 cI cJ cZ) [.ref h_o, .int p1, .int p2, .int p3] sz (wX9_note cI cJ cZ h_o h_o_notes h_o_way h_o_notes_bins h_o_notes_kinds h_o_notes_targets h_o_wave h_o_past h_o_ring h_o_turns h_o_beater h_o_reader h_o_dice h_o_trialWay h_o_trial h_o_otherTrial h_o_sumsRe h_o_sumsIm h_o_tally h_o_image h_o_tape h_o_way_shifts o_imageKept o_taped o_notes_total o_notes_knownBy o_way_size o_way_log o_way_wordBits o_way_limit o_way_radix o_way_order o_way_near o_way_seed o_way_stages o_notes_bins o_notes_kinds o_notes_targets)) (cQ G (TY3 cI cJ cZ) sz (wX9_note cI cJ cZ h_o h_o_notes h_o_way h_o_notes_bins h_o_notes_kinds h_o_notes_targets h_o_wave h_o_past h_o_ring h_o_turns h_o_beater h_o_reader h_o_dice h_o_trialWay h_o_trial h_o_otherTrial h_o_sumsRe h_o_sumsIm h_o_tally h_o_image h_o_tape h_o_way_shifts o_imageKept o_taped o_notes_total o_notes_knownBy o_way_size o_way_log o_way_wordBits o_way_limit o_way_radix o_way_order o_way_near o_way_seed o_way_stages o_notes_bins o_notes_kinds o_notes_targets) (wX9_note cI cJ cZ h_o h_o_notes h_o_way h_o_notes_bins h_o_notes_kinds h_o_notes_targets h_o_wave h_o_past h_o_ring h_o_turns h_o_beater h_o_reader h_o_dice h_o_trialWay h_o_trial h_o_otherTrial h_o_sumsRe h_o_sumsIm h_o_tally h_o_image h_o_tape h_o_way_shifts o_imageKept o_taped out_o_notes_total o_notes_knownBy o_way_size o_way_log o_way_wordBits o_way_limit o_way_radix o_way_order o_way_near o_way_seed o_way_stages out_o_notes_bins out_o_notes_kinds out_o_notes_targets) (some (.int r))) 0 0 (va_A (wX9_note cI cJ cZ h_o h_o_notes h_o_way h_o_notes_bins h_o_notes_kinds h_o_notes_targets h_o_wave h_o_past h_o_ring h_o_turns h_o_beater h_o_reader h_o_dice h_o_trialWay h_o_trial h_o_otherTrial h_o_sumsRe h_o_sumsIm h_o_tally h_o_image h_o_tape h_o_way_shifts o_imageKept o_taped o_notes_total o_notes_knownBy o_way_size o_way_log o_way_wordBits o_way_limit o_way_radix o_way_order o_way_near o_way_seed o_way_stages o_notes_bins o_notes_kinds o_notes_targets) sz) := by
  refine met_i (cc := cX9_note) (maxL := 4) (plainFor_of_name (by decide)) (Nat.le_of_ble_eq_true rfl) (fun p e s m below meth c A ls Q hx hb hml hts hown hK hP hD hS hA hl hret => ?_)
  have hown : s.vm.findClass RX9 = some m.cls := hown
  have hl : lv_has ls 4 [(0, .ref h_o), (1, .int p1), (2, .int p2), (3, .int p3)] := hl
  have j33 : ∀ (o_notes_total : Int32) (o_notes_bins : Nat → Int32) (o_notes_kinds : Nat → Int32) (o_notes_targets : Nat → Int32) (v1 : Int32) (v2 : Int32) (s1 : Int32) (H : Heap) (locs : List Loc) (ls : Array Slot), fX9_note_33 o_notes_total o_notes_bins o_notes_kinds o_notes_targets v1 v2 s1 = some (r, out_o_notes_total, out_o_notes_bins, out_o_notes_kinds, out_o_notes_targets) → va_P G vwCl (wX9_note cI cJ cZ h_o h_o_notes h_o_way h_o_notes_bins h_o_notes_kinds h_o_notes_targets h_o_wave h_o_past h_o_ring h_o_turns h_o_beater h_o_reader h_o_dice h_o_trialWay h_o_trial h_o_otherTrial h_o_sumsRe h_o_sumsIm h_o_tally h_o_image h_o_tape h_o_way_shifts o_imageKept o_taped o_notes_total o_notes_knownBy o_way_size o_way_log o_way_wordBits o_way_limit o_way_radix o_way_order o_way_near o_way_seed o_way_stages o_notes_bins o_notes_kinds o_notes_targets) H → va_D A (wX9_note cI cJ cZ h_o h_o_notes h_o_way h_o_notes_bins h_o_notes_kinds h_o_notes_targets h_o_wave h_o_past h_o_ring h_o_turns h_o_beater h_o_reader h_o_dice h_o_trialWay h_o_trial h_o_otherTrial h_o_sumsRe h_o_sumsIm h_o_tally h_o_image h_o_tape h_o_way_shifts o_imageKept o_taped o_notes_total o_notes_knownBy o_way_size o_way_log o_way_wordBits o_way_limit o_way_radix o_way_order o_way_near o_way_seed o_way_stages o_notes_bins o_notes_kinds o_notes_targets) → va_S A s.heap H locs → lv_has ls 4 [(1, .int v1), (2, .int v2)] → W p l e ({ frames := 1, cells := 0, slots := 0, locals := 23 } : Room) s m ([.ref h_o, .int p1, .int p2, .int p3] : List Value).toArray below meth c H locs 0 0 Q (F0 m 33 ls [.int s1, .ref h_o_notes]) := by
    intro o_notes_total o_notes_bins o_notes_kinds o_notes_targets v1 v2 s1 H locs ls hf hP hD hS hl
    unfold fX9_note_33 at hf
    refine lv_iload_n hx hb dX9_note_33 rfl (lv_at hl 0 rfl) ?_
    refine lv_iload_n hx hb dX9_note_34 rfl (lv_at hl 1 rfl) ?_
    obtain ⟨r_7, o_notes_total_8, o_notes_bins_9, o_notes_kinds_10, o_notes_targets_11, e_12, hf⟩ := bd5_x hf
    refine call_v [.int s1, .int v1, .int v2] [] ⟨hx, hb, hml, hown, hts⟩ hK hP hD hS hA hl.1 (tX2_add l G cI cJ cZ H.size h_o_notes h_o_notes_bins h_o_notes_kinds h_o_notes_targets o_notes_total o_notes_knownBy o_notes_bins o_notes_kinds o_notes_targets s1 v1 v2 r_7 o_notes_total_8 o_notes_bins_9 o_notes_kinds_10 o_notes_targets_11 e_12) (cwV 3 hts (gv q_mX9_402 q_i_yX2_add q_s_yX2_add q_n_RX2 q_k_yX2_add) rfl rfl rfl (by decide +kernel) ⟨by decide, by decide⟩) rfl rfl (Nat.le_of_ble_eq_true rfl) dX9_note_35 ⟨Nat.zero_le _, Nat.zero_le _⟩ (ci := 2) rfl 0 rfl [1, 3, 4, 5] [0, 2] [0, 2, 1, 3, 4, 5] rfl rfl (ws2 := (wX9_note cI cJ cZ h_o h_o_notes h_o_way h_o_notes_bins h_o_notes_kinds h_o_notes_targets h_o_wave h_o_past h_o_ring h_o_turns h_o_beater h_o_reader h_o_dice h_o_trialWay h_o_trial h_o_otherTrial h_o_sumsRe h_o_sumsIm h_o_tally h_o_image h_o_tape h_o_way_shifts o_imageKept o_taped o_notes_total_8 o_notes_knownBy o_way_size o_way_log o_way_wordBits o_way_limit o_way_radix o_way_order o_way_near o_way_seed o_way_stages o_notes_bins_9 o_notes_kinds_10 o_notes_targets_11)) rfl (fun H locs hP hD hS => ?_)
    refine W.eq (g2 := F0 m 38 ls [.int r_7]) rfl ?_
    cases hf
    exact hret _ _ _ _ dX9_note_38 hP hD hS
  unfold fX9_note at hf
  obtain ⟨H, eH⟩ : ∃ H, H = s.heap := ⟨_, rfl⟩
  obtain ⟨locs, elocs⟩ : ∃ z : List Loc, z = [] := ⟨_, rfl⟩
  have hP : va_P G vwCl (wX9_note cI cJ cZ h_o h_o_notes h_o_way h_o_notes_bins h_o_notes_kinds h_o_notes_targets h_o_wave h_o_past h_o_ring h_o_turns h_o_beater h_o_reader h_o_dice h_o_trialWay h_o_trial h_o_otherTrial h_o_sumsRe h_o_sumsIm h_o_tally h_o_image h_o_tape h_o_way_shifts o_imageKept o_taped o_notes_total o_notes_knownBy o_way_size o_way_log o_way_wordBits o_way_limit o_way_radix o_way_order o_way_near o_way_seed o_way_stages o_notes_bins o_notes_kinds o_notes_targets) H := by rw [eH]; exact hP
  have hS : va_S A s.heap H locs := by rw [eH, elocs]; exact hS
  suffices hgo : W p l e ({ frames := 1, cells := 0, slots := 0, locals := 23 } : Room) s m ([.ref h_o, .int p1, .int p2, .int p3] : List Value).toArray below meth c H locs 0 0 Q (F0 m 0 ls []) by rw [eH, elocs] at hgo; exact hgo
  clear eH elocs
  refine lv_aload_n hx hb dX9_note_0 rfl (lv_at hl 0 rfl) ?_
  refine lv_iload_n hx hb dX9_note_1 rfl (lv_at hl 1 rfl) ?_
  obtain ⟨r_1, e_2, hf⟩ := bd1_x hf
  refine call_v [.int p1] [] ⟨hx, hb, hml, hown, hts⟩ hK hP hD hS hA hl.1 (tX9_isPlace l G cI cJ cZ H.size h_o h_o_way h_o_wave h_o_past h_o_notes h_o_ring h_o_turns h_o_beater h_o_reader h_o_dice h_o_trialWay h_o_trial h_o_otherTrial h_o_sumsRe h_o_sumsIm h_o_tally h_o_image h_o_tape h_o_way_shifts o_imageKept o_taped o_way_size o_way_log o_way_wordBits o_way_limit o_way_radix o_way_order o_way_near o_way_seed o_way_stages p1 r_1 e_2) (cwV 1 hts (gv q_mX9_159 q_i_yX9_isPlace q_s_yX9_isPlace q_n_RX9 q_k_yX9_isPlace) rfl rfl rfl (by decide +kernel) ⟨by decide, by decide⟩) rfl rfl (Nat.le_of_ble_eq_true rfl) dX9_note_2 ⟨Nat.zero_le _, Nat.zero_le _⟩ (ci := 9) rfl 0 rfl [0, 2] [1, 3, 4, 5] [4, 0, 5, 1, 2, 3] rfl rfl (ws2 := (wX9_note cI cJ cZ h_o h_o_notes h_o_way h_o_notes_bins h_o_notes_kinds h_o_notes_targets h_o_wave h_o_past h_o_ring h_o_turns h_o_beater h_o_reader h_o_dice h_o_trialWay h_o_trial h_o_otherTrial h_o_sumsRe h_o_sumsIm h_o_tally h_o_image h_o_tape h_o_way_shifts o_imageKept o_taped o_notes_total o_notes_knownBy o_way_size o_way_log o_way_wordBits o_way_limit o_way_radix o_way_order o_way_near o_way_seed o_way_stages o_notes_bins o_notes_kinds o_notes_targets)) rfl (fun H locs hP hD hS => ?_)
  refine W.eq (g2 := F0 m 5 ls [.int r_1]) rfl ?_
  refine lv_if_eq (tgt := 18) hx hb dX9_note_5 (by decide) (fun c_3 => ?_) (fun c_3 => ?_)
  · have hf := it_t c_3 hf
    refine lv_iconst (v := (-1 : Int32)) hx hb dX9_note_18 (by decide) ?_
    cases hf
    exact hret _ _ _ _ dX9_note_19 hP hD hS
  · have hf := it_f c_3 hf
    refine lv_iload_n hx hb dX9_note_8 rfl (lv_at hl 2 rfl) ?_
    refine lv_if_lt (tgt := 18) hx hb dX9_note_9 (by decide) (fun c_4 => ?_) (fun c_4 => ?_)
    · have hf := it_t c_4 hf
      refine lv_iconst (v := (-1 : Int32)) hx hb dX9_note_18 (by decide) ?_
      cases hf
      exact hret _ _ _ _ dX9_note_19 hP hD hS
    · have hf := it_f c_4 hf
      refine lv_iload_n hx hb dX9_note_12 rfl (lv_at hl 2 rfl) ?_
      refine lv_bipush (v := (97 : Int32)) hx hb dX9_note_13 (by decide) ?_
      refine lv_icmp_lt (tgt := 20) hx hb dX9_note_15 (by decide) (fun c_5 => ?_) (fun c_5 => ?_)
      · have hf := it_t c_5 hf
        refine lv_aload_n hx hb dX9_note_20 rfl (lv_at hl 0 rfl) ?_
        refine rd (ci := 9) (C := RX9) (T := TX9) (N := 19) hx hb hts inX9 hown hK hP 0 3 rfl rfl (by decide) (hts _ q_fX9_33) rfl dX9_note_21 ?_
        refine lv_iload_n hx hb dX9_note_24 rfl (lv_at hl 3 rfl) ?_
        refine lv_if_eq (tgt := 32) hx hb dX9_note_25 (by decide) (fun c_6 => ?_) (fun c_6 => ?_)
        · have hf := it_t c_6 hf
          refine lv_iconst (v := (0 : Int32)) hx hb dX9_note_32 (by decide) ?_
          exact j33 o_notes_total o_notes_bins o_notes_kinds o_notes_targets p1 p2 (0 : Int32) H locs ls hf hP hD hS (lv_sub hl [1, 2] rfl)
        · have hf := it_f c_6 hf
          refine lv_iconst (v := (1 : Int32)) hx hb dX9_note_28 (by decide) ?_
          refine lv_goto (tgt := 33) hx hb dX9_note_29 (by decide) ?_
          exact j33 o_notes_total o_notes_bins o_notes_kinds o_notes_targets p1 p2 (1 : Int32) H locs ls hf hP hD hS (lv_sub hl [1, 2] rfl)
      · have hf := it_f c_5 hf
        refine lv_iconst (v := (-1 : Int32)) hx hb dX9_note_18 (by decide) ?_
        cases hf
        exact hret _ _ _ _ dX9_note_19 hP hD hS
def wX9_strike (cI cJ cZ : ClassId) (h_o h_o_notes h_o_notes_bins h_o_notes_kinds h_o_notes_targets h_o_way h_o_wave h_o_past h_o_ring h_o_turns h_o_beater h_o_reader h_o_dice h_o_trialWay h_o_trial h_o_otherTrial h_o_sumsRe h_o_sumsIm h_o_tally h_o_image h_o_tape : Nat) (o_imageKept : Int32) (o_taped : Int32) (o_notes_total : Int32) (o_notes_knownBy : Int32) (o_notes_bins : Nat → Int32) (o_notes_kinds : Nat → Int32) (o_notes_targets : Nat → Int32) : va_W := [(h_o, .inr (9, [.ref h_o_way, .ref h_o_wave, .ref h_o_past, .ref h_o_notes, .ref h_o_ring, .ref h_o_turns, .ref h_o_beater, .ref h_o_reader, .ref h_o_dice, .ref h_o_trialWay, .ref h_o_trial, .ref h_o_otherTrial, .ref h_o_sumsRe, .ref h_o_sumsIm, .ref h_o_tally, .ref h_o_image, .int o_imageKept, .ref h_o_tape, .int o_taped])), (h_o_notes, .inr (2, [.ref h_o_notes_kinds, .ref h_o_notes_targets, .ref h_o_notes_bins, .int o_notes_total, .int o_notes_knownBy])), (h_o_notes_bins, .inl (cI, 24, .inl o_notes_bins)), (h_o_notes_kinds, .inl (cI, 24, .inl o_notes_kinds)), (h_o_notes_targets, .inl (cI, 24, .inl o_notes_targets))]
def fX9_strike (o_notes_total : Int32) (o_notes_bins : Nat → Int32) (o_notes_kinds : Nat → Int32) (o_notes_targets : Nat → Int32) (p1 : Int32) : Option (Int32 × Int32 × (Nat → Int32) × (Nat → Int32) × (Nat → Int32)) :=
  if p1 < 0 then (
    some ((-1 : Int32), o_notes_total, o_notes_bins, o_notes_kinds, o_notes_targets)
  ) else (
    if p1 < o_notes_total then (
      bd5 (fX2_add o_notes_total o_notes_bins o_notes_kinds o_notes_targets (2 : Int32) p1 (0 : Int32)) (fun r_3 o_notes_total_4 o_notes_bins_5 o_notes_kinds_6 o_notes_targets_7 =>
      some (r_3, o_notes_total_4, o_notes_bins_5, o_notes_kinds_6, o_notes_targets_7))
    ) else (
      some ((-1 : Int32), o_notes_total, o_notes_bins, o_notes_kinds, o_notes_targets)
    )
  )
set_option maxHeartbeats 4000000 in
set_option maxRecDepth 100000 in
theorem tX9_strike (l : Launch) (G : va_G) (cI cJ cZ : ClassId) (sz : Nat) (h_o h_o_notes h_o_notes_bins h_o_notes_kinds h_o_notes_targets h_o_way h_o_wave h_o_past h_o_ring h_o_turns h_o_beater h_o_reader h_o_dice h_o_trialWay h_o_trial h_o_otherTrial h_o_sumsRe h_o_sumsIm h_o_tally h_o_image h_o_tape : Nat) (o_imageKept : Int32) (o_taped : Int32) (o_notes_total : Int32) (o_notes_knownBy : Int32) (o_notes_bins : Nat → Int32) (o_notes_kinds : Nat → Int32) (o_notes_targets : Nat → Int32) (p1 : Int32) (r : Int32) (out_o_notes_total : Int32) (out_o_notes_bins : Nat → Int32) (out_o_notes_kinds : Nat → Int32) (out_o_notes_targets : Nat → Int32) (hf : fX9_strike o_notes_total o_notes_bins o_notes_kinds o_notes_targets p1 = some (r, out_o_notes_total, out_o_notes_bins, out_o_notes_kinds, out_o_notes_targets)) : Met l yX9_strike (Cond.code yX9_strike cX9_strike 2 (some .int) :: BIG) ({ frames := 1, cells := 0, slots := 0, locals := 23 } : Room) (cP G (TY3 cI cJ cZ) [.ref h_o, .int p1] sz (wX9_strike cI cJ cZ h_o h_o_notes h_o_notes_bins h_o_notes_kinds h_o_notes_targets h_o_way h_o_wave h_o_past h_o_ring h_o_turns h_o_beater h_o_reader h_o_dice h_o_trialWay h_o_trial h_o_otherTrial h_o_sumsRe h_o_sumsIm h_o_tally h_o_image h_o_tape o_imageKept o_taped o_notes_total o_notes_knownBy o_notes_bins o_notes_kinds o_notes_targets)) (cQ G (TY3 cI cJ cZ) sz (wX9_strike cI cJ cZ h_o h_o_notes h_o_notes_bins h_o_notes_kinds h_o_notes_targets h_o_way h_o_wave h_o_past h_o_ring h_o_turns h_o_beater h_o_reader h_o_dice h_o_trialWay h_o_trial h_o_otherTrial h_o_sumsRe h_o_sumsIm h_o_tally h_o_image h_o_tape o_imageKept o_taped o_notes_total o_notes_knownBy o_notes_bins o_notes_kinds o_notes_targets) (wX9_strike cI cJ cZ h_o h_o_notes h_o_notes_bins h_o_notes_kinds h_o_notes_targets h_o_way h_o_wave h_o_past h_o_ring h_o_turns h_o_beater h_o_reader h_o_dice h_o_trialWay h_o_trial h_o_otherTrial h_o_sumsRe h_o_sumsIm h_o_tally h_o_image h_o_tape o_imageKept o_taped out_o_notes_total o_notes_knownBy out_o_notes_bins out_o_notes_kinds out_o_notes_targets) (some (.int r))) 0 0 (va_A (wX9_strike cI cJ cZ h_o h_o_notes h_o_notes_bins h_o_notes_kinds h_o_notes_targets h_o_way h_o_wave h_o_past h_o_ring h_o_turns h_o_beater h_o_reader h_o_dice h_o_trialWay h_o_trial h_o_otherTrial h_o_sumsRe h_o_sumsIm h_o_tally h_o_image h_o_tape o_imageKept o_taped o_notes_total o_notes_knownBy o_notes_bins o_notes_kinds o_notes_targets) sz) := by
  refine met_i (cc := cX9_strike) (maxL := 2) (plainFor_of_name (by decide)) (Nat.le_of_ble_eq_true rfl) (fun p e s m below meth c A ls Q hx hb hml hts hown hK hP hD hS hA hl hret => ?_)
  have hown : s.vm.findClass RX9 = some m.cls := hown
  have hl : lv_has ls 2 [(0, .ref h_o), (1, .int p1)] := hl
  unfold fX9_strike at hf
  obtain ⟨H, eH⟩ : ∃ H, H = s.heap := ⟨_, rfl⟩
  obtain ⟨locs, elocs⟩ : ∃ z : List Loc, z = [] := ⟨_, rfl⟩
  have hP : va_P G vwCl (wX9_strike cI cJ cZ h_o h_o_notes h_o_notes_bins h_o_notes_kinds h_o_notes_targets h_o_way h_o_wave h_o_past h_o_ring h_o_turns h_o_beater h_o_reader h_o_dice h_o_trialWay h_o_trial h_o_otherTrial h_o_sumsRe h_o_sumsIm h_o_tally h_o_image h_o_tape o_imageKept o_taped o_notes_total o_notes_knownBy o_notes_bins o_notes_kinds o_notes_targets) H := by rw [eH]; exact hP
  have hS : va_S A s.heap H locs := by rw [eH, elocs]; exact hS
  suffices hgo : W p l e ({ frames := 1, cells := 0, slots := 0, locals := 23 } : Room) s m ([.ref h_o, .int p1] : List Value).toArray below meth c H locs 0 0 Q (F0 m 0 ls []) by rw [eH, elocs] at hgo; exact hgo
  clear eH elocs
  refine lv_iload_n hx hb dX9_strike_0 rfl (lv_at hl 1 rfl) ?_
  refine lv_if_lt (tgt := 15) hx hb dX9_strike_1 (by decide) (fun c_1 => ?_) (fun c_1 => ?_)
  · have hf := it_t c_1 hf
    refine lv_iconst (v := (-1 : Int32)) hx hb dX9_strike_15 (by decide) ?_
    cases hf
    exact hret _ _ _ _ dX9_strike_16 hP hD hS
  · have hf := it_f c_1 hf
    refine lv_iload_n hx hb dX9_strike_4 rfl (lv_at hl 1 rfl) ?_
    refine lv_aload_n hx hb dX9_strike_5 rfl (lv_at hl 0 rfl) ?_
    refine rd (ci := 9) (C := RX9) (T := TX9) (N := 19) hx hb hts inX9 hown hK hP 0 3 rfl rfl (by decide) (hts _ q_fX9_33) rfl dX9_strike_6 ?_
    refine rd (ci := 2) (C := RX2) (T := TX2) (N := 5) hx hb hts inX2 hown hK hP 1 3 rfl rfl (by decide) (hts _ q_fX9_247) rfl dX9_strike_9 ?_
    refine lv_icmp_lt (tgt := 17) hx hb dX9_strike_12 (by decide) (fun c_2 => ?_) (fun c_2 => ?_)
    · have hf := it_t c_2 hf
      refine lv_aload_n hx hb dX9_strike_17 rfl (lv_at hl 0 rfl) ?_
      refine rd (ci := 9) (C := RX9) (T := TX9) (N := 19) hx hb hts inX9 hown hK hP 0 3 rfl rfl (by decide) (hts _ q_fX9_33) rfl dX9_strike_18 ?_
      refine lv_iconst (v := (2 : Int32)) hx hb dX9_strike_21 (by decide) ?_
      refine lv_iload_n hx hb dX9_strike_22 rfl (lv_at hl 1 rfl) ?_
      refine lv_iconst (v := (0 : Int32)) hx hb dX9_strike_23 (by decide) ?_
      obtain ⟨r_3, o_notes_total_4, o_notes_bins_5, o_notes_kinds_6, o_notes_targets_7, e_8, hf⟩ := bd5_x hf
      refine call_v [.int (2 : Int32), .int p1, .int (0 : Int32)] [] ⟨hx, hb, hml, hown, hts⟩ hK hP hD hS hA hl.1 (tX2_add l G cI cJ cZ H.size h_o_notes h_o_notes_bins h_o_notes_kinds h_o_notes_targets o_notes_total o_notes_knownBy o_notes_bins o_notes_kinds o_notes_targets (2 : Int32) p1 (0 : Int32) r_3 o_notes_total_4 o_notes_bins_5 o_notes_kinds_6 o_notes_targets_7 e_8) (cwV 3 hts (gv q_mX9_402 q_i_yX2_add q_s_yX2_add q_n_RX2 q_k_yX2_add) rfl rfl rfl (by decide +kernel) ⟨by decide, by decide⟩) rfl rfl (Nat.le_of_ble_eq_true rfl) dX9_strike_24 ⟨Nat.zero_le _, Nat.zero_le _⟩ (ci := 2) rfl 0 rfl [1, 2, 3, 4] [0] [0, 1, 2, 3, 4] rfl rfl (ws2 := (wX9_strike cI cJ cZ h_o h_o_notes h_o_notes_bins h_o_notes_kinds h_o_notes_targets h_o_way h_o_wave h_o_past h_o_ring h_o_turns h_o_beater h_o_reader h_o_dice h_o_trialWay h_o_trial h_o_otherTrial h_o_sumsRe h_o_sumsIm h_o_tally h_o_image h_o_tape o_imageKept o_taped o_notes_total_4 o_notes_knownBy o_notes_bins_5 o_notes_kinds_6 o_notes_targets_7)) rfl (fun H locs hP hD hS => ?_)
      refine W.eq (g2 := F0 m 27 ls [.int r_3]) rfl ?_
      cases hf
      exact hret _ _ _ _ dX9_strike_27 hP hD hS
    · have hf := it_f c_2 hf
      refine lv_iconst (v := (-1 : Int32)) hx hb dX9_strike_15 (by decide) ?_
      cases hf
      exact hret _ _ _ _ dX9_strike_16 hP hD hS
def wX9_known (cI cJ cZ : ClassId) (h_o h_o_notes h_o_way h_o_wave h_o_past h_o_ring h_o_turns h_o_beater h_o_reader h_o_dice h_o_trialWay h_o_trial h_o_otherTrial h_o_sumsRe h_o_sumsIm h_o_tally h_o_image h_o_tape h_o_notes_kinds h_o_notes_targets h_o_notes_bins : Nat) (o_imageKept : Int32) (o_taped : Int32) (o_notes_total : Int32) (o_notes_knownBy : Int32) : va_W := [(h_o, .inr (9, [.ref h_o_way, .ref h_o_wave, .ref h_o_past, .ref h_o_notes, .ref h_o_ring, .ref h_o_turns, .ref h_o_beater, .ref h_o_reader, .ref h_o_dice, .ref h_o_trialWay, .ref h_o_trial, .ref h_o_otherTrial, .ref h_o_sumsRe, .ref h_o_sumsIm, .ref h_o_tally, .ref h_o_image, .int o_imageKept, .ref h_o_tape, .int o_taped])), (h_o_notes, .inr (2, [.ref h_o_notes_kinds, .ref h_o_notes_targets, .ref h_o_notes_bins, .int o_notes_total, .int o_notes_knownBy]))]
def fX9_known (o_notes_total : Int32) (o_notes_knownBy : Int32) (p1 : Int32) : Option (Int32 × Int32) :=
  if p1 < (-1 : Int32) then (
    some ((0 : Int32), o_notes_knownBy)
  ) else (
    if p1 ≤ o_notes_total then (
      some ((1 : Int32), p1)
    ) else (
      some ((0 : Int32), o_notes_knownBy)
    )
  )
set_option maxHeartbeats 4000000 in
set_option maxRecDepth 100000 in
theorem tX9_known (l : Launch) (G : va_G) (cI cJ cZ : ClassId) (sz : Nat) (h_o h_o_notes h_o_way h_o_wave h_o_past h_o_ring h_o_turns h_o_beater h_o_reader h_o_dice h_o_trialWay h_o_trial h_o_otherTrial h_o_sumsRe h_o_sumsIm h_o_tally h_o_image h_o_tape h_o_notes_kinds h_o_notes_targets h_o_notes_bins : Nat) (o_imageKept : Int32) (o_taped : Int32) (o_notes_total : Int32) (o_notes_knownBy : Int32) (p1 : Int32) (r : Int32) (out_o_notes_knownBy : Int32) (hf : fX9_known o_notes_total o_notes_knownBy p1 = some (r, out_o_notes_knownBy)) : Met l yX9_known (Cond.code yX9_known cX9_known 2 (some .boolean) :: BIG) ({ frames := 0, cells := 0, slots := 0, locals := 0 } : Room) (cP G (TY3 cI cJ cZ) [.ref h_o, .int p1] sz (wX9_known cI cJ cZ h_o h_o_notes h_o_way h_o_wave h_o_past h_o_ring h_o_turns h_o_beater h_o_reader h_o_dice h_o_trialWay h_o_trial h_o_otherTrial h_o_sumsRe h_o_sumsIm h_o_tally h_o_image h_o_tape h_o_notes_kinds h_o_notes_targets h_o_notes_bins o_imageKept o_taped o_notes_total o_notes_knownBy)) (cQ G (TY3 cI cJ cZ) sz (wX9_known cI cJ cZ h_o h_o_notes h_o_way h_o_wave h_o_past h_o_ring h_o_turns h_o_beater h_o_reader h_o_dice h_o_trialWay h_o_trial h_o_otherTrial h_o_sumsRe h_o_sumsIm h_o_tally h_o_image h_o_tape h_o_notes_kinds h_o_notes_targets h_o_notes_bins o_imageKept o_taped o_notes_total o_notes_knownBy) (wX9_known cI cJ cZ h_o h_o_notes h_o_way h_o_wave h_o_past h_o_ring h_o_turns h_o_beater h_o_reader h_o_dice h_o_trialWay h_o_trial h_o_otherTrial h_o_sumsRe h_o_sumsIm h_o_tally h_o_image h_o_tape h_o_notes_kinds h_o_notes_targets h_o_notes_bins o_imageKept o_taped o_notes_total out_o_notes_knownBy) (some (.int r))) 0 0 (va_A (wX9_known cI cJ cZ h_o h_o_notes h_o_way h_o_wave h_o_past h_o_ring h_o_turns h_o_beater h_o_reader h_o_dice h_o_trialWay h_o_trial h_o_otherTrial h_o_sumsRe h_o_sumsIm h_o_tally h_o_image h_o_tape h_o_notes_kinds h_o_notes_targets h_o_notes_bins o_imageKept o_taped o_notes_total o_notes_knownBy) sz) := by
  refine met_z (cc := cX9_known) (maxL := 2) (plainFor_of_name (by decide)) (Nat.le_of_ble_eq_true rfl) (fun p e s m below meth c A ls Q hx hb hml hts hown hK hP hD hS hA hl hret => ?_)
  have hown : s.vm.findClass RX9 = some m.cls := hown
  have hl : lv_has ls 2 [(0, .ref h_o), (1, .int p1)] := hl
  unfold fX9_known at hf
  obtain ⟨H, eH⟩ : ∃ H, H = s.heap := ⟨_, rfl⟩
  obtain ⟨locs, elocs⟩ : ∃ z : List Loc, z = [] := ⟨_, rfl⟩
  have hP : va_P G vwCl (wX9_known cI cJ cZ h_o h_o_notes h_o_way h_o_wave h_o_past h_o_ring h_o_turns h_o_beater h_o_reader h_o_dice h_o_trialWay h_o_trial h_o_otherTrial h_o_sumsRe h_o_sumsIm h_o_tally h_o_image h_o_tape h_o_notes_kinds h_o_notes_targets h_o_notes_bins o_imageKept o_taped o_notes_total o_notes_knownBy) H := by rw [eH]; exact hP
  have hS : va_S A s.heap H locs := by rw [eH, elocs]; exact hS
  suffices hgo : W p l e ({ frames := 0, cells := 0, slots := 0, locals := 0 } : Room) s m ([.ref h_o, .int p1] : List Value).toArray below meth c H locs 0 0 Q (F0 m 0 ls []) by rw [eH, elocs] at hgo; exact hgo
  clear eH elocs
  refine lv_iload_n hx hb dX9_known_0 rfl (lv_at hl 1 rfl) ?_
  refine lv_iconst (v := (-1 : Int32)) hx hb dX9_known_1 (by decide) ?_
  refine lv_icmp_lt (tgt := 16) hx hb dX9_known_2 (by decide) (fun c_1 => ?_) (fun c_1 => ?_)
  · have hf := it_t c_1 hf
    refine lv_iconst (v := (0 : Int32)) hx hb dX9_known_16 (by decide) ?_
    cases hf
    exact hret _ _ _ _ dX9_known_17 rfl hP hD hS
  · have hf := it_f c_1 hf
    refine lv_iload_n hx hb dX9_known_5 rfl (lv_at hl 1 rfl) ?_
    refine lv_aload_n hx hb dX9_known_6 rfl (lv_at hl 0 rfl) ?_
    refine rd (ci := 9) (C := RX9) (T := TX9) (N := 19) hx hb hts inX9 hown hK hP 0 3 rfl rfl (by decide) (hts _ q_fX9_33) rfl dX9_known_7 ?_
    refine rd (ci := 2) (C := RX2) (T := TX2) (N := 5) hx hb hts inX2 hown hK hP 1 3 rfl rfl (by decide) (hts _ q_fX9_247) rfl dX9_known_10 ?_
    refine lv_icmp_le (tgt := 18) hx hb dX9_known_13 (by decide) (fun c_2 => ?_) (fun c_2 => ?_)
    · have hf := it_t c_2 hf
      refine lv_aload_n hx hb dX9_known_18 rfl (lv_at hl 0 rfl) ?_
      refine rd (ci := 9) (C := RX9) (T := TX9) (N := 19) hx hb hts inX9 hown hK hP 0 3 rfl rfl (by decide) (hts _ q_fX9_33) rfl dX9_known_19 ?_
      refine lv_iload_n hx hb dX9_known_22 rfl (lv_at hl 1 rfl) ?_
      refine wr (ci := 2) (C := RX2) (T := TX2) (N := 5) hx hb hts inX2 tyX2 tyX2_ok nmX2 hown hK hP hD hS 1 4 rfl rfl (by decide) (hts _ q_fX9_405) rfl rfl rfl (Nat.le_of_ble_eq_true rfl) dX9_known_23 (ws2 := (wX9_known cI cJ cZ h_o h_o_notes h_o_way h_o_wave h_o_past h_o_ring h_o_turns h_o_beater h_o_reader h_o_dice h_o_trialWay h_o_trial h_o_otherTrial h_o_sumsRe h_o_sumsIm h_o_tally h_o_image h_o_tape h_o_notes_kinds h_o_notes_targets h_o_notes_bins o_imageKept o_taped o_notes_total p1)) rfl (fun H locs hP hD hS => ?_)
      refine lv_iconst (v := (1 : Int32)) hx hb dX9_known_26 (by decide) ?_
      cases hf
      exact hret _ _ _ _ dX9_known_27 rfl hP hD hS
    · have hf := it_f c_2 hf
      refine lv_iconst (v := (0 : Int32)) hx hb dX9_known_16 (by decide) ?_
      cases hf
      exact hret _ _ _ _ dX9_known_17 rfl hP hD hS
def wX9_valuesByNote (cI cJ cZ : ClassId) (h_o h_o_notes h_o_ring h_o_wave h_o_notes_bins h_o_notes_kinds h_o_notes_targets h_o_ring_powers h_o_wave_wasRe h_o_way h_o_past h_o_turns h_o_beater h_o_reader h_o_dice h_o_trialWay h_o_trial h_o_otherTrial h_o_sumsRe h_o_sumsIm h_o_tally h_o_image h_o_tape h_o_wave_re h_o_wave_im h_o_wave_wasIm h_o_wave_halved : Nat) (o_imageKept : Int32) (o_taped : Int32) (o_notes_total : Int32) (o_notes_knownBy : Int32) (o_ring_size : Int32) (o_ring_log : Int32) (o_wave_exp : Int32) (o_wave_done : Int32) (o_wave_backward : Int32) (o_notes_bins : Nat → Int32) (o_notes_kinds : Nat → Int32) (o_notes_targets : Nat → Int32) (o_ring_powers : Nat → Int32) (o_wave_wasRe : Nat → Int32) : va_W := [(h_o, .inr (9, [.ref h_o_way, .ref h_o_wave, .ref h_o_past, .ref h_o_notes, .ref h_o_ring, .ref h_o_turns, .ref h_o_beater, .ref h_o_reader, .ref h_o_dice, .ref h_o_trialWay, .ref h_o_trial, .ref h_o_otherTrial, .ref h_o_sumsRe, .ref h_o_sumsIm, .ref h_o_tally, .ref h_o_image, .int o_imageKept, .ref h_o_tape, .int o_taped])), (h_o_notes, .inr (2, [.ref h_o_notes_kinds, .ref h_o_notes_targets, .ref h_o_notes_bins, .int o_notes_total, .int o_notes_knownBy])), (h_o_ring, .inr (5, [.ref h_o_ring_powers, .int o_ring_size, .int o_ring_log])), (h_o_wave, .inr (7, [.ref h_o_wave_re, .ref h_o_wave_im, .ref h_o_wave_wasRe, .ref h_o_wave_wasIm, .ref h_o_wave_halved, .int o_wave_exp, .int o_wave_done, .int o_wave_backward])), (h_o_notes_bins, .inl (cI, 24, .inl o_notes_bins)), (h_o_notes_kinds, .inl (cI, 24, .inl o_notes_kinds)), (h_o_notes_targets, .inl (cI, 24, .inl o_notes_targets)), (h_o_ring_powers, .inl (cI, 32, .inl o_ring_powers)), (h_o_wave_wasRe, .inl (cI, 32, .inl o_wave_wasRe))]
def fX9_valuesByNote_109 (o_ring_size : Int32) (o_notes_bins : Nat → Int32) (o_ring_powers : Nat → Int32) (k54 : Int32 → Int32 → Int32 → Int32 → Int32 → Int32 → Int32 → Option (Int32)) (v1 : Int32) (v2 : Int32) (v3 : Int32) (v4 : Int32) (v5 : Int32) (v6 : Int32) (v7 : Int32) : Option (Int32) :=
  nm (v7 + (1 : Int32)) (fun v7_14 =>
  k54 v1 v2 v3 v4 v5 v6 v7_14)
def fX9_valuesByNote_91 (o_ring_size : Int32) (o_notes_bins : Nat → Int32) (o_ring_powers : Nat → Int32) (k54 : Int32 → Int32 → Int32 → Int32 → Int32 → Int32 → Int32 → Option (Int32)) (v1 : Int32) (v2 : Int32) (v3 : Int32) (v4 : Int32) (v5 : Int32) (v6 : Int32) (v7 : Int32) (s0 : Int32) : Option (Int32) :=
  if s0 = v5 then (
    nm (v6 ||| ((1 : Int32) <<< (v7 &&& 31))) (fun v6_13 =>
    fX9_valuesByNote_109 o_ring_size o_notes_bins o_ring_powers k54 v1 v2 v3 v4 v5 v6_13 v7)
  ) else (
    fX9_valuesByNote_109 o_ring_size o_notes_bins o_ring_powers k54 v1 v2 v3 v4 v5 v6 v7
  )
def fX9_valuesByNote_54 (o_ring_size : Int32) (o_notes_bins : Nat → Int32) (o_ring_powers : Nat → Int32) : Nat → Int32 → Int32 → Int32 → Int32 → Int32 → Int32 → Int32 → Option (Int32)
  | 0, _, _, _, _, _, _, _ => none
  | n + 1, v1, v2, v3, v4, v5, v6, v7 =>
    if (16 : Int32) ≤ v7 then (
      some v6
    ) else (
      bd1 (fX5_binWith o_ring_size o_ring_powers v4 v7 v3 v2) (fun r_8 =>
      gd (inb v1 24) (
      if r_8 < (o_notes_bins (Int32.toNatClampNeg v1)) then (
        fX9_valuesByNote_91 o_ring_size o_notes_bins o_ring_powers (fX9_valuesByNote_54 o_ring_size o_notes_bins o_ring_powers n) v1 v2 v3 v4 v5 v6 v7 (0 : Int32)
      ) else (
        fX9_valuesByNote_91 o_ring_size o_notes_bins o_ring_powers (fX9_valuesByNote_54 o_ring_size o_notes_bins o_ring_powers n) v1 v2 v3 v4 v5 v6 v7 (1 : Int32)
      )))
    )
def fX9_valuesByNote_46 (o_ring_size : Int32) (o_notes_bins : Nat → Int32) (o_ring_powers : Nat → Int32) (v1 : Int32) (v2 : Int32) (v3 : Int32) (v4 : Int32) (s0 : Int32) : Option (Int32) :=
  fX9_valuesByNote_54 o_ring_size o_notes_bins o_ring_powers FU v1 v2 v3 v4 s0 (0 : Int32) (0 : Int32)
def fX9_valuesByNote (o_ring_size : Int32) (o_notes_bins : Nat → Int32) (o_notes_kinds : Nat → Int32) (o_notes_targets : Nat → Int32) (o_ring_powers : Nat → Int32) (o_wave_wasRe : Nat → Int32) (p1 : Int32) (p2 : Int32) : Option (Int32) :=
  gd (inb p1 24) (
  nm (o_notes_targets (Int32.toNatClampNeg p1)) (fun v3_2 =>
  bd1 (fX5_binWithout o_ring_size o_wave_wasRe o_ring_powers v3_2 p2) (fun r_3 =>
  gd (inb p1 24) (
  if (o_notes_kinds (Int32.toNatClampNeg p1)) = (1 : Int32) then (
    fX9_valuesByNote_46 o_ring_size o_notes_bins o_ring_powers p1 p2 v3_2 r_3 (1 : Int32)
  ) else (
    fX9_valuesByNote_46 o_ring_size o_notes_bins o_ring_powers p1 p2 v3_2 r_3 (0 : Int32)
  )))))
set_option maxHeartbeats 4000000 in
set_option maxRecDepth 100000 in
theorem tX9_valuesByNote (l : Launch) (G : va_G) (cI cJ cZ : ClassId) (sz : Nat) (h_o h_o_notes h_o_ring h_o_wave h_o_notes_bins h_o_notes_kinds h_o_notes_targets h_o_ring_powers h_o_wave_wasRe h_o_way h_o_past h_o_turns h_o_beater h_o_reader h_o_dice h_o_trialWay h_o_trial h_o_otherTrial h_o_sumsRe h_o_sumsIm h_o_tally h_o_image h_o_tape h_o_wave_re h_o_wave_im h_o_wave_wasIm h_o_wave_halved : Nat) (o_imageKept : Int32) (o_taped : Int32) (o_notes_total : Int32) (o_notes_knownBy : Int32) (o_ring_size : Int32) (o_ring_log : Int32) (o_wave_exp : Int32) (o_wave_done : Int32) (o_wave_backward : Int32) (o_notes_bins : Nat → Int32) (o_notes_kinds : Nat → Int32) (o_notes_targets : Nat → Int32) (o_ring_powers : Nat → Int32) (o_wave_wasRe : Nat → Int32) (p1 : Int32) (p2 : Int32) (r : Int32) (hf : fX9_valuesByNote o_ring_size o_notes_bins o_notes_kinds o_notes_targets o_ring_powers o_wave_wasRe p1 p2 = some r) : Met l yX9_valuesByNote (Cond.code yX9_valuesByNote cX9_valuesByNote 9 (some .int) :: BIG) ({ frames := 2, cells := 0, slots := 0, locals := 47 } : Room) (cP G (TY3 cI cJ cZ) [.ref h_o, .int p1, .int p2] sz (wX9_valuesByNote cI cJ cZ h_o h_o_notes h_o_ring h_o_wave h_o_notes_bins h_o_notes_kinds h_o_notes_targets h_o_ring_powers h_o_wave_wasRe h_o_way h_o_past h_o_turns h_o_beater h_o_reader h_o_dice h_o_trialWay h_o_trial h_o_otherTrial h_o_sumsRe h_o_sumsIm h_o_tally h_o_image h_o_tape h_o_wave_re h_o_wave_im h_o_wave_wasIm h_o_wave_halved o_imageKept o_taped o_notes_total o_notes_knownBy o_ring_size o_ring_log o_wave_exp o_wave_done o_wave_backward o_notes_bins o_notes_kinds o_notes_targets o_ring_powers o_wave_wasRe)) (cQ G (TY3 cI cJ cZ) sz (wX9_valuesByNote cI cJ cZ h_o h_o_notes h_o_ring h_o_wave h_o_notes_bins h_o_notes_kinds h_o_notes_targets h_o_ring_powers h_o_wave_wasRe h_o_way h_o_past h_o_turns h_o_beater h_o_reader h_o_dice h_o_trialWay h_o_trial h_o_otherTrial h_o_sumsRe h_o_sumsIm h_o_tally h_o_image h_o_tape h_o_wave_re h_o_wave_im h_o_wave_wasIm h_o_wave_halved o_imageKept o_taped o_notes_total o_notes_knownBy o_ring_size o_ring_log o_wave_exp o_wave_done o_wave_backward o_notes_bins o_notes_kinds o_notes_targets o_ring_powers o_wave_wasRe) (wX9_valuesByNote cI cJ cZ h_o h_o_notes h_o_ring h_o_wave h_o_notes_bins h_o_notes_kinds h_o_notes_targets h_o_ring_powers h_o_wave_wasRe h_o_way h_o_past h_o_turns h_o_beater h_o_reader h_o_dice h_o_trialWay h_o_trial h_o_otherTrial h_o_sumsRe h_o_sumsIm h_o_tally h_o_image h_o_tape h_o_wave_re h_o_wave_im h_o_wave_wasIm h_o_wave_halved o_imageKept o_taped o_notes_total o_notes_knownBy o_ring_size o_ring_log o_wave_exp o_wave_done o_wave_backward o_notes_bins o_notes_kinds o_notes_targets o_ring_powers o_wave_wasRe) (some (.int r))) 0 0 (va_A (wX9_valuesByNote cI cJ cZ h_o h_o_notes h_o_ring h_o_wave h_o_notes_bins h_o_notes_kinds h_o_notes_targets h_o_ring_powers h_o_wave_wasRe h_o_way h_o_past h_o_turns h_o_beater h_o_reader h_o_dice h_o_trialWay h_o_trial h_o_otherTrial h_o_sumsRe h_o_sumsIm h_o_tally h_o_image h_o_tape h_o_wave_re h_o_wave_im h_o_wave_wasIm h_o_wave_halved o_imageKept o_taped o_notes_total o_notes_knownBy o_ring_size o_ring_log o_wave_exp o_wave_done o_wave_backward o_notes_bins o_notes_kinds o_notes_targets o_ring_powers o_wave_wasRe) sz) := by
  refine met_i (cc := cX9_valuesByNote) (maxL := 9) (plainFor_of_name (by decide)) (Nat.le_of_ble_eq_true rfl) (fun p e s m below meth c A ls Q hx hb hml hts hown hK hP hD hS hA hl hret => ?_)
  have hown : s.vm.findClass RX9 = some m.cls := hown
  have hl : lv_has ls 9 [(0, .ref h_o), (1, .int p1), (2, .int p2)] := hl
  have j109 : ∀ (k54 : Int32 → Int32 → Int32 → Int32 → Int32 → Int32 → Int32 → Option (Int32)), (∀ (v1 : Int32) (v2 : Int32) (v3 : Int32) (v4 : Int32) (v5 : Int32) (v6 : Int32) (v7 : Int32) (H : Heap) (locs : List Loc) (ls : Array Slot), k54 v1 v2 v3 v4 v5 v6 v7 = some r → va_P G vwCl (wX9_valuesByNote cI cJ cZ h_o h_o_notes h_o_ring h_o_wave h_o_notes_bins h_o_notes_kinds h_o_notes_targets h_o_ring_powers h_o_wave_wasRe h_o_way h_o_past h_o_turns h_o_beater h_o_reader h_o_dice h_o_trialWay h_o_trial h_o_otherTrial h_o_sumsRe h_o_sumsIm h_o_tally h_o_image h_o_tape h_o_wave_re h_o_wave_im h_o_wave_wasIm h_o_wave_halved o_imageKept o_taped o_notes_total o_notes_knownBy o_ring_size o_ring_log o_wave_exp o_wave_done o_wave_backward o_notes_bins o_notes_kinds o_notes_targets o_ring_powers o_wave_wasRe) H → va_D A (wX9_valuesByNote cI cJ cZ h_o h_o_notes h_o_ring h_o_wave h_o_notes_bins h_o_notes_kinds h_o_notes_targets h_o_ring_powers h_o_wave_wasRe h_o_way h_o_past h_o_turns h_o_beater h_o_reader h_o_dice h_o_trialWay h_o_trial h_o_otherTrial h_o_sumsRe h_o_sumsIm h_o_tally h_o_image h_o_tape h_o_wave_re h_o_wave_im h_o_wave_wasIm h_o_wave_halved o_imageKept o_taped o_notes_total o_notes_knownBy o_ring_size o_ring_log o_wave_exp o_wave_done o_wave_backward o_notes_bins o_notes_kinds o_notes_targets o_ring_powers o_wave_wasRe) → va_S A s.heap H locs → lv_has ls 9 [(0, .ref h_o), (1, .int v1), (2, .int v2), (3, .int v3), (4, .int v4), (5, .int v5), (6, .int v6), (7, .int v7)] → W p l e ({ frames := 2, cells := 0, slots := 0, locals := 47 } : Room) s m ([.ref h_o, .int p1, .int p2] : List Value).toArray below meth c H locs 0 0 Q (F0 m 54 ls [])) → ∀ (v1 : Int32) (v2 : Int32) (v3 : Int32) (v4 : Int32) (v5 : Int32) (v6 : Int32) (v7 : Int32) (H : Heap) (locs : List Loc) (ls : Array Slot), fX9_valuesByNote_109 o_ring_size o_notes_bins o_ring_powers k54 v1 v2 v3 v4 v5 v6 v7 = some r → va_P G vwCl (wX9_valuesByNote cI cJ cZ h_o h_o_notes h_o_ring h_o_wave h_o_notes_bins h_o_notes_kinds h_o_notes_targets h_o_ring_powers h_o_wave_wasRe h_o_way h_o_past h_o_turns h_o_beater h_o_reader h_o_dice h_o_trialWay h_o_trial h_o_otherTrial h_o_sumsRe h_o_sumsIm h_o_tally h_o_image h_o_tape h_o_wave_re h_o_wave_im h_o_wave_wasIm h_o_wave_halved o_imageKept o_taped o_notes_total o_notes_knownBy o_ring_size o_ring_log o_wave_exp o_wave_done o_wave_backward o_notes_bins o_notes_kinds o_notes_targets o_ring_powers o_wave_wasRe) H → va_D A (wX9_valuesByNote cI cJ cZ h_o h_o_notes h_o_ring h_o_wave h_o_notes_bins h_o_notes_kinds h_o_notes_targets h_o_ring_powers h_o_wave_wasRe h_o_way h_o_past h_o_turns h_o_beater h_o_reader h_o_dice h_o_trialWay h_o_trial h_o_otherTrial h_o_sumsRe h_o_sumsIm h_o_tally h_o_image h_o_tape h_o_wave_re h_o_wave_im h_o_wave_wasIm h_o_wave_halved o_imageKept o_taped o_notes_total o_notes_knownBy o_ring_size o_ring_log o_wave_exp o_wave_done o_wave_backward o_notes_bins o_notes_kinds o_notes_targets o_ring_powers o_wave_wasRe) → va_S A s.heap H locs → lv_has ls 9 [(0, .ref h_o), (1, .int v1), (2, .int v2), (3, .int v3), (4, .int v4), (5, .int v5), (6, .int v6), (7, .int v7)] → W p l e ({ frames := 2, cells := 0, slots := 0, locals := 47 } : Room) s m ([.ref h_o, .int p1, .int p2] : List Value).toArray below meth c H locs 0 0 Q (F0 m 109 ls []) := by
    intro k54 hk54 v1 v2 v3 v4 v5 v6 v7 H locs ls hf hP hD hS hl
    unfold fX9_valuesByNote_109 at hf
    obtain ⟨v7_14, ev7_14⟩ : ∃ y : Int32, y = v7 + (1 : Int32) := ⟨_, rfl⟩
    have hf := nm_x ev7_14 hf
    refine lv_iinc (v := v7_14) (lv' := [(7, .int v7_14), (0, .ref h_o), (1, .int v1), (2, .int v2), (3, .int v3), (4, .int v4), (5, .int v5), (6, .int v6)]) hx hb dX9_valuesByNote_109 hl (k := 7) rfl (by rw [ev7_14]; rfl) (by decide) rfl (fun ls hl => ?_)
    refine lv_goto (tgt := 54) hx hb dX9_valuesByNote_112 (by decide) ?_
    exact hk54 v1 v2 v3 v4 v5 v6 v7_14 H locs ls hf hP hD hS (lv_sub hl [1, 2, 3, 4, 5, 6, 7, 0] rfl)
  have j91 : ∀ (k54 : Int32 → Int32 → Int32 → Int32 → Int32 → Int32 → Int32 → Option (Int32)), (∀ (v1 : Int32) (v2 : Int32) (v3 : Int32) (v4 : Int32) (v5 : Int32) (v6 : Int32) (v7 : Int32) (H : Heap) (locs : List Loc) (ls : Array Slot), k54 v1 v2 v3 v4 v5 v6 v7 = some r → va_P G vwCl (wX9_valuesByNote cI cJ cZ h_o h_o_notes h_o_ring h_o_wave h_o_notes_bins h_o_notes_kinds h_o_notes_targets h_o_ring_powers h_o_wave_wasRe h_o_way h_o_past h_o_turns h_o_beater h_o_reader h_o_dice h_o_trialWay h_o_trial h_o_otherTrial h_o_sumsRe h_o_sumsIm h_o_tally h_o_image h_o_tape h_o_wave_re h_o_wave_im h_o_wave_wasIm h_o_wave_halved o_imageKept o_taped o_notes_total o_notes_knownBy o_ring_size o_ring_log o_wave_exp o_wave_done o_wave_backward o_notes_bins o_notes_kinds o_notes_targets o_ring_powers o_wave_wasRe) H → va_D A (wX9_valuesByNote cI cJ cZ h_o h_o_notes h_o_ring h_o_wave h_o_notes_bins h_o_notes_kinds h_o_notes_targets h_o_ring_powers h_o_wave_wasRe h_o_way h_o_past h_o_turns h_o_beater h_o_reader h_o_dice h_o_trialWay h_o_trial h_o_otherTrial h_o_sumsRe h_o_sumsIm h_o_tally h_o_image h_o_tape h_o_wave_re h_o_wave_im h_o_wave_wasIm h_o_wave_halved o_imageKept o_taped o_notes_total o_notes_knownBy o_ring_size o_ring_log o_wave_exp o_wave_done o_wave_backward o_notes_bins o_notes_kinds o_notes_targets o_ring_powers o_wave_wasRe) → va_S A s.heap H locs → lv_has ls 9 [(0, .ref h_o), (1, .int v1), (2, .int v2), (3, .int v3), (4, .int v4), (5, .int v5), (6, .int v6), (7, .int v7)] → W p l e ({ frames := 2, cells := 0, slots := 0, locals := 47 } : Room) s m ([.ref h_o, .int p1, .int p2] : List Value).toArray below meth c H locs 0 0 Q (F0 m 54 ls [])) → ∀ (v1 : Int32) (v2 : Int32) (v3 : Int32) (v4 : Int32) (v5 : Int32) (v6 : Int32) (v7 : Int32) (s0 : Int32) (H : Heap) (locs : List Loc) (ls : Array Slot), fX9_valuesByNote_91 o_ring_size o_notes_bins o_ring_powers k54 v1 v2 v3 v4 v5 v6 v7 s0 = some r → va_P G vwCl (wX9_valuesByNote cI cJ cZ h_o h_o_notes h_o_ring h_o_wave h_o_notes_bins h_o_notes_kinds h_o_notes_targets h_o_ring_powers h_o_wave_wasRe h_o_way h_o_past h_o_turns h_o_beater h_o_reader h_o_dice h_o_trialWay h_o_trial h_o_otherTrial h_o_sumsRe h_o_sumsIm h_o_tally h_o_image h_o_tape h_o_wave_re h_o_wave_im h_o_wave_wasIm h_o_wave_halved o_imageKept o_taped o_notes_total o_notes_knownBy o_ring_size o_ring_log o_wave_exp o_wave_done o_wave_backward o_notes_bins o_notes_kinds o_notes_targets o_ring_powers o_wave_wasRe) H → va_D A (wX9_valuesByNote cI cJ cZ h_o h_o_notes h_o_ring h_o_wave h_o_notes_bins h_o_notes_kinds h_o_notes_targets h_o_ring_powers h_o_wave_wasRe h_o_way h_o_past h_o_turns h_o_beater h_o_reader h_o_dice h_o_trialWay h_o_trial h_o_otherTrial h_o_sumsRe h_o_sumsIm h_o_tally h_o_image h_o_tape h_o_wave_re h_o_wave_im h_o_wave_wasIm h_o_wave_halved o_imageKept o_taped o_notes_total o_notes_knownBy o_ring_size o_ring_log o_wave_exp o_wave_done o_wave_backward o_notes_bins o_notes_kinds o_notes_targets o_ring_powers o_wave_wasRe) → va_S A s.heap H locs → lv_has ls 9 [(0, .ref h_o), (1, .int v1), (2, .int v2), (3, .int v3), (4, .int v4), (5, .int v5), (6, .int v6), (7, .int v7)] → W p l e ({ frames := 2, cells := 0, slots := 0, locals := 47 } : Room) s m ([.ref h_o, .int p1, .int p2] : List Value).toArray below meth c H locs 0 0 Q (F0 m 91 ls [.int s0]) := by
    intro k54 hk54 v1 v2 v3 v4 v5 v6 v7 s0 H locs ls hf hP hD hS hl
    unfold fX9_valuesByNote_91 at hf
    refine lv_istore (lv' := [(8, .int s0), (0, .ref h_o), (1, .int v1), (2, .int v2), (3, .int v3), (4, .int v4), (5, .int v5), (6, .int v6), (7, .int v7)]) hx hb dX9_valuesByNote_91 hl (by decide) rfl (fun ls hl => ?_)
    refine lv_iload hx hb dX9_valuesByNote_93 (lv_at hl 0 rfl) ?_
    refine lv_iload hx hb dX9_valuesByNote_95 (lv_at hl 6 rfl) ?_
    refine lv_icmp_ne (tgt := 109) hx hb dX9_valuesByNote_97 (by decide) (fun c_12 => ?_) (fun c_12 => ?_)
    · have hf := it_f c_12 hf
      exact j109 k54 hk54 v1 v2 v3 v4 v5 v6 v7 H locs ls hf hP hD hS (lv_sub hl [1, 2, 3, 4, 5, 6, 7, 8] rfl)
    · have hf := it_t c_12 hf
      refine lv_iload hx hb dX9_valuesByNote_100 (lv_at hl 7 rfl) ?_
      refine lv_iconst (v := (1 : Int32)) hx hb dX9_valuesByNote_102 (by decide) ?_
      refine lv_iload hx hb dX9_valuesByNote_103 (lv_at hl 8 rfl) ?_
      refine lv_ishl hx hb dX9_valuesByNote_105 ?_
      refine lv_ior hx hb dX9_valuesByNote_106 ?_
      refine lv_topi (fun v6_13 ev6_13 => ?_)
      have hf := nm_x ev6_13 hf
      refine lv_istore (lv' := [(6, .int v6_13), (8, .int s0), (0, .ref h_o), (1, .int v1), (2, .int v2), (3, .int v3), (4, .int v4), (5, .int v5), (7, .int v7)]) hx hb dX9_valuesByNote_107 hl (by decide) rfl (fun ls hl => ?_)
      exact j109 k54 hk54 v1 v2 v3 v4 v5 v6_13 v7 H locs ls hf hP hD hS (lv_sub hl [2, 3, 4, 5, 6, 7, 0, 8] rfl)
  have j54 : ∀ (n : Nat) (v1 : Int32) (v2 : Int32) (v3 : Int32) (v4 : Int32) (v5 : Int32) (v6 : Int32) (v7 : Int32) (H : Heap) (locs : List Loc) (ls : Array Slot), fX9_valuesByNote_54 o_ring_size o_notes_bins o_ring_powers n v1 v2 v3 v4 v5 v6 v7 = some r → va_P G vwCl (wX9_valuesByNote cI cJ cZ h_o h_o_notes h_o_ring h_o_wave h_o_notes_bins h_o_notes_kinds h_o_notes_targets h_o_ring_powers h_o_wave_wasRe h_o_way h_o_past h_o_turns h_o_beater h_o_reader h_o_dice h_o_trialWay h_o_trial h_o_otherTrial h_o_sumsRe h_o_sumsIm h_o_tally h_o_image h_o_tape h_o_wave_re h_o_wave_im h_o_wave_wasIm h_o_wave_halved o_imageKept o_taped o_notes_total o_notes_knownBy o_ring_size o_ring_log o_wave_exp o_wave_done o_wave_backward o_notes_bins o_notes_kinds o_notes_targets o_ring_powers o_wave_wasRe) H → va_D A (wX9_valuesByNote cI cJ cZ h_o h_o_notes h_o_ring h_o_wave h_o_notes_bins h_o_notes_kinds h_o_notes_targets h_o_ring_powers h_o_wave_wasRe h_o_way h_o_past h_o_turns h_o_beater h_o_reader h_o_dice h_o_trialWay h_o_trial h_o_otherTrial h_o_sumsRe h_o_sumsIm h_o_tally h_o_image h_o_tape h_o_wave_re h_o_wave_im h_o_wave_wasIm h_o_wave_halved o_imageKept o_taped o_notes_total o_notes_knownBy o_ring_size o_ring_log o_wave_exp o_wave_done o_wave_backward o_notes_bins o_notes_kinds o_notes_targets o_ring_powers o_wave_wasRe) → va_S A s.heap H locs → lv_has ls 9 [(0, .ref h_o), (1, .int v1), (2, .int v2), (3, .int v3), (4, .int v4), (5, .int v5), (6, .int v6), (7, .int v7)] → W p l e ({ frames := 2, cells := 0, slots := 0, locals := 47 } : Room) s m ([.ref h_o, .int p1, .int p2] : List Value).toArray below meth c H locs 0 0 Q (F0 m 54 ls []) := by
    intro n
    induction n with
    | zero =>
      intro v1 v2 v3 v4 v5 v6 v7 H locs ls hf
      have hf : (none : Option (Int32)) = some r := hf
      cases hf
    | succ n ih =>
      intro v1 v2 v3 v4 v5 v6 v7 H locs ls hf hP hD hS hl
      rw [fX9_valuesByNote_54.eq_2] at hf
      refine lv_iload hx hb dX9_valuesByNote_54 (lv_at hl 7 rfl) ?_
      refine lv_bipush (v := (16 : Int32)) hx hb dX9_valuesByNote_56 (by decide) ?_
      refine lv_icmp_ge (tgt := 115) hx hb dX9_valuesByNote_58 (by decide) (fun c_7 => ?_) (fun c_7 => ?_)
      · have hf := it_t c_7 hf
        refine lv_iload hx hb dX9_valuesByNote_115 (lv_at hl 6 rfl) ?_
        cases hf
        exact hret _ _ _ _ dX9_valuesByNote_117 hP hD hS
      · have hf := it_f c_7 hf
        refine lv_aload_n hx hb dX9_valuesByNote_61 rfl (lv_at hl 0 rfl) ?_
        refine rd (ci := 9) (C := RX9) (T := TX9) (N := 19) hx hb hts inX9 hown hK hP 0 4 rfl rfl (by decide) (hts _ q_fX9_40) rfl dX9_valuesByNote_62 ?_
        refine lv_iload hx hb dX9_valuesByNote_65 (lv_at hl 4 rfl) ?_
        refine lv_iload hx hb dX9_valuesByNote_67 (lv_at hl 7 rfl) ?_
        refine lv_iload_n hx hb dX9_valuesByNote_69 rfl (lv_at hl 3 rfl) ?_
        refine lv_iload_n hx hb dX9_valuesByNote_70 rfl (lv_at hl 2 rfl) ?_
        obtain ⟨r_8, e_9, hf⟩ := bd1_x hf
        refine call_v [.int v4, .int v7, .int v3, .int v2] [] ⟨hx, hb, hml, hown, hts⟩ hK hP hD hS hA hl.1 (tX5_binWith l G cI cJ cZ H.size h_o_ring h_o_ring_powers o_ring_size o_ring_log o_ring_powers v4 v7 v3 v2 r_8 e_9) (cwV 4 hts (gv q_mX9_424 q_i_yX5_binWith q_s_yX5_binWith q_n_RX5 q_k_yX5_binWith) rfl rfl rfl (by decide +kernel) ⟨by decide, by decide⟩) rfl rfl (Nat.le_of_ble_eq_true rfl) dX9_valuesByNote_71 ⟨Nat.zero_le _, Nat.zero_le _⟩ (ci := 5) rfl 0 rfl [2, 7] [0, 1, 3, 4, 5, 6, 8] [0, 1, 7, 2, 3, 4, 5, 8, 6] rfl rfl (ws2 := (wX9_valuesByNote cI cJ cZ h_o h_o_notes h_o_ring h_o_wave h_o_notes_bins h_o_notes_kinds h_o_notes_targets h_o_ring_powers h_o_wave_wasRe h_o_way h_o_past h_o_turns h_o_beater h_o_reader h_o_dice h_o_trialWay h_o_trial h_o_otherTrial h_o_sumsRe h_o_sumsIm h_o_tally h_o_image h_o_tape h_o_wave_re h_o_wave_im h_o_wave_wasIm h_o_wave_halved o_imageKept o_taped o_notes_total o_notes_knownBy o_ring_size o_ring_log o_wave_exp o_wave_done o_wave_backward o_notes_bins o_notes_kinds o_notes_targets o_ring_powers o_wave_wasRe)) rfl (fun H locs hP hD hS => ?_)
        refine W.eq (g2 := F0 m 74 ls [.int r_8]) rfl ?_
        refine lv_aload_n hx hb dX9_valuesByNote_74 rfl (lv_at hl 0 rfl) ?_
        refine rd (ci := 9) (C := RX9) (T := TX9) (N := 19) hx hb hts inX9 hown hK hP 0 3 rfl rfl (by decide) (hts _ q_fX9_33) rfl dX9_valuesByNote_75 ?_
        refine rd (ci := 2) (C := RX2) (T := TX2) (N := 5) hx hb hts inX2 hown hK hP 1 2 rfl rfl (by decide) (hts _ q_fX9_427) rfl dX9_valuesByNote_78 ?_
        refine lv_iload_n hx hb dX9_valuesByNote_81 rfl (lv_at hl 1 rfl) ?_
        obtain ⟨g_10, hf⟩ := gd_x hf
        refine va_iald hx hb hK hP 4 0 rfl rfl (inb_x g_10) dX9_valuesByNote_82 ?_
        refine lv_icmp_lt (tgt := 90) hx hb dX9_valuesByNote_83 (by decide) (fun c_11 => ?_) (fun c_11 => ?_)
        · have hf := it_t c_11 hf
          refine lv_iconst (v := (0 : Int32)) hx hb dX9_valuesByNote_90 (by decide) ?_
          exact j91 (fX9_valuesByNote_54 o_ring_size o_notes_bins o_ring_powers n) ih v1 v2 v3 v4 v5 v6 v7 (0 : Int32) H locs ls hf hP hD hS (lv_sub hl [0, 1, 2, 3, 4, 5, 6, 7] rfl)
        · have hf := it_f c_11 hf
          refine lv_iconst (v := (1 : Int32)) hx hb dX9_valuesByNote_86 (by decide) ?_
          refine lv_goto (tgt := 91) hx hb dX9_valuesByNote_87 (by decide) ?_
          exact j91 (fX9_valuesByNote_54 o_ring_size o_notes_bins o_ring_powers n) ih v1 v2 v3 v4 v5 v6 v7 (1 : Int32) H locs ls hf hP hD hS (lv_sub hl [0, 1, 2, 3, 4, 5, 6, 7] rfl)
  have j46 : ∀ (v1 : Int32) (v2 : Int32) (v3 : Int32) (v4 : Int32) (s0 : Int32) (H : Heap) (locs : List Loc) (ls : Array Slot), fX9_valuesByNote_46 o_ring_size o_notes_bins o_ring_powers v1 v2 v3 v4 s0 = some r → va_P G vwCl (wX9_valuesByNote cI cJ cZ h_o h_o_notes h_o_ring h_o_wave h_o_notes_bins h_o_notes_kinds h_o_notes_targets h_o_ring_powers h_o_wave_wasRe h_o_way h_o_past h_o_turns h_o_beater h_o_reader h_o_dice h_o_trialWay h_o_trial h_o_otherTrial h_o_sumsRe h_o_sumsIm h_o_tally h_o_image h_o_tape h_o_wave_re h_o_wave_im h_o_wave_wasIm h_o_wave_halved o_imageKept o_taped o_notes_total o_notes_knownBy o_ring_size o_ring_log o_wave_exp o_wave_done o_wave_backward o_notes_bins o_notes_kinds o_notes_targets o_ring_powers o_wave_wasRe) H → va_D A (wX9_valuesByNote cI cJ cZ h_o h_o_notes h_o_ring h_o_wave h_o_notes_bins h_o_notes_kinds h_o_notes_targets h_o_ring_powers h_o_wave_wasRe h_o_way h_o_past h_o_turns h_o_beater h_o_reader h_o_dice h_o_trialWay h_o_trial h_o_otherTrial h_o_sumsRe h_o_sumsIm h_o_tally h_o_image h_o_tape h_o_wave_re h_o_wave_im h_o_wave_wasIm h_o_wave_halved o_imageKept o_taped o_notes_total o_notes_knownBy o_ring_size o_ring_log o_wave_exp o_wave_done o_wave_backward o_notes_bins o_notes_kinds o_notes_targets o_ring_powers o_wave_wasRe) → va_S A s.heap H locs → lv_has ls 9 [(0, .ref h_o), (1, .int v1), (2, .int v2), (3, .int v3), (4, .int v4)] → W p l e ({ frames := 2, cells := 0, slots := 0, locals := 47 } : Room) s m ([.ref h_o, .int p1, .int p2] : List Value).toArray below meth c H locs 0 0 Q (F0 m 46 ls [.int s0]) := by
    intro v1 v2 v3 v4 s0 H locs ls hf hP hD hS hl
    unfold fX9_valuesByNote_46 at hf
    refine lv_istore (lv' := [(5, .int s0), (0, .ref h_o), (1, .int v1), (2, .int v2), (3, .int v3), (4, .int v4)]) hx hb dX9_valuesByNote_46 hl (by decide) rfl (fun ls hl => ?_)
    refine lv_iconst (v := (0 : Int32)) hx hb dX9_valuesByNote_48 (by decide) ?_
    refine lv_istore (lv' := [(6, .int (0 : Int32)), (5, .int s0), (0, .ref h_o), (1, .int v1), (2, .int v2), (3, .int v3), (4, .int v4)]) hx hb dX9_valuesByNote_49 hl (by decide) rfl (fun ls hl => ?_)
    refine lv_iconst (v := (0 : Int32)) hx hb dX9_valuesByNote_51 (by decide) ?_
    refine lv_istore (lv' := [(7, .int (0 : Int32)), (6, .int (0 : Int32)), (5, .int s0), (0, .ref h_o), (1, .int v1), (2, .int v2), (3, .int v3), (4, .int v4)]) hx hb dX9_valuesByNote_52 hl (by decide) rfl (fun ls hl => ?_)
    exact j54 FU v1 v2 v3 v4 s0 (0 : Int32) (0 : Int32) H locs ls hf hP hD hS (lv_sub hl [3, 4, 5, 6, 7, 2, 1, 0] rfl)
  unfold fX9_valuesByNote at hf
  obtain ⟨H, eH⟩ : ∃ H, H = s.heap := ⟨_, rfl⟩
  obtain ⟨locs, elocs⟩ : ∃ z : List Loc, z = [] := ⟨_, rfl⟩
  have hP : va_P G vwCl (wX9_valuesByNote cI cJ cZ h_o h_o_notes h_o_ring h_o_wave h_o_notes_bins h_o_notes_kinds h_o_notes_targets h_o_ring_powers h_o_wave_wasRe h_o_way h_o_past h_o_turns h_o_beater h_o_reader h_o_dice h_o_trialWay h_o_trial h_o_otherTrial h_o_sumsRe h_o_sumsIm h_o_tally h_o_image h_o_tape h_o_wave_re h_o_wave_im h_o_wave_wasIm h_o_wave_halved o_imageKept o_taped o_notes_total o_notes_knownBy o_ring_size o_ring_log o_wave_exp o_wave_done o_wave_backward o_notes_bins o_notes_kinds o_notes_targets o_ring_powers o_wave_wasRe) H := by rw [eH]; exact hP
  have hS : va_S A s.heap H locs := by rw [eH, elocs]; exact hS
  suffices hgo : W p l e ({ frames := 2, cells := 0, slots := 0, locals := 47 } : Room) s m ([.ref h_o, .int p1, .int p2] : List Value).toArray below meth c H locs 0 0 Q (F0 m 0 ls []) by rw [eH, elocs] at hgo; exact hgo
  clear eH elocs
  refine lv_aload_n hx hb dX9_valuesByNote_0 rfl (lv_at hl 0 rfl) ?_
  refine rd (ci := 9) (C := RX9) (T := TX9) (N := 19) hx hb hts inX9 hown hK hP 0 3 rfl rfl (by decide) (hts _ q_fX9_33) rfl dX9_valuesByNote_1 ?_
  refine rd (ci := 2) (C := RX2) (T := TX2) (N := 5) hx hb hts inX2 hown hK hP 1 1 rfl rfl (by decide) (hts _ q_fX9_421) rfl dX9_valuesByNote_4 ?_
  refine lv_iload_n hx hb dX9_valuesByNote_7 rfl (lv_at hl 1 rfl) ?_
  obtain ⟨g_1, hf⟩ := gd_x hf
  refine va_iald hx hb hK hP 6 0 rfl rfl (inb_x g_1) dX9_valuesByNote_8 ?_
  refine lv_topi (fun v3_2 ev3_2 => ?_)
  have hf := nm_x ev3_2 hf
  refine lv_istore_n (lv' := [(3, .int v3_2), (0, .ref h_o), (1, .int p1), (2, .int p2)]) hx hb dX9_valuesByNote_9 rfl hl (by decide) rfl (fun ls hl => ?_)
  refine lv_aload_n hx hb dX9_valuesByNote_10 rfl (lv_at hl 1 rfl) ?_
  refine rd (ci := 9) (C := RX9) (T := TX9) (N := 19) hx hb hts inX9 hown hK hP 0 4 rfl rfl (by decide) (hts _ q_fX9_40) rfl dX9_valuesByNote_11 ?_
  refine lv_aload_n hx hb dX9_valuesByNote_14 rfl (lv_at hl 1 rfl) ?_
  refine rd (ci := 9) (C := RX9) (T := TX9) (N := 19) hx hb hts inX9 hown hK hP 0 1 rfl rfl (by decide) (hts _ q_fX9_19) rfl dX9_valuesByNote_15 ?_
  refine rd (ci := 7) (C := RX7) (T := TX7) (N := 8) hx hb hts inX7 hown hK hP 3 2 rfl rfl (by decide) (hts _ q_fX9_177) rfl dX9_valuesByNote_18 ?_
  refine lv_iload_n hx hb dX9_valuesByNote_21 rfl (lv_at hl 0 rfl) ?_
  refine lv_iload_n hx hb dX9_valuesByNote_22 rfl (lv_at hl 3 rfl) ?_
  obtain ⟨r_3, e_4, hf⟩ := bd1_x hf
  refine call_v [.ref h_o_wave_wasRe, .int v3_2, .int p2] [] ⟨hx, hb, hml, hown, hts⟩ hK hP hD hS hA hl.1 (tX5_binWithout l G cI cJ cZ H.size h_o_ring h_o_wave_wasRe h_o_ring_powers o_ring_size o_ring_log o_wave_wasRe o_ring_powers v3_2 p2 r_3 e_4) (cwV 3 hts (gv q_mX9_389 q_i_yX5_binWithout q_s_yX5_binWithout q_n_RX5 q_k_yX5_binWithout) rfl rfl rfl (by decide +kernel) ⟨by decide, by decide⟩) rfl rfl (Nat.le_of_ble_eq_true rfl) dX9_valuesByNote_23 ⟨Nat.zero_le _, Nat.zero_le _⟩ (ci := 5) rfl 0 rfl [2, 8, 7] [0, 1, 3, 4, 5, 6] [0, 1, 6, 2, 3, 4, 5, 8, 7] rfl rfl (ws2 := (wX9_valuesByNote cI cJ cZ h_o h_o_notes h_o_ring h_o_wave h_o_notes_bins h_o_notes_kinds h_o_notes_targets h_o_ring_powers h_o_wave_wasRe h_o_way h_o_past h_o_turns h_o_beater h_o_reader h_o_dice h_o_trialWay h_o_trial h_o_otherTrial h_o_sumsRe h_o_sumsIm h_o_tally h_o_image h_o_tape h_o_wave_re h_o_wave_im h_o_wave_wasIm h_o_wave_halved o_imageKept o_taped o_notes_total o_notes_knownBy o_ring_size o_ring_log o_wave_exp o_wave_done o_wave_backward o_notes_bins o_notes_kinds o_notes_targets o_ring_powers o_wave_wasRe)) rfl (fun H locs hP hD hS => ?_)
  refine W.eq (g2 := F0 m 26 ls [.int r_3]) rfl ?_
  refine lv_istore (lv' := [(4, .int r_3), (3, .int v3_2), (0, .ref h_o), (1, .int p1), (2, .int p2)]) hx hb dX9_valuesByNote_26 hl (by decide) rfl (fun ls hl => ?_)
  refine lv_aload_n hx hb dX9_valuesByNote_28 rfl (lv_at hl 2 rfl) ?_
  refine rd (ci := 9) (C := RX9) (T := TX9) (N := 19) hx hb hts inX9 hown hK hP 0 3 rfl rfl (by decide) (hts _ q_fX9_33) rfl dX9_valuesByNote_29 ?_
  refine rd (ci := 2) (C := RX2) (T := TX2) (N := 5) hx hb hts inX2 hown hK hP 1 0 rfl rfl (by decide) (hts _ q_fX9_415) rfl dX9_valuesByNote_32 ?_
  refine lv_iload_n hx hb dX9_valuesByNote_35 rfl (lv_at hl 3 rfl) ?_
  obtain ⟨g_5, hf⟩ := gd_x hf
  refine va_iald hx hb hK hP 5 0 rfl rfl (inb_x g_5) dX9_valuesByNote_36 ?_
  refine lv_iconst (v := (1 : Int32)) hx hb dX9_valuesByNote_37 (by decide) ?_
  refine lv_icmp_ne (tgt := 45) hx hb dX9_valuesByNote_38 (by decide) (fun c_6 => ?_) (fun c_6 => ?_)
  · have hf := it_f c_6 hf
    refine lv_iconst (v := (0 : Int32)) hx hb dX9_valuesByNote_45 (by decide) ?_
    exact j46 p1 p2 v3_2 r_3 (0 : Int32) H locs ls hf hP hD hS (lv_sub hl [2, 3, 4, 1, 0] rfl)
  · have hf := it_t c_6 hf
    refine lv_iconst (v := (1 : Int32)) hx hb dX9_valuesByNote_41 (by decide) ?_
    refine lv_goto (tgt := 46) hx hb dX9_valuesByNote_42 (by decide) ?_
    exact j46 p1 p2 v3_2 r_3 (1 : Int32) H locs ls hf hP hD hS (lv_sub hl [2, 3, 4, 1, 0] rfl)
def wX9_valuesOf (cI cJ cZ : ClassId) (h_o h_o_notes h_o_ring h_o_wave h_o_notes_bins h_o_notes_kinds h_o_notes_targets h_o_ring_powers h_o_wave_wasRe h_o_way h_o_past h_o_turns h_o_beater h_o_reader h_o_dice h_o_trialWay h_o_trial h_o_otherTrial h_o_sumsRe h_o_sumsIm h_o_tally h_o_image h_o_tape h_o_wave_re h_o_wave_im h_o_wave_wasIm h_o_wave_halved : Nat) (o_imageKept : Int32) (o_taped : Int32) (o_notes_total : Int32) (o_notes_knownBy : Int32) (o_ring_size : Int32) (o_ring_log : Int32) (o_wave_exp : Int32) (o_wave_done : Int32) (o_wave_backward : Int32) (o_notes_bins : Nat → Int32) (o_notes_kinds : Nat → Int32) (o_notes_targets : Nat → Int32) (o_ring_powers : Nat → Int32) (o_wave_wasRe : Nat → Int32) : va_W := [(h_o, .inr (9, [.ref h_o_way, .ref h_o_wave, .ref h_o_past, .ref h_o_notes, .ref h_o_ring, .ref h_o_turns, .ref h_o_beater, .ref h_o_reader, .ref h_o_dice, .ref h_o_trialWay, .ref h_o_trial, .ref h_o_otherTrial, .ref h_o_sumsRe, .ref h_o_sumsIm, .ref h_o_tally, .ref h_o_image, .int o_imageKept, .ref h_o_tape, .int o_taped])), (h_o_notes, .inr (2, [.ref h_o_notes_kinds, .ref h_o_notes_targets, .ref h_o_notes_bins, .int o_notes_total, .int o_notes_knownBy])), (h_o_ring, .inr (5, [.ref h_o_ring_powers, .int o_ring_size, .int o_ring_log])), (h_o_wave, .inr (7, [.ref h_o_wave_re, .ref h_o_wave_im, .ref h_o_wave_wasRe, .ref h_o_wave_wasIm, .ref h_o_wave_halved, .int o_wave_exp, .int o_wave_done, .int o_wave_backward])), (h_o_notes_bins, .inl (cI, 24, .inl o_notes_bins)), (h_o_notes_kinds, .inl (cI, 24, .inl o_notes_kinds)), (h_o_notes_targets, .inl (cI, 24, .inl o_notes_targets)), (h_o_ring_powers, .inl (cI, 32, .inl o_ring_powers)), (h_o_wave_wasRe, .inl (cI, 32, .inl o_wave_wasRe))]
def fX9_valuesOf_61 (o_notes_total : Int32) (o_ring_size : Int32) (o_notes_bins : Nat → Int32) (o_notes_kinds : Nat → Int32) (o_notes_targets : Nat → Int32) (o_ring_powers : Nat → Int32) (o_wave_wasRe : Nat → Int32) (k15 : Int32 → Int32 → Int32 → Int32 → Option (Int32)) (v1 : Int32) (v2 : Int32) (v3 : Int32) (v4 : Int32) : Option (Int32) :=
  nm (v4 + (1 : Int32)) (fun v4_10 =>
  k15 v1 v2 v3 v4_10)
def fX9_valuesOf_15 (o_notes_total : Int32) (o_ring_size : Int32) (o_notes_bins : Nat → Int32) (o_notes_kinds : Nat → Int32) (o_notes_targets : Nat → Int32) (o_ring_powers : Nat → Int32) (o_wave_wasRe : Nat → Int32) : Nat → Int32 → Int32 → Int32 → Int32 → Option (Int32)
  | 0, _, _, _, _ => none
  | n + 1, v1, v2, v3, v4 =>
    if o_notes_total ≤ v4 then (
      some v3
    ) else (
      if ((v2 >>> (v4 &&& 31)) &&& (1 : Int32)) = (1 : Int32) then (
        gd (inb v4 24) (
        if (o_notes_kinds (Int32.toNatClampNeg v4)) = (2 : Int32) then (
          fX9_valuesOf_61 o_notes_total o_ring_size o_notes_bins o_notes_kinds o_notes_targets o_ring_powers o_wave_wasRe (fX9_valuesOf_15 o_notes_total o_ring_size o_notes_bins o_notes_kinds o_notes_targets o_ring_powers o_wave_wasRe n) v1 v2 v3 v4
        ) else (
          bd1 (fX9_valuesByNote o_ring_size o_notes_bins o_notes_kinds o_notes_targets o_ring_powers o_wave_wasRe v4 v1) (fun r_7 =>
          nm (v3 &&& r_7) (fun v3_9 =>
          fX9_valuesOf_61 o_notes_total o_ring_size o_notes_bins o_notes_kinds o_notes_targets o_ring_powers o_wave_wasRe (fX9_valuesOf_15 o_notes_total o_ring_size o_notes_bins o_notes_kinds o_notes_targets o_ring_powers o_wave_wasRe n) v1 v2 v3_9 v4))
        ))
      ) else (
        fX9_valuesOf_61 o_notes_total o_ring_size o_notes_bins o_notes_kinds o_notes_targets o_ring_powers o_wave_wasRe (fX9_valuesOf_15 o_notes_total o_ring_size o_notes_bins o_notes_kinds o_notes_targets o_ring_powers o_wave_wasRe n) v1 v2 v3 v4
      )
    )
def fX9_valuesOf (o_notes_total : Int32) (o_notes_knownBy : Int32) (o_ring_size : Int32) (o_notes_bins : Nat → Int32) (o_notes_kinds : Nat → Int32) (o_notes_targets : Nat → Int32) (o_ring_powers : Nat → Int32) (o_wave_wasRe : Nat → Int32) (p1 : Int32) : Option (Int32) :=
  bd1 (fX2_standing o_notes_total o_notes_knownBy o_notes_kinds o_notes_targets) (fun r_1 =>
  fX9_valuesOf_15 o_notes_total o_ring_size o_notes_bins o_notes_kinds o_notes_targets o_ring_powers o_wave_wasRe FU p1 r_1 (65535 : Int32) (0 : Int32))
set_option maxHeartbeats 4000000 in
set_option maxRecDepth 100000 in
theorem tX9_valuesOf (l : Launch) (G : va_G) (cI cJ cZ : ClassId) (sz : Nat) (h_o h_o_notes h_o_ring h_o_wave h_o_notes_bins h_o_notes_kinds h_o_notes_targets h_o_ring_powers h_o_wave_wasRe h_o_way h_o_past h_o_turns h_o_beater h_o_reader h_o_dice h_o_trialWay h_o_trial h_o_otherTrial h_o_sumsRe h_o_sumsIm h_o_tally h_o_image h_o_tape h_o_wave_re h_o_wave_im h_o_wave_wasIm h_o_wave_halved : Nat) (o_imageKept : Int32) (o_taped : Int32) (o_notes_total : Int32) (o_notes_knownBy : Int32) (o_ring_size : Int32) (o_ring_log : Int32) (o_wave_exp : Int32) (o_wave_done : Int32) (o_wave_backward : Int32) (o_notes_bins : Nat → Int32) (o_notes_kinds : Nat → Int32) (o_notes_targets : Nat → Int32) (o_ring_powers : Nat → Int32) (o_wave_wasRe : Nat → Int32) (p1 : Int32) (r : Int32) (hf : fX9_valuesOf o_notes_total o_notes_knownBy o_ring_size o_notes_bins o_notes_kinds o_notes_targets o_ring_powers o_wave_wasRe p1 = some r) : Met l yX9_valuesOf (Cond.code yX9_valuesOf cX9_valuesOf 5 (some .int) :: BIG) ({ frames := 3, cells := 0, slots := 0, locals := 75 } : Room) (cP G (TY3 cI cJ cZ) [.ref h_o, .int p1] sz (wX9_valuesOf cI cJ cZ h_o h_o_notes h_o_ring h_o_wave h_o_notes_bins h_o_notes_kinds h_o_notes_targets h_o_ring_powers h_o_wave_wasRe h_o_way h_o_past h_o_turns h_o_beater h_o_reader h_o_dice h_o_trialWay h_o_trial h_o_otherTrial h_o_sumsRe h_o_sumsIm h_o_tally h_o_image h_o_tape h_o_wave_re h_o_wave_im h_o_wave_wasIm h_o_wave_halved o_imageKept o_taped o_notes_total o_notes_knownBy o_ring_size o_ring_log o_wave_exp o_wave_done o_wave_backward o_notes_bins o_notes_kinds o_notes_targets o_ring_powers o_wave_wasRe)) (cQ G (TY3 cI cJ cZ) sz (wX9_valuesOf cI cJ cZ h_o h_o_notes h_o_ring h_o_wave h_o_notes_bins h_o_notes_kinds h_o_notes_targets h_o_ring_powers h_o_wave_wasRe h_o_way h_o_past h_o_turns h_o_beater h_o_reader h_o_dice h_o_trialWay h_o_trial h_o_otherTrial h_o_sumsRe h_o_sumsIm h_o_tally h_o_image h_o_tape h_o_wave_re h_o_wave_im h_o_wave_wasIm h_o_wave_halved o_imageKept o_taped o_notes_total o_notes_knownBy o_ring_size o_ring_log o_wave_exp o_wave_done o_wave_backward o_notes_bins o_notes_kinds o_notes_targets o_ring_powers o_wave_wasRe) (wX9_valuesOf cI cJ cZ h_o h_o_notes h_o_ring h_o_wave h_o_notes_bins h_o_notes_kinds h_o_notes_targets h_o_ring_powers h_o_wave_wasRe h_o_way h_o_past h_o_turns h_o_beater h_o_reader h_o_dice h_o_trialWay h_o_trial h_o_otherTrial h_o_sumsRe h_o_sumsIm h_o_tally h_o_image h_o_tape h_o_wave_re h_o_wave_im h_o_wave_wasIm h_o_wave_halved o_imageKept o_taped o_notes_total o_notes_knownBy o_ring_size o_ring_log o_wave_exp o_wave_done o_wave_backward o_notes_bins o_notes_kinds o_notes_targets o_ring_powers o_wave_wasRe) (some (.int r))) 0 0 (va_A (wX9_valuesOf cI cJ cZ h_o h_o_notes h_o_ring h_o_wave h_o_notes_bins h_o_notes_kinds h_o_notes_targets h_o_ring_powers h_o_wave_wasRe h_o_way h_o_past h_o_turns h_o_beater h_o_reader h_o_dice h_o_trialWay h_o_trial h_o_otherTrial h_o_sumsRe h_o_sumsIm h_o_tally h_o_image h_o_tape h_o_wave_re h_o_wave_im h_o_wave_wasIm h_o_wave_halved o_imageKept o_taped o_notes_total o_notes_knownBy o_ring_size o_ring_log o_wave_exp o_wave_done o_wave_backward o_notes_bins o_notes_kinds o_notes_targets o_ring_powers o_wave_wasRe) sz) := by
  refine met_i (cc := cX9_valuesOf) (maxL := 5) (plainFor_of_name (by decide)) (Nat.le_of_ble_eq_true rfl) (fun p e s m below meth c A ls Q hx hb hml hts hown hK hP hD hS hA hl hret => ?_)
  have hown : s.vm.findClass RX9 = some m.cls := hown
  have hl : lv_has ls 5 [(0, .ref h_o), (1, .int p1)] := hl
  have j61 : ∀ (k15 : Int32 → Int32 → Int32 → Int32 → Option (Int32)), (∀ (v1 : Int32) (v2 : Int32) (v3 : Int32) (v4 : Int32) (H : Heap) (locs : List Loc) (ls : Array Slot), k15 v1 v2 v3 v4 = some r → va_P G vwCl (wX9_valuesOf cI cJ cZ h_o h_o_notes h_o_ring h_o_wave h_o_notes_bins h_o_notes_kinds h_o_notes_targets h_o_ring_powers h_o_wave_wasRe h_o_way h_o_past h_o_turns h_o_beater h_o_reader h_o_dice h_o_trialWay h_o_trial h_o_otherTrial h_o_sumsRe h_o_sumsIm h_o_tally h_o_image h_o_tape h_o_wave_re h_o_wave_im h_o_wave_wasIm h_o_wave_halved o_imageKept o_taped o_notes_total o_notes_knownBy o_ring_size o_ring_log o_wave_exp o_wave_done o_wave_backward o_notes_bins o_notes_kinds o_notes_targets o_ring_powers o_wave_wasRe) H → va_D A (wX9_valuesOf cI cJ cZ h_o h_o_notes h_o_ring h_o_wave h_o_notes_bins h_o_notes_kinds h_o_notes_targets h_o_ring_powers h_o_wave_wasRe h_o_way h_o_past h_o_turns h_o_beater h_o_reader h_o_dice h_o_trialWay h_o_trial h_o_otherTrial h_o_sumsRe h_o_sumsIm h_o_tally h_o_image h_o_tape h_o_wave_re h_o_wave_im h_o_wave_wasIm h_o_wave_halved o_imageKept o_taped o_notes_total o_notes_knownBy o_ring_size o_ring_log o_wave_exp o_wave_done o_wave_backward o_notes_bins o_notes_kinds o_notes_targets o_ring_powers o_wave_wasRe) → va_S A s.heap H locs → lv_has ls 5 [(0, .ref h_o), (1, .int v1), (2, .int v2), (3, .int v3), (4, .int v4)] → W p l e ({ frames := 3, cells := 0, slots := 0, locals := 75 } : Room) s m ([.ref h_o, .int p1] : List Value).toArray below meth c H locs 0 0 Q (F0 m 15 ls [])) → ∀ (v1 : Int32) (v2 : Int32) (v3 : Int32) (v4 : Int32) (H : Heap) (locs : List Loc) (ls : Array Slot), fX9_valuesOf_61 o_notes_total o_ring_size o_notes_bins o_notes_kinds o_notes_targets o_ring_powers o_wave_wasRe k15 v1 v2 v3 v4 = some r → va_P G vwCl (wX9_valuesOf cI cJ cZ h_o h_o_notes h_o_ring h_o_wave h_o_notes_bins h_o_notes_kinds h_o_notes_targets h_o_ring_powers h_o_wave_wasRe h_o_way h_o_past h_o_turns h_o_beater h_o_reader h_o_dice h_o_trialWay h_o_trial h_o_otherTrial h_o_sumsRe h_o_sumsIm h_o_tally h_o_image h_o_tape h_o_wave_re h_o_wave_im h_o_wave_wasIm h_o_wave_halved o_imageKept o_taped o_notes_total o_notes_knownBy o_ring_size o_ring_log o_wave_exp o_wave_done o_wave_backward o_notes_bins o_notes_kinds o_notes_targets o_ring_powers o_wave_wasRe) H → va_D A (wX9_valuesOf cI cJ cZ h_o h_o_notes h_o_ring h_o_wave h_o_notes_bins h_o_notes_kinds h_o_notes_targets h_o_ring_powers h_o_wave_wasRe h_o_way h_o_past h_o_turns h_o_beater h_o_reader h_o_dice h_o_trialWay h_o_trial h_o_otherTrial h_o_sumsRe h_o_sumsIm h_o_tally h_o_image h_o_tape h_o_wave_re h_o_wave_im h_o_wave_wasIm h_o_wave_halved o_imageKept o_taped o_notes_total o_notes_knownBy o_ring_size o_ring_log o_wave_exp o_wave_done o_wave_backward o_notes_bins o_notes_kinds o_notes_targets o_ring_powers o_wave_wasRe) → va_S A s.heap H locs → lv_has ls 5 [(0, .ref h_o), (1, .int v1), (2, .int v2), (3, .int v3), (4, .int v4)] → W p l e ({ frames := 3, cells := 0, slots := 0, locals := 75 } : Room) s m ([.ref h_o, .int p1] : List Value).toArray below meth c H locs 0 0 Q (F0 m 61 ls []) := by
    intro k15 hk15 v1 v2 v3 v4 H locs ls hf hP hD hS hl
    unfold fX9_valuesOf_61 at hf
    obtain ⟨v4_10, ev4_10⟩ : ∃ y : Int32, y = v4 + (1 : Int32) := ⟨_, rfl⟩
    have hf := nm_x ev4_10 hf
    refine lv_iinc (v := v4_10) (lv' := [(4, .int v4_10), (0, .ref h_o), (1, .int v1), (2, .int v2), (3, .int v3)]) hx hb dX9_valuesOf_61 hl (k := 4) rfl (by rw [ev4_10]; rfl) (by decide) rfl (fun ls hl => ?_)
    refine lv_goto (tgt := 15) hx hb dX9_valuesOf_64 (by decide) ?_
    exact hk15 v1 v2 v3 v4_10 H locs ls hf hP hD hS (lv_sub hl [1, 2, 3, 4, 0] rfl)
  have j15 : ∀ (n : Nat) (v1 : Int32) (v2 : Int32) (v3 : Int32) (v4 : Int32) (H : Heap) (locs : List Loc) (ls : Array Slot), fX9_valuesOf_15 o_notes_total o_ring_size o_notes_bins o_notes_kinds o_notes_targets o_ring_powers o_wave_wasRe n v1 v2 v3 v4 = some r → va_P G vwCl (wX9_valuesOf cI cJ cZ h_o h_o_notes h_o_ring h_o_wave h_o_notes_bins h_o_notes_kinds h_o_notes_targets h_o_ring_powers h_o_wave_wasRe h_o_way h_o_past h_o_turns h_o_beater h_o_reader h_o_dice h_o_trialWay h_o_trial h_o_otherTrial h_o_sumsRe h_o_sumsIm h_o_tally h_o_image h_o_tape h_o_wave_re h_o_wave_im h_o_wave_wasIm h_o_wave_halved o_imageKept o_taped o_notes_total o_notes_knownBy o_ring_size o_ring_log o_wave_exp o_wave_done o_wave_backward o_notes_bins o_notes_kinds o_notes_targets o_ring_powers o_wave_wasRe) H → va_D A (wX9_valuesOf cI cJ cZ h_o h_o_notes h_o_ring h_o_wave h_o_notes_bins h_o_notes_kinds h_o_notes_targets h_o_ring_powers h_o_wave_wasRe h_o_way h_o_past h_o_turns h_o_beater h_o_reader h_o_dice h_o_trialWay h_o_trial h_o_otherTrial h_o_sumsRe h_o_sumsIm h_o_tally h_o_image h_o_tape h_o_wave_re h_o_wave_im h_o_wave_wasIm h_o_wave_halved o_imageKept o_taped o_notes_total o_notes_knownBy o_ring_size o_ring_log o_wave_exp o_wave_done o_wave_backward o_notes_bins o_notes_kinds o_notes_targets o_ring_powers o_wave_wasRe) → va_S A s.heap H locs → lv_has ls 5 [(0, .ref h_o), (1, .int v1), (2, .int v2), (3, .int v3), (4, .int v4)] → W p l e ({ frames := 3, cells := 0, slots := 0, locals := 75 } : Room) s m ([.ref h_o, .int p1] : List Value).toArray below meth c H locs 0 0 Q (F0 m 15 ls []) := by
    intro n
    induction n with
    | zero =>
      intro v1 v2 v3 v4 H locs ls hf
      have hf : (none : Option (Int32)) = some r := hf
      cases hf
    | succ n ih =>
      intro v1 v2 v3 v4 H locs ls hf hP hD hS hl
      rw [fX9_valuesOf_15.eq_2] at hf
      refine lv_iload hx hb dX9_valuesOf_15 (lv_at hl 4 rfl) ?_
      refine lv_aload_n hx hb dX9_valuesOf_17 rfl (lv_at hl 0 rfl) ?_
      refine rd (ci := 9) (C := RX9) (T := TX9) (N := 19) hx hb hts inX9 hown hK hP 0 3 rfl rfl (by decide) (hts _ q_fX9_33) rfl dX9_valuesOf_18 ?_
      refine rd (ci := 2) (C := RX2) (T := TX2) (N := 5) hx hb hts inX2 hown hK hP 1 3 rfl rfl (by decide) (hts _ q_fX9_247) rfl dX9_valuesOf_21 ?_
      refine lv_icmp_ge (tgt := 67) hx hb dX9_valuesOf_24 (by decide) (fun c_3 => ?_) (fun c_3 => ?_)
      · have hf := it_t c_3 hf
        refine lv_iload_n hx hb dX9_valuesOf_67 rfl (lv_at hl 3 rfl) ?_
        cases hf
        exact hret _ _ _ _ dX9_valuesOf_68 hP hD hS
      · have hf := it_f c_3 hf
        refine lv_iload_n hx hb dX9_valuesOf_27 rfl (lv_at hl 2 rfl) ?_
        refine lv_iload hx hb dX9_valuesOf_28 (lv_at hl 4 rfl) ?_
        refine lv_ishr hx hb dX9_valuesOf_30 ?_
        refine lv_iconst (v := (1 : Int32)) hx hb dX9_valuesOf_31 (by decide) ?_
        refine lv_iand hx hb dX9_valuesOf_32 ?_
        refine lv_iconst (v := (1 : Int32)) hx hb dX9_valuesOf_33 (by decide) ?_
        refine lv_icmp_ne (tgt := 61) hx hb dX9_valuesOf_34 (by decide) (fun c_4 => ?_) (fun c_4 => ?_)
        · have hf := it_f c_4 hf
          exact j61 (fX9_valuesOf_15 o_notes_total o_ring_size o_notes_bins o_notes_kinds o_notes_targets o_ring_powers o_wave_wasRe n) ih v1 v2 v3 v4 H locs ls hf hP hD hS (lv_sub hl [0, 1, 2, 3, 4] rfl)
        · have hf := it_t c_4 hf
          refine lv_aload_n hx hb dX9_valuesOf_37 rfl (lv_at hl 0 rfl) ?_
          refine rd (ci := 9) (C := RX9) (T := TX9) (N := 19) hx hb hts inX9 hown hK hP 0 3 rfl rfl (by decide) (hts _ q_fX9_33) rfl dX9_valuesOf_38 ?_
          refine rd (ci := 2) (C := RX2) (T := TX2) (N := 5) hx hb hts inX2 hown hK hP 1 0 rfl rfl (by decide) (hts _ q_fX9_415) rfl dX9_valuesOf_41 ?_
          refine lv_iload hx hb dX9_valuesOf_44 (lv_at hl 4 rfl) ?_
          obtain ⟨g_5, hf⟩ := gd_x hf
          refine va_iald hx hb hK hP 5 0 rfl rfl (inb_x g_5) dX9_valuesOf_46 ?_
          refine lv_iconst (v := (2 : Int32)) hx hb dX9_valuesOf_47 (by decide) ?_
          refine lv_icmp_eq (tgt := 61) hx hb dX9_valuesOf_48 (by decide) (fun c_6 => ?_) (fun c_6 => ?_)
          · have hf := it_t c_6 hf
            exact j61 (fX9_valuesOf_15 o_notes_total o_ring_size o_notes_bins o_notes_kinds o_notes_targets o_ring_powers o_wave_wasRe n) ih v1 v2 v3 v4 H locs ls hf hP hD hS (lv_sub hl [0, 1, 2, 3, 4] rfl)
          · have hf := it_f c_6 hf
            refine lv_iload_n hx hb dX9_valuesOf_51 rfl (lv_at hl 3 rfl) ?_
            refine lv_aload_n hx hb dX9_valuesOf_52 rfl (lv_at hl 0 rfl) ?_
            refine lv_iload hx hb dX9_valuesOf_53 (lv_at hl 4 rfl) ?_
            refine lv_iload_n hx hb dX9_valuesOf_55 rfl (lv_at hl 1 rfl) ?_
            obtain ⟨r_7, e_8, hf⟩ := bd1_x hf
            refine call_v [.int v4, .int v1] [.int v3] ⟨hx, hb, hml, hown, hts⟩ hK hP hD hS hA hl.1 (tX9_valuesByNote l G cI cJ cZ H.size h_o h_o_notes h_o_ring h_o_wave h_o_notes_bins h_o_notes_kinds h_o_notes_targets h_o_ring_powers h_o_wave_wasRe h_o_way h_o_past h_o_turns h_o_beater h_o_reader h_o_dice h_o_trialWay h_o_trial h_o_otherTrial h_o_sumsRe h_o_sumsIm h_o_tally h_o_image h_o_tape h_o_wave_re h_o_wave_im h_o_wave_wasIm h_o_wave_halved o_imageKept o_taped o_notes_total o_notes_knownBy o_ring_size o_ring_log o_wave_exp o_wave_done o_wave_backward o_notes_bins o_notes_kinds o_notes_targets o_ring_powers o_wave_wasRe v4 v1 r_7 e_8) (cwV 2 hts (gv q_mX9_418 q_i_yX9_valuesByNote q_s_yX9_valuesByNote q_n_RX9 q_k_yX9_valuesByNote) rfl rfl rfl (by decide +kernel) ⟨by decide, by decide⟩) rfl rfl (Nat.le_of_ble_eq_true rfl) dX9_valuesOf_56 ⟨Nat.zero_le _, Nat.zero_le _⟩ (ci := 9) rfl 0 rfl [0, 1, 2, 3, 4, 5, 6, 7, 8] [] [0, 1, 2, 3, 4, 5, 6, 7, 8] rfl rfl (ws2 := (wX9_valuesOf cI cJ cZ h_o h_o_notes h_o_ring h_o_wave h_o_notes_bins h_o_notes_kinds h_o_notes_targets h_o_ring_powers h_o_wave_wasRe h_o_way h_o_past h_o_turns h_o_beater h_o_reader h_o_dice h_o_trialWay h_o_trial h_o_otherTrial h_o_sumsRe h_o_sumsIm h_o_tally h_o_image h_o_tape h_o_wave_re h_o_wave_im h_o_wave_wasIm h_o_wave_halved o_imageKept o_taped o_notes_total o_notes_knownBy o_ring_size o_ring_log o_wave_exp o_wave_done o_wave_backward o_notes_bins o_notes_kinds o_notes_targets o_ring_powers o_wave_wasRe)) rfl (fun H locs hP hD hS => ?_)
            refine W.eq (g2 := F0 m 59 ls [.int r_7, .int v3]) rfl ?_
            refine lv_iand hx hb dX9_valuesOf_59 ?_
            refine lv_topi (fun v3_9 ev3_9 => ?_)
            have hf := nm_x ev3_9 hf
            refine lv_istore_n (lv' := [(3, .int v3_9), (0, .ref h_o), (1, .int v1), (2, .int v2), (4, .int v4)]) hx hb dX9_valuesOf_60 rfl hl (by decide) rfl (fun ls hl => ?_)
            exact j61 (fX9_valuesOf_15 o_notes_total o_ring_size o_notes_bins o_notes_kinds o_notes_targets o_ring_powers o_wave_wasRe n) ih v1 v2 v3_9 v4 H locs ls hf hP hD hS (lv_sub hl [1, 2, 3, 0, 4] rfl)
  unfold fX9_valuesOf at hf
  obtain ⟨H, eH⟩ : ∃ H, H = s.heap := ⟨_, rfl⟩
  obtain ⟨locs, elocs⟩ : ∃ z : List Loc, z = [] := ⟨_, rfl⟩
  have hP : va_P G vwCl (wX9_valuesOf cI cJ cZ h_o h_o_notes h_o_ring h_o_wave h_o_notes_bins h_o_notes_kinds h_o_notes_targets h_o_ring_powers h_o_wave_wasRe h_o_way h_o_past h_o_turns h_o_beater h_o_reader h_o_dice h_o_trialWay h_o_trial h_o_otherTrial h_o_sumsRe h_o_sumsIm h_o_tally h_o_image h_o_tape h_o_wave_re h_o_wave_im h_o_wave_wasIm h_o_wave_halved o_imageKept o_taped o_notes_total o_notes_knownBy o_ring_size o_ring_log o_wave_exp o_wave_done o_wave_backward o_notes_bins o_notes_kinds o_notes_targets o_ring_powers o_wave_wasRe) H := by rw [eH]; exact hP
  have hS : va_S A s.heap H locs := by rw [eH, elocs]; exact hS
  suffices hgo : W p l e ({ frames := 3, cells := 0, slots := 0, locals := 75 } : Room) s m ([.ref h_o, .int p1] : List Value).toArray below meth c H locs 0 0 Q (F0 m 0 ls []) by rw [eH, elocs] at hgo; exact hgo
  clear eH elocs
  refine lv_aload_n hx hb dX9_valuesOf_0 rfl (lv_at hl 0 rfl) ?_
  refine rd (ci := 9) (C := RX9) (T := TX9) (N := 19) hx hb hts inX9 hown hK hP 0 3 rfl rfl (by decide) (hts _ q_fX9_33) rfl dX9_valuesOf_1 ?_
  obtain ⟨r_1, e_2, hf⟩ := bd1_x hf
  refine call_v [] [] ⟨hx, hb, hml, hown, hts⟩ hK hP hD hS hA hl.1 (tX2_standing l G cI cJ cZ H.size h_o_notes h_o_notes_kinds h_o_notes_targets h_o_notes_bins o_notes_total o_notes_knownBy o_notes_kinds o_notes_targets r_1 e_2) (cwV 0 hts (gv q_mX9_411 q_i_yX2_standing q_s_yX2_standing q_n_RX2 q_k_yX2_standing) rfl rfl rfl (by decide +kernel) ⟨by decide, by decide⟩) rfl rfl (Nat.le_of_ble_eq_true rfl) dX9_valuesOf_4 ⟨Nat.zero_le _, Nat.zero_le _⟩ (ci := 2) rfl 0 rfl [1, 5, 6] [0, 2, 3, 4, 7, 8] [0, 6, 1, 2, 3, 7, 8, 4, 5] rfl rfl (ws2 := (wX9_valuesOf cI cJ cZ h_o h_o_notes h_o_ring h_o_wave h_o_notes_bins h_o_notes_kinds h_o_notes_targets h_o_ring_powers h_o_wave_wasRe h_o_way h_o_past h_o_turns h_o_beater h_o_reader h_o_dice h_o_trialWay h_o_trial h_o_otherTrial h_o_sumsRe h_o_sumsIm h_o_tally h_o_image h_o_tape h_o_wave_re h_o_wave_im h_o_wave_wasIm h_o_wave_halved o_imageKept o_taped o_notes_total o_notes_knownBy o_ring_size o_ring_log o_wave_exp o_wave_done o_wave_backward o_notes_bins o_notes_kinds o_notes_targets o_ring_powers o_wave_wasRe)) rfl (fun H locs hP hD hS => ?_)
  refine W.eq (g2 := F0 m 7 ls [.int r_1]) rfl ?_
  refine lv_istore_n (lv' := [(2, .int r_1), (0, .ref h_o), (1, .int p1)]) hx hb dX9_valuesOf_7 rfl hl (by decide) rfl (fun ls hl => ?_)
  refine lv_ldcw (v := (65535 : Int32)) hx hb hown (hts _ q_cX9_414) dX9_valuesOf_8 ?_
  refine lv_istore_n (lv' := [(3, .int (65535 : Int32)), (2, .int r_1), (0, .ref h_o), (1, .int p1)]) hx hb dX9_valuesOf_11 rfl hl (by decide) rfl (fun ls hl => ?_)
  refine lv_iconst (v := (0 : Int32)) hx hb dX9_valuesOf_12 (by decide) ?_
  refine lv_istore (lv' := [(4, .int (0 : Int32)), (3, .int (65535 : Int32)), (2, .int r_1), (0, .ref h_o), (1, .int p1)]) hx hb dX9_valuesOf_13 hl (by decide) rfl (fun ls hl => ?_)
  exact j15 FU p1 r_1 (65535 : Int32) (0 : Int32) H locs ls hf hP hD hS (lv_sub hl [3, 4, 2, 1, 0] rfl)
def wX9_values (cI cJ cZ : ClassId) (h_o h_o_notes h_o_ring h_o_wave h_o_way h_o_notes_bins h_o_notes_kinds h_o_notes_targets h_o_ring_powers h_o_wave_wasRe h_o_past h_o_turns h_o_beater h_o_reader h_o_dice h_o_trialWay h_o_trial h_o_otherTrial h_o_sumsRe h_o_sumsIm h_o_tally h_o_image h_o_tape h_o_wave_re h_o_wave_im h_o_wave_wasIm h_o_wave_halved h_o_way_shifts : Nat) (o_imageKept : Int32) (o_taped : Int32) (o_notes_total : Int32) (o_notes_knownBy : Int32) (o_ring_size : Int32) (o_ring_log : Int32) (o_wave_exp : Int32) (o_wave_done : Int32) (o_wave_backward : Int32) (o_way_size : Int32) (o_way_log : Int32) (o_way_wordBits : Int32) (o_way_limit : Int32) (o_way_radix : Int32) (o_way_order : Int32) (o_way_near : Int32) (o_way_seed : Int32) (o_way_stages : Int32) (o_notes_bins : Nat → Int32) (o_notes_kinds : Nat → Int32) (o_notes_targets : Nat → Int32) (o_ring_powers : Nat → Int32) (o_wave_wasRe : Nat → Int32) : va_W := [(h_o, .inr (9, [.ref h_o_way, .ref h_o_wave, .ref h_o_past, .ref h_o_notes, .ref h_o_ring, .ref h_o_turns, .ref h_o_beater, .ref h_o_reader, .ref h_o_dice, .ref h_o_trialWay, .ref h_o_trial, .ref h_o_otherTrial, .ref h_o_sumsRe, .ref h_o_sumsIm, .ref h_o_tally, .ref h_o_image, .int o_imageKept, .ref h_o_tape, .int o_taped])), (h_o_notes, .inr (2, [.ref h_o_notes_kinds, .ref h_o_notes_targets, .ref h_o_notes_bins, .int o_notes_total, .int o_notes_knownBy])), (h_o_ring, .inr (5, [.ref h_o_ring_powers, .int o_ring_size, .int o_ring_log])), (h_o_wave, .inr (7, [.ref h_o_wave_re, .ref h_o_wave_im, .ref h_o_wave_wasRe, .ref h_o_wave_wasIm, .ref h_o_wave_halved, .int o_wave_exp, .int o_wave_done, .int o_wave_backward])), (h_o_way, .inr (8, [.int o_way_size, .int o_way_log, .int o_way_wordBits, .int o_way_limit, .int o_way_radix, .int o_way_order, .int o_way_near, .int o_way_seed, .int o_way_stages, .ref h_o_way_shifts])), (h_o_notes_bins, .inl (cI, 24, .inl o_notes_bins)), (h_o_notes_kinds, .inl (cI, 24, .inl o_notes_kinds)), (h_o_notes_targets, .inl (cI, 24, .inl o_notes_targets)), (h_o_ring_powers, .inl (cI, 32, .inl o_ring_powers)), (h_o_wave_wasRe, .inl (cI, 32, .inl o_wave_wasRe))]
def fX9_values (o_notes_total : Int32) (o_notes_knownBy : Int32) (o_ring_size : Int32) (o_way_size : Int32) (o_notes_bins : Nat → Int32) (o_notes_kinds : Nat → Int32) (o_notes_targets : Nat → Int32) (o_ring_powers : Nat → Int32) (o_wave_wasRe : Nat → Int32) (p1 : Int32) : Option (Int32) :=
  bd1 (fX9_isPlace o_way_size p1) (fun r_1 =>
  if r_1 = 0 then (
    some (-1 : Int32)
  ) else (
    bd1 (fX9_valuesOf o_notes_total o_notes_knownBy o_ring_size o_notes_bins o_notes_kinds o_notes_targets o_ring_powers o_wave_wasRe p1) (fun r_4 =>
    some r_4)
  ))
set_option maxHeartbeats 4000000 in
set_option maxRecDepth 100000 in
theorem tX9_values (l : Launch) (G : va_G) (cI cJ cZ : ClassId) (sz : Nat) (h_o h_o_notes h_o_ring h_o_wave h_o_way h_o_notes_bins h_o_notes_kinds h_o_notes_targets h_o_ring_powers h_o_wave_wasRe h_o_past h_o_turns h_o_beater h_o_reader h_o_dice h_o_trialWay h_o_trial h_o_otherTrial h_o_sumsRe h_o_sumsIm h_o_tally h_o_image h_o_tape h_o_wave_re h_o_wave_im h_o_wave_wasIm h_o_wave_halved h_o_way_shifts : Nat) (o_imageKept : Int32) (o_taped : Int32) (o_notes_total : Int32) (o_notes_knownBy : Int32) (o_ring_size : Int32) (o_ring_log : Int32) (o_wave_exp : Int32) (o_wave_done : Int32) (o_wave_backward : Int32) (o_way_size : Int32) (o_way_log : Int32) (o_way_wordBits : Int32) (o_way_limit : Int32) (o_way_radix : Int32) (o_way_order : Int32) (o_way_near : Int32) (o_way_seed : Int32) (o_way_stages : Int32) (o_notes_bins : Nat → Int32) (o_notes_kinds : Nat → Int32) (o_notes_targets : Nat → Int32) (o_ring_powers : Nat → Int32) (o_wave_wasRe : Nat → Int32) (p1 : Int32) (r : Int32) (hf : fX9_values o_notes_total o_notes_knownBy o_ring_size o_way_size o_notes_bins o_notes_kinds o_notes_targets o_ring_powers o_wave_wasRe p1 = some r) : Met l yX9_values (Cond.code yX9_values cX9_values 2 (some .int) :: BIG) ({ frames := 4, cells := 0, slots := 0, locals := 99 } : Room) (cP G (TY3 cI cJ cZ) [.ref h_o, .int p1] sz (wX9_values cI cJ cZ h_o h_o_notes h_o_ring h_o_wave h_o_way h_o_notes_bins h_o_notes_kinds h_o_notes_targets h_o_ring_powers h_o_wave_wasRe h_o_past h_o_turns h_o_beater h_o_reader h_o_dice h_o_trialWay h_o_trial h_o_otherTrial h_o_sumsRe h_o_sumsIm h_o_tally h_o_image h_o_tape h_o_wave_re h_o_wave_im h_o_wave_wasIm h_o_wave_halved h_o_way_shifts o_imageKept o_taped o_notes_total o_notes_knownBy o_ring_size o_ring_log o_wave_exp o_wave_done o_wave_backward o_way_size o_way_log o_way_wordBits o_way_limit o_way_radix o_way_order o_way_near o_way_seed o_way_stages o_notes_bins o_notes_kinds o_notes_targets o_ring_powers o_wave_wasRe)) (cQ G (TY3 cI cJ cZ) sz (wX9_values cI cJ cZ h_o h_o_notes h_o_ring h_o_wave h_o_way h_o_notes_bins h_o_notes_kinds h_o_notes_targets h_o_ring_powers h_o_wave_wasRe h_o_past h_o_turns h_o_beater h_o_reader h_o_dice h_o_trialWay h_o_trial h_o_otherTrial h_o_sumsRe h_o_sumsIm h_o_tally h_o_image h_o_tape h_o_wave_re h_o_wave_im h_o_wave_wasIm h_o_wave_halved h_o_way_shifts o_imageKept o_taped o_notes_total o_notes_knownBy o_ring_size o_ring_log o_wave_exp o_wave_done o_wave_backward o_way_size o_way_log o_way_wordBits o_way_limit o_way_radix o_way_order o_way_near o_way_seed o_way_stages o_notes_bins o_notes_kinds o_notes_targets o_ring_powers o_wave_wasRe) (wX9_values cI cJ cZ h_o h_o_notes h_o_ring h_o_wave h_o_way h_o_notes_bins h_o_notes_kinds h_o_notes_targets h_o_ring_powers h_o_wave_wasRe h_o_past h_o_turns h_o_beater h_o_reader h_o_dice h_o_trialWay h_o_trial h_o_otherTrial h_o_sumsRe h_o_sumsIm h_o_tally h_o_image h_o_tape h_o_wave_re h_o_wave_im h_o_wave_wasIm h_o_wave_halved h_o_way_shifts o_imageKept o_taped o_notes_total o_notes_knownBy o_ring_size o_ring_log o_wave_exp o_wave_done o_wave_backward o_way_size o_way_log o_way_wordBits o_way_limit o_way_radix o_way_order o_way_near o_way_seed o_way_stages o_notes_bins o_notes_kinds o_notes_targets o_ring_powers o_wave_wasRe) (some (.int r))) 0 0 (va_A (wX9_values cI cJ cZ h_o h_o_notes h_o_ring h_o_wave h_o_way h_o_notes_bins h_o_notes_kinds h_o_notes_targets h_o_ring_powers h_o_wave_wasRe h_o_past h_o_turns h_o_beater h_o_reader h_o_dice h_o_trialWay h_o_trial h_o_otherTrial h_o_sumsRe h_o_sumsIm h_o_tally h_o_image h_o_tape h_o_wave_re h_o_wave_im h_o_wave_wasIm h_o_wave_halved h_o_way_shifts o_imageKept o_taped o_notes_total o_notes_knownBy o_ring_size o_ring_log o_wave_exp o_wave_done o_wave_backward o_way_size o_way_log o_way_wordBits o_way_limit o_way_radix o_way_order o_way_near o_way_seed o_way_stages o_notes_bins o_notes_kinds o_notes_targets o_ring_powers o_wave_wasRe) sz) := by
  refine met_i (cc := cX9_values) (maxL := 2) (plainFor_of_name (by decide)) (Nat.le_of_ble_eq_true rfl) (fun p e s m below meth c A ls Q hx hb hml hts hown hK hP hD hS hA hl hret => ?_)
  have hown : s.vm.findClass RX9 = some m.cls := hown
  have hl : lv_has ls 2 [(0, .ref h_o), (1, .int p1)] := hl
  unfold fX9_values at hf
  obtain ⟨H, eH⟩ : ∃ H, H = s.heap := ⟨_, rfl⟩
  obtain ⟨locs, elocs⟩ : ∃ z : List Loc, z = [] := ⟨_, rfl⟩
  have hP : va_P G vwCl (wX9_values cI cJ cZ h_o h_o_notes h_o_ring h_o_wave h_o_way h_o_notes_bins h_o_notes_kinds h_o_notes_targets h_o_ring_powers h_o_wave_wasRe h_o_past h_o_turns h_o_beater h_o_reader h_o_dice h_o_trialWay h_o_trial h_o_otherTrial h_o_sumsRe h_o_sumsIm h_o_tally h_o_image h_o_tape h_o_wave_re h_o_wave_im h_o_wave_wasIm h_o_wave_halved h_o_way_shifts o_imageKept o_taped o_notes_total o_notes_knownBy o_ring_size o_ring_log o_wave_exp o_wave_done o_wave_backward o_way_size o_way_log o_way_wordBits o_way_limit o_way_radix o_way_order o_way_near o_way_seed o_way_stages o_notes_bins o_notes_kinds o_notes_targets o_ring_powers o_wave_wasRe) H := by rw [eH]; exact hP
  have hS : va_S A s.heap H locs := by rw [eH, elocs]; exact hS
  suffices hgo : W p l e ({ frames := 4, cells := 0, slots := 0, locals := 99 } : Room) s m ([.ref h_o, .int p1] : List Value).toArray below meth c H locs 0 0 Q (F0 m 0 ls []) by rw [eH, elocs] at hgo; exact hgo
  clear eH elocs
  refine lv_aload_n hx hb dX9_values_0 rfl (lv_at hl 0 rfl) ?_
  refine lv_iload_n hx hb dX9_values_1 rfl (lv_at hl 1 rfl) ?_
  obtain ⟨r_1, e_2, hf⟩ := bd1_x hf
  refine call_v [.int p1] [] ⟨hx, hb, hml, hown, hts⟩ hK hP hD hS hA hl.1 (tX9_isPlace l G cI cJ cZ H.size h_o h_o_way h_o_wave h_o_past h_o_notes h_o_ring h_o_turns h_o_beater h_o_reader h_o_dice h_o_trialWay h_o_trial h_o_otherTrial h_o_sumsRe h_o_sumsIm h_o_tally h_o_image h_o_tape h_o_way_shifts o_imageKept o_taped o_way_size o_way_log o_way_wordBits o_way_limit o_way_radix o_way_order o_way_near o_way_seed o_way_stages p1 r_1 e_2) (cwV 1 hts (gv q_mX9_159 q_i_yX9_isPlace q_s_yX9_isPlace q_n_RX9 q_k_yX9_isPlace) rfl rfl rfl (by decide +kernel) ⟨by decide, by decide⟩) rfl rfl (Nat.le_of_ble_eq_true rfl) dX9_values_2 ⟨Nat.zero_le _, Nat.zero_le _⟩ (ci := 9) rfl 0 rfl [0, 4] [1, 2, 3, 5, 6, 7, 8, 9] [8, 0, 1, 2, 9, 3, 4, 5, 6, 7] rfl rfl (ws2 := (wX9_values cI cJ cZ h_o h_o_notes h_o_ring h_o_wave h_o_way h_o_notes_bins h_o_notes_kinds h_o_notes_targets h_o_ring_powers h_o_wave_wasRe h_o_past h_o_turns h_o_beater h_o_reader h_o_dice h_o_trialWay h_o_trial h_o_otherTrial h_o_sumsRe h_o_sumsIm h_o_tally h_o_image h_o_tape h_o_wave_re h_o_wave_im h_o_wave_wasIm h_o_wave_halved h_o_way_shifts o_imageKept o_taped o_notes_total o_notes_knownBy o_ring_size o_ring_log o_wave_exp o_wave_done o_wave_backward o_way_size o_way_log o_way_wordBits o_way_limit o_way_radix o_way_order o_way_near o_way_seed o_way_stages o_notes_bins o_notes_kinds o_notes_targets o_ring_powers o_wave_wasRe)) rfl (fun H locs hP hD hS => ?_)
  refine W.eq (g2 := F0 m 5 ls [.int r_1]) rfl ?_
  refine lv_if_eq (tgt := 16) hx hb dX9_values_5 (by decide) (fun c_3 => ?_) (fun c_3 => ?_)
  · have hf := it_t c_3 hf
    refine lv_iconst (v := (-1 : Int32)) hx hb dX9_values_16 (by decide) ?_
    cases hf
    exact hret _ _ _ _ dX9_values_17 hP hD hS
  · have hf := it_f c_3 hf
    refine lv_aload_n hx hb dX9_values_8 rfl (lv_at hl 0 rfl) ?_
    refine lv_iload_n hx hb dX9_values_9 rfl (lv_at hl 1 rfl) ?_
    obtain ⟨r_4, e_5, hf⟩ := bd1_x hf
    refine call_v [.int p1] [] ⟨hx, hb, hml, hown, hts⟩ hK hP hD hS hA hl.1 (tX9_valuesOf l G cI cJ cZ H.size h_o h_o_notes h_o_ring h_o_wave h_o_notes_bins h_o_notes_kinds h_o_notes_targets h_o_ring_powers h_o_wave_wasRe h_o_way h_o_past h_o_turns h_o_beater h_o_reader h_o_dice h_o_trialWay h_o_trial h_o_otherTrial h_o_sumsRe h_o_sumsIm h_o_tally h_o_image h_o_tape h_o_wave_re h_o_wave_im h_o_wave_wasIm h_o_wave_halved o_imageKept o_taped o_notes_total o_notes_knownBy o_ring_size o_ring_log o_wave_exp o_wave_done o_wave_backward o_notes_bins o_notes_kinds o_notes_targets o_ring_powers o_wave_wasRe p1 r_4 e_5) (cwV 1 hts (gv q_mX9_408 q_i_yX9_valuesOf q_s_yX9_valuesOf q_n_RX9 q_k_yX9_valuesOf) rfl rfl rfl (by decide +kernel) ⟨by decide, by decide⟩) rfl rfl (Nat.le_of_ble_eq_true rfl) dX9_values_10 ⟨Nat.zero_le _, Nat.zero_le _⟩ (ci := 9) rfl 0 rfl [0, 1, 2, 3, 5, 6, 7, 8, 9] [4] [1, 2, 3, 4, 0, 5, 6, 7, 8, 9] rfl rfl (ws2 := (wX9_values cI cJ cZ h_o h_o_notes h_o_ring h_o_wave h_o_way h_o_notes_bins h_o_notes_kinds h_o_notes_targets h_o_ring_powers h_o_wave_wasRe h_o_past h_o_turns h_o_beater h_o_reader h_o_dice h_o_trialWay h_o_trial h_o_otherTrial h_o_sumsRe h_o_sumsIm h_o_tally h_o_image h_o_tape h_o_wave_re h_o_wave_im h_o_wave_wasIm h_o_wave_halved h_o_way_shifts o_imageKept o_taped o_notes_total o_notes_knownBy o_ring_size o_ring_log o_wave_exp o_wave_done o_wave_backward o_way_size o_way_log o_way_wordBits o_way_limit o_way_radix o_way_order o_way_near o_way_seed o_way_stages o_notes_bins o_notes_kinds o_notes_targets o_ring_powers o_wave_wasRe)) rfl (fun H locs hP hD hS => ?_)
    refine W.eq (g2 := F0 m 13 ls [.int r_4]) rfl ?_
    refine lv_goto (tgt := 17) hx hb dX9_values_13 (by decide) ?_
    cases hf
    exact hret _ _ _ _ dX9_values_17 hP hD hS
def wX9_tallyBins (cI cJ cZ : ClassId) (h_o h_o_ring h_o_tally h_o_wave h_o_ring_powers h_o_wave_wasRe h_o_way h_o_past h_o_notes h_o_turns h_o_beater h_o_reader h_o_dice h_o_trialWay h_o_trial h_o_otherTrial h_o_sumsRe h_o_sumsIm h_o_image h_o_tape h_o_wave_re h_o_wave_im h_o_wave_wasIm h_o_wave_halved : Nat) (o_imageKept : Int32) (o_taped : Int32) (o_ring_size : Int32) (o_ring_log : Int32) (o_tally : Nat → Int32) (o_wave_exp : Int32) (o_wave_done : Int32) (o_wave_backward : Int32) (o_ring_powers : Nat → Int32) (o_wave_wasRe : Nat → Int32) : va_W := [(h_o, .inr (9, [.ref h_o_way, .ref h_o_wave, .ref h_o_past, .ref h_o_notes, .ref h_o_ring, .ref h_o_turns, .ref h_o_beater, .ref h_o_reader, .ref h_o_dice, .ref h_o_trialWay, .ref h_o_trial, .ref h_o_otherTrial, .ref h_o_sumsRe, .ref h_o_sumsIm, .ref h_o_tally, .ref h_o_image, .int o_imageKept, .ref h_o_tape, .int o_taped])), (h_o_ring, .inr (5, [.ref h_o_ring_powers, .int o_ring_size, .int o_ring_log])), (h_o_tally, .inl (cI, 97, .inl o_tally)), (h_o_wave, .inr (7, [.ref h_o_wave_re, .ref h_o_wave_im, .ref h_o_wave_wasRe, .ref h_o_wave_wasIm, .ref h_o_wave_halved, .int o_wave_exp, .int o_wave_done, .int o_wave_backward])), (h_o_ring_powers, .inl (cI, 32, .inl o_ring_powers)), (h_o_wave_wasRe, .inl (cI, 32, .inl o_wave_wasRe))]
def fX9_tallyBins_84 (o_ring_size : Int32) (o_ring_powers : Nat → Int32) (k45 : (Nat → Int32) → Int32 → Int32 → Int32 → Int32 → Int32 → Option ((Nat → Int32))) (o_tally : Nat → Int32) (v1 : Int32) (v2 : Int32) (v3 : Int32) (v4 : Int32) (v5 : Int32) : Option ((Nat → Int32)) :=
  nm (v5 + (1 : Int32)) (fun v5_14 =>
  k45 o_tally v1 v2 v3 v4 v5_14)
def fX9_tallyBins_45 (o_ring_size : Int32) (o_ring_powers : Nat → Int32) : Nat → (Nat → Int32) → Int32 → Int32 → Int32 → Int32 → Int32 → Option ((Nat → Int32))
  | 0, _, _, _, _, _, _ => none
  | n + 1, o_tally, v1, v2, v3, v4, v5 =>
    if (16 : Int32) ≤ v5 then (
      some o_tally
    ) else (
      if ((v1 >>> (v5 &&& 31)) &&& (1 : Int32)) = (1 : Int32) then (
        bd1 (fX5_binWith o_ring_size o_ring_powers v4 v5 v2 v3) (fun r_9 =>
        gd (inb r_9 97) (
        gd (inb r_9 97) (
        nm (upd o_tally (Int32.toNatClampNeg r_9) ((o_tally (Int32.toNatClampNeg r_9)) + (1 : Int32))) (fun o_tally_13 =>
        fX9_tallyBins_84 o_ring_size o_ring_powers (fX9_tallyBins_45 o_ring_size o_ring_powers n) o_tally_13 v1 v2 v3 v4 v5))))
      ) else (
        fX9_tallyBins_84 o_ring_size o_ring_powers (fX9_tallyBins_45 o_ring_size o_ring_powers n) o_tally v1 v2 v3 v4 v5
      )
    )
def fX9_tallyBins_24 (o_ring_size : Int32) (o_ring_powers : Nat → Int32) (o_wave_wasRe : Nat → Int32) (o_tally : Nat → Int32) (v1 : Int32) (v2 : Int32) (v3 : Int32) : Option ((Nat → Int32)) :=
  bd1 (fX5_binWithout o_ring_size o_wave_wasRe o_ring_powers v2 v3) (fun r_5 =>
  fX9_tallyBins_45 o_ring_size o_ring_powers FU o_tally v1 v2 v3 r_5 (0 : Int32))
def fX9_tallyBins_3 (o_ring_size : Int32) (o_ring_powers : Nat → Int32) (o_wave_wasRe : Nat → Int32) : Nat → (Nat → Int32) → Int32 → Int32 → Int32 → Int32 → Option ((Nat → Int32))
  | 0, _, _, _, _, _ => none
  | n + 1, o_tally, v1, v2, v3, v4 =>
    if (97 : Int32) ≤ v4 then (
      fX9_tallyBins_24 o_ring_size o_ring_powers o_wave_wasRe o_tally v1 v2 v3
    ) else (
      gd (inb v4 97) (
      nm (upd o_tally (Int32.toNatClampNeg v4) (0 : Int32)) (fun o_tally_3 =>
      nm (v4 + (1 : Int32)) (fun v4_4 =>
      fX9_tallyBins_3 o_ring_size o_ring_powers o_wave_wasRe n o_tally_3 v1 v2 v3 v4_4)))
    )
def fX9_tallyBins (o_ring_size : Int32) (o_tally : Nat → Int32) (o_ring_powers : Nat → Int32) (o_wave_wasRe : Nat → Int32) (p1 : Int32) (p2 : Int32) (p3 : Int32) : Option ((Nat → Int32)) :=
  fX9_tallyBins_3 o_ring_size o_ring_powers o_wave_wasRe FU o_tally p1 p2 p3 (0 : Int32)
set_option maxHeartbeats 4000000 in
set_option maxRecDepth 100000 in
theorem tX9_tallyBins (l : Launch) (G : va_G) (cI cJ cZ : ClassId) (sz : Nat) (h_o h_o_ring h_o_tally h_o_wave h_o_ring_powers h_o_wave_wasRe h_o_way h_o_past h_o_notes h_o_turns h_o_beater h_o_reader h_o_dice h_o_trialWay h_o_trial h_o_otherTrial h_o_sumsRe h_o_sumsIm h_o_image h_o_tape h_o_wave_re h_o_wave_im h_o_wave_wasIm h_o_wave_halved : Nat) (o_imageKept : Int32) (o_taped : Int32) (o_ring_size : Int32) (o_ring_log : Int32) (o_tally : Nat → Int32) (o_wave_exp : Int32) (o_wave_done : Int32) (o_wave_backward : Int32) (o_ring_powers : Nat → Int32) (o_wave_wasRe : Nat → Int32) (p1 : Int32) (p2 : Int32) (p3 : Int32) (out_o_tally : Nat → Int32) (hf : fX9_tallyBins o_ring_size o_tally o_ring_powers o_wave_wasRe p1 p2 p3 = some out_o_tally) : Met l yX9_tallyBins (Cond.code yX9_tallyBins cX9_tallyBins 6 none :: BIG) ({ frames := 2, cells := 0, slots := 0, locals := 47 } : Room) (cP G (TY3 cI cJ cZ) [.ref h_o, .int p1, .int p2, .int p3] sz (wX9_tallyBins cI cJ cZ h_o h_o_ring h_o_tally h_o_wave h_o_ring_powers h_o_wave_wasRe h_o_way h_o_past h_o_notes h_o_turns h_o_beater h_o_reader h_o_dice h_o_trialWay h_o_trial h_o_otherTrial h_o_sumsRe h_o_sumsIm h_o_image h_o_tape h_o_wave_re h_o_wave_im h_o_wave_wasIm h_o_wave_halved o_imageKept o_taped o_ring_size o_ring_log o_tally o_wave_exp o_wave_done o_wave_backward o_ring_powers o_wave_wasRe)) (cQ G (TY3 cI cJ cZ) sz (wX9_tallyBins cI cJ cZ h_o h_o_ring h_o_tally h_o_wave h_o_ring_powers h_o_wave_wasRe h_o_way h_o_past h_o_notes h_o_turns h_o_beater h_o_reader h_o_dice h_o_trialWay h_o_trial h_o_otherTrial h_o_sumsRe h_o_sumsIm h_o_image h_o_tape h_o_wave_re h_o_wave_im h_o_wave_wasIm h_o_wave_halved o_imageKept o_taped o_ring_size o_ring_log o_tally o_wave_exp o_wave_done o_wave_backward o_ring_powers o_wave_wasRe) (wX9_tallyBins cI cJ cZ h_o h_o_ring h_o_tally h_o_wave h_o_ring_powers h_o_wave_wasRe h_o_way h_o_past h_o_notes h_o_turns h_o_beater h_o_reader h_o_dice h_o_trialWay h_o_trial h_o_otherTrial h_o_sumsRe h_o_sumsIm h_o_image h_o_tape h_o_wave_re h_o_wave_im h_o_wave_wasIm h_o_wave_halved o_imageKept o_taped o_ring_size o_ring_log out_o_tally o_wave_exp o_wave_done o_wave_backward o_ring_powers o_wave_wasRe) none) 0 0 (va_A (wX9_tallyBins cI cJ cZ h_o h_o_ring h_o_tally h_o_wave h_o_ring_powers h_o_wave_wasRe h_o_way h_o_past h_o_notes h_o_turns h_o_beater h_o_reader h_o_dice h_o_trialWay h_o_trial h_o_otherTrial h_o_sumsRe h_o_sumsIm h_o_image h_o_tape h_o_wave_re h_o_wave_im h_o_wave_wasIm h_o_wave_halved o_imageKept o_taped o_ring_size o_ring_log o_tally o_wave_exp o_wave_done o_wave_backward o_ring_powers o_wave_wasRe) sz) := by
  refine met_v (cc := cX9_tallyBins) (maxL := 6) (plainFor_of_name (by decide)) (Nat.le_of_ble_eq_true rfl) (fun p e s m below meth c A ls Q hx hb hml hts hown hK hP hD hS hA hl hret => ?_)
  have hown : s.vm.findClass RX9 = some m.cls := hown
  have hl : lv_has ls 6 [(0, .ref h_o), (1, .int p1), (2, .int p2), (3, .int p3)] := hl
  have j84 : ∀ (k45 : (Nat → Int32) → Int32 → Int32 → Int32 → Int32 → Int32 → Option ((Nat → Int32))), (∀ (o_tally : Nat → Int32) (v1 : Int32) (v2 : Int32) (v3 : Int32) (v4 : Int32) (v5 : Int32) (H : Heap) (locs : List Loc) (ls : Array Slot), k45 o_tally v1 v2 v3 v4 v5 = some out_o_tally → va_P G vwCl (wX9_tallyBins cI cJ cZ h_o h_o_ring h_o_tally h_o_wave h_o_ring_powers h_o_wave_wasRe h_o_way h_o_past h_o_notes h_o_turns h_o_beater h_o_reader h_o_dice h_o_trialWay h_o_trial h_o_otherTrial h_o_sumsRe h_o_sumsIm h_o_image h_o_tape h_o_wave_re h_o_wave_im h_o_wave_wasIm h_o_wave_halved o_imageKept o_taped o_ring_size o_ring_log o_tally o_wave_exp o_wave_done o_wave_backward o_ring_powers o_wave_wasRe) H → va_D A (wX9_tallyBins cI cJ cZ h_o h_o_ring h_o_tally h_o_wave h_o_ring_powers h_o_wave_wasRe h_o_way h_o_past h_o_notes h_o_turns h_o_beater h_o_reader h_o_dice h_o_trialWay h_o_trial h_o_otherTrial h_o_sumsRe h_o_sumsIm h_o_image h_o_tape h_o_wave_re h_o_wave_im h_o_wave_wasIm h_o_wave_halved o_imageKept o_taped o_ring_size o_ring_log o_tally o_wave_exp o_wave_done o_wave_backward o_ring_powers o_wave_wasRe) → va_S A s.heap H locs → lv_has ls 6 [(0, .ref h_o), (1, .int v1), (2, .int v2), (3, .int v3), (4, .int v4), (5, .int v5)] → W p l e ({ frames := 2, cells := 0, slots := 0, locals := 47 } : Room) s m ([.ref h_o, .int p1, .int p2, .int p3] : List Value).toArray below meth c H locs 0 0 Q (F0 m 45 ls [])) → ∀ (o_tally : Nat → Int32) (v1 : Int32) (v2 : Int32) (v3 : Int32) (v4 : Int32) (v5 : Int32) (H : Heap) (locs : List Loc) (ls : Array Slot), fX9_tallyBins_84 o_ring_size o_ring_powers k45 o_tally v1 v2 v3 v4 v5 = some out_o_tally → va_P G vwCl (wX9_tallyBins cI cJ cZ h_o h_o_ring h_o_tally h_o_wave h_o_ring_powers h_o_wave_wasRe h_o_way h_o_past h_o_notes h_o_turns h_o_beater h_o_reader h_o_dice h_o_trialWay h_o_trial h_o_otherTrial h_o_sumsRe h_o_sumsIm h_o_image h_o_tape h_o_wave_re h_o_wave_im h_o_wave_wasIm h_o_wave_halved o_imageKept o_taped o_ring_size o_ring_log o_tally o_wave_exp o_wave_done o_wave_backward o_ring_powers o_wave_wasRe) H → va_D A (wX9_tallyBins cI cJ cZ h_o h_o_ring h_o_tally h_o_wave h_o_ring_powers h_o_wave_wasRe h_o_way h_o_past h_o_notes h_o_turns h_o_beater h_o_reader h_o_dice h_o_trialWay h_o_trial h_o_otherTrial h_o_sumsRe h_o_sumsIm h_o_image h_o_tape h_o_wave_re h_o_wave_im h_o_wave_wasIm h_o_wave_halved o_imageKept o_taped o_ring_size o_ring_log o_tally o_wave_exp o_wave_done o_wave_backward o_ring_powers o_wave_wasRe) → va_S A s.heap H locs → lv_has ls 6 [(0, .ref h_o), (1, .int v1), (2, .int v2), (3, .int v3), (4, .int v4), (5, .int v5)] → W p l e ({ frames := 2, cells := 0, slots := 0, locals := 47 } : Room) s m ([.ref h_o, .int p1, .int p2, .int p3] : List Value).toArray below meth c H locs 0 0 Q (F0 m 84 ls []) := by
    intro k45 hk45 o_tally v1 v2 v3 v4 v5 H locs ls hf hP hD hS hl
    unfold fX9_tallyBins_84 at hf
    obtain ⟨v5_14, ev5_14⟩ : ∃ y : Int32, y = v5 + (1 : Int32) := ⟨_, rfl⟩
    have hf := nm_x ev5_14 hf
    refine lv_iinc (v := v5_14) (lv' := [(5, .int v5_14), (0, .ref h_o), (1, .int v1), (2, .int v2), (3, .int v3), (4, .int v4)]) hx hb dX9_tallyBins_84 hl (k := 5) rfl (by rw [ev5_14]; rfl) (by decide) rfl (fun ls hl => ?_)
    refine lv_goto (tgt := 45) hx hb dX9_tallyBins_87 (by decide) ?_
    exact hk45 o_tally v1 v2 v3 v4 v5_14 H locs ls hf hP hD hS (lv_sub hl [1, 2, 3, 4, 5, 0] rfl)
  have j45 : ∀ (n : Nat) (o_tally : Nat → Int32) (v1 : Int32) (v2 : Int32) (v3 : Int32) (v4 : Int32) (v5 : Int32) (H : Heap) (locs : List Loc) (ls : Array Slot), fX9_tallyBins_45 o_ring_size o_ring_powers n o_tally v1 v2 v3 v4 v5 = some out_o_tally → va_P G vwCl (wX9_tallyBins cI cJ cZ h_o h_o_ring h_o_tally h_o_wave h_o_ring_powers h_o_wave_wasRe h_o_way h_o_past h_o_notes h_o_turns h_o_beater h_o_reader h_o_dice h_o_trialWay h_o_trial h_o_otherTrial h_o_sumsRe h_o_sumsIm h_o_image h_o_tape h_o_wave_re h_o_wave_im h_o_wave_wasIm h_o_wave_halved o_imageKept o_taped o_ring_size o_ring_log o_tally o_wave_exp o_wave_done o_wave_backward o_ring_powers o_wave_wasRe) H → va_D A (wX9_tallyBins cI cJ cZ h_o h_o_ring h_o_tally h_o_wave h_o_ring_powers h_o_wave_wasRe h_o_way h_o_past h_o_notes h_o_turns h_o_beater h_o_reader h_o_dice h_o_trialWay h_o_trial h_o_otherTrial h_o_sumsRe h_o_sumsIm h_o_image h_o_tape h_o_wave_re h_o_wave_im h_o_wave_wasIm h_o_wave_halved o_imageKept o_taped o_ring_size o_ring_log o_tally o_wave_exp o_wave_done o_wave_backward o_ring_powers o_wave_wasRe) → va_S A s.heap H locs → lv_has ls 6 [(0, .ref h_o), (1, .int v1), (2, .int v2), (3, .int v3), (4, .int v4), (5, .int v5)] → W p l e ({ frames := 2, cells := 0, slots := 0, locals := 47 } : Room) s m ([.ref h_o, .int p1, .int p2, .int p3] : List Value).toArray below meth c H locs 0 0 Q (F0 m 45 ls []) := by
    intro n
    induction n with
    | zero =>
      intro o_tally v1 v2 v3 v4 v5 H locs ls hf
      have hf : (none : Option ((Nat → Int32))) = some out_o_tally := hf
      cases hf
    | succ n ih =>
      intro o_tally v1 v2 v3 v4 v5 H locs ls hf hP hD hS hl
      rw [fX9_tallyBins_45.eq_2] at hf
      refine lv_iload hx hb dX9_tallyBins_45 (lv_at hl 5 rfl) ?_
      refine lv_bipush (v := (16 : Int32)) hx hb dX9_tallyBins_47 (by decide) ?_
      refine lv_icmp_ge (tgt := 90) hx hb dX9_tallyBins_49 (by decide) (fun c_7 => ?_) (fun c_7 => ?_)
      · have hf := it_t c_7 hf
        cases hf
        exact hret _ _ _ _ dX9_tallyBins_90 hP hD hS
      · have hf := it_f c_7 hf
        refine lv_iload_n hx hb dX9_tallyBins_52 rfl (lv_at hl 1 rfl) ?_
        refine lv_iload hx hb dX9_tallyBins_53 (lv_at hl 5 rfl) ?_
        refine lv_ishr hx hb dX9_tallyBins_55 ?_
        refine lv_iconst (v := (1 : Int32)) hx hb dX9_tallyBins_56 (by decide) ?_
        refine lv_iand hx hb dX9_tallyBins_57 ?_
        refine lv_iconst (v := (1 : Int32)) hx hb dX9_tallyBins_58 (by decide) ?_
        refine lv_icmp_ne (tgt := 84) hx hb dX9_tallyBins_59 (by decide) (fun c_8 => ?_) (fun c_8 => ?_)
        · have hf := it_f c_8 hf
          exact j84 (fX9_tallyBins_45 o_ring_size o_ring_powers n) ih o_tally v1 v2 v3 v4 v5 H locs ls hf hP hD hS (lv_sub hl [0, 1, 2, 3, 4, 5] rfl)
        · have hf := it_t c_8 hf
          refine lv_aload_n hx hb dX9_tallyBins_62 rfl (lv_at hl 0 rfl) ?_
          refine rd (ci := 9) (C := RX9) (T := TX9) (N := 19) hx hb hts inX9 hown hK hP 0 14 rfl rfl (by decide) (hts _ q_fX9_90) rfl dX9_tallyBins_63 ?_
          refine lv_aload_n hx hb dX9_tallyBins_66 rfl (lv_at hl 0 rfl) ?_
          refine rd (ci := 9) (C := RX9) (T := TX9) (N := 19) hx hb hts inX9 hown hK hP 0 4 rfl rfl (by decide) (hts _ q_fX9_40) rfl dX9_tallyBins_67 ?_
          refine lv_iload hx hb dX9_tallyBins_70 (lv_at hl 4 rfl) ?_
          refine lv_iload hx hb dX9_tallyBins_72 (lv_at hl 5 rfl) ?_
          refine lv_iload_n hx hb dX9_tallyBins_74 rfl (lv_at hl 2 rfl) ?_
          refine lv_iload_n hx hb dX9_tallyBins_75 rfl (lv_at hl 3 rfl) ?_
          obtain ⟨r_9, e_10, hf⟩ := bd1_x hf
          refine call_v [.int v4, .int v5, .int v2, .int v3] [.ref h_o_tally] ⟨hx, hb, hml, hown, hts⟩ hK hP hD hS hA hl.1 (tX5_binWith l G cI cJ cZ H.size h_o_ring h_o_ring_powers o_ring_size o_ring_log o_ring_powers v4 v5 v2 v3 r_9 e_10) (cwV 4 hts (gv q_mX9_424 q_i_yX5_binWith q_s_yX5_binWith q_n_RX5 q_k_yX5_binWith) rfl rfl rfl (by decide +kernel) ⟨by decide, by decide⟩) rfl rfl (Nat.le_of_ble_eq_true rfl) dX9_tallyBins_76 ⟨Nat.zero_le _, Nat.zero_le _⟩ (ci := 5) rfl 0 rfl [1, 4] [0, 2, 3, 5] [0, 4, 1, 2, 5, 3] rfl rfl (ws2 := (wX9_tallyBins cI cJ cZ h_o h_o_ring h_o_tally h_o_wave h_o_ring_powers h_o_wave_wasRe h_o_way h_o_past h_o_notes h_o_turns h_o_beater h_o_reader h_o_dice h_o_trialWay h_o_trial h_o_otherTrial h_o_sumsRe h_o_sumsIm h_o_image h_o_tape h_o_wave_re h_o_wave_im h_o_wave_wasIm h_o_wave_halved o_imageKept o_taped o_ring_size o_ring_log o_tally o_wave_exp o_wave_done o_wave_backward o_ring_powers o_wave_wasRe)) rfl (fun H locs hP hD hS => ?_)
          refine W.eq (g2 := F0 m 79 ls [.int r_9, .ref h_o_tally]) rfl ?_
          refine lv_dup2_11 hx hb dX9_tallyBins_79 rfl rfl ?_
          obtain ⟨g_11, hf⟩ := gd_x hf
          refine va_iald hx hb hK hP 2 0 rfl rfl (inb_x g_11) dX9_tallyBins_80 ?_
          refine lv_iconst (v := (1 : Int32)) hx hb dX9_tallyBins_81 (by decide) ?_
          refine lv_iadd hx hb dX9_tallyBins_82 ?_
          obtain ⟨g_12, hf⟩ := gd_x hf
          obtain ⟨o_tally_13, eo_tally_13⟩ : ∃ y : Nat → Int32, y = upd o_tally (Int32.toNatClampNeg r_9) ((o_tally (Int32.toNatClampNeg r_9)) + (1 : Int32)) := ⟨_, rfl⟩
          have hf := nm_x eo_tally_13 hf
          refine ist hx hb hK hP hD hS 2 0 rfl rfl (inb_x g_12) dX9_tallyBins_83 eo_tally_13 (ws2 := (wX9_tallyBins cI cJ cZ h_o h_o_ring h_o_tally h_o_wave h_o_ring_powers h_o_wave_wasRe h_o_way h_o_past h_o_notes h_o_turns h_o_beater h_o_reader h_o_dice h_o_trialWay h_o_trial h_o_otherTrial h_o_sumsRe h_o_sumsIm h_o_image h_o_tape h_o_wave_re h_o_wave_im h_o_wave_wasIm h_o_wave_halved o_imageKept o_taped o_ring_size o_ring_log o_tally_13 o_wave_exp o_wave_done o_wave_backward o_ring_powers o_wave_wasRe)) rfl (fun H locs hP hD hS => ?_)
          exact j84 (fX9_tallyBins_45 o_ring_size o_ring_powers n) ih o_tally_13 v1 v2 v3 v4 v5 H locs ls hf hP hD hS (lv_sub hl [0, 1, 2, 3, 4, 5] rfl)
  have j24 : ∀ (o_tally : Nat → Int32) (v1 : Int32) (v2 : Int32) (v3 : Int32) (H : Heap) (locs : List Loc) (ls : Array Slot), fX9_tallyBins_24 o_ring_size o_ring_powers o_wave_wasRe o_tally v1 v2 v3 = some out_o_tally → va_P G vwCl (wX9_tallyBins cI cJ cZ h_o h_o_ring h_o_tally h_o_wave h_o_ring_powers h_o_wave_wasRe h_o_way h_o_past h_o_notes h_o_turns h_o_beater h_o_reader h_o_dice h_o_trialWay h_o_trial h_o_otherTrial h_o_sumsRe h_o_sumsIm h_o_image h_o_tape h_o_wave_re h_o_wave_im h_o_wave_wasIm h_o_wave_halved o_imageKept o_taped o_ring_size o_ring_log o_tally o_wave_exp o_wave_done o_wave_backward o_ring_powers o_wave_wasRe) H → va_D A (wX9_tallyBins cI cJ cZ h_o h_o_ring h_o_tally h_o_wave h_o_ring_powers h_o_wave_wasRe h_o_way h_o_past h_o_notes h_o_turns h_o_beater h_o_reader h_o_dice h_o_trialWay h_o_trial h_o_otherTrial h_o_sumsRe h_o_sumsIm h_o_image h_o_tape h_o_wave_re h_o_wave_im h_o_wave_wasIm h_o_wave_halved o_imageKept o_taped o_ring_size o_ring_log o_tally o_wave_exp o_wave_done o_wave_backward o_ring_powers o_wave_wasRe) → va_S A s.heap H locs → lv_has ls 6 [(0, .ref h_o), (1, .int v1), (2, .int v2), (3, .int v3)] → W p l e ({ frames := 2, cells := 0, slots := 0, locals := 47 } : Room) s m ([.ref h_o, .int p1, .int p2, .int p3] : List Value).toArray below meth c H locs 0 0 Q (F0 m 24 ls []) := by
    intro o_tally v1 v2 v3 H locs ls hf hP hD hS hl
    unfold fX9_tallyBins_24 at hf
    refine lv_aload_n hx hb dX9_tallyBins_24 rfl (lv_at hl 0 rfl) ?_
    refine rd (ci := 9) (C := RX9) (T := TX9) (N := 19) hx hb hts inX9 hown hK hP 0 4 rfl rfl (by decide) (hts _ q_fX9_40) rfl dX9_tallyBins_25 ?_
    refine lv_aload_n hx hb dX9_tallyBins_28 rfl (lv_at hl 0 rfl) ?_
    refine rd (ci := 9) (C := RX9) (T := TX9) (N := 19) hx hb hts inX9 hown hK hP 0 1 rfl rfl (by decide) (hts _ q_fX9_19) rfl dX9_tallyBins_29 ?_
    refine rd (ci := 7) (C := RX7) (T := TX7) (N := 8) hx hb hts inX7 hown hK hP 3 2 rfl rfl (by decide) (hts _ q_fX9_177) rfl dX9_tallyBins_32 ?_
    refine lv_iload_n hx hb dX9_tallyBins_35 rfl (lv_at hl 2 rfl) ?_
    refine lv_iload_n hx hb dX9_tallyBins_36 rfl (lv_at hl 3 rfl) ?_
    obtain ⟨r_5, e_6, hf⟩ := bd1_x hf
    refine call_v [.ref h_o_wave_wasRe, .int v2, .int v3] [] ⟨hx, hb, hml, hown, hts⟩ hK hP hD hS hA hl.1 (tX5_binWithout l G cI cJ cZ H.size h_o_ring h_o_wave_wasRe h_o_ring_powers o_ring_size o_ring_log o_wave_wasRe o_ring_powers v2 v3 r_5 e_6) (cwV 3 hts (gv q_mX9_389 q_i_yX5_binWithout q_s_yX5_binWithout q_n_RX5 q_k_yX5_binWithout) rfl rfl rfl (by decide +kernel) ⟨by decide, by decide⟩) rfl rfl (Nat.le_of_ble_eq_true rfl) dX9_tallyBins_37 ⟨Nat.zero_le _, Nat.zero_le _⟩ (ci := 5) rfl 0 rfl [1, 5, 4] [0, 2, 3] [0, 3, 1, 2, 5, 4] rfl rfl (ws2 := (wX9_tallyBins cI cJ cZ h_o h_o_ring h_o_tally h_o_wave h_o_ring_powers h_o_wave_wasRe h_o_way h_o_past h_o_notes h_o_turns h_o_beater h_o_reader h_o_dice h_o_trialWay h_o_trial h_o_otherTrial h_o_sumsRe h_o_sumsIm h_o_image h_o_tape h_o_wave_re h_o_wave_im h_o_wave_wasIm h_o_wave_halved o_imageKept o_taped o_ring_size o_ring_log o_tally o_wave_exp o_wave_done o_wave_backward o_ring_powers o_wave_wasRe)) rfl (fun H locs hP hD hS => ?_)
    refine W.eq (g2 := F0 m 40 ls [.int r_5]) rfl ?_
    refine lv_istore (lv' := [(4, .int r_5), (0, .ref h_o), (1, .int v1), (2, .int v2), (3, .int v3)]) hx hb dX9_tallyBins_40 hl (by decide) rfl (fun ls hl => ?_)
    refine lv_iconst (v := (0 : Int32)) hx hb dX9_tallyBins_42 (by decide) ?_
    refine lv_istore (lv' := [(5, .int (0 : Int32)), (4, .int r_5), (0, .ref h_o), (1, .int v1), (2, .int v2), (3, .int v3)]) hx hb dX9_tallyBins_43 hl (by decide) rfl (fun ls hl => ?_)
    exact j45 FU o_tally v1 v2 v3 r_5 (0 : Int32) H locs ls hf hP hD hS (lv_sub hl [2, 3, 4, 5, 1, 0] rfl)
  have j3 : ∀ (n : Nat) (o_tally : Nat → Int32) (v1 : Int32) (v2 : Int32) (v3 : Int32) (v4 : Int32) (H : Heap) (locs : List Loc) (ls : Array Slot), fX9_tallyBins_3 o_ring_size o_ring_powers o_wave_wasRe n o_tally v1 v2 v3 v4 = some out_o_tally → va_P G vwCl (wX9_tallyBins cI cJ cZ h_o h_o_ring h_o_tally h_o_wave h_o_ring_powers h_o_wave_wasRe h_o_way h_o_past h_o_notes h_o_turns h_o_beater h_o_reader h_o_dice h_o_trialWay h_o_trial h_o_otherTrial h_o_sumsRe h_o_sumsIm h_o_image h_o_tape h_o_wave_re h_o_wave_im h_o_wave_wasIm h_o_wave_halved o_imageKept o_taped o_ring_size o_ring_log o_tally o_wave_exp o_wave_done o_wave_backward o_ring_powers o_wave_wasRe) H → va_D A (wX9_tallyBins cI cJ cZ h_o h_o_ring h_o_tally h_o_wave h_o_ring_powers h_o_wave_wasRe h_o_way h_o_past h_o_notes h_o_turns h_o_beater h_o_reader h_o_dice h_o_trialWay h_o_trial h_o_otherTrial h_o_sumsRe h_o_sumsIm h_o_image h_o_tape h_o_wave_re h_o_wave_im h_o_wave_wasIm h_o_wave_halved o_imageKept o_taped o_ring_size o_ring_log o_tally o_wave_exp o_wave_done o_wave_backward o_ring_powers o_wave_wasRe) → va_S A s.heap H locs → lv_has ls 6 [(0, .ref h_o), (1, .int v1), (2, .int v2), (3, .int v3), (4, .int v4)] → W p l e ({ frames := 2, cells := 0, slots := 0, locals := 47 } : Room) s m ([.ref h_o, .int p1, .int p2, .int p3] : List Value).toArray below meth c H locs 0 0 Q (F0 m 3 ls []) := by
    intro n
    induction n with
    | zero =>
      intro o_tally v1 v2 v3 v4 H locs ls hf
      have hf : (none : Option ((Nat → Int32))) = some out_o_tally := hf
      cases hf
    | succ n ih =>
      intro o_tally v1 v2 v3 v4 H locs ls hf hP hD hS hl
      rw [fX9_tallyBins_3.eq_2] at hf
      refine lv_iload hx hb dX9_tallyBins_3 (lv_at hl 4 rfl) ?_
      refine lv_bipush (v := (97 : Int32)) hx hb dX9_tallyBins_5 (by decide) ?_
      refine lv_icmp_ge (tgt := 24) hx hb dX9_tallyBins_7 (by decide) (fun c_1 => ?_) (fun c_1 => ?_)
      · have hf := it_t c_1 hf
        exact j24 o_tally v1 v2 v3 H locs ls hf hP hD hS (lv_sub hl [0, 1, 2, 3] rfl)
      · have hf := it_f c_1 hf
        refine lv_aload_n hx hb dX9_tallyBins_10 rfl (lv_at hl 0 rfl) ?_
        refine rd (ci := 9) (C := RX9) (T := TX9) (N := 19) hx hb hts inX9 hown hK hP 0 14 rfl rfl (by decide) (hts _ q_fX9_90) rfl dX9_tallyBins_11 ?_
        refine lv_iload hx hb dX9_tallyBins_14 (lv_at hl 4 rfl) ?_
        refine lv_iconst (v := (0 : Int32)) hx hb dX9_tallyBins_16 (by decide) ?_
        obtain ⟨g_2, hf⟩ := gd_x hf
        obtain ⟨o_tally_3, eo_tally_3⟩ : ∃ y : Nat → Int32, y = upd o_tally (Int32.toNatClampNeg v4) (0 : Int32) := ⟨_, rfl⟩
        have hf := nm_x eo_tally_3 hf
        refine ist hx hb hK hP hD hS 2 0 rfl rfl (inb_x g_2) dX9_tallyBins_17 eo_tally_3 (ws2 := (wX9_tallyBins cI cJ cZ h_o h_o_ring h_o_tally h_o_wave h_o_ring_powers h_o_wave_wasRe h_o_way h_o_past h_o_notes h_o_turns h_o_beater h_o_reader h_o_dice h_o_trialWay h_o_trial h_o_otherTrial h_o_sumsRe h_o_sumsIm h_o_image h_o_tape h_o_wave_re h_o_wave_im h_o_wave_wasIm h_o_wave_halved o_imageKept o_taped o_ring_size o_ring_log o_tally_3 o_wave_exp o_wave_done o_wave_backward o_ring_powers o_wave_wasRe)) rfl (fun H locs hP hD hS => ?_)
        obtain ⟨v4_4, ev4_4⟩ : ∃ y : Int32, y = v4 + (1 : Int32) := ⟨_, rfl⟩
        have hf := nm_x ev4_4 hf
        refine lv_iinc (v := v4_4) (lv' := [(4, .int v4_4), (0, .ref h_o), (1, .int v1), (2, .int v2), (3, .int v3)]) hx hb dX9_tallyBins_18 hl (k := 4) rfl (by rw [ev4_4]; rfl) (by decide) rfl (fun ls hl => ?_)
        refine lv_goto (tgt := 3) hx hb dX9_tallyBins_21 (by decide) ?_
        exact ih o_tally_3 v1 v2 v3 v4_4 H locs ls hf hP hD hS (lv_sub hl [1, 2, 3, 4, 0] rfl)
  unfold fX9_tallyBins at hf
  obtain ⟨H, eH⟩ : ∃ H, H = s.heap := ⟨_, rfl⟩
  obtain ⟨locs, elocs⟩ : ∃ z : List Loc, z = [] := ⟨_, rfl⟩
  have hP : va_P G vwCl (wX9_tallyBins cI cJ cZ h_o h_o_ring h_o_tally h_o_wave h_o_ring_powers h_o_wave_wasRe h_o_way h_o_past h_o_notes h_o_turns h_o_beater h_o_reader h_o_dice h_o_trialWay h_o_trial h_o_otherTrial h_o_sumsRe h_o_sumsIm h_o_image h_o_tape h_o_wave_re h_o_wave_im h_o_wave_wasIm h_o_wave_halved o_imageKept o_taped o_ring_size o_ring_log o_tally o_wave_exp o_wave_done o_wave_backward o_ring_powers o_wave_wasRe) H := by rw [eH]; exact hP
  have hS : va_S A s.heap H locs := by rw [eH, elocs]; exact hS
  suffices hgo : W p l e ({ frames := 2, cells := 0, slots := 0, locals := 47 } : Room) s m ([.ref h_o, .int p1, .int p2, .int p3] : List Value).toArray below meth c H locs 0 0 Q (F0 m 0 ls []) by rw [eH, elocs] at hgo; exact hgo
  clear eH elocs
  refine lv_iconst (v := (0 : Int32)) hx hb dX9_tallyBins_0 (by decide) ?_
  refine lv_istore (lv' := [(4, .int (0 : Int32)), (0, .ref h_o), (1, .int p1), (2, .int p2), (3, .int p3)]) hx hb dX9_tallyBins_1 hl (by decide) rfl (fun ls hl => ?_)
  exact j3 FU o_tally p1 p2 p3 (0 : Int32) H locs ls hf hP hD hS (lv_sub hl [1, 2, 3, 4, 0] rfl)
def wX9_ask (cI cJ cZ : ClassId) (h_o h_o_notes h_o_ring h_o_tally h_o_wave h_o_way h_o_notes_bins h_o_notes_kinds h_o_notes_targets h_o_ring_powers h_o_wave_wasRe h_o_past h_o_turns h_o_beater h_o_reader h_o_dice h_o_trialWay h_o_trial h_o_otherTrial h_o_sumsRe h_o_sumsIm h_o_image h_o_tape h_o_wave_re h_o_wave_im h_o_wave_wasIm h_o_wave_halved h_o_way_shifts : Nat) (o_imageKept : Int32) (o_taped : Int32) (o_notes_total : Int32) (o_notes_knownBy : Int32) (o_ring_size : Int32) (o_ring_log : Int32) (o_tally : Nat → Int32) (o_wave_exp : Int32) (o_wave_done : Int32) (o_wave_backward : Int32) (o_way_size : Int32) (o_way_log : Int32) (o_way_wordBits : Int32) (o_way_limit : Int32) (o_way_radix : Int32) (o_way_order : Int32) (o_way_near : Int32) (o_way_seed : Int32) (o_way_stages : Int32) (o_notes_bins : Nat → Int32) (o_notes_kinds : Nat → Int32) (o_notes_targets : Nat → Int32) (o_ring_powers : Nat → Int32) (o_wave_wasRe : Nat → Int32) : va_W := [(h_o, .inr (9, [.ref h_o_way, .ref h_o_wave, .ref h_o_past, .ref h_o_notes, .ref h_o_ring, .ref h_o_turns, .ref h_o_beater, .ref h_o_reader, .ref h_o_dice, .ref h_o_trialWay, .ref h_o_trial, .ref h_o_otherTrial, .ref h_o_sumsRe, .ref h_o_sumsIm, .ref h_o_tally, .ref h_o_image, .int o_imageKept, .ref h_o_tape, .int o_taped])), (h_o_notes, .inr (2, [.ref h_o_notes_kinds, .ref h_o_notes_targets, .ref h_o_notes_bins, .int o_notes_total, .int o_notes_knownBy])), (h_o_ring, .inr (5, [.ref h_o_ring_powers, .int o_ring_size, .int o_ring_log])), (h_o_tally, .inl (cI, 97, .inl o_tally)), (h_o_wave, .inr (7, [.ref h_o_wave_re, .ref h_o_wave_im, .ref h_o_wave_wasRe, .ref h_o_wave_wasIm, .ref h_o_wave_halved, .int o_wave_exp, .int o_wave_done, .int o_wave_backward])), (h_o_way, .inr (8, [.int o_way_size, .int o_way_log, .int o_way_wordBits, .int o_way_limit, .int o_way_radix, .int o_way_order, .int o_way_near, .int o_way_seed, .int o_way_stages, .ref h_o_way_shifts])), (h_o_notes_bins, .inl (cI, 24, .inl o_notes_bins)), (h_o_notes_kinds, .inl (cI, 24, .inl o_notes_kinds)), (h_o_notes_targets, .inl (cI, 24, .inl o_notes_targets)), (h_o_ring_powers, .inl (cI, 32, .inl o_ring_powers)), (h_o_wave_wasRe, .inl (cI, 32, .inl o_wave_wasRe))]
def fX9_ask_135 (o_tally : Nat → Int32) (v2 : Int32) (v5 : Int32) (v6 : Int32) (v7 : Int32) : Option (Int32 × (Nat → Int32)) :=
  if v2 = 0 then (
    some (v5, o_tally)
  ) else (
    if v2 = (1 : Int32) then (
      some (v6, o_tally)
    ) else (
      some (v7, o_tally)
    )
  )
def fX9_ask_129 (o_ring_size : Int32) (o_way_size : Int32) (o_ring_powers : Nat → Int32) (o_wave_wasRe : Nat → Int32) (k44 : (Nat → Int32) → Int32 → Int32 → Int32 → Int32 → Int32 → Int32 → Int32 → Int32 → Option (Int32 × (Nat → Int32))) (o_tally : Nat → Int32) (v1 : Int32) (v2 : Int32) (v3 : Int32) (v4 : Int32) (v5 : Int32) (v6 : Int32) (v7 : Int32) (v8 : Int32) : Option (Int32 × (Nat → Int32)) :=
  nm (v8 + (1 : Int32)) (fun v8_20 =>
  k44 o_tally v1 v2 v3 v4 v5 v6 v7 v8_20)
def fX9_ask_123 (o_ring_size : Int32) (o_way_size : Int32) (o_ring_powers : Nat → Int32) (o_wave_wasRe : Nat → Int32) (k44 : (Nat → Int32) → Int32 → Int32 → Int32 → Int32 → Int32 → Int32 → Int32 → Int32 → Option (Int32 × (Nat → Int32))) (k71 : (Nat → Int32) → Int32 → Int32 → Int32 → Int32 → Int32 → Int32 → Int32 → Int32 → Int32 → Int32 → Option (Int32 × (Nat → Int32))) (o_tally : Nat → Int32) (v1 : Int32) (v2 : Int32) (v3 : Int32) (v4 : Int32) (v5 : Int32) (v6 : Int32) (v7 : Int32) (v8 : Int32) (v9 : Int32) (v10 : Int32) : Option (Int32 × (Nat → Int32)) :=
  nm (v10 + (1 : Int32)) (fun v10_19 =>
  k71 o_tally v1 v2 v3 v4 v5 v6 v7 v8 v9 v10_19)
def fX9_ask_71 (o_ring_size : Int32) (o_way_size : Int32) (o_ring_powers : Nat → Int32) (o_wave_wasRe : Nat → Int32) (k44 : (Nat → Int32) → Int32 → Int32 → Int32 → Int32 → Int32 → Int32 → Int32 → Int32 → Option (Int32 × (Nat → Int32))) : Nat → (Nat → Int32) → Int32 → Int32 → Int32 → Int32 → Int32 → Int32 → Int32 → Int32 → Int32 → Int32 → Option (Int32 × (Nat → Int32))
  | 0, _, _, _, _, _, _, _, _, _, _, _ => none
  | n + 1, o_tally, v1, v2, v3, v4, v5, v6, v7, v8, v9, v10 =>
    if (97 : Int32) ≤ v10 then (
      fX9_ask_129 o_ring_size o_way_size o_ring_powers o_wave_wasRe k44 o_tally v1 v2 v3 v4 v5 v6 v7 v8
    ) else (
      nm (v10 - (1 : Int32)) (fun i_14 =>
      gd (inb i_14 97) (
      nm (v9 - (o_tally (Int32.toNatClampNeg i_14))) (fun v9_16 =>
      nm (if v9_16 < (v4 - v9_16) then (v4 - v9_16) else v9_16) (fun m_17 =>
      if v7 ≤ m_17 then (
        fX9_ask_123 o_ring_size o_way_size o_ring_powers o_wave_wasRe k44 (fX9_ask_71 o_ring_size o_way_size o_ring_powers o_wave_wasRe k44 n) o_tally v1 v2 v3 v4 v5 v6 v7 v8 v9_16 v10
      ) else (
        fX9_ask_123 o_ring_size o_way_size o_ring_powers o_wave_wasRe k44 (fX9_ask_71 o_ring_size o_way_size o_ring_powers o_wave_wasRe k44 n) o_tally v1 v2 v3 v4 v8 v10 m_17 v8 v9_16 v10
      )))))
    )
def fX9_ask_44 (o_ring_size : Int32) (o_way_size : Int32) (o_ring_powers : Nat → Int32) (o_wave_wasRe : Nat → Int32) : Nat → (Nat → Int32) → Int32 → Int32 → Int32 → Int32 → Int32 → Int32 → Int32 → Int32 → Option (Int32 × (Nat → Int32))
  | 0, _, _, _, _, _, _, _, _, _ => none
  | n + 1, o_tally, v1, v2, v3, v4, v5, v6, v7, v8 =>
    if o_way_size ≤ v8 then (
      fX9_ask_135 o_tally v2 v5 v6 v7
    ) else (
      bd1 (fX9_tallyBins o_ring_size o_tally o_ring_powers o_wave_wasRe v3 v8 v1) (fun o_tally_11 =>
      fX9_ask_71 o_ring_size o_way_size o_ring_powers o_wave_wasRe (fX9_ask_44 o_ring_size o_way_size o_ring_powers o_wave_wasRe n) FU o_tally_11 v1 v2 v3 v4 v5 v6 v7 v8 v4 (1 : Int32))
    )
def fX9_ask (o_notes_total : Int32) (o_notes_knownBy : Int32) (o_ring_size : Int32) (o_tally : Nat → Int32) (o_way_size : Int32) (o_notes_bins : Nat → Int32) (o_notes_kinds : Nat → Int32) (o_notes_targets : Nat → Int32) (o_ring_powers : Nat → Int32) (o_wave_wasRe : Nat → Int32) (p1 : Int32) (p2 : Int32) : Option (Int32 × (Nat → Int32)) :=
  bd1 (fX9_isPlace o_way_size p1) (fun r_1 =>
  if r_1 = 0 then (
    some ((-1 : Int32), o_tally)
  ) else (
    if p2 < 0 then (
      some ((-1 : Int32), o_tally)
    ) else (
      if p2 ≤ (2 : Int32) then (
        bd1 (fX9_valuesOf o_notes_total o_notes_knownBy o_ring_size o_notes_bins o_notes_kinds o_notes_targets o_ring_powers o_wave_wasRe p1) (fun r_6 =>
        bd1 (fJ6_bitCount_0f7a4 r_6) (fun r_8 =>
        fX9_ask_44 o_ring_size o_way_size o_ring_powers o_wave_wasRe FU o_tally p1 p2 r_6 r_8 (0 : Int32) (1 : Int32) r_8 (0 : Int32)))
      ) else (
        some ((-1 : Int32), o_tally)
      )
    )
  ))
set_option maxHeartbeats 4000000 in
set_option maxRecDepth 100000 in
theorem tX9_ask (l : Launch) (G : va_G) (cI cJ cZ : ClassId) (sz : Nat) (h_o h_o_notes h_o_ring h_o_tally h_o_wave h_o_way h_o_notes_bins h_o_notes_kinds h_o_notes_targets h_o_ring_powers h_o_wave_wasRe h_o_past h_o_turns h_o_beater h_o_reader h_o_dice h_o_trialWay h_o_trial h_o_otherTrial h_o_sumsRe h_o_sumsIm h_o_image h_o_tape h_o_wave_re h_o_wave_im h_o_wave_wasIm h_o_wave_halved h_o_way_shifts : Nat) (o_imageKept : Int32) (o_taped : Int32) (o_notes_total : Int32) (o_notes_knownBy : Int32) (o_ring_size : Int32) (o_ring_log : Int32) (o_tally : Nat → Int32) (o_wave_exp : Int32) (o_wave_done : Int32) (o_wave_backward : Int32) (o_way_size : Int32) (o_way_log : Int32) (o_way_wordBits : Int32) (o_way_limit : Int32) (o_way_radix : Int32) (o_way_order : Int32) (o_way_near : Int32) (o_way_seed : Int32) (o_way_stages : Int32) (o_notes_bins : Nat → Int32) (o_notes_kinds : Nat → Int32) (o_notes_targets : Nat → Int32) (o_ring_powers : Nat → Int32) (o_wave_wasRe : Nat → Int32) (p1 : Int32) (p2 : Int32) (r : Int32) (out_o_tally : Nat → Int32) (hf : fX9_ask o_notes_total o_notes_knownBy o_ring_size o_tally o_way_size o_notes_bins o_notes_kinds o_notes_targets o_ring_powers o_wave_wasRe p1 p2 = some (r, out_o_tally)) : Met l yX9_ask (Cond.code yX9_ask cX9_ask 12 (some .int) :: BIG) ({ frames := 4, cells := 0, slots := 0, locals := 99 } : Room) (cP G (TY3 cI cJ cZ) [.ref h_o, .int p1, .int p2] sz (wX9_ask cI cJ cZ h_o h_o_notes h_o_ring h_o_tally h_o_wave h_o_way h_o_notes_bins h_o_notes_kinds h_o_notes_targets h_o_ring_powers h_o_wave_wasRe h_o_past h_o_turns h_o_beater h_o_reader h_o_dice h_o_trialWay h_o_trial h_o_otherTrial h_o_sumsRe h_o_sumsIm h_o_image h_o_tape h_o_wave_re h_o_wave_im h_o_wave_wasIm h_o_wave_halved h_o_way_shifts o_imageKept o_taped o_notes_total o_notes_knownBy o_ring_size o_ring_log o_tally o_wave_exp o_wave_done o_wave_backward o_way_size o_way_log o_way_wordBits o_way_limit o_way_radix o_way_order o_way_near o_way_seed o_way_stages o_notes_bins o_notes_kinds o_notes_targets o_ring_powers o_wave_wasRe)) (cQ G (TY3 cI cJ cZ) sz (wX9_ask cI cJ cZ h_o h_o_notes h_o_ring h_o_tally h_o_wave h_o_way h_o_notes_bins h_o_notes_kinds h_o_notes_targets h_o_ring_powers h_o_wave_wasRe h_o_past h_o_turns h_o_beater h_o_reader h_o_dice h_o_trialWay h_o_trial h_o_otherTrial h_o_sumsRe h_o_sumsIm h_o_image h_o_tape h_o_wave_re h_o_wave_im h_o_wave_wasIm h_o_wave_halved h_o_way_shifts o_imageKept o_taped o_notes_total o_notes_knownBy o_ring_size o_ring_log o_tally o_wave_exp o_wave_done o_wave_backward o_way_size o_way_log o_way_wordBits o_way_limit o_way_radix o_way_order o_way_near o_way_seed o_way_stages o_notes_bins o_notes_kinds o_notes_targets o_ring_powers o_wave_wasRe) (wX9_ask cI cJ cZ h_o h_o_notes h_o_ring h_o_tally h_o_wave h_o_way h_o_notes_bins h_o_notes_kinds h_o_notes_targets h_o_ring_powers h_o_wave_wasRe h_o_past h_o_turns h_o_beater h_o_reader h_o_dice h_o_trialWay h_o_trial h_o_otherTrial h_o_sumsRe h_o_sumsIm h_o_image h_o_tape h_o_wave_re h_o_wave_im h_o_wave_wasIm h_o_wave_halved h_o_way_shifts o_imageKept o_taped o_notes_total o_notes_knownBy o_ring_size o_ring_log out_o_tally o_wave_exp o_wave_done o_wave_backward o_way_size o_way_log o_way_wordBits o_way_limit o_way_radix o_way_order o_way_near o_way_seed o_way_stages o_notes_bins o_notes_kinds o_notes_targets o_ring_powers o_wave_wasRe) (some (.int r))) 0 0 (va_A (wX9_ask cI cJ cZ h_o h_o_notes h_o_ring h_o_tally h_o_wave h_o_way h_o_notes_bins h_o_notes_kinds h_o_notes_targets h_o_ring_powers h_o_wave_wasRe h_o_past h_o_turns h_o_beater h_o_reader h_o_dice h_o_trialWay h_o_trial h_o_otherTrial h_o_sumsRe h_o_sumsIm h_o_image h_o_tape h_o_wave_re h_o_wave_im h_o_wave_wasIm h_o_wave_halved h_o_way_shifts o_imageKept o_taped o_notes_total o_notes_knownBy o_ring_size o_ring_log o_tally o_wave_exp o_wave_done o_wave_backward o_way_size o_way_log o_way_wordBits o_way_limit o_way_radix o_way_order o_way_near o_way_seed o_way_stages o_notes_bins o_notes_kinds o_notes_targets o_ring_powers o_wave_wasRe) sz) := by
  refine met_i (cc := cX9_ask) (maxL := 12) (plainFor_of_name (by decide)) (Nat.le_of_ble_eq_true rfl) (fun p e s m below meth c A ls Q hx hb hml hts hown hK hP hD hS hA hl hret => ?_)
  have hown : s.vm.findClass RX9 = some m.cls := hown
  have hl : lv_has ls 12 [(0, .ref h_o), (1, .int p1), (2, .int p2)] := hl
  have j135 : ∀ (o_tally : Nat → Int32) (v2 : Int32) (v5 : Int32) (v6 : Int32) (v7 : Int32) (H : Heap) (locs : List Loc) (ls : Array Slot), fX9_ask_135 o_tally v2 v5 v6 v7 = some (r, out_o_tally) → va_P G vwCl (wX9_ask cI cJ cZ h_o h_o_notes h_o_ring h_o_tally h_o_wave h_o_way h_o_notes_bins h_o_notes_kinds h_o_notes_targets h_o_ring_powers h_o_wave_wasRe h_o_past h_o_turns h_o_beater h_o_reader h_o_dice h_o_trialWay h_o_trial h_o_otherTrial h_o_sumsRe h_o_sumsIm h_o_image h_o_tape h_o_wave_re h_o_wave_im h_o_wave_wasIm h_o_wave_halved h_o_way_shifts o_imageKept o_taped o_notes_total o_notes_knownBy o_ring_size o_ring_log o_tally o_wave_exp o_wave_done o_wave_backward o_way_size o_way_log o_way_wordBits o_way_limit o_way_radix o_way_order o_way_near o_way_seed o_way_stages o_notes_bins o_notes_kinds o_notes_targets o_ring_powers o_wave_wasRe) H → va_D A (wX9_ask cI cJ cZ h_o h_o_notes h_o_ring h_o_tally h_o_wave h_o_way h_o_notes_bins h_o_notes_kinds h_o_notes_targets h_o_ring_powers h_o_wave_wasRe h_o_past h_o_turns h_o_beater h_o_reader h_o_dice h_o_trialWay h_o_trial h_o_otherTrial h_o_sumsRe h_o_sumsIm h_o_image h_o_tape h_o_wave_re h_o_wave_im h_o_wave_wasIm h_o_wave_halved h_o_way_shifts o_imageKept o_taped o_notes_total o_notes_knownBy o_ring_size o_ring_log o_tally o_wave_exp o_wave_done o_wave_backward o_way_size o_way_log o_way_wordBits o_way_limit o_way_radix o_way_order o_way_near o_way_seed o_way_stages o_notes_bins o_notes_kinds o_notes_targets o_ring_powers o_wave_wasRe) → va_S A s.heap H locs → lv_has ls 12 [(2, .int v2), (5, .int v5), (6, .int v6), (7, .int v7)] → W p l e ({ frames := 4, cells := 0, slots := 0, locals := 99 } : Room) s m ([.ref h_o, .int p1, .int p2] : List Value).toArray below meth c H locs 0 0 Q (F0 m 135 ls []) := by
    intro o_tally v2 v5 v6 v7 H locs ls hf hP hD hS hl
    unfold fX9_ask_135 at hf
    refine lv_iload_n hx hb dX9_ask_135 rfl (lv_at hl 0 rfl) ?_
    refine lv_if_ne (tgt := 142) hx hb dX9_ask_136 (by decide) (fun c_21 => ?_) (fun c_21 => ?_)
    · have hf := it_f c_21 hf
      refine lv_iload_n hx hb dX9_ask_142 rfl (lv_at hl 0 rfl) ?_
      refine lv_iconst (v := (1 : Int32)) hx hb dX9_ask_143 (by decide) ?_
      refine lv_icmp_ne (tgt := 152) hx hb dX9_ask_144 (by decide) (fun c_22 => ?_) (fun c_22 => ?_)
      · have hf := it_f c_22 hf
        refine lv_iload hx hb dX9_ask_152 (lv_at hl 3 rfl) ?_
        cases hf
        exact hret _ _ _ _ dX9_ask_154 hP hD hS
      · have hf := it_t c_22 hf
        refine lv_iload hx hb dX9_ask_147 (lv_at hl 2 rfl) ?_
        refine lv_goto (tgt := 154) hx hb dX9_ask_149 (by decide) ?_
        cases hf
        exact hret _ _ _ _ dX9_ask_154 hP hD hS
    · have hf := it_t c_21 hf
      refine lv_iload hx hb dX9_ask_139 (lv_at hl 1 rfl) ?_
      cases hf
      exact hret _ _ _ _ dX9_ask_141 hP hD hS
  have j129 : ∀ (k44 : (Nat → Int32) → Int32 → Int32 → Int32 → Int32 → Int32 → Int32 → Int32 → Int32 → Option (Int32 × (Nat → Int32))), (∀ (o_tally : Nat → Int32) (v1 : Int32) (v2 : Int32) (v3 : Int32) (v4 : Int32) (v5 : Int32) (v6 : Int32) (v7 : Int32) (v8 : Int32) (H : Heap) (locs : List Loc) (ls : Array Slot), k44 o_tally v1 v2 v3 v4 v5 v6 v7 v8 = some (r, out_o_tally) → va_P G vwCl (wX9_ask cI cJ cZ h_o h_o_notes h_o_ring h_o_tally h_o_wave h_o_way h_o_notes_bins h_o_notes_kinds h_o_notes_targets h_o_ring_powers h_o_wave_wasRe h_o_past h_o_turns h_o_beater h_o_reader h_o_dice h_o_trialWay h_o_trial h_o_otherTrial h_o_sumsRe h_o_sumsIm h_o_image h_o_tape h_o_wave_re h_o_wave_im h_o_wave_wasIm h_o_wave_halved h_o_way_shifts o_imageKept o_taped o_notes_total o_notes_knownBy o_ring_size o_ring_log o_tally o_wave_exp o_wave_done o_wave_backward o_way_size o_way_log o_way_wordBits o_way_limit o_way_radix o_way_order o_way_near o_way_seed o_way_stages o_notes_bins o_notes_kinds o_notes_targets o_ring_powers o_wave_wasRe) H → va_D A (wX9_ask cI cJ cZ h_o h_o_notes h_o_ring h_o_tally h_o_wave h_o_way h_o_notes_bins h_o_notes_kinds h_o_notes_targets h_o_ring_powers h_o_wave_wasRe h_o_past h_o_turns h_o_beater h_o_reader h_o_dice h_o_trialWay h_o_trial h_o_otherTrial h_o_sumsRe h_o_sumsIm h_o_image h_o_tape h_o_wave_re h_o_wave_im h_o_wave_wasIm h_o_wave_halved h_o_way_shifts o_imageKept o_taped o_notes_total o_notes_knownBy o_ring_size o_ring_log o_tally o_wave_exp o_wave_done o_wave_backward o_way_size o_way_log o_way_wordBits o_way_limit o_way_radix o_way_order o_way_near o_way_seed o_way_stages o_notes_bins o_notes_kinds o_notes_targets o_ring_powers o_wave_wasRe) → va_S A s.heap H locs → lv_has ls 12 [(0, .ref h_o), (1, .int v1), (2, .int v2), (3, .int v3), (4, .int v4), (5, .int v5), (6, .int v6), (7, .int v7), (8, .int v8)] → W p l e ({ frames := 4, cells := 0, slots := 0, locals := 99 } : Room) s m ([.ref h_o, .int p1, .int p2] : List Value).toArray below meth c H locs 0 0 Q (F0 m 44 ls [])) → ∀ (o_tally : Nat → Int32) (v1 : Int32) (v2 : Int32) (v3 : Int32) (v4 : Int32) (v5 : Int32) (v6 : Int32) (v7 : Int32) (v8 : Int32) (H : Heap) (locs : List Loc) (ls : Array Slot), fX9_ask_129 o_ring_size o_way_size o_ring_powers o_wave_wasRe k44 o_tally v1 v2 v3 v4 v5 v6 v7 v8 = some (r, out_o_tally) → va_P G vwCl (wX9_ask cI cJ cZ h_o h_o_notes h_o_ring h_o_tally h_o_wave h_o_way h_o_notes_bins h_o_notes_kinds h_o_notes_targets h_o_ring_powers h_o_wave_wasRe h_o_past h_o_turns h_o_beater h_o_reader h_o_dice h_o_trialWay h_o_trial h_o_otherTrial h_o_sumsRe h_o_sumsIm h_o_image h_o_tape h_o_wave_re h_o_wave_im h_o_wave_wasIm h_o_wave_halved h_o_way_shifts o_imageKept o_taped o_notes_total o_notes_knownBy o_ring_size o_ring_log o_tally o_wave_exp o_wave_done o_wave_backward o_way_size o_way_log o_way_wordBits o_way_limit o_way_radix o_way_order o_way_near o_way_seed o_way_stages o_notes_bins o_notes_kinds o_notes_targets o_ring_powers o_wave_wasRe) H → va_D A (wX9_ask cI cJ cZ h_o h_o_notes h_o_ring h_o_tally h_o_wave h_o_way h_o_notes_bins h_o_notes_kinds h_o_notes_targets h_o_ring_powers h_o_wave_wasRe h_o_past h_o_turns h_o_beater h_o_reader h_o_dice h_o_trialWay h_o_trial h_o_otherTrial h_o_sumsRe h_o_sumsIm h_o_image h_o_tape h_o_wave_re h_o_wave_im h_o_wave_wasIm h_o_wave_halved h_o_way_shifts o_imageKept o_taped o_notes_total o_notes_knownBy o_ring_size o_ring_log o_tally o_wave_exp o_wave_done o_wave_backward o_way_size o_way_log o_way_wordBits o_way_limit o_way_radix o_way_order o_way_near o_way_seed o_way_stages o_notes_bins o_notes_kinds o_notes_targets o_ring_powers o_wave_wasRe) → va_S A s.heap H locs → lv_has ls 12 [(0, .ref h_o), (1, .int v1), (2, .int v2), (3, .int v3), (4, .int v4), (5, .int v5), (6, .int v6), (7, .int v7), (8, .int v8)] → W p l e ({ frames := 4, cells := 0, slots := 0, locals := 99 } : Room) s m ([.ref h_o, .int p1, .int p2] : List Value).toArray below meth c H locs 0 0 Q (F0 m 129 ls []) := by
    intro k44 hk44 o_tally v1 v2 v3 v4 v5 v6 v7 v8 H locs ls hf hP hD hS hl
    unfold fX9_ask_129 at hf
    obtain ⟨v8_20, ev8_20⟩ : ∃ y : Int32, y = v8 + (1 : Int32) := ⟨_, rfl⟩
    have hf := nm_x ev8_20 hf
    refine lv_iinc (v := v8_20) (lv' := [(8, .int v8_20), (0, .ref h_o), (1, .int v1), (2, .int v2), (3, .int v3), (4, .int v4), (5, .int v5), (6, .int v6), (7, .int v7)]) hx hb dX9_ask_129 hl (k := 8) rfl (by rw [ev8_20]; rfl) (by decide) rfl (fun ls hl => ?_)
    refine lv_goto (tgt := 44) hx hb dX9_ask_132 (by decide) ?_
    exact hk44 o_tally v1 v2 v3 v4 v5 v6 v7 v8_20 H locs ls hf hP hD hS (lv_sub hl [1, 2, 3, 4, 5, 6, 7, 8, 0] rfl)
  have j123 : ∀ (k44 : (Nat → Int32) → Int32 → Int32 → Int32 → Int32 → Int32 → Int32 → Int32 → Int32 → Option (Int32 × (Nat → Int32))), (∀ (o_tally : Nat → Int32) (v1 : Int32) (v2 : Int32) (v3 : Int32) (v4 : Int32) (v5 : Int32) (v6 : Int32) (v7 : Int32) (v8 : Int32) (H : Heap) (locs : List Loc) (ls : Array Slot), k44 o_tally v1 v2 v3 v4 v5 v6 v7 v8 = some (r, out_o_tally) → va_P G vwCl (wX9_ask cI cJ cZ h_o h_o_notes h_o_ring h_o_tally h_o_wave h_o_way h_o_notes_bins h_o_notes_kinds h_o_notes_targets h_o_ring_powers h_o_wave_wasRe h_o_past h_o_turns h_o_beater h_o_reader h_o_dice h_o_trialWay h_o_trial h_o_otherTrial h_o_sumsRe h_o_sumsIm h_o_image h_o_tape h_o_wave_re h_o_wave_im h_o_wave_wasIm h_o_wave_halved h_o_way_shifts o_imageKept o_taped o_notes_total o_notes_knownBy o_ring_size o_ring_log o_tally o_wave_exp o_wave_done o_wave_backward o_way_size o_way_log o_way_wordBits o_way_limit o_way_radix o_way_order o_way_near o_way_seed o_way_stages o_notes_bins o_notes_kinds o_notes_targets o_ring_powers o_wave_wasRe) H → va_D A (wX9_ask cI cJ cZ h_o h_o_notes h_o_ring h_o_tally h_o_wave h_o_way h_o_notes_bins h_o_notes_kinds h_o_notes_targets h_o_ring_powers h_o_wave_wasRe h_o_past h_o_turns h_o_beater h_o_reader h_o_dice h_o_trialWay h_o_trial h_o_otherTrial h_o_sumsRe h_o_sumsIm h_o_image h_o_tape h_o_wave_re h_o_wave_im h_o_wave_wasIm h_o_wave_halved h_o_way_shifts o_imageKept o_taped o_notes_total o_notes_knownBy o_ring_size o_ring_log o_tally o_wave_exp o_wave_done o_wave_backward o_way_size o_way_log o_way_wordBits o_way_limit o_way_radix o_way_order o_way_near o_way_seed o_way_stages o_notes_bins o_notes_kinds o_notes_targets o_ring_powers o_wave_wasRe) → va_S A s.heap H locs → lv_has ls 12 [(0, .ref h_o), (1, .int v1), (2, .int v2), (3, .int v3), (4, .int v4), (5, .int v5), (6, .int v6), (7, .int v7), (8, .int v8)] → W p l e ({ frames := 4, cells := 0, slots := 0, locals := 99 } : Room) s m ([.ref h_o, .int p1, .int p2] : List Value).toArray below meth c H locs 0 0 Q (F0 m 44 ls [])) → ∀ (k71 : (Nat → Int32) → Int32 → Int32 → Int32 → Int32 → Int32 → Int32 → Int32 → Int32 → Int32 → Int32 → Option (Int32 × (Nat → Int32))), (∀ (o_tally : Nat → Int32) (v1 : Int32) (v2 : Int32) (v3 : Int32) (v4 : Int32) (v5 : Int32) (v6 : Int32) (v7 : Int32) (v8 : Int32) (v9 : Int32) (v10 : Int32) (H : Heap) (locs : List Loc) (ls : Array Slot), k71 o_tally v1 v2 v3 v4 v5 v6 v7 v8 v9 v10 = some (r, out_o_tally) → va_P G vwCl (wX9_ask cI cJ cZ h_o h_o_notes h_o_ring h_o_tally h_o_wave h_o_way h_o_notes_bins h_o_notes_kinds h_o_notes_targets h_o_ring_powers h_o_wave_wasRe h_o_past h_o_turns h_o_beater h_o_reader h_o_dice h_o_trialWay h_o_trial h_o_otherTrial h_o_sumsRe h_o_sumsIm h_o_image h_o_tape h_o_wave_re h_o_wave_im h_o_wave_wasIm h_o_wave_halved h_o_way_shifts o_imageKept o_taped o_notes_total o_notes_knownBy o_ring_size o_ring_log o_tally o_wave_exp o_wave_done o_wave_backward o_way_size o_way_log o_way_wordBits o_way_limit o_way_radix o_way_order o_way_near o_way_seed o_way_stages o_notes_bins o_notes_kinds o_notes_targets o_ring_powers o_wave_wasRe) H → va_D A (wX9_ask cI cJ cZ h_o h_o_notes h_o_ring h_o_tally h_o_wave h_o_way h_o_notes_bins h_o_notes_kinds h_o_notes_targets h_o_ring_powers h_o_wave_wasRe h_o_past h_o_turns h_o_beater h_o_reader h_o_dice h_o_trialWay h_o_trial h_o_otherTrial h_o_sumsRe h_o_sumsIm h_o_image h_o_tape h_o_wave_re h_o_wave_im h_o_wave_wasIm h_o_wave_halved h_o_way_shifts o_imageKept o_taped o_notes_total o_notes_knownBy o_ring_size o_ring_log o_tally o_wave_exp o_wave_done o_wave_backward o_way_size o_way_log o_way_wordBits o_way_limit o_way_radix o_way_order o_way_near o_way_seed o_way_stages o_notes_bins o_notes_kinds o_notes_targets o_ring_powers o_wave_wasRe) → va_S A s.heap H locs → lv_has ls 12 [(0, .ref h_o), (1, .int v1), (2, .int v2), (3, .int v3), (4, .int v4), (5, .int v5), (6, .int v6), (7, .int v7), (8, .int v8), (9, .int v9), (10, .int v10)] → W p l e ({ frames := 4, cells := 0, slots := 0, locals := 99 } : Room) s m ([.ref h_o, .int p1, .int p2] : List Value).toArray below meth c H locs 0 0 Q (F0 m 71 ls [])) → ∀ (o_tally : Nat → Int32) (v1 : Int32) (v2 : Int32) (v3 : Int32) (v4 : Int32) (v5 : Int32) (v6 : Int32) (v7 : Int32) (v8 : Int32) (v9 : Int32) (v10 : Int32) (H : Heap) (locs : List Loc) (ls : Array Slot), fX9_ask_123 o_ring_size o_way_size o_ring_powers o_wave_wasRe k44 k71 o_tally v1 v2 v3 v4 v5 v6 v7 v8 v9 v10 = some (r, out_o_tally) → va_P G vwCl (wX9_ask cI cJ cZ h_o h_o_notes h_o_ring h_o_tally h_o_wave h_o_way h_o_notes_bins h_o_notes_kinds h_o_notes_targets h_o_ring_powers h_o_wave_wasRe h_o_past h_o_turns h_o_beater h_o_reader h_o_dice h_o_trialWay h_o_trial h_o_otherTrial h_o_sumsRe h_o_sumsIm h_o_image h_o_tape h_o_wave_re h_o_wave_im h_o_wave_wasIm h_o_wave_halved h_o_way_shifts o_imageKept o_taped o_notes_total o_notes_knownBy o_ring_size o_ring_log o_tally o_wave_exp o_wave_done o_wave_backward o_way_size o_way_log o_way_wordBits o_way_limit o_way_radix o_way_order o_way_near o_way_seed o_way_stages o_notes_bins o_notes_kinds o_notes_targets o_ring_powers o_wave_wasRe) H → va_D A (wX9_ask cI cJ cZ h_o h_o_notes h_o_ring h_o_tally h_o_wave h_o_way h_o_notes_bins h_o_notes_kinds h_o_notes_targets h_o_ring_powers h_o_wave_wasRe h_o_past h_o_turns h_o_beater h_o_reader h_o_dice h_o_trialWay h_o_trial h_o_otherTrial h_o_sumsRe h_o_sumsIm h_o_image h_o_tape h_o_wave_re h_o_wave_im h_o_wave_wasIm h_o_wave_halved h_o_way_shifts o_imageKept o_taped o_notes_total o_notes_knownBy o_ring_size o_ring_log o_tally o_wave_exp o_wave_done o_wave_backward o_way_size o_way_log o_way_wordBits o_way_limit o_way_radix o_way_order o_way_near o_way_seed o_way_stages o_notes_bins o_notes_kinds o_notes_targets o_ring_powers o_wave_wasRe) → va_S A s.heap H locs → lv_has ls 12 [(0, .ref h_o), (1, .int v1), (2, .int v2), (3, .int v3), (4, .int v4), (5, .int v5), (6, .int v6), (7, .int v7), (8, .int v8), (9, .int v9), (10, .int v10)] → W p l e ({ frames := 4, cells := 0, slots := 0, locals := 99 } : Room) s m ([.ref h_o, .int p1, .int p2] : List Value).toArray below meth c H locs 0 0 Q (F0 m 123 ls []) := by
    intro k44 hk44 k71 hk71 o_tally v1 v2 v3 v4 v5 v6 v7 v8 v9 v10 H locs ls hf hP hD hS hl
    unfold fX9_ask_123 at hf
    obtain ⟨v10_19, ev10_19⟩ : ∃ y : Int32, y = v10 + (1 : Int32) := ⟨_, rfl⟩
    have hf := nm_x ev10_19 hf
    refine lv_iinc (v := v10_19) (lv' := [(10, .int v10_19), (0, .ref h_o), (1, .int v1), (2, .int v2), (3, .int v3), (4, .int v4), (5, .int v5), (6, .int v6), (7, .int v7), (8, .int v8), (9, .int v9)]) hx hb dX9_ask_123 hl (k := 10) rfl (by rw [ev10_19]; rfl) (by decide) rfl (fun ls hl => ?_)
    refine lv_goto (tgt := 71) hx hb dX9_ask_126 (by decide) ?_
    exact hk71 o_tally v1 v2 v3 v4 v5 v6 v7 v8 v9 v10_19 H locs ls hf hP hD hS (lv_sub hl [1, 2, 3, 4, 5, 6, 7, 8, 9, 10, 0] rfl)
  have j71 : ∀ (k44 : (Nat → Int32) → Int32 → Int32 → Int32 → Int32 → Int32 → Int32 → Int32 → Int32 → Option (Int32 × (Nat → Int32))), (∀ (o_tally : Nat → Int32) (v1 : Int32) (v2 : Int32) (v3 : Int32) (v4 : Int32) (v5 : Int32) (v6 : Int32) (v7 : Int32) (v8 : Int32) (H : Heap) (locs : List Loc) (ls : Array Slot), k44 o_tally v1 v2 v3 v4 v5 v6 v7 v8 = some (r, out_o_tally) → va_P G vwCl (wX9_ask cI cJ cZ h_o h_o_notes h_o_ring h_o_tally h_o_wave h_o_way h_o_notes_bins h_o_notes_kinds h_o_notes_targets h_o_ring_powers h_o_wave_wasRe h_o_past h_o_turns h_o_beater h_o_reader h_o_dice h_o_trialWay h_o_trial h_o_otherTrial h_o_sumsRe h_o_sumsIm h_o_image h_o_tape h_o_wave_re h_o_wave_im h_o_wave_wasIm h_o_wave_halved h_o_way_shifts o_imageKept o_taped o_notes_total o_notes_knownBy o_ring_size o_ring_log o_tally o_wave_exp o_wave_done o_wave_backward o_way_size o_way_log o_way_wordBits o_way_limit o_way_radix o_way_order o_way_near o_way_seed o_way_stages o_notes_bins o_notes_kinds o_notes_targets o_ring_powers o_wave_wasRe) H → va_D A (wX9_ask cI cJ cZ h_o h_o_notes h_o_ring h_o_tally h_o_wave h_o_way h_o_notes_bins h_o_notes_kinds h_o_notes_targets h_o_ring_powers h_o_wave_wasRe h_o_past h_o_turns h_o_beater h_o_reader h_o_dice h_o_trialWay h_o_trial h_o_otherTrial h_o_sumsRe h_o_sumsIm h_o_image h_o_tape h_o_wave_re h_o_wave_im h_o_wave_wasIm h_o_wave_halved h_o_way_shifts o_imageKept o_taped o_notes_total o_notes_knownBy o_ring_size o_ring_log o_tally o_wave_exp o_wave_done o_wave_backward o_way_size o_way_log o_way_wordBits o_way_limit o_way_radix o_way_order o_way_near o_way_seed o_way_stages o_notes_bins o_notes_kinds o_notes_targets o_ring_powers o_wave_wasRe) → va_S A s.heap H locs → lv_has ls 12 [(0, .ref h_o), (1, .int v1), (2, .int v2), (3, .int v3), (4, .int v4), (5, .int v5), (6, .int v6), (7, .int v7), (8, .int v8)] → W p l e ({ frames := 4, cells := 0, slots := 0, locals := 99 } : Room) s m ([.ref h_o, .int p1, .int p2] : List Value).toArray below meth c H locs 0 0 Q (F0 m 44 ls [])) → ∀ (n : Nat) (o_tally : Nat → Int32) (v1 : Int32) (v2 : Int32) (v3 : Int32) (v4 : Int32) (v5 : Int32) (v6 : Int32) (v7 : Int32) (v8 : Int32) (v9 : Int32) (v10 : Int32) (H : Heap) (locs : List Loc) (ls : Array Slot), fX9_ask_71 o_ring_size o_way_size o_ring_powers o_wave_wasRe k44 n o_tally v1 v2 v3 v4 v5 v6 v7 v8 v9 v10 = some (r, out_o_tally) → va_P G vwCl (wX9_ask cI cJ cZ h_o h_o_notes h_o_ring h_o_tally h_o_wave h_o_way h_o_notes_bins h_o_notes_kinds h_o_notes_targets h_o_ring_powers h_o_wave_wasRe h_o_past h_o_turns h_o_beater h_o_reader h_o_dice h_o_trialWay h_o_trial h_o_otherTrial h_o_sumsRe h_o_sumsIm h_o_image h_o_tape h_o_wave_re h_o_wave_im h_o_wave_wasIm h_o_wave_halved h_o_way_shifts o_imageKept o_taped o_notes_total o_notes_knownBy o_ring_size o_ring_log o_tally o_wave_exp o_wave_done o_wave_backward o_way_size o_way_log o_way_wordBits o_way_limit o_way_radix o_way_order o_way_near o_way_seed o_way_stages o_notes_bins o_notes_kinds o_notes_targets o_ring_powers o_wave_wasRe) H → va_D A (wX9_ask cI cJ cZ h_o h_o_notes h_o_ring h_o_tally h_o_wave h_o_way h_o_notes_bins h_o_notes_kinds h_o_notes_targets h_o_ring_powers h_o_wave_wasRe h_o_past h_o_turns h_o_beater h_o_reader h_o_dice h_o_trialWay h_o_trial h_o_otherTrial h_o_sumsRe h_o_sumsIm h_o_image h_o_tape h_o_wave_re h_o_wave_im h_o_wave_wasIm h_o_wave_halved h_o_way_shifts o_imageKept o_taped o_notes_total o_notes_knownBy o_ring_size o_ring_log o_tally o_wave_exp o_wave_done o_wave_backward o_way_size o_way_log o_way_wordBits o_way_limit o_way_radix o_way_order o_way_near o_way_seed o_way_stages o_notes_bins o_notes_kinds o_notes_targets o_ring_powers o_wave_wasRe) → va_S A s.heap H locs → lv_has ls 12 [(0, .ref h_o), (1, .int v1), (2, .int v2), (3, .int v3), (4, .int v4), (5, .int v5), (6, .int v6), (7, .int v7), (8, .int v8), (9, .int v9), (10, .int v10)] → W p l e ({ frames := 4, cells := 0, slots := 0, locals := 99 } : Room) s m ([.ref h_o, .int p1, .int p2] : List Value).toArray below meth c H locs 0 0 Q (F0 m 71 ls []) := by
    intro k44 hk44 n
    induction n with
    | zero =>
      intro o_tally v1 v2 v3 v4 v5 v6 v7 v8 v9 v10 H locs ls hf
      have hf : (none : Option (Int32 × (Nat → Int32))) = some (r, out_o_tally) := hf
      cases hf
    | succ n ih =>
      intro o_tally v1 v2 v3 v4 v5 v6 v7 v8 v9 v10 H locs ls hf hP hD hS hl
      rw [fX9_ask_71.eq_2] at hf
      refine lv_iload hx hb dX9_ask_71 (lv_at hl 10 rfl) ?_
      refine lv_bipush (v := (97 : Int32)) hx hb dX9_ask_73 (by decide) ?_
      refine lv_icmp_ge (tgt := 129) hx hb dX9_ask_75 (by decide) (fun c_13 => ?_) (fun c_13 => ?_)
      · have hf := it_t c_13 hf
        exact j129 k44 hk44 o_tally v1 v2 v3 v4 v5 v6 v7 v8 H locs ls hf hP hD hS (lv_sub hl [0, 1, 2, 3, 4, 5, 6, 7, 8] rfl)
      · have hf := it_f c_13 hf
        refine lv_iload hx hb dX9_ask_78 (lv_at hl 9 rfl) ?_
        refine lv_aload_n hx hb dX9_ask_80 rfl (lv_at hl 0 rfl) ?_
        refine rd (ci := 9) (C := RX9) (T := TX9) (N := 19) hx hb hts inX9 hown hK hP 0 14 rfl rfl (by decide) (hts _ q_fX9_90) rfl dX9_ask_81 ?_
        refine lv_iload hx hb dX9_ask_84 (lv_at hl 10 rfl) ?_
        refine lv_iconst (v := (1 : Int32)) hx hb dX9_ask_86 (by decide) ?_
        refine lv_isub hx hb dX9_ask_87 ?_
        refine lv_topi (fun i_14 ei_14 => ?_)
        have hf := nm_x ei_14 hf
        obtain ⟨g_15, hf⟩ := gd_x hf
        refine va_iald hx hb hK hP 3 0 rfl rfl (inb_x g_15) dX9_ask_88 ?_
        refine lv_isub hx hb dX9_ask_89 ?_
        refine lv_topi (fun v9_16 ev9_16 => ?_)
        have hf := nm_x ev9_16 hf
        refine lv_istore (lv' := [(9, .int v9_16), (0, .ref h_o), (1, .int v1), (2, .int v2), (3, .int v3), (4, .int v4), (5, .int v5), (6, .int v6), (7, .int v7), (8, .int v8), (10, .int v10)]) hx hb dX9_ask_90 hl (by decide) rfl (fun ls hl => ?_)
        refine lv_iload hx hb dX9_ask_92 (lv_at hl 0 rfl) ?_
        refine lv_iload hx hb dX9_ask_94 (lv_at hl 5 rfl) ?_
        refine lv_iload hx hb dX9_ask_96 (lv_at hl 0 rfl) ?_
        refine lv_isub hx hb dX9_ask_98 ?_
        refine va_mmax hx hb (hml.trans hl.1.symm) hown (hts _ q_mX9_346) (hts _ q_s_Lib_Math_max_name) (hts _ q_n_java_lang_Math) (hts _ q_k_Lib_Math_max_name) (by decide) (Nat.le_of_ble_eq_true rfl) (Nat.zero_le _) (Nat.zero_le _) dX9_ask_99 ?_
        refine lv_topi (fun m_17 em_17 => ?_)
        have hf := nm_x em_17 hf
        refine lv_istore (lv' := [(11, .int m_17), (9, .int v9_16), (0, .ref h_o), (1, .int v1), (2, .int v2), (3, .int v3), (4, .int v4), (5, .int v5), (6, .int v6), (7, .int v7), (8, .int v8), (10, .int v10)]) hx hb dX9_ask_102 hl (by decide) rfl (fun ls hl => ?_)
        refine lv_iload hx hb dX9_ask_104 (lv_at hl 0 rfl) ?_
        refine lv_iload hx hb dX9_ask_106 (lv_at hl 9 rfl) ?_
        refine lv_icmp_ge (tgt := 123) hx hb dX9_ask_108 (by decide) (fun c_18 => ?_) (fun c_18 => ?_)
        · have hf := it_t c_18 hf
          exact j123 k44 hk44 (fX9_ask_71 o_ring_size o_way_size o_ring_powers o_wave_wasRe k44 n) ih o_tally v1 v2 v3 v4 v5 v6 v7 v8 v9_16 v10 H locs ls hf hP hD hS (lv_sub hl [2, 3, 4, 5, 6, 7, 8, 9, 10, 1, 11] rfl)
        · have hf := it_f c_18 hf
          refine lv_iload hx hb dX9_ask_111 (lv_at hl 0 rfl) ?_
          refine lv_istore (lv' := [(7, .int m_17), (11, .int m_17), (9, .int v9_16), (0, .ref h_o), (1, .int v1), (2, .int v2), (3, .int v3), (4, .int v4), (5, .int v5), (6, .int v6), (8, .int v8), (10, .int v10)]) hx hb dX9_ask_113 hl (by decide) rfl (fun ls hl => ?_)
          refine lv_iload hx hb dX9_ask_115 (lv_at hl 10 rfl) ?_
          refine lv_istore (lv' := [(5, .int v8), (7, .int m_17), (11, .int m_17), (9, .int v9_16), (0, .ref h_o), (1, .int v1), (2, .int v2), (3, .int v3), (4, .int v4), (6, .int v6), (8, .int v8), (10, .int v10)]) hx hb dX9_ask_117 hl (by decide) rfl (fun ls hl => ?_)
          refine lv_iload hx hb dX9_ask_119 (lv_at hl 11 rfl) ?_
          refine lv_istore (lv' := [(6, .int v10), (5, .int v8), (7, .int m_17), (11, .int m_17), (9, .int v9_16), (0, .ref h_o), (1, .int v1), (2, .int v2), (3, .int v3), (4, .int v4), (8, .int v8), (10, .int v10)]) hx hb dX9_ask_121 hl (by decide) rfl (fun ls hl => ?_)
          exact j123 k44 hk44 (fX9_ask_71 o_ring_size o_way_size o_ring_powers o_wave_wasRe k44 n) ih o_tally v1 v2 v3 v4 v8 v10 m_17 v8 v9_16 v10 H locs ls hf hP hD hS (lv_sub hl [5, 6, 7, 8, 9, 1, 0, 2, 10, 4, 11] rfl)
  have j44 : ∀ (n : Nat) (o_tally : Nat → Int32) (v1 : Int32) (v2 : Int32) (v3 : Int32) (v4 : Int32) (v5 : Int32) (v6 : Int32) (v7 : Int32) (v8 : Int32) (H : Heap) (locs : List Loc) (ls : Array Slot), fX9_ask_44 o_ring_size o_way_size o_ring_powers o_wave_wasRe n o_tally v1 v2 v3 v4 v5 v6 v7 v8 = some (r, out_o_tally) → va_P G vwCl (wX9_ask cI cJ cZ h_o h_o_notes h_o_ring h_o_tally h_o_wave h_o_way h_o_notes_bins h_o_notes_kinds h_o_notes_targets h_o_ring_powers h_o_wave_wasRe h_o_past h_o_turns h_o_beater h_o_reader h_o_dice h_o_trialWay h_o_trial h_o_otherTrial h_o_sumsRe h_o_sumsIm h_o_image h_o_tape h_o_wave_re h_o_wave_im h_o_wave_wasIm h_o_wave_halved h_o_way_shifts o_imageKept o_taped o_notes_total o_notes_knownBy o_ring_size o_ring_log o_tally o_wave_exp o_wave_done o_wave_backward o_way_size o_way_log o_way_wordBits o_way_limit o_way_radix o_way_order o_way_near o_way_seed o_way_stages o_notes_bins o_notes_kinds o_notes_targets o_ring_powers o_wave_wasRe) H → va_D A (wX9_ask cI cJ cZ h_o h_o_notes h_o_ring h_o_tally h_o_wave h_o_way h_o_notes_bins h_o_notes_kinds h_o_notes_targets h_o_ring_powers h_o_wave_wasRe h_o_past h_o_turns h_o_beater h_o_reader h_o_dice h_o_trialWay h_o_trial h_o_otherTrial h_o_sumsRe h_o_sumsIm h_o_image h_o_tape h_o_wave_re h_o_wave_im h_o_wave_wasIm h_o_wave_halved h_o_way_shifts o_imageKept o_taped o_notes_total o_notes_knownBy o_ring_size o_ring_log o_tally o_wave_exp o_wave_done o_wave_backward o_way_size o_way_log o_way_wordBits o_way_limit o_way_radix o_way_order o_way_near o_way_seed o_way_stages o_notes_bins o_notes_kinds o_notes_targets o_ring_powers o_wave_wasRe) → va_S A s.heap H locs → lv_has ls 12 [(0, .ref h_o), (1, .int v1), (2, .int v2), (3, .int v3), (4, .int v4), (5, .int v5), (6, .int v6), (7, .int v7), (8, .int v8)] → W p l e ({ frames := 4, cells := 0, slots := 0, locals := 99 } : Room) s m ([.ref h_o, .int p1, .int p2] : List Value).toArray below meth c H locs 0 0 Q (F0 m 44 ls []) := by
    intro n
    induction n with
    | zero =>
      intro o_tally v1 v2 v3 v4 v5 v6 v7 v8 H locs ls hf
      have hf : (none : Option (Int32 × (Nat → Int32))) = some (r, out_o_tally) := hf
      cases hf
    | succ n ih =>
      intro o_tally v1 v2 v3 v4 v5 v6 v7 v8 H locs ls hf hP hD hS hl
      rw [fX9_ask_44.eq_2] at hf
      refine lv_iload hx hb dX9_ask_44 (lv_at hl 8 rfl) ?_
      refine lv_aload_n hx hb dX9_ask_46 rfl (lv_at hl 0 rfl) ?_
      refine rd (ci := 9) (C := RX9) (T := TX9) (N := 19) hx hb hts inX9 hown hK hP 0 0 rfl rfl (by decide) (hts _ q_fX9_10) rfl dX9_ask_47 ?_
      refine rd (ci := 8) (C := RX8) (T := TX8) (N := 10) hx hb hts inX8 hown hK hP 5 0 rfl rfl (by decide) (hts _ q_fX9_115) rfl dX9_ask_50 ?_
      refine lv_icmp_ge (tgt := 135) hx hb dX9_ask_53 (by decide) (fun c_10 => ?_) (fun c_10 => ?_)
      · have hf := it_t c_10 hf
        exact j135 o_tally v2 v5 v6 v7 H locs ls hf hP hD hS (lv_sub hl [2, 5, 6, 7] rfl)
      · have hf := it_f c_10 hf
        refine lv_aload_n hx hb dX9_ask_56 rfl (lv_at hl 0 rfl) ?_
        refine lv_iload_n hx hb dX9_ask_57 rfl (lv_at hl 3 rfl) ?_
        refine lv_iload hx hb dX9_ask_58 (lv_at hl 8 rfl) ?_
        refine lv_iload_n hx hb dX9_ask_60 rfl (lv_at hl 1 rfl) ?_
        obtain ⟨o_tally_11, e_12, hf⟩ := bd1_x hf
        refine call_v [.int v3, .int v8, .int v1] [] ⟨hx, hb, hml, hown, hts⟩ hK hP hD hS hA hl.1 (tX9_tallyBins l G cI cJ cZ H.size h_o h_o_ring h_o_tally h_o_wave h_o_ring_powers h_o_wave_wasRe h_o_way h_o_past h_o_notes h_o_turns h_o_beater h_o_reader h_o_dice h_o_trialWay h_o_trial h_o_otherTrial h_o_sumsRe h_o_sumsIm h_o_image h_o_tape h_o_wave_re h_o_wave_im h_o_wave_wasIm h_o_wave_halved o_imageKept o_taped o_ring_size o_ring_log o_tally o_wave_exp o_wave_done o_wave_backward o_ring_powers o_wave_wasRe v3 v8 v1 o_tally_11 e_12) (cwV 3 hts (gv q_mX9_433 q_i_yX9_tallyBins q_s_yX9_tallyBins q_n_RX9 q_k_yX9_tallyBins) rfl rfl rfl (by decide +kernel) ⟨by decide, by decide⟩) rfl rfl (Nat.le_of_ble_eq_true rfl) dX9_ask_61 ⟨Nat.zero_le _, Nat.zero_le _⟩ (ci := 9) rfl 0 rfl [0, 2, 3, 4, 9, 10] [1, 5, 6, 7, 8] [5, 0, 6, 7, 8, 1, 2, 3, 4, 9, 10] rfl rfl (ws2 := (wX9_ask cI cJ cZ h_o h_o_notes h_o_ring h_o_tally h_o_wave h_o_way h_o_notes_bins h_o_notes_kinds h_o_notes_targets h_o_ring_powers h_o_wave_wasRe h_o_past h_o_turns h_o_beater h_o_reader h_o_dice h_o_trialWay h_o_trial h_o_otherTrial h_o_sumsRe h_o_sumsIm h_o_image h_o_tape h_o_wave_re h_o_wave_im h_o_wave_wasIm h_o_wave_halved h_o_way_shifts o_imageKept o_taped o_notes_total o_notes_knownBy o_ring_size o_ring_log o_tally_11 o_wave_exp o_wave_done o_wave_backward o_way_size o_way_log o_way_wordBits o_way_limit o_way_radix o_way_order o_way_near o_way_seed o_way_stages o_notes_bins o_notes_kinds o_notes_targets o_ring_powers o_wave_wasRe)) rfl (fun H locs hP hD hS => ?_)
        refine W.eq (g2 := F0 m 64 ls []) rfl ?_
        refine lv_iload hx hb dX9_ask_64 (lv_at hl 4 rfl) ?_
        refine lv_istore (lv' := [(9, .int v4), (0, .ref h_o), (1, .int v1), (2, .int v2), (3, .int v3), (4, .int v4), (5, .int v5), (6, .int v6), (7, .int v7), (8, .int v8)]) hx hb dX9_ask_66 hl (by decide) rfl (fun ls hl => ?_)
        refine lv_iconst (v := (1 : Int32)) hx hb dX9_ask_68 (by decide) ?_
        refine lv_istore (lv' := [(10, .int (1 : Int32)), (9, .int v4), (0, .ref h_o), (1, .int v1), (2, .int v2), (3, .int v3), (4, .int v4), (5, .int v5), (6, .int v6), (7, .int v7), (8, .int v8)]) hx hb dX9_ask_69 hl (by decide) rfl (fun ls hl => ?_)
        exact j71 (fX9_ask_44 o_ring_size o_way_size o_ring_powers o_wave_wasRe n) ih FU o_tally_11 v1 v2 v3 v4 v5 v6 v7 v8 v4 (1 : Int32) H locs ls hf hP hD hS (lv_sub hl [2, 3, 4, 5, 6, 7, 8, 9, 10, 1, 0] rfl)
  unfold fX9_ask at hf
  obtain ⟨H, eH⟩ : ∃ H, H = s.heap := ⟨_, rfl⟩
  obtain ⟨locs, elocs⟩ : ∃ z : List Loc, z = [] := ⟨_, rfl⟩
  have hP : va_P G vwCl (wX9_ask cI cJ cZ h_o h_o_notes h_o_ring h_o_tally h_o_wave h_o_way h_o_notes_bins h_o_notes_kinds h_o_notes_targets h_o_ring_powers h_o_wave_wasRe h_o_past h_o_turns h_o_beater h_o_reader h_o_dice h_o_trialWay h_o_trial h_o_otherTrial h_o_sumsRe h_o_sumsIm h_o_image h_o_tape h_o_wave_re h_o_wave_im h_o_wave_wasIm h_o_wave_halved h_o_way_shifts o_imageKept o_taped o_notes_total o_notes_knownBy o_ring_size o_ring_log o_tally o_wave_exp o_wave_done o_wave_backward o_way_size o_way_log o_way_wordBits o_way_limit o_way_radix o_way_order o_way_near o_way_seed o_way_stages o_notes_bins o_notes_kinds o_notes_targets o_ring_powers o_wave_wasRe) H := by rw [eH]; exact hP
  have hS : va_S A s.heap H locs := by rw [eH, elocs]; exact hS
  suffices hgo : W p l e ({ frames := 4, cells := 0, slots := 0, locals := 99 } : Room) s m ([.ref h_o, .int p1, .int p2] : List Value).toArray below meth c H locs 0 0 Q (F0 m 0 ls []) by rw [eH, elocs] at hgo; exact hgo
  clear eH elocs
  refine lv_aload_n hx hb dX9_ask_0 rfl (lv_at hl 0 rfl) ?_
  refine lv_iload_n hx hb dX9_ask_1 rfl (lv_at hl 1 rfl) ?_
  obtain ⟨r_1, e_2, hf⟩ := bd1_x hf
  refine call_v [.int p1] [] ⟨hx, hb, hml, hown, hts⟩ hK hP hD hS hA hl.1 (tX9_isPlace l G cI cJ cZ H.size h_o h_o_way h_o_wave h_o_past h_o_notes h_o_ring h_o_turns h_o_beater h_o_reader h_o_dice h_o_trialWay h_o_trial h_o_otherTrial h_o_sumsRe h_o_sumsIm h_o_tally h_o_image h_o_tape h_o_way_shifts o_imageKept o_taped o_way_size o_way_log o_way_wordBits o_way_limit o_way_radix o_way_order o_way_near o_way_seed o_way_stages p1 r_1 e_2) (cwV 1 hts (gv q_mX9_159 q_i_yX9_isPlace q_s_yX9_isPlace q_n_RX9 q_k_yX9_isPlace) rfl rfl rfl (by decide +kernel) ⟨by decide, by decide⟩) rfl rfl (Nat.le_of_ble_eq_true rfl) dX9_ask_2 ⟨Nat.zero_le _, Nat.zero_le _⟩ (ci := 9) rfl 0 rfl [0, 5] [1, 2, 3, 4, 6, 7, 8, 9, 10] [9, 0, 1, 2, 3, 10, 4, 5, 6, 7, 8] rfl rfl (ws2 := (wX9_ask cI cJ cZ h_o h_o_notes h_o_ring h_o_tally h_o_wave h_o_way h_o_notes_bins h_o_notes_kinds h_o_notes_targets h_o_ring_powers h_o_wave_wasRe h_o_past h_o_turns h_o_beater h_o_reader h_o_dice h_o_trialWay h_o_trial h_o_otherTrial h_o_sumsRe h_o_sumsIm h_o_image h_o_tape h_o_wave_re h_o_wave_im h_o_wave_wasIm h_o_wave_halved h_o_way_shifts o_imageKept o_taped o_notes_total o_notes_knownBy o_ring_size o_ring_log o_tally o_wave_exp o_wave_done o_wave_backward o_way_size o_way_log o_way_wordBits o_way_limit o_way_radix o_way_order o_way_near o_way_seed o_way_stages o_notes_bins o_notes_kinds o_notes_targets o_ring_powers o_wave_wasRe)) rfl (fun H locs hP hD hS => ?_)
  refine W.eq (g2 := F0 m 5 ls [.int r_1]) rfl ?_
  refine lv_if_eq (tgt := 17) hx hb dX9_ask_5 (by decide) (fun c_3 => ?_) (fun c_3 => ?_)
  · have hf := it_t c_3 hf
    refine lv_iconst (v := (-1 : Int32)) hx hb dX9_ask_17 (by decide) ?_
    cases hf
    exact hret _ _ _ _ dX9_ask_18 hP hD hS
  · have hf := it_f c_3 hf
    refine lv_iload_n hx hb dX9_ask_8 rfl (lv_at hl 2 rfl) ?_
    refine lv_if_lt (tgt := 17) hx hb dX9_ask_9 (by decide) (fun c_4 => ?_) (fun c_4 => ?_)
    · have hf := it_t c_4 hf
      refine lv_iconst (v := (-1 : Int32)) hx hb dX9_ask_17 (by decide) ?_
      cases hf
      exact hret _ _ _ _ dX9_ask_18 hP hD hS
    · have hf := it_f c_4 hf
      refine lv_iload_n hx hb dX9_ask_12 rfl (lv_at hl 2 rfl) ?_
      refine lv_iconst (v := (2 : Int32)) hx hb dX9_ask_13 (by decide) ?_
      refine lv_icmp_le (tgt := 19) hx hb dX9_ask_14 (by decide) (fun c_5 => ?_) (fun c_5 => ?_)
      · have hf := it_t c_5 hf
        refine lv_aload_n hx hb dX9_ask_19 rfl (lv_at hl 0 rfl) ?_
        refine lv_iload_n hx hb dX9_ask_20 rfl (lv_at hl 1 rfl) ?_
        obtain ⟨r_6, e_7, hf⟩ := bd1_x hf
        refine call_v [.int p1] [] ⟨hx, hb, hml, hown, hts⟩ hK hP hD hS hA hl.1 (tX9_valuesOf l G cI cJ cZ H.size h_o h_o_notes h_o_ring h_o_wave h_o_notes_bins h_o_notes_kinds h_o_notes_targets h_o_ring_powers h_o_wave_wasRe h_o_way h_o_past h_o_turns h_o_beater h_o_reader h_o_dice h_o_trialWay h_o_trial h_o_otherTrial h_o_sumsRe h_o_sumsIm h_o_tally h_o_image h_o_tape h_o_wave_re h_o_wave_im h_o_wave_wasIm h_o_wave_halved o_imageKept o_taped o_notes_total o_notes_knownBy o_ring_size o_ring_log o_wave_exp o_wave_done o_wave_backward o_notes_bins o_notes_kinds o_notes_targets o_ring_powers o_wave_wasRe p1 r_6 e_7) (cwV 1 hts (gv q_mX9_408 q_i_yX9_valuesOf q_s_yX9_valuesOf q_n_RX9 q_k_yX9_valuesOf) rfl rfl rfl (by decide +kernel) ⟨by decide, by decide⟩) rfl rfl (Nat.le_of_ble_eq_true rfl) dX9_ask_21 ⟨Nat.zero_le _, Nat.zero_le _⟩ (ci := 9) rfl 0 rfl [0, 1, 2, 4, 6, 7, 8, 9, 10] [3, 5] [2, 3, 4, 0, 5, 1, 6, 7, 8, 9, 10] rfl rfl (ws2 := (wX9_ask cI cJ cZ h_o h_o_notes h_o_ring h_o_tally h_o_wave h_o_way h_o_notes_bins h_o_notes_kinds h_o_notes_targets h_o_ring_powers h_o_wave_wasRe h_o_past h_o_turns h_o_beater h_o_reader h_o_dice h_o_trialWay h_o_trial h_o_otherTrial h_o_sumsRe h_o_sumsIm h_o_image h_o_tape h_o_wave_re h_o_wave_im h_o_wave_wasIm h_o_wave_halved h_o_way_shifts o_imageKept o_taped o_notes_total o_notes_knownBy o_ring_size o_ring_log o_tally o_wave_exp o_wave_done o_wave_backward o_way_size o_way_log o_way_wordBits o_way_limit o_way_radix o_way_order o_way_near o_way_seed o_way_stages o_notes_bins o_notes_kinds o_notes_targets o_ring_powers o_wave_wasRe)) rfl (fun H locs hP hD hS => ?_)
        refine W.eq (g2 := F0 m 24 ls [.int r_6]) rfl ?_
        refine lv_istore_n (lv' := [(3, .int r_6), (0, .ref h_o), (1, .int p1), (2, .int p2)]) hx hb dX9_ask_24 rfl hl (by decide) rfl (fun ls hl => ?_)
        refine lv_iload_n hx hb dX9_ask_25 rfl (lv_at hl 0 rfl) ?_
        obtain ⟨r_8, e_9, hf⟩ := bd1_x hf
        refine call_s [.int r_6] [] ⟨hx, hb, hml, hown, hts⟩ hK hP hD hS hA hl.1 (tJ6_bitCount_0f7a4 l G cI cJ cZ H.size r_6 r_8 e_9) (va_cwS 1 hts (gs q_mX9_430 q_s_yJ6_bitCount_0f7a4 q_n_RJ6 q_k_yJ6_bitCount_0f7a4) rfl rfl rfl (by decide +kernel) ⟨by decide, by decide⟩) rfl rfl (Nat.le_of_ble_eq_true rfl) dX9_ask_26 ⟨Nat.zero_le _, Nat.zero_le _⟩ [] [0, 1, 2, 3, 4, 5, 6, 7, 8, 9, 10] [0, 1, 2, 3, 4, 5, 6, 7, 8, 9, 10] rfl rfl (ws2 := (wX9_ask cI cJ cZ h_o h_o_notes h_o_ring h_o_tally h_o_wave h_o_way h_o_notes_bins h_o_notes_kinds h_o_notes_targets h_o_ring_powers h_o_wave_wasRe h_o_past h_o_turns h_o_beater h_o_reader h_o_dice h_o_trialWay h_o_trial h_o_otherTrial h_o_sumsRe h_o_sumsIm h_o_image h_o_tape h_o_wave_re h_o_wave_im h_o_wave_wasIm h_o_wave_halved h_o_way_shifts o_imageKept o_taped o_notes_total o_notes_knownBy o_ring_size o_ring_log o_tally o_wave_exp o_wave_done o_wave_backward o_way_size o_way_log o_way_wordBits o_way_limit o_way_radix o_way_order o_way_near o_way_seed o_way_stages o_notes_bins o_notes_kinds o_notes_targets o_ring_powers o_wave_wasRe)) rfl (fun H locs hP hD hS => ?_)
        refine W.eq (g2 := F0 m 29 ls [.int r_8]) rfl ?_
        refine lv_istore (lv' := [(4, .int r_8), (3, .int r_6), (0, .ref h_o), (1, .int p1), (2, .int p2)]) hx hb dX9_ask_29 hl (by decide) rfl (fun ls hl => ?_)
        refine lv_iconst (v := (0 : Int32)) hx hb dX9_ask_31 (by decide) ?_
        refine lv_istore (lv' := [(5, .int (0 : Int32)), (4, .int r_8), (3, .int r_6), (0, .ref h_o), (1, .int p1), (2, .int p2)]) hx hb dX9_ask_32 hl (by decide) rfl (fun ls hl => ?_)
        refine lv_iconst (v := (1 : Int32)) hx hb dX9_ask_34 (by decide) ?_
        refine lv_istore (lv' := [(6, .int (1 : Int32)), (5, .int (0 : Int32)), (4, .int r_8), (3, .int r_6), (0, .ref h_o), (1, .int p1), (2, .int p2)]) hx hb dX9_ask_35 hl (by decide) rfl (fun ls hl => ?_)
        refine lv_iload hx hb dX9_ask_37 (lv_at hl 2 rfl) ?_
        refine lv_istore (lv' := [(7, .int r_8), (6, .int (1 : Int32)), (5, .int (0 : Int32)), (4, .int r_8), (3, .int r_6), (0, .ref h_o), (1, .int p1), (2, .int p2)]) hx hb dX9_ask_39 hl (by decide) rfl (fun ls hl => ?_)
        refine lv_iconst (v := (0 : Int32)) hx hb dX9_ask_41 (by decide) ?_
        refine lv_istore (lv' := [(8, .int (0 : Int32)), (7, .int r_8), (6, .int (1 : Int32)), (5, .int (0 : Int32)), (4, .int r_8), (3, .int r_6), (0, .ref h_o), (1, .int p1), (2, .int p2)]) hx hb dX9_ask_42 hl (by decide) rfl (fun ls hl => ?_)
        exact j44 FU o_tally p1 p2 r_6 r_8 (0 : Int32) (1 : Int32) r_8 (0 : Int32) H locs ls hf hP hD hS (lv_sub hl [6, 7, 8, 5, 4, 3, 2, 1, 0] rfl)
      · have hf := it_f c_5 hf
        refine lv_iconst (v := (-1 : Int32)) hx hb dX9_ask_17 (by decide) ?_
        cases hf
        exact hret _ _ _ _ dX9_ask_18 hP hD hS
def wX9_undo (cI cJ cZ : ClassId) (h_o h_o_past h_o_wave h_o_past_cells h_o_wave_halved h_o_wave_im h_o_wave_re h_o_wave_wasIm h_o_wave_wasRe h_o_way h_o_notes h_o_ring h_o_turns h_o_beater h_o_reader h_o_dice h_o_trialWay h_o_trial h_o_otherTrial h_o_sumsRe h_o_sumsIm h_o_tally h_o_image h_o_tape : Nat) (o_imageKept : Int32) (o_taped : Int32) (o_past_next : Int32) (o_past_held : Int32) (o_wave_exp : Int32) (o_wave_done : Int32) (o_wave_backward : Int32) (o_past_cells : Nat → Int32) (o_wave_halved : Nat → Int32) (o_wave_im : Nat → Int32) (o_wave_re : Nat → Int32) (o_wave_wasIm : Nat → Int32) (o_wave_wasRe : Nat → Int32) : va_W := [(h_o, .inr (9, [.ref h_o_way, .ref h_o_wave, .ref h_o_past, .ref h_o_notes, .ref h_o_ring, .ref h_o_turns, .ref h_o_beater, .ref h_o_reader, .ref h_o_dice, .ref h_o_trialWay, .ref h_o_trial, .ref h_o_otherTrial, .ref h_o_sumsRe, .ref h_o_sumsIm, .ref h_o_tally, .ref h_o_image, .int o_imageKept, .ref h_o_tape, .int o_taped])), (h_o_past, .inr (3, [.ref h_o_past_cells, .int o_past_next, .int o_past_held])), (h_o_wave, .inr (7, [.ref h_o_wave_re, .ref h_o_wave_im, .ref h_o_wave_wasRe, .ref h_o_wave_wasIm, .ref h_o_wave_halved, .int o_wave_exp, .int o_wave_done, .int o_wave_backward])), (h_o_past_cells, .inl (cI, 2720, .inl o_past_cells)), (h_o_wave_halved, .inl (cI, 5, .inl o_wave_halved)), (h_o_wave_im, .inl (cI, 32, .inl o_wave_im)), (h_o_wave_re, .inl (cI, 32, .inl o_wave_re)), (h_o_wave_wasIm, .inl (cI, 32, .inl o_wave_wasIm)), (h_o_wave_wasRe, .inl (cI, 32, .inl o_wave_wasRe))]
def fX9_undo (o_past_next : Int32) (o_past_held : Int32) (o_wave_exp : Int32) (o_wave_done : Int32) (o_wave_backward : Int32) (o_past_cells : Nat → Int32) (o_wave_halved : Nat → Int32) (o_wave_im : Nat → Int32) (o_wave_re : Nat → Int32) (o_wave_wasIm : Nat → Int32) (o_wave_wasRe : Nat → Int32) : Option (Int32 × Int32 × Int32 × Int32 × Int32 × Int32 × (Nat → Int32) × (Nat → Int32) × (Nat → Int32) × (Nat → Int32) × (Nat → Int32)) :=
  bd11 (fX3_recall o_past_next o_past_held o_wave_exp o_wave_done o_wave_backward o_wave_halved o_wave_im o_wave_re o_wave_wasIm o_wave_wasRe o_past_cells) (fun r_1 o_past_next_2 o_past_held_3 o_wave_exp_4 o_wave_done_5 o_wave_backward_6 o_wave_halved_7 o_wave_im_8 o_wave_re_9 o_wave_wasIm_10 o_wave_wasRe_11 =>
  if r_1 = 0 then (
    some ((-1 : Int32), o_past_next_2, o_past_held_3, o_wave_exp_4, o_wave_done_5, o_wave_backward_6, o_wave_halved_7, o_wave_im_8, o_wave_re_9, o_wave_wasIm_10, o_wave_wasRe_11)
  ) else (
    some (o_past_held_3, o_past_next_2, o_past_held_3, o_wave_exp_4, o_wave_done_5, o_wave_backward_6, o_wave_halved_7, o_wave_im_8, o_wave_re_9, o_wave_wasIm_10, o_wave_wasRe_11)
  ))
set_option maxHeartbeats 4000000 in
set_option maxRecDepth 100000 in
theorem tX9_undo (l : Launch) (G : va_G) (cI cJ cZ : ClassId) (sz : Nat) (h_o h_o_past h_o_wave h_o_past_cells h_o_wave_halved h_o_wave_im h_o_wave_re h_o_wave_wasIm h_o_wave_wasRe h_o_way h_o_notes h_o_ring h_o_turns h_o_beater h_o_reader h_o_dice h_o_trialWay h_o_trial h_o_otherTrial h_o_sumsRe h_o_sumsIm h_o_tally h_o_image h_o_tape : Nat) (o_imageKept : Int32) (o_taped : Int32) (o_past_next : Int32) (o_past_held : Int32) (o_wave_exp : Int32) (o_wave_done : Int32) (o_wave_backward : Int32) (o_past_cells : Nat → Int32) (o_wave_halved : Nat → Int32) (o_wave_im : Nat → Int32) (o_wave_re : Nat → Int32) (o_wave_wasIm : Nat → Int32) (o_wave_wasRe : Nat → Int32) (r : Int32) (out_o_past_next : Int32) (out_o_past_held : Int32) (out_o_wave_exp : Int32) (out_o_wave_done : Int32) (out_o_wave_backward : Int32) (out_o_wave_halved : Nat → Int32) (out_o_wave_im : Nat → Int32) (out_o_wave_re : Nat → Int32) (out_o_wave_wasIm : Nat → Int32) (out_o_wave_wasRe : Nat → Int32) (hf : fX9_undo o_past_next o_past_held o_wave_exp o_wave_done o_wave_backward o_past_cells o_wave_halved o_wave_im o_wave_re o_wave_wasIm o_wave_wasRe = some (r, out_o_past_next, out_o_past_held, out_o_wave_exp, out_o_wave_done, out_o_wave_backward, out_o_wave_halved, out_o_wave_im, out_o_wave_re, out_o_wave_wasIm, out_o_wave_wasRe)) : Met l yX9_undo (Cond.code yX9_undo cX9_undo 1 (some .int) :: BIG) ({ frames := 3, cells := 0, slots := 0, locals := 62 } : Room) (cP G (TY3 cI cJ cZ) [.ref h_o] sz (wX9_undo cI cJ cZ h_o h_o_past h_o_wave h_o_past_cells h_o_wave_halved h_o_wave_im h_o_wave_re h_o_wave_wasIm h_o_wave_wasRe h_o_way h_o_notes h_o_ring h_o_turns h_o_beater h_o_reader h_o_dice h_o_trialWay h_o_trial h_o_otherTrial h_o_sumsRe h_o_sumsIm h_o_tally h_o_image h_o_tape o_imageKept o_taped o_past_next o_past_held o_wave_exp o_wave_done o_wave_backward o_past_cells o_wave_halved o_wave_im o_wave_re o_wave_wasIm o_wave_wasRe)) (cQ G (TY3 cI cJ cZ) sz (wX9_undo cI cJ cZ h_o h_o_past h_o_wave h_o_past_cells h_o_wave_halved h_o_wave_im h_o_wave_re h_o_wave_wasIm h_o_wave_wasRe h_o_way h_o_notes h_o_ring h_o_turns h_o_beater h_o_reader h_o_dice h_o_trialWay h_o_trial h_o_otherTrial h_o_sumsRe h_o_sumsIm h_o_tally h_o_image h_o_tape o_imageKept o_taped o_past_next o_past_held o_wave_exp o_wave_done o_wave_backward o_past_cells o_wave_halved o_wave_im o_wave_re o_wave_wasIm o_wave_wasRe) (wX9_undo cI cJ cZ h_o h_o_past h_o_wave h_o_past_cells h_o_wave_halved h_o_wave_im h_o_wave_re h_o_wave_wasIm h_o_wave_wasRe h_o_way h_o_notes h_o_ring h_o_turns h_o_beater h_o_reader h_o_dice h_o_trialWay h_o_trial h_o_otherTrial h_o_sumsRe h_o_sumsIm h_o_tally h_o_image h_o_tape o_imageKept o_taped out_o_past_next out_o_past_held out_o_wave_exp out_o_wave_done out_o_wave_backward o_past_cells out_o_wave_halved out_o_wave_im out_o_wave_re out_o_wave_wasIm out_o_wave_wasRe) (some (.int r))) 0 0 (va_A (wX9_undo cI cJ cZ h_o h_o_past h_o_wave h_o_past_cells h_o_wave_halved h_o_wave_im h_o_wave_re h_o_wave_wasIm h_o_wave_wasRe h_o_way h_o_notes h_o_ring h_o_turns h_o_beater h_o_reader h_o_dice h_o_trialWay h_o_trial h_o_otherTrial h_o_sumsRe h_o_sumsIm h_o_tally h_o_image h_o_tape o_imageKept o_taped o_past_next o_past_held o_wave_exp o_wave_done o_wave_backward o_past_cells o_wave_halved o_wave_im o_wave_re o_wave_wasIm o_wave_wasRe) sz) := by
  refine met_i (cc := cX9_undo) (maxL := 1) (plainFor_of_name (by decide)) (Nat.le_of_ble_eq_true rfl) (fun p e s m below meth c A ls Q hx hb hml hts hown hK hP hD hS hA hl hret => ?_)
  have hown : s.vm.findClass RX9 = some m.cls := hown
  have hl : lv_has ls 1 [(0, .ref h_o)] := hl
  unfold fX9_undo at hf
  obtain ⟨H, eH⟩ : ∃ H, H = s.heap := ⟨_, rfl⟩
  obtain ⟨locs, elocs⟩ : ∃ z : List Loc, z = [] := ⟨_, rfl⟩
  have hP : va_P G vwCl (wX9_undo cI cJ cZ h_o h_o_past h_o_wave h_o_past_cells h_o_wave_halved h_o_wave_im h_o_wave_re h_o_wave_wasIm h_o_wave_wasRe h_o_way h_o_notes h_o_ring h_o_turns h_o_beater h_o_reader h_o_dice h_o_trialWay h_o_trial h_o_otherTrial h_o_sumsRe h_o_sumsIm h_o_tally h_o_image h_o_tape o_imageKept o_taped o_past_next o_past_held o_wave_exp o_wave_done o_wave_backward o_past_cells o_wave_halved o_wave_im o_wave_re o_wave_wasIm o_wave_wasRe) H := by rw [eH]; exact hP
  have hS : va_S A s.heap H locs := by rw [eH, elocs]; exact hS
  suffices hgo : W p l e ({ frames := 3, cells := 0, slots := 0, locals := 62 } : Room) s m ([.ref h_o] : List Value).toArray below meth c H locs 0 0 Q (F0 m 0 ls []) by rw [eH, elocs] at hgo; exact hgo
  clear eH elocs
  refine lv_aload_n hx hb dX9_undo_0 rfl (lv_at hl 0 rfl) ?_
  refine rd (ci := 9) (C := RX9) (T := TX9) (N := 19) hx hb hts inX9 hown hK hP 0 2 rfl rfl (by decide) (hts _ q_fX9_26) rfl dX9_undo_1 ?_
  refine lv_aload_n hx hb dX9_undo_4 rfl (lv_at hl 0 rfl) ?_
  refine rd (ci := 9) (C := RX9) (T := TX9) (N := 19) hx hb hts inX9 hown hK hP 0 1 rfl rfl (by decide) (hts _ q_fX9_19) rfl dX9_undo_5 ?_
  obtain ⟨r_1, o_past_next_2, o_past_held_3, o_wave_exp_4, o_wave_done_5, o_wave_backward_6, o_wave_halved_7, o_wave_im_8, o_wave_re_9, o_wave_wasIm_10, o_wave_wasRe_11, e_12, hf⟩ := bd11_x hf
  refine call_v [.ref h_o_wave] [] ⟨hx, hb, hml, hown, hts⟩ hK hP hD hS hA hl.1 (tX3_recall l G cI cJ cZ H.size h_o_past h_o_wave h_o_wave_halved h_o_wave_im h_o_wave_re h_o_wave_wasIm h_o_wave_wasRe h_o_past_cells o_past_next o_past_held o_wave_exp o_wave_done o_wave_backward o_wave_halved o_wave_im o_wave_re o_wave_wasIm o_wave_wasRe o_past_cells r_1 o_past_next_2 o_past_held_3 o_wave_exp_4 o_wave_done_5 o_wave_backward_6 o_wave_halved_7 o_wave_im_8 o_wave_re_9 o_wave_wasIm_10 o_wave_wasRe_11 e_12) (cwV 1 hts (gv q_mX9_437 q_i_yX3_recall q_s_yX3_recall q_n_RX3 q_k_yX3_recall) rfl rfl rfl (by decide +kernel) ⟨by decide, by decide⟩) rfl rfl (Nat.le_of_ble_eq_true rfl) dX9_undo_8 ⟨Nat.zero_le _, Nat.zero_le _⟩ (ci := 3) rfl 0 rfl [1, 2, 4, 5, 6, 7, 8, 3] [0] [0, 1, 2, 8, 3, 4, 5, 6, 7] rfl rfl (ws2 := (wX9_undo cI cJ cZ h_o h_o_past h_o_wave h_o_past_cells h_o_wave_halved h_o_wave_im h_o_wave_re h_o_wave_wasIm h_o_wave_wasRe h_o_way h_o_notes h_o_ring h_o_turns h_o_beater h_o_reader h_o_dice h_o_trialWay h_o_trial h_o_otherTrial h_o_sumsRe h_o_sumsIm h_o_tally h_o_image h_o_tape o_imageKept o_taped o_past_next_2 o_past_held_3 o_wave_exp_4 o_wave_done_5 o_wave_backward_6 o_past_cells o_wave_halved_7 o_wave_im_8 o_wave_re_9 o_wave_wasIm_10 o_wave_wasRe_11)) rfl (fun H locs hP hD hS => ?_)
  refine W.eq (g2 := F0 m 11 ls [.int r_1]) rfl ?_
  refine lv_if_eq (tgt := 24) hx hb dX9_undo_11 (by decide) (fun c_13 => ?_) (fun c_13 => ?_)
  · have hf := it_t c_13 hf
    refine lv_iconst (v := (-1 : Int32)) hx hb dX9_undo_24 (by decide) ?_
    cases hf
    exact hret _ _ _ _ dX9_undo_25 hP hD hS
  · have hf := it_f c_13 hf
    refine lv_aload_n hx hb dX9_undo_14 rfl (lv_at hl 0 rfl) ?_
    refine rd (ci := 9) (C := RX9) (T := TX9) (N := 19) hx hb hts inX9 hown hK hP 0 2 rfl rfl (by decide) (hts _ q_fX9_26) rfl dX9_undo_15 ?_
    refine rd (ci := 3) (C := RX3) (T := TX3) (N := 3) hx hb hts inX3 hown hK hP 1 2 rfl rfl (by decide) (hts _ q_fX9_254) rfl dX9_undo_18 ?_
    refine lv_goto (tgt := 25) hx hb dX9_undo_21 (by decide) ?_
    cases hf
    exact hret _ _ _ _ dX9_undo_25 hP hD hS
