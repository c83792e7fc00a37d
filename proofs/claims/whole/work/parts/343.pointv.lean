/-! ===== point, where it answers ===== -/
def wX9_point (cI cJ cZ : ClassId) (h_o h_o_wave h_o_way h_o_wave_im h_o_wave_re h_o_wave_wasIm h_o_wave_wasRe h_o_past h_o_notes h_o_ring h_o_turns h_o_beater h_o_reader h_o_dice h_o_trialWay h_o_trial h_o_otherTrial h_o_sumsRe h_o_sumsIm h_o_tally h_o_image h_o_tape h_o_wave_halved h_o_way_shifts : Nat) (o_imageKept : Int32) (o_taped : Int32) (o_wave_exp : Int32) (o_wave_done : Int32) (o_wave_backward : Int32) (o_way_size : Int32) (o_way_log : Int32) (o_way_wordBits : Int32) (o_way_limit : Int32) (o_way_radix : Int32) (o_way_order : Int32) (o_way_near : Int32) (o_way_seed : Int32) (o_way_stages : Int32) (o_wave_im : Nat → Int32) (o_wave_re : Nat → Int32) (o_wave_wasIm : Nat → Int32) (o_wave_wasRe : Nat → Int32) : va_W := [(h_o, .inr (9, [.ref h_o_way, .ref h_o_wave, .ref h_o_past, .ref h_o_notes, .ref h_o_ring, .ref h_o_turns, .ref h_o_beater, .ref h_o_reader, .ref h_o_dice, .ref h_o_trialWay, .ref h_o_trial, .ref h_o_otherTrial, .ref h_o_sumsRe, .ref h_o_sumsIm, .ref h_o_tally, .ref h_o_image, .int o_imageKept, .ref h_o_tape, .int o_taped])), (h_o_wave, .inr (7, [.ref h_o_wave_re, .ref h_o_wave_im, .ref h_o_wave_wasRe, .ref h_o_wave_wasIm, .ref h_o_wave_halved, .int o_wave_exp, .int o_wave_done, .int o_wave_backward])), (h_o_way, .inr (8, [.int o_way_size, .int o_way_log, .int o_way_wordBits, .int o_way_limit, .int o_way_radix, .int o_way_order, .int o_way_near, .int o_way_seed, .int o_way_stages, .ref h_o_way_shifts])), (h_o_wave_im, .inl (cI, 32, .inl o_wave_im)), (h_o_wave_re, .inl (cI, 32, .inl o_wave_re)), (h_o_wave_wasIm, .inl (cI, 32, .inl o_wave_wasIm)), (h_o_wave_wasRe, .inl (cI, 32, .inl o_wave_wasRe))]
def fX9_point_27 : Option (Int32) :=
  none
def fX9_point (o_way_size : Int32) (o_wave_im : Nat → Int32) (o_wave_re : Nat → Int32) (o_wave_wasIm : Nat → Int32) (o_wave_wasRe : Nat → Int32) (p1 : Int32) (p2 : Int32) : Option (Int32) :=
  bd1 (fX9_isPlace o_way_size p1) (fun r_1 =>
  if r_1 = 0 then (
    none
  ) else (
    if p2 < 0 then (
      fX9_point_27
    ) else (
      if p2 ≤ (3 : Int32) then (
        if p2 = 0 then (
          gd (inb p1 32) (
          some (o_wave_re (Int32.toNatClampNeg p1)))
        ) else (
          if p2 = (1 : Int32) then (
            gd (inb p1 32) (
            some (o_wave_im (Int32.toNatClampNeg p1)))
          ) else (
            if p2 = (2 : Int32) then (
              gd (inb p1 32) (
              some (o_wave_wasRe (Int32.toNatClampNeg p1)))
            ) else (
              gd (inb p1 32) (
              some (o_wave_wasIm (Int32.toNatClampNeg p1)))
            )
          )
        )
      ) else (
        fX9_point_27
      )
    )
  ))
set_option maxHeartbeats 4000000 in
set_option maxRecDepth 100000 in
theorem tX9_point (l : Launch) (G : va_G) (cI cJ cZ : ClassId) (sz : Nat) (h_o h_o_wave h_o_way h_o_wave_im h_o_wave_re h_o_wave_wasIm h_o_wave_wasRe h_o_past h_o_notes h_o_ring h_o_turns h_o_beater h_o_reader h_o_dice h_o_trialWay h_o_trial h_o_otherTrial h_o_sumsRe h_o_sumsIm h_o_tally h_o_image h_o_tape h_o_wave_halved h_o_way_shifts : Nat) (o_imageKept : Int32) (o_taped : Int32) (o_wave_exp : Int32) (o_wave_done : Int32) (o_wave_backward : Int32) (o_way_size : Int32) (o_way_log : Int32) (o_way_wordBits : Int32) (o_way_limit : Int32) (o_way_radix : Int32) (o_way_order : Int32) (o_way_near : Int32) (o_way_seed : Int32) (o_way_stages : Int32) (o_wave_im : Nat → Int32) (o_wave_re : Nat → Int32) (o_wave_wasIm : Nat → Int32) (o_wave_wasRe : Nat → Int32) (p1 : Int32) (p2 : Int32) (r : Int32) (hf : fX9_point o_way_size o_wave_im o_wave_re o_wave_wasIm o_wave_wasRe p1 p2 = some r) : Met l yX9_point (Cond.code yX9_point cX9_point 3 (some .int) :: BIG) ({ frames := 1, cells := 0, slots := 0, locals := 21 } : Room) (cP G (TY3 cI cJ cZ) [.ref h_o, .int p1, .int p2] sz (wX9_point cI cJ cZ h_o h_o_wave h_o_way h_o_wave_im h_o_wave_re h_o_wave_wasIm h_o_wave_wasRe h_o_past h_o_notes h_o_ring h_o_turns h_o_beater h_o_reader h_o_dice h_o_trialWay h_o_trial h_o_otherTrial h_o_sumsRe h_o_sumsIm h_o_tally h_o_image h_o_tape h_o_wave_halved h_o_way_shifts o_imageKept o_taped o_wave_exp o_wave_done o_wave_backward o_way_size o_way_log o_way_wordBits o_way_limit o_way_radix o_way_order o_way_near o_way_seed o_way_stages o_wave_im o_wave_re o_wave_wasIm o_wave_wasRe)) (cQ G (TY3 cI cJ cZ) sz (wX9_point cI cJ cZ h_o h_o_wave h_o_way h_o_wave_im h_o_wave_re h_o_wave_wasIm h_o_wave_wasRe h_o_past h_o_notes h_o_ring h_o_turns h_o_beater h_o_reader h_o_dice h_o_trialWay h_o_trial h_o_otherTrial h_o_sumsRe h_o_sumsIm h_o_tally h_o_image h_o_tape h_o_wave_halved h_o_way_shifts o_imageKept o_taped o_wave_exp o_wave_done o_wave_backward o_way_size o_way_log o_way_wordBits o_way_limit o_way_radix o_way_order o_way_near o_way_seed o_way_stages o_wave_im o_wave_re o_wave_wasIm o_wave_wasRe) (wX9_point cI cJ cZ h_o h_o_wave h_o_way h_o_wave_im h_o_wave_re h_o_wave_wasIm h_o_wave_wasRe h_o_past h_o_notes h_o_ring h_o_turns h_o_beater h_o_reader h_o_dice h_o_trialWay h_o_trial h_o_otherTrial h_o_sumsRe h_o_sumsIm h_o_tally h_o_image h_o_tape h_o_wave_halved h_o_way_shifts o_imageKept o_taped o_wave_exp o_wave_done o_wave_backward o_way_size o_way_log o_way_wordBits o_way_limit o_way_radix o_way_order o_way_near o_way_seed o_way_stages o_wave_im o_wave_re o_wave_wasIm o_wave_wasRe) (some (.int r))) 0 0 (va_A (wX9_point cI cJ cZ h_o h_o_wave h_o_way h_o_wave_im h_o_wave_re h_o_wave_wasIm h_o_wave_wasRe h_o_past h_o_notes h_o_ring h_o_turns h_o_beater h_o_reader h_o_dice h_o_trialWay h_o_trial h_o_otherTrial h_o_sumsRe h_o_sumsIm h_o_tally h_o_image h_o_tape h_o_wave_halved h_o_way_shifts o_imageKept o_taped o_wave_exp o_wave_done o_wave_backward o_way_size o_way_log o_way_wordBits o_way_limit o_way_radix o_way_order o_way_near o_way_seed o_way_stages o_wave_im o_wave_re o_wave_wasIm o_wave_wasRe) sz) := by
  refine met_i (cc := cX9_point) (maxL := 3) (plainFor_of_name (by decide)) (Nat.le_of_ble_eq_true rfl) (fun p e s m below meth c A ls Q hx hb hml hts hown hK hP hD hS hA hl hret => ?_)
  have hown : s.vm.findClass RX9 = some m.cls := hown
  have hl : lv_has ls 3 [(0, .ref h_o), (1, .int p1), (2, .int p2)] := hl
  have j27 : ∀ (H : Heap) (locs : List Loc) (ls : Array Slot), fX9_point_27 = some r → va_P G vwCl (wX9_point cI cJ cZ h_o h_o_wave h_o_way h_o_wave_im h_o_wave_re h_o_wave_wasIm h_o_wave_wasRe h_o_past h_o_notes h_o_ring h_o_turns h_o_beater h_o_reader h_o_dice h_o_trialWay h_o_trial h_o_otherTrial h_o_sumsRe h_o_sumsIm h_o_tally h_o_image h_o_tape h_o_wave_halved h_o_way_shifts o_imageKept o_taped o_wave_exp o_wave_done o_wave_backward o_way_size o_way_log o_way_wordBits o_way_limit o_way_radix o_way_order o_way_near o_way_seed o_way_stages o_wave_im o_wave_re o_wave_wasIm o_wave_wasRe) H → va_D A (wX9_point cI cJ cZ h_o h_o_wave h_o_way h_o_wave_im h_o_wave_re h_o_wave_wasIm h_o_wave_wasRe h_o_past h_o_notes h_o_ring h_o_turns h_o_beater h_o_reader h_o_dice h_o_trialWay h_o_trial h_o_otherTrial h_o_sumsRe h_o_sumsIm h_o_tally h_o_image h_o_tape h_o_wave_halved h_o_way_shifts o_imageKept o_taped o_wave_exp o_wave_done o_wave_backward o_way_size o_way_log o_way_wordBits o_way_limit o_way_radix o_way_order o_way_near o_way_seed o_way_stages o_wave_im o_wave_re o_wave_wasIm o_wave_wasRe) → va_S A s.heap H locs → lv_has ls 3 [] → W p l e ({ frames := 1, cells := 0, slots := 0, locals := 21 } : Room) s m ([.ref h_o, .int p1, .int p2] : List Value).toArray below meth c H locs 0 0 Q (F0 m 27 ls []) := by
    intro  H locs ls hf hP hD hS hl
    unfold fX9_point_27 at hf
    cases hf
  unfold fX9_point at hf
  obtain ⟨H, eH⟩ : ∃ H, H = s.heap := ⟨_, rfl⟩
  obtain ⟨locs, elocs⟩ : ∃ z : List Loc, z = [] := ⟨_, rfl⟩
  have hP : va_P G vwCl (wX9_point cI cJ cZ h_o h_o_wave h_o_way h_o_wave_im h_o_wave_re h_o_wave_wasIm h_o_wave_wasRe h_o_past h_o_notes h_o_ring h_o_turns h_o_beater h_o_reader h_o_dice h_o_trialWay h_o_trial h_o_otherTrial h_o_sumsRe h_o_sumsIm h_o_tally h_o_image h_o_tape h_o_wave_halved h_o_way_shifts o_imageKept o_taped o_wave_exp o_wave_done o_wave_backward o_way_size o_way_log o_way_wordBits o_way_limit o_way_radix o_way_order o_way_near o_way_seed o_way_stages o_wave_im o_wave_re o_wave_wasIm o_wave_wasRe) H := by rw [eH]; exact hP
  have hS : va_S A s.heap H locs := by rw [eH, elocs]; exact hS
  suffices hgo : W p l e ({ frames := 1, cells := 0, slots := 0, locals := 21 } : Room) s m ([.ref h_o, .int p1, .int p2] : List Value).toArray below meth c H locs 0 0 Q (F0 m 0 ls []) by rw [eH, elocs] at hgo; exact hgo
  clear eH elocs
  refine lv_aload_n hx hb dX9_point_0 rfl (lv_at hl 0 rfl) ?_
  refine lv_iload_n hx hb dX9_point_1 rfl (lv_at hl 1 rfl) ?_
  obtain ⟨r_1, e_2, hf⟩ := bd1_x hf
  refine call_v [.int p1] [] ⟨hx, hb, hml, hown, hts⟩ hK hP hD hS hA hl.1 (tX9_isPlace l G cI cJ cZ H.size h_o h_o_way h_o_wave h_o_past h_o_notes h_o_ring h_o_turns h_o_beater h_o_reader h_o_dice h_o_trialWay h_o_trial h_o_otherTrial h_o_sumsRe h_o_sumsIm h_o_tally h_o_image h_o_tape h_o_way_shifts o_imageKept o_taped o_way_size o_way_log o_way_wordBits o_way_limit o_way_radix o_way_order o_way_near o_way_seed o_way_stages p1 r_1 e_2) (cwV 1 hts (gv q_mX9_159 q_i_yX9_isPlace q_s_yX9_isPlace q_n_RX9 q_k_yX9_isPlace) rfl rfl rfl (by decide +kernel) ⟨by decide, by decide⟩) rfl rfl (Nat.le_of_ble_eq_true rfl) dX9_point_2 ⟨Nat.zero_le _, Nat.zero_le _⟩ (ci := 9) rfl 0 rfl [0, 2] [1, 3, 4, 5, 6] [5, 0, 6, 1, 2, 3, 4] rfl rfl (ws2 := (wX9_point cI cJ cZ h_o h_o_wave h_o_way h_o_wave_im h_o_wave_re h_o_wave_wasIm h_o_wave_wasRe h_o_past h_o_notes h_o_ring h_o_turns h_o_beater h_o_reader h_o_dice h_o_trialWay h_o_trial h_o_otherTrial h_o_sumsRe h_o_sumsIm h_o_tally h_o_image h_o_tape h_o_wave_halved h_o_way_shifts o_imageKept o_taped o_wave_exp o_wave_done o_wave_backward o_way_size o_way_log o_way_wordBits o_way_limit o_way_radix o_way_order o_way_near o_way_seed o_way_stages o_wave_im o_wave_re o_wave_wasIm o_wave_wasRe)) rfl (fun H locs hP hD hS => ?_)
  refine W.eq (g2 := F0 m 5 ls [.int r_1]) rfl ?_
  refine lv_if_ne (tgt := 18) hx hb dX9_point_5 (by decide) (fun c_3 => ?_) (fun c_3 => ?_)
  · have hf := it_f c_3 hf
    refine lv_iload_n hx hb dX9_point_18 rfl (lv_at hl 2 rfl) ?_
    refine lv_if_lt (tgt := 27) hx hb dX9_point_19 (by decide) (fun c_4 => ?_) (fun c_4 => ?_)
    · have hf := it_t c_4 hf
      exact j27 H locs ls hf hP hD hS (lv_sub hl [] rfl)
    · have hf := it_f c_4 hf
      refine lv_iload_n hx hb dX9_point_22 rfl (lv_at hl 2 rfl) ?_
      refine lv_iconst (v := (3 : Int32)) hx hb dX9_point_23 (by decide) ?_
      refine lv_icmp_le (tgt := 37) hx hb dX9_point_24 (by decide) (fun c_5 => ?_) (fun c_5 => ?_)
      · have hf := it_t c_5 hf
        refine lv_iload_n hx hb dX9_point_37 rfl (lv_at hl 2 rfl) ?_
        refine lv_if_ne (tgt := 51) hx hb dX9_point_38 (by decide) (fun c_6 => ?_) (fun c_6 => ?_)
        · have hf := it_f c_6 hf
          refine lv_iload_n hx hb dX9_point_51 rfl (lv_at hl 2 rfl) ?_
          refine lv_iconst (v := (1 : Int32)) hx hb dX9_point_52 (by decide) ?_
          refine lv_icmp_ne (tgt := 66) hx hb dX9_point_53 (by decide) (fun c_7 => ?_) (fun c_7 => ?_)
          · have hf := it_f c_7 hf
            refine lv_iload_n hx hb dX9_point_66 rfl (lv_at hl 2 rfl) ?_
            refine lv_iconst (v := (2 : Int32)) hx hb dX9_point_67 (by decide) ?_
            refine lv_icmp_ne (tgt := 83) hx hb dX9_point_68 (by decide) (fun c_8 => ?_) (fun c_8 => ?_)
            · have hf := it_f c_8 hf
              refine lv_aload_n hx hb dX9_point_83 rfl (lv_at hl 0 rfl) ?_
              refine rd (ci := 9) (C := RX9) (T := TX9) (N := 19) hx hb hts inX9 hown hK hP 0 1 rfl rfl (by decide) (hts _ q_fX9_19) rfl dX9_point_84 ?_
              refine rd (ci := 7) (C := RX7) (T := TX7) (N := 8) hx hb hts inX7 hown hK hP 1 3 rfl rfl (by decide) (hts _ q_fX9_180) rfl dX9_point_87 ?_
              refine lv_iload_n hx hb dX9_point_90 rfl (lv_at hl 1 rfl) ?_
              obtain ⟨g_9, hf⟩ := gd_x hf
              refine va_iald hx hb hK hP 5 0 rfl rfl (inb_x g_9) dX9_point_91 ?_
              cases hf
              exact hret _ _ _ _ dX9_point_92 hP hD hS
            · have hf := it_t c_8 hf
              refine lv_aload_n hx hb dX9_point_71 rfl (lv_at hl 0 rfl) ?_
              refine rd (ci := 9) (C := RX9) (T := TX9) (N := 19) hx hb hts inX9 hown hK hP 0 1 rfl rfl (by decide) (hts _ q_fX9_19) rfl dX9_point_72 ?_
              refine rd (ci := 7) (C := RX7) (T := TX7) (N := 8) hx hb hts inX7 hown hK hP 1 2 rfl rfl (by decide) (hts _ q_fX9_177) rfl dX9_point_75 ?_
              refine lv_iload_n hx hb dX9_point_78 rfl (lv_at hl 1 rfl) ?_
              obtain ⟨g_10, hf⟩ := gd_x hf
              refine va_iald hx hb hK hP 6 0 rfl rfl (inb_x g_10) dX9_point_79 ?_
              refine lv_goto (tgt := 92) hx hb dX9_point_80 (by decide) ?_
              cases hf
              exact hret _ _ _ _ dX9_point_92 hP hD hS
          · have hf := it_t c_7 hf
            refine lv_aload_n hx hb dX9_point_56 rfl (lv_at hl 0 rfl) ?_
            refine rd (ci := 9) (C := RX9) (T := TX9) (N := 19) hx hb hts inX9 hown hK hP 0 1 rfl rfl (by decide) (hts _ q_fX9_19) rfl dX9_point_57 ?_
            refine rd (ci := 7) (C := RX7) (T := TX7) (N := 8) hx hb hts inX7 hown hK hP 1 1 rfl rfl (by decide) (hts _ q_fX9_176) rfl dX9_point_60 ?_
            refine lv_iload_n hx hb dX9_point_63 rfl (lv_at hl 1 rfl) ?_
            obtain ⟨g_11, hf⟩ := gd_x hf
            refine va_iald hx hb hK hP 3 0 rfl rfl (inb_x g_11) dX9_point_64 ?_
            cases hf
            exact hret _ _ _ _ dX9_point_65 hP hD hS
        · have hf := it_t c_6 hf
          refine lv_aload_n hx hb dX9_point_41 rfl (lv_at hl 0 rfl) ?_
          refine rd (ci := 9) (C := RX9) (T := TX9) (N := 19) hx hb hts inX9 hown hK hP 0 1 rfl rfl (by decide) (hts _ q_fX9_19) rfl dX9_point_42 ?_
          refine rd (ci := 7) (C := RX7) (T := TX7) (N := 8) hx hb hts inX7 hown hK hP 1 0 rfl rfl (by decide) (hts _ q_fX9_175) rfl dX9_point_45 ?_
          refine lv_iload_n hx hb dX9_point_48 rfl (lv_at hl 1 rfl) ?_
          obtain ⟨g_12, hf⟩ := gd_x hf
          refine va_iald hx hb hK hP 4 0 rfl rfl (inb_x g_12) dX9_point_49 ?_
          cases hf
          exact hret _ _ _ _ dX9_point_50 hP hD hS
      · have hf := it_f c_5 hf
        exact j27 H locs ls hf hP hD hS (lv_sub hl [] rfl)
  · have hf := it_t c_3 hf
    cases hf
