def wX10_begins (cI cJ cZ : ClassId) (h_o h_o_all h_o_tape h_o_words h_o_told h_o_isTold h_o_toldWave h_o_isPoint h_o_quarter h_o_roots h_o_laidRe h_o_laidIm h_o_byOrder h_o_noted1 h_o_counts h_o_binBy : Nat) (o_tapeSize : Int32) (o_thrown : Int32) (o_fault : Int32) (o_faultPlace : Int32) (o_stop : Int32) (o_next : Int32) (o_kind : Int32) (o_which : Int32) (o_at : Int32) (o_pointsRead : Int32) (o_bank : Int32) (o_isImage : Int32) (o_undos : Int32) (o_runRadix : Int32) (o_runOrder : Int32) (o_runNear : Int32) (o_runLimit : Int32) (o_runHalves : Int32) (o_power : Int32) (o_notedMany : Int32) (o_knownTold : Int32) (o_drawn : Int64) (o_all : Nat → Int32) : va_W := [(h_o, .inr (10, [.ref h_o_tape, .int o_tapeSize, .int o_thrown, .ref h_o_words, .int o_fault, .int o_faultPlace, .int o_stop, .int o_next, .int o_kind, .int o_which, .int o_at, .ref h_o_told, .ref h_o_isTold, .ref h_o_toldWave, .ref h_o_isPoint, .int o_pointsRead, .ref h_o_all, .int o_bank, .int o_isImage, .int o_undos, .int o_runRadix, .int o_runOrder, .int o_runNear, .int o_runLimit, .int o_runHalves, .ref h_o_quarter, .int o_power, .ref h_o_roots, .ref h_o_laidRe, .ref h_o_laidIm, .ref h_o_byOrder, .int o_notedMany, .int o_knownTold, .ref h_o_noted1, .ref h_o_counts, .ref h_o_binBy, .long o_drawn])), (h_o_all, .inl (cI, 3128, .inl o_all))]
def fX10_begins (o_bank : Int32) (o_all : Nat → Int32) : Option ((Nat → Int32)) :=
  bd1 (fX10_lay o_bank o_all (128 : Int32) (0 : Int32)) (fun o_all_1 =>
  bd1 (fX10_lay o_bank o_all_1 (129 : Int32) (0 : Int32)) (fun o_all_3 =>
  bd1 (fX10_lay o_bank o_all_3 (130 : Int32) (0 : Int32)) (fun o_all_5 =>
  bd1 (fX10_noneHalved o_bank o_all_5) (fun o_all_7 =>
  some o_all_7))))
set_option maxHeartbeats 4000000 in
set_option maxRecDepth 100000 in
theorem tX10_begins (l : Launch) (G : va_G) (cI cJ cZ : ClassId) (sz : Nat) (h_o h_o_all h_o_tape h_o_words h_o_told h_o_isTold h_o_toldWave h_o_isPoint h_o_quarter h_o_roots h_o_laidRe h_o_laidIm h_o_byOrder h_o_noted1 h_o_counts h_o_binBy : Nat) (o_tapeSize : Int32) (o_thrown : Int32) (o_fault : Int32) (o_faultPlace : Int32) (o_stop : Int32) (o_next : Int32) (o_kind : Int32) (o_which : Int32) (o_at : Int32) (o_pointsRead : Int32) (o_bank : Int32) (o_isImage : Int32) (o_undos : Int32) (o_runRadix : Int32) (o_runOrder : Int32) (o_runNear : Int32) (o_runLimit : Int32) (o_runHalves : Int32) (o_power : Int32) (o_notedMany : Int32) (o_knownTold : Int32) (o_drawn : Int64) (o_all : Nat → Int32) (out_o_all : Nat → Int32) (hf : fX10_begins o_bank o_all = some out_o_all) : Met l yX10_begins (Cond.code yX10_begins cX10_begins 1 none :: BIG) ({ frames := 2, cells := 0, slots := 0, locals := 43 } : Room) (cP G (TY3 cI cJ cZ) [.ref h_o] sz (wX10_begins cI cJ cZ h_o h_o_all h_o_tape h_o_words h_o_told h_o_isTold h_o_toldWave h_o_isPoint h_o_quarter h_o_roots h_o_laidRe h_o_laidIm h_o_byOrder h_o_noted1 h_o_counts h_o_binBy o_tapeSize o_thrown o_fault o_faultPlace o_stop o_next o_kind o_which o_at o_pointsRead o_bank o_isImage o_undos o_runRadix o_runOrder o_runNear o_runLimit o_runHalves o_power o_notedMany o_knownTold o_drawn o_all)) (cQ G (TY3 cI cJ cZ) sz (wX10_begins cI cJ cZ h_o h_o_all h_o_tape h_o_words h_o_told h_o_isTold h_o_toldWave h_o_isPoint h_o_quarter h_o_roots h_o_laidRe h_o_laidIm h_o_byOrder h_o_noted1 h_o_counts h_o_binBy o_tapeSize o_thrown o_fault o_faultPlace o_stop o_next o_kind o_which o_at o_pointsRead o_bank o_isImage o_undos o_runRadix o_runOrder o_runNear o_runLimit o_runHalves o_power o_notedMany o_knownTold o_drawn o_all) (wX10_begins cI cJ cZ h_o h_o_all h_o_tape h_o_words h_o_told h_o_isTold h_o_toldWave h_o_isPoint h_o_quarter h_o_roots h_o_laidRe h_o_laidIm h_o_byOrder h_o_noted1 h_o_counts h_o_binBy o_tapeSize o_thrown o_fault o_faultPlace o_stop o_next o_kind o_which o_at o_pointsRead o_bank o_isImage o_undos o_runRadix o_runOrder o_runNear o_runLimit o_runHalves o_power o_notedMany o_knownTold o_drawn out_o_all) none) 0 0 (va_A (wX10_begins cI cJ cZ h_o h_o_all h_o_tape h_o_words h_o_told h_o_isTold h_o_toldWave h_o_isPoint h_o_quarter h_o_roots h_o_laidRe h_o_laidIm h_o_byOrder h_o_noted1 h_o_counts h_o_binBy o_tapeSize o_thrown o_fault o_faultPlace o_stop o_next o_kind o_which o_at o_pointsRead o_bank o_isImage o_undos o_runRadix o_runOrder o_runNear o_runLimit o_runHalves o_power o_notedMany o_knownTold o_drawn o_all) sz) := by
  refine met_v (cc := cX10_begins) (maxL := 1) (plainFor_of_name (by decide)) (Nat.le_of_ble_eq_true rfl) (fun p e s m below meth c A ls Q hx hb hml hts hown hK hP hD hS hA hl hret => ?_)
  have hown : s.vm.findClass RX10 = some m.cls := hown
  have hl : lv_has ls 1 [(0, .ref h_o)] := hl
  unfold fX10_begins at hf
  obtain ⟨H, eH⟩ : ∃ H, H = s.heap := ⟨_, rfl⟩
  obtain ⟨locs, elocs⟩ : ∃ z : List Loc, z = [] := ⟨_, rfl⟩
  have hP : va_P G vwCl (wX10_begins cI cJ cZ h_o h_o_all h_o_tape h_o_words h_o_told h_o_isTold h_o_toldWave h_o_isPoint h_o_quarter h_o_roots h_o_laidRe h_o_laidIm h_o_byOrder h_o_noted1 h_o_counts h_o_binBy o_tapeSize o_thrown o_fault o_faultPlace o_stop o_next o_kind o_which o_at o_pointsRead o_bank o_isImage o_undos o_runRadix o_runOrder o_runNear o_runLimit o_runHalves o_power o_notedMany o_knownTold o_drawn o_all) H := by rw [eH]; exact hP
  have hS : va_S A s.heap H locs := by rw [eH, elocs]; exact hS
  suffices hgo : W p l e ({ frames := 2, cells := 0, slots := 0, locals := 43 } : Room) s m ([.ref h_o] : List Value).toArray below meth c H locs 0 0 Q (F0 m 0 ls []) by rw [eH, elocs] at hgo; exact hgo
  clear eH elocs
  refine lv_aload_n hx hb dX10_begins_0 rfl (lv_at hl 0 rfl) ?_
  refine lv_sipush (v := (128 : Int32)) hx hb dX10_begins_1 (by decide) ?_
  refine lv_iconst (v := (0 : Int32)) hx hb dX10_begins_4 (by decide) ?_
  obtain ⟨o_all_1, e_2, hf⟩ := bd1_x hf
  refine call_v [.int (128 : Int32), .int (0 : Int32)] [] ⟨hx, hb, hml, hown, hts⟩ hK hP hD hS hA hl.1 (tX10_lay l G cI cJ cZ H.size h_o h_o_all h_o_tape h_o_words h_o_told h_o_isTold h_o_toldWave h_o_isPoint h_o_quarter h_o_roots h_o_laidRe h_o_laidIm h_o_byOrder h_o_noted1 h_o_counts h_o_binBy o_tapeSize o_thrown o_fault o_faultPlace o_stop o_next o_kind o_which o_at o_pointsRead o_bank o_isImage o_undos o_runRadix o_runOrder o_runNear o_runLimit o_runHalves o_power o_notedMany o_knownTold o_drawn o_all (128 : Int32) (0 : Int32) o_all_1 e_2) (cwV 2 hts (gv q_mX10_118 q_i_yX10_lay q_s_yX10_lay q_n_RX10 q_k_yX10_lay) rfl rfl rfl (by decide +kernel) ⟨by decide, by decide⟩) rfl rfl (Nat.le_of_ble_eq_true rfl) dX10_begins_5 ⟨Nat.zero_le _, Nat.zero_le _⟩ (ci := 10) rfl 0 rfl [0, 1] [] [0, 1] rfl rfl (ws2 := (wX10_begins cI cJ cZ h_o h_o_all h_o_tape h_o_words h_o_told h_o_isTold h_o_toldWave h_o_isPoint h_o_quarter h_o_roots h_o_laidRe h_o_laidIm h_o_byOrder h_o_noted1 h_o_counts h_o_binBy o_tapeSize o_thrown o_fault o_faultPlace o_stop o_next o_kind o_which o_at o_pointsRead o_bank o_isImage o_undos o_runRadix o_runOrder o_runNear o_runLimit o_runHalves o_power o_notedMany o_knownTold o_drawn o_all_1)) rfl (fun H locs hP hD hS => ?_)
  refine W.eq (g2 := F0 m 8 ls []) rfl ?_
  refine lv_aload_n hx hb dX10_begins_8 rfl (lv_at hl 0 rfl) ?_
  refine lv_sipush (v := (129 : Int32)) hx hb dX10_begins_9 (by decide) ?_
  refine lv_iconst (v := (0 : Int32)) hx hb dX10_begins_12 (by decide) ?_
  obtain ⟨o_all_3, e_4, hf⟩ := bd1_x hf
  refine call_v [.int (129 : Int32), .int (0 : Int32)] [] ⟨hx, hb, hml, hown, hts⟩ hK hP hD hS hA hl.1 (tX10_lay l G cI cJ cZ H.size h_o h_o_all h_o_tape h_o_words h_o_told h_o_isTold h_o_toldWave h_o_isPoint h_o_quarter h_o_roots h_o_laidRe h_o_laidIm h_o_byOrder h_o_noted1 h_o_counts h_o_binBy o_tapeSize o_thrown o_fault o_faultPlace o_stop o_next o_kind o_which o_at o_pointsRead o_bank o_isImage o_undos o_runRadix o_runOrder o_runNear o_runLimit o_runHalves o_power o_notedMany o_knownTold o_drawn o_all_1 (129 : Int32) (0 : Int32) o_all_3 e_4) (cwV 2 hts (gv q_mX10_118 q_i_yX10_lay q_s_yX10_lay q_n_RX10 q_k_yX10_lay) rfl rfl rfl (by decide +kernel) ⟨by decide, by decide⟩) rfl rfl (Nat.le_of_ble_eq_true rfl) dX10_begins_13 ⟨Nat.zero_le _, Nat.zero_le _⟩ (ci := 10) rfl 0 rfl [0, 1] [] [0, 1] rfl rfl (ws2 := (wX10_begins cI cJ cZ h_o h_o_all h_o_tape h_o_words h_o_told h_o_isTold h_o_toldWave h_o_isPoint h_o_quarter h_o_roots h_o_laidRe h_o_laidIm h_o_byOrder h_o_noted1 h_o_counts h_o_binBy o_tapeSize o_thrown o_fault o_faultPlace o_stop o_next o_kind o_which o_at o_pointsRead o_bank o_isImage o_undos o_runRadix o_runOrder o_runNear o_runLimit o_runHalves o_power o_notedMany o_knownTold o_drawn o_all_3)) rfl (fun H locs hP hD hS => ?_)
  refine W.eq (g2 := F0 m 16 ls []) rfl ?_
  refine lv_aload_n hx hb dX10_begins_16 rfl (lv_at hl 0 rfl) ?_
  refine lv_sipush (v := (130 : Int32)) hx hb dX10_begins_17 (by decide) ?_
  refine lv_iconst (v := (0 : Int32)) hx hb dX10_begins_20 (by decide) ?_
  obtain ⟨o_all_5, e_6, hf⟩ := bd1_x hf
  refine call_v [.int (130 : Int32), .int (0 : Int32)] [] ⟨hx, hb, hml, hown, hts⟩ hK hP hD hS hA hl.1 (tX10_lay l G cI cJ cZ H.size h_o h_o_all h_o_tape h_o_words h_o_told h_o_isTold h_o_toldWave h_o_isPoint h_o_quarter h_o_roots h_o_laidRe h_o_laidIm h_o_byOrder h_o_noted1 h_o_counts h_o_binBy o_tapeSize o_thrown o_fault o_faultPlace o_stop o_next o_kind o_which o_at o_pointsRead o_bank o_isImage o_undos o_runRadix o_runOrder o_runNear o_runLimit o_runHalves o_power o_notedMany o_knownTold o_drawn o_all_3 (130 : Int32) (0 : Int32) o_all_5 e_6) (cwV 2 hts (gv q_mX10_118 q_i_yX10_lay q_s_yX10_lay q_n_RX10 q_k_yX10_lay) rfl rfl rfl (by decide +kernel) ⟨by decide, by decide⟩) rfl rfl (Nat.le_of_ble_eq_true rfl) dX10_begins_21 ⟨Nat.zero_le _, Nat.zero_le _⟩ (ci := 10) rfl 0 rfl [0, 1] [] [0, 1] rfl rfl (ws2 := (wX10_begins cI cJ cZ h_o h_o_all h_o_tape h_o_words h_o_told h_o_isTold h_o_toldWave h_o_isPoint h_o_quarter h_o_roots h_o_laidRe h_o_laidIm h_o_byOrder h_o_noted1 h_o_counts h_o_binBy o_tapeSize o_thrown o_fault o_faultPlace o_stop o_next o_kind o_which o_at o_pointsRead o_bank o_isImage o_undos o_runRadix o_runOrder o_runNear o_runLimit o_runHalves o_power o_notedMany o_knownTold o_drawn o_all_5)) rfl (fun H locs hP hD hS => ?_)
  refine W.eq (g2 := F0 m 24 ls []) rfl ?_
  refine lv_aload_n hx hb dX10_begins_24 rfl (lv_at hl 0 rfl) ?_
  obtain ⟨o_all_7, e_8, hf⟩ := bd1_x hf
  refine call_v [] [] ⟨hx, hb, hml, hown, hts⟩ hK hP hD hS hA hl.1 (tX10_noneHalved l G cI cJ cZ H.size h_o h_o_all h_o_tape h_o_words h_o_told h_o_isTold h_o_toldWave h_o_isPoint h_o_quarter h_o_roots h_o_laidRe h_o_laidIm h_o_byOrder h_o_noted1 h_o_counts h_o_binBy o_tapeSize o_thrown o_fault o_faultPlace o_stop o_next o_kind o_which o_at o_pointsRead o_bank o_isImage o_undos o_runRadix o_runOrder o_runNear o_runLimit o_runHalves o_power o_notedMany o_knownTold o_drawn o_all_5 o_all_7 e_8) (cwV 0 hts (gv q_mX10_122 q_i_yX10_noneHalved q_s_yX10_noneHalved q_n_RX10 q_k_yX10_noneHalved) rfl rfl rfl (by decide +kernel) ⟨by decide, by decide⟩) rfl rfl (Nat.le_of_ble_eq_true rfl) dX10_begins_25 ⟨Nat.zero_le _, Nat.zero_le _⟩ (ci := 10) rfl 0 rfl [0, 1] [] [0, 1] rfl rfl (ws2 := (wX10_begins cI cJ cZ h_o h_o_all h_o_tape h_o_words h_o_told h_o_isTold h_o_toldWave h_o_isPoint h_o_quarter h_o_roots h_o_laidRe h_o_laidIm h_o_byOrder h_o_noted1 h_o_counts h_o_binBy o_tapeSize o_thrown o_fault o_faultPlace o_stop o_next o_kind o_which o_at o_pointsRead o_bank o_isImage o_undos o_runRadix o_runOrder o_runNear o_runLimit o_runHalves o_power o_notedMany o_knownTold o_drawn o_all_7)) rfl (fun H locs hP hD hS => ?_)
  refine W.eq (g2 := F0 m 28 ls []) rfl ?_
  cases hf
  exact hret _ _ _ _ dX10_begins_28 hP hD hS
def wX10_asWas (cI cJ cZ : ClassId) (h_o h_o_all h_o_tape h_o_words h_o_told h_o_isTold h_o_toldWave h_o_isPoint h_o_quarter h_o_roots h_o_laidRe h_o_laidIm h_o_byOrder h_o_noted1 h_o_counts h_o_binBy : Nat) (o_tapeSize : Int32) (o_thrown : Int32) (o_fault : Int32) (o_faultPlace : Int32) (o_stop : Int32) (o_next : Int32) (o_kind : Int32) (o_which : Int32) (o_at : Int32) (o_pointsRead : Int32) (o_bank : Int32) (o_isImage : Int32) (o_undos : Int32) (o_runRadix : Int32) (o_runOrder : Int32) (o_runNear : Int32) (o_runLimit : Int32) (o_runHalves : Int32) (o_power : Int32) (o_notedMany : Int32) (o_knownTold : Int32) (o_drawn : Int64) (o_all : Nat → Int32) : va_W := [(h_o, .inr (10, [.ref h_o_tape, .int o_tapeSize, .int o_thrown, .ref h_o_words, .int o_fault, .int o_faultPlace, .int o_stop, .int o_next, .int o_kind, .int o_which, .int o_at, .ref h_o_told, .ref h_o_isTold, .ref h_o_toldWave, .ref h_o_isPoint, .int o_pointsRead, .ref h_o_all, .int o_bank, .int o_isImage, .int o_undos, .int o_runRadix, .int o_runOrder, .int o_runNear, .int o_runLimit, .int o_runHalves, .ref h_o_quarter, .int o_power, .ref h_o_roots, .ref h_o_laidRe, .ref h_o_laidIm, .ref h_o_byOrder, .int o_notedMany, .int o_knownTold, .ref h_o_noted1, .ref h_o_counts, .ref h_o_binBy, .long o_drawn])), (h_o_all, .inl (cI, 3128, .inl o_all))]
def fX10_asWas_31 (o_bank : Int32) (o_all : Nat → Int32) : Option (Int32 × (Nat → Int32)) :=
  bd1 (fX10_begins o_bank o_all) (fun o_all_10 =>
  some (o_bank, o_all_10))
def fX10_asWas_6 : Nat → Int32 → (Nat → Int32) → Int32 → Option (Int32 × (Nat → Int32))
  | 0, _, _, _ => none
  | n + 1, o_bank, o_all, v1 =>
    if (64 : Int32) ≤ v1 then (
      fX10_asWas_31 o_bank o_all
    ) else (
      bd1 (fX10_of o_bank o_all ((64 : Int32) + v1)) (fun r_5 =>
      bd1 (fX10_lay o_bank o_all v1 r_5) (fun o_all_7 =>
      nm (v1 + (1 : Int32)) (fun v1_9 =>
      fX10_asWas_6 n o_bank o_all_7 v1_9)))
    )
def fX10_asWas (o_bank : Int32) (o_all : Nat → Int32) : Option (Int32 × (Nat → Int32)) :=
  bd2 (fX10_asNow o_bank o_all) (fun o_bank_1 o_all_2 =>
  fX10_asWas_6 FU o_bank_1 o_all_2 (0 : Int32))
set_option maxHeartbeats 4000000 in
set_option maxRecDepth 100000 in
theorem tX10_asWas (l : Launch) (G : va_G) (cI cJ cZ : ClassId) (sz : Nat) (h_o h_o_all h_o_tape h_o_words h_o_told h_o_isTold h_o_toldWave h_o_isPoint h_o_quarter h_o_roots h_o_laidRe h_o_laidIm h_o_byOrder h_o_noted1 h_o_counts h_o_binBy : Nat) (o_tapeSize : Int32) (o_thrown : Int32) (o_fault : Int32) (o_faultPlace : Int32) (o_stop : Int32) (o_next : Int32) (o_kind : Int32) (o_which : Int32) (o_at : Int32) (o_pointsRead : Int32) (o_bank : Int32) (o_isImage : Int32) (o_undos : Int32) (o_runRadix : Int32) (o_runOrder : Int32) (o_runNear : Int32) (o_runLimit : Int32) (o_runHalves : Int32) (o_power : Int32) (o_notedMany : Int32) (o_knownTold : Int32) (o_drawn : Int64) (o_all : Nat → Int32) (out_o_bank : Int32) (out_o_all : Nat → Int32) (hf : fX10_asWas o_bank o_all = some (out_o_bank, out_o_all)) : Met l yX10_asWas (Cond.code yX10_asWas cX10_asWas 2 none :: BIG) ({ frames := 3, cells := 0, slots := 0, locals := 63 } : Room) (cP G (TY3 cI cJ cZ) [.ref h_o] sz (wX10_asWas cI cJ cZ h_o h_o_all h_o_tape h_o_words h_o_told h_o_isTold h_o_toldWave h_o_isPoint h_o_quarter h_o_roots h_o_laidRe h_o_laidIm h_o_byOrder h_o_noted1 h_o_counts h_o_binBy o_tapeSize o_thrown o_fault o_faultPlace o_stop o_next o_kind o_which o_at o_pointsRead o_bank o_isImage o_undos o_runRadix o_runOrder o_runNear o_runLimit o_runHalves o_power o_notedMany o_knownTold o_drawn o_all)) (cQ G (TY3 cI cJ cZ) sz (wX10_asWas cI cJ cZ h_o h_o_all h_o_tape h_o_words h_o_told h_o_isTold h_o_toldWave h_o_isPoint h_o_quarter h_o_roots h_o_laidRe h_o_laidIm h_o_byOrder h_o_noted1 h_o_counts h_o_binBy o_tapeSize o_thrown o_fault o_faultPlace o_stop o_next o_kind o_which o_at o_pointsRead o_bank o_isImage o_undos o_runRadix o_runOrder o_runNear o_runLimit o_runHalves o_power o_notedMany o_knownTold o_drawn o_all) (wX10_asWas cI cJ cZ h_o h_o_all h_o_tape h_o_words h_o_told h_o_isTold h_o_toldWave h_o_isPoint h_o_quarter h_o_roots h_o_laidRe h_o_laidIm h_o_byOrder h_o_noted1 h_o_counts h_o_binBy o_tapeSize o_thrown o_fault o_faultPlace o_stop o_next o_kind o_which o_at o_pointsRead out_o_bank o_isImage o_undos o_runRadix o_runOrder o_runNear o_runLimit o_runHalves o_power o_notedMany o_knownTold o_drawn out_o_all) none) 0 0 (va_A (wX10_asWas cI cJ cZ h_o h_o_all h_o_tape h_o_words h_o_told h_o_isTold h_o_toldWave h_o_isPoint h_o_quarter h_o_roots h_o_laidRe h_o_laidIm h_o_byOrder h_o_noted1 h_o_counts h_o_binBy o_tapeSize o_thrown o_fault o_faultPlace o_stop o_next o_kind o_which o_at o_pointsRead o_bank o_isImage o_undos o_runRadix o_runOrder o_runNear o_runLimit o_runHalves o_power o_notedMany o_knownTold o_drawn o_all) sz) := by
  refine met_v (cc := cX10_asWas) (maxL := 2) (plainFor_of_name (by decide)) (Nat.le_of_ble_eq_true rfl) (fun p e s m below meth c A ls Q hx hb hml hts hown hK hP hD hS hA hl hret => ?_)
  have hown : s.vm.findClass RX10 = some m.cls := hown
  have hl : lv_has ls 2 [(0, .ref h_o)] := hl
  have j31 : ∀ (o_bank : Int32) (o_all : Nat → Int32) (H : Heap) (locs : List Loc) (ls : Array Slot), fX10_asWas_31 o_bank o_all = some (out_o_bank, out_o_all) → va_P G vwCl (wX10_asWas cI cJ cZ h_o h_o_all h_o_tape h_o_words h_o_told h_o_isTold h_o_toldWave h_o_isPoint h_o_quarter h_o_roots h_o_laidRe h_o_laidIm h_o_byOrder h_o_noted1 h_o_counts h_o_binBy o_tapeSize o_thrown o_fault o_faultPlace o_stop o_next o_kind o_which o_at o_pointsRead o_bank o_isImage o_undos o_runRadix o_runOrder o_runNear o_runLimit o_runHalves o_power o_notedMany o_knownTold o_drawn o_all) H → va_D A (wX10_asWas cI cJ cZ h_o h_o_all h_o_tape h_o_words h_o_told h_o_isTold h_o_toldWave h_o_isPoint h_o_quarter h_o_roots h_o_laidRe h_o_laidIm h_o_byOrder h_o_noted1 h_o_counts h_o_binBy o_tapeSize o_thrown o_fault o_faultPlace o_stop o_next o_kind o_which o_at o_pointsRead o_bank o_isImage o_undos o_runRadix o_runOrder o_runNear o_runLimit o_runHalves o_power o_notedMany o_knownTold o_drawn o_all) → va_S A s.heap H locs → lv_has ls 2 [(0, .ref h_o)] → W p l e ({ frames := 3, cells := 0, slots := 0, locals := 63 } : Room) s m ([.ref h_o] : List Value).toArray below meth c H locs 0 0 Q (F0 m 31 ls []) := by
    intro o_bank o_all H locs ls hf hP hD hS hl
    unfold fX10_asWas_31 at hf
    refine lv_aload_n hx hb dX10_asWas_31 rfl (lv_at hl 0 rfl) ?_
    obtain ⟨o_all_10, e_11, hf⟩ := bd1_x hf
    refine call_v [] [] ⟨hx, hb, hml, hown, hts⟩ hK hP hD hS hA hl.1 (tX10_begins l G cI cJ cZ H.size h_o h_o_all h_o_tape h_o_words h_o_told h_o_isTold h_o_toldWave h_o_isPoint h_o_quarter h_o_roots h_o_laidRe h_o_laidIm h_o_byOrder h_o_noted1 h_o_counts h_o_binBy o_tapeSize o_thrown o_fault o_faultPlace o_stop o_next o_kind o_which o_at o_pointsRead o_bank o_isImage o_undos o_runRadix o_runOrder o_runNear o_runLimit o_runHalves o_power o_notedMany o_knownTold o_drawn o_all o_all_10 e_11) (cwV 0 hts (gv q_mX10_190 q_i_yX10_begins q_s_yX10_begins q_n_RX10 q_k_yX10_begins) rfl rfl rfl (by decide +kernel) ⟨by decide, by decide⟩) rfl rfl (Nat.le_of_ble_eq_true rfl) dX10_asWas_32 ⟨Nat.zero_le _, Nat.zero_le _⟩ (ci := 10) rfl 0 rfl [0, 1] [] [0, 1] rfl rfl (ws2 := (wX10_asWas cI cJ cZ h_o h_o_all h_o_tape h_o_words h_o_told h_o_isTold h_o_toldWave h_o_isPoint h_o_quarter h_o_roots h_o_laidRe h_o_laidIm h_o_byOrder h_o_noted1 h_o_counts h_o_binBy o_tapeSize o_thrown o_fault o_faultPlace o_stop o_next o_kind o_which o_at o_pointsRead o_bank o_isImage o_undos o_runRadix o_runOrder o_runNear o_runLimit o_runHalves o_power o_notedMany o_knownTold o_drawn o_all_10)) rfl (fun H locs hP hD hS => ?_)
    refine W.eq (g2 := F0 m 35 ls []) rfl ?_
    cases hf
    exact hret _ _ _ _ dX10_asWas_35 hP hD hS
  have j6 : ∀ (n : Nat) (o_bank : Int32) (o_all : Nat → Int32) (v1 : Int32) (H : Heap) (locs : List Loc) (ls : Array Slot), fX10_asWas_6 n o_bank o_all v1 = some (out_o_bank, out_o_all) → va_P G vwCl (wX10_asWas cI cJ cZ h_o h_o_all h_o_tape h_o_words h_o_told h_o_isTold h_o_toldWave h_o_isPoint h_o_quarter h_o_roots h_o_laidRe h_o_laidIm h_o_byOrder h_o_noted1 h_o_counts h_o_binBy o_tapeSize o_thrown o_fault o_faultPlace o_stop o_next o_kind o_which o_at o_pointsRead o_bank o_isImage o_undos o_runRadix o_runOrder o_runNear o_runLimit o_runHalves o_power o_notedMany o_knownTold o_drawn o_all) H → va_D A (wX10_asWas cI cJ cZ h_o h_o_all h_o_tape h_o_words h_o_told h_o_isTold h_o_toldWave h_o_isPoint h_o_quarter h_o_roots h_o_laidRe h_o_laidIm h_o_byOrder h_o_noted1 h_o_counts h_o_binBy o_tapeSize o_thrown o_fault o_faultPlace o_stop o_next o_kind o_which o_at o_pointsRead o_bank o_isImage o_undos o_runRadix o_runOrder o_runNear o_runLimit o_runHalves o_power o_notedMany o_knownTold o_drawn o_all) → va_S A s.heap H locs → lv_has ls 2 [(0, .ref h_o), (1, .int v1)] → W p l e ({ frames := 3, cells := 0, slots := 0, locals := 63 } : Room) s m ([.ref h_o] : List Value).toArray below meth c H locs 0 0 Q (F0 m 6 ls []) := by
    intro n
    induction n with
    | zero =>
      intro o_bank o_all v1 H locs ls hf
      have hf : (none : Option (Int32 × (Nat → Int32))) = some (out_o_bank, out_o_all) := hf
      cases hf
    | succ n ih =>
      intro o_bank o_all v1 H locs ls hf hP hD hS hl
      rw [fX10_asWas_6.eq_2] at hf
      refine lv_iload_n hx hb dX10_asWas_6 rfl (lv_at hl 1 rfl) ?_
      refine lv_bipush (v := (64 : Int32)) hx hb dX10_asWas_7 (by decide) ?_
      refine lv_icmp_ge (tgt := 31) hx hb dX10_asWas_9 (by decide) (fun c_4 => ?_) (fun c_4 => ?_)
      · have hf := it_t c_4 hf
        exact j31 o_bank o_all H locs ls hf hP hD hS (lv_sub hl [0] rfl)
      · have hf := it_f c_4 hf
        refine lv_aload_n hx hb dX10_asWas_12 rfl (lv_at hl 0 rfl) ?_
        refine lv_iload_n hx hb dX10_asWas_13 rfl (lv_at hl 1 rfl) ?_
        refine lv_aload_n hx hb dX10_asWas_14 rfl (lv_at hl 0 rfl) ?_
        refine lv_bipush (v := (64 : Int32)) hx hb dX10_asWas_15 (by decide) ?_
        refine lv_iload_n hx hb dX10_asWas_17 rfl (lv_at hl 1 rfl) ?_
        refine lv_iadd hx hb dX10_asWas_18 ?_
        obtain ⟨r_5, e_6, hf⟩ := bd1_x hf
        refine call_v [.int ((64 : Int32) + v1)] [.int v1, .ref h_o] ⟨hx, hb, hml, hown, hts⟩ hK hP hD hS hA hl.1 (tX10_of l G cI cJ cZ H.size h_o h_o_all h_o_tape h_o_words h_o_told h_o_isTold h_o_toldWave h_o_isPoint h_o_quarter h_o_roots h_o_laidRe h_o_laidIm h_o_byOrder h_o_noted1 h_o_counts h_o_binBy o_tapeSize o_thrown o_fault o_faultPlace o_stop o_next o_kind o_which o_at o_pointsRead o_bank o_isImage o_undos o_runRadix o_runOrder o_runNear o_runLimit o_runHalves o_power o_notedMany o_knownTold o_drawn o_all ((64 : Int32) + v1) r_5 e_6) (cwV 1 hts (gv q_mX10_187 q_i_yX10_of q_s_yX10_of q_n_RX10 q_k_yX10_of) rfl rfl rfl (by decide +kernel) ⟨by decide, by decide⟩) rfl rfl (Nat.le_of_ble_eq_true rfl) dX10_asWas_19 ⟨Nat.zero_le _, Nat.zero_le _⟩ (ci := 10) rfl 0 rfl [0, 1] [] [0, 1] rfl rfl (ws2 := (wX10_asWas cI cJ cZ h_o h_o_all h_o_tape h_o_words h_o_told h_o_isTold h_o_toldWave h_o_isPoint h_o_quarter h_o_roots h_o_laidRe h_o_laidIm h_o_byOrder h_o_noted1 h_o_counts h_o_binBy o_tapeSize o_thrown o_fault o_faultPlace o_stop o_next o_kind o_which o_at o_pointsRead o_bank o_isImage o_undos o_runRadix o_runOrder o_runNear o_runLimit o_runHalves o_power o_notedMany o_knownTold o_drawn o_all)) rfl (fun H locs hP hD hS => ?_)
        refine W.eq (g2 := F0 m 22 ls [.int r_5, .int v1, .ref h_o]) rfl ?_
        obtain ⟨o_all_7, e_8, hf⟩ := bd1_x hf
        refine call_v [.int v1, .int r_5] [] ⟨hx, hb, hml, hown, hts⟩ hK hP hD hS hA hl.1 (tX10_lay l G cI cJ cZ H.size h_o h_o_all h_o_tape h_o_words h_o_told h_o_isTold h_o_toldWave h_o_isPoint h_o_quarter h_o_roots h_o_laidRe h_o_laidIm h_o_byOrder h_o_noted1 h_o_counts h_o_binBy o_tapeSize o_thrown o_fault o_faultPlace o_stop o_next o_kind o_which o_at o_pointsRead o_bank o_isImage o_undos o_runRadix o_runOrder o_runNear o_runLimit o_runHalves o_power o_notedMany o_knownTold o_drawn o_all v1 r_5 o_all_7 e_8) (cwV 2 hts (gv q_mX10_118 q_i_yX10_lay q_s_yX10_lay q_n_RX10 q_k_yX10_lay) rfl rfl rfl (by decide +kernel) ⟨by decide, by decide⟩) rfl rfl (Nat.le_of_ble_eq_true rfl) dX10_asWas_22 ⟨Nat.zero_le _, Nat.zero_le _⟩ (ci := 10) rfl 0 rfl [0, 1] [] [0, 1] rfl rfl (ws2 := (wX10_asWas cI cJ cZ h_o h_o_all h_o_tape h_o_words h_o_told h_o_isTold h_o_toldWave h_o_isPoint h_o_quarter h_o_roots h_o_laidRe h_o_laidIm h_o_byOrder h_o_noted1 h_o_counts h_o_binBy o_tapeSize o_thrown o_fault o_faultPlace o_stop o_next o_kind o_which o_at o_pointsRead o_bank o_isImage o_undos o_runRadix o_runOrder o_runNear o_runLimit o_runHalves o_power o_notedMany o_knownTold o_drawn o_all_7)) rfl (fun H locs hP hD hS => ?_)
        refine W.eq (g2 := F0 m 25 ls []) rfl ?_
        obtain ⟨v1_9, ev1_9⟩ : ∃ y : Int32, y = v1 + (1 : Int32) := ⟨_, rfl⟩
        have hf := nm_x ev1_9 hf
        refine lv_iinc (v := v1_9) (lv' := [(1, .int v1_9), (0, .ref h_o)]) hx hb dX10_asWas_25 hl (k := 1) rfl (by rw [ev1_9]; rfl) (by decide) rfl (fun ls hl => ?_)
        refine lv_goto (tgt := 6) hx hb dX10_asWas_28 (by decide) ?_
        exact ih o_bank o_all_7 v1_9 H locs ls hf hP hD hS (lv_sub hl [1, 0] rfl)
  unfold fX10_asWas at hf
  obtain ⟨H, eH⟩ : ∃ H, H = s.heap := ⟨_, rfl⟩
  obtain ⟨locs, elocs⟩ : ∃ z : List Loc, z = [] := ⟨_, rfl⟩
  have hP : va_P G vwCl (wX10_asWas cI cJ cZ h_o h_o_all h_o_tape h_o_words h_o_told h_o_isTold h_o_toldWave h_o_isPoint h_o_quarter h_o_roots h_o_laidRe h_o_laidIm h_o_byOrder h_o_noted1 h_o_counts h_o_binBy o_tapeSize o_thrown o_fault o_faultPlace o_stop o_next o_kind o_which o_at o_pointsRead o_bank o_isImage o_undos o_runRadix o_runOrder o_runNear o_runLimit o_runHalves o_power o_notedMany o_knownTold o_drawn o_all) H := by rw [eH]; exact hP
  have hS : va_S A s.heap H locs := by rw [eH, elocs]; exact hS
  suffices hgo : W p l e ({ frames := 3, cells := 0, slots := 0, locals := 63 } : Room) s m ([.ref h_o] : List Value).toArray below meth c H locs 0 0 Q (F0 m 0 ls []) by rw [eH, elocs] at hgo; exact hgo
  clear eH elocs
  refine lv_aload_n hx hb dX10_asWas_0 rfl (lv_at hl 0 rfl) ?_
  obtain ⟨o_bank_1, o_all_2, e_3, hf⟩ := bd2_x hf
  refine call_v [] [] ⟨hx, hb, hml, hown, hts⟩ hK hP hD hS hA hl.1 (tX10_asNow l G cI cJ cZ H.size h_o h_o_all h_o_tape h_o_words h_o_told h_o_isTold h_o_toldWave h_o_isPoint h_o_quarter h_o_roots h_o_laidRe h_o_laidIm h_o_byOrder h_o_noted1 h_o_counts h_o_binBy o_tapeSize o_thrown o_fault o_faultPlace o_stop o_next o_kind o_which o_at o_pointsRead o_bank o_isImage o_undos o_runRadix o_runOrder o_runNear o_runLimit o_runHalves o_power o_notedMany o_knownTold o_drawn o_all o_bank_1 o_all_2 e_3) (cwV 0 hts (gv q_mX10_184 q_i_yX10_asNow q_s_yX10_asNow q_n_RX10 q_k_yX10_asNow) rfl rfl rfl (by decide +kernel) ⟨by decide, by decide⟩) rfl rfl (Nat.le_of_ble_eq_true rfl) dX10_asWas_1 ⟨Nat.zero_le _, Nat.zero_le _⟩ (ci := 10) rfl 0 rfl [0, 1] [] [0, 1] rfl rfl (ws2 := (wX10_asWas cI cJ cZ h_o h_o_all h_o_tape h_o_words h_o_told h_o_isTold h_o_toldWave h_o_isPoint h_o_quarter h_o_roots h_o_laidRe h_o_laidIm h_o_byOrder h_o_noted1 h_o_counts h_o_binBy o_tapeSize o_thrown o_fault o_faultPlace o_stop o_next o_kind o_which o_at o_pointsRead o_bank_1 o_isImage o_undos o_runRadix o_runOrder o_runNear o_runLimit o_runHalves o_power o_notedMany o_knownTold o_drawn o_all_2)) rfl (fun H locs hP hD hS => ?_)
  refine W.eq (g2 := F0 m 4 ls []) rfl ?_
  refine lv_iconst (v := (0 : Int32)) hx hb dX10_asWas_4 (by decide) ?_
  refine lv_istore_n (lv' := [(1, .int (0 : Int32)), (0, .ref h_o)]) hx hb dX10_asWas_5 rfl hl (by decide) rfl (fun ls hl => ?_)
  exact j6 FU o_bank_1 o_all_2 (0 : Int32) H locs ls hf hP hD hS (lv_sub hl [1, 0] rfl)
def wX10_canUndo (cI cJ cZ : ClassId) (h_o h_o_all h_o_tape h_o_words h_o_told h_o_isTold h_o_toldWave h_o_isPoint h_o_quarter h_o_roots h_o_laidRe h_o_laidIm h_o_byOrder h_o_noted1 h_o_counts h_o_binBy : Nat) (o_tapeSize : Int32) (o_thrown : Int32) (o_fault : Int32) (o_faultPlace : Int32) (o_stop : Int32) (o_next : Int32) (o_kind : Int32) (o_which : Int32) (o_at : Int32) (o_pointsRead : Int32) (o_bank : Int32) (o_isImage : Int32) (o_undos : Int32) (o_runRadix : Int32) (o_runOrder : Int32) (o_runNear : Int32) (o_runLimit : Int32) (o_runHalves : Int32) (o_power : Int32) (o_notedMany : Int32) (o_knownTold : Int32) (o_drawn : Int64) (o_all : Nat → Int32) : va_W := [(h_o, .inr (10, [.ref h_o_tape, .int o_tapeSize, .int o_thrown, .ref h_o_words, .int o_fault, .int o_faultPlace, .int o_stop, .int o_next, .int o_kind, .int o_which, .int o_at, .ref h_o_told, .ref h_o_isTold, .ref h_o_toldWave, .ref h_o_isPoint, .int o_pointsRead, .ref h_o_all, .int o_bank, .int o_isImage, .int o_undos, .int o_runRadix, .int o_runOrder, .int o_runNear, .int o_runLimit, .int o_runHalves, .ref h_o_quarter, .int o_power, .ref h_o_roots, .ref h_o_laidRe, .ref h_o_laidIm, .ref h_o_byOrder, .int o_notedMany, .int o_knownTold, .ref h_o_noted1, .ref h_o_counts, .ref h_o_binBy, .long o_drawn])), (h_o_all, .inl (cI, 3128, .inl o_all))]
def fX10_canUndo_41 (o_undos : Int32) (o_all : Nat → Int32) : Option (Int32 × (Nat → Int32)) :=
  bd1 (fX10_copyBank o_all (0 : Int32) ((3 : Int32) + o_undos)) (fun o_all_6 =>
  nm (o_undos + (1 : Int32)) (fun u_8 =>
  some (u_8, o_all_6)))
def fX10_canUndo_35 (o_undos : Int32) (o_all : Nat → Int32) : Option (Int32 × (Nat → Int32)) :=
  fX10_canUndo_41 (19 : Int32) o_all
def fX10_canUndo_11 : Nat → Int32 → (Nat → Int32) → Int32 → Option (Int32 × (Nat → Int32))
  | 0, _, _, _ => none
  | n + 1, o_undos, o_all, v1 =>
    if (20 : Int32) ≤ v1 then (
      fX10_canUndo_35 o_undos o_all
    ) else (
      bd1 (fX10_copyBank o_all ((3 : Int32) + v1) (((3 : Int32) + v1) - (1 : Int32))) (fun o_all_3 =>
      nm (v1 + (1 : Int32)) (fun v1_5 =>
      fX10_canUndo_11 n o_undos o_all_3 v1_5))
    )
def fX10_canUndo (o_undos : Int32) (o_all : Nat → Int32) : Option (Int32 × (Nat → Int32)) :=
  if o_undos = (20 : Int32) then (
    fX10_canUndo_11 FU o_undos o_all (1 : Int32)
  ) else (
    fX10_canUndo_41 o_undos o_all
  )
set_option maxHeartbeats 4000000 in
set_option maxRecDepth 100000 in
theorem tX10_canUndo (l : Launch) (G : va_G) (cI cJ cZ : ClassId) (sz : Nat) (h_o h_o_all h_o_tape h_o_words h_o_told h_o_isTold h_o_toldWave h_o_isPoint h_o_quarter h_o_roots h_o_laidRe h_o_laidIm h_o_byOrder h_o_noted1 h_o_counts h_o_binBy : Nat) (o_tapeSize : Int32) (o_thrown : Int32) (o_fault : Int32) (o_faultPlace : Int32) (o_stop : Int32) (o_next : Int32) (o_kind : Int32) (o_which : Int32) (o_at : Int32) (o_pointsRead : Int32) (o_bank : Int32) (o_isImage : Int32) (o_undos : Int32) (o_runRadix : Int32) (o_runOrder : Int32) (o_runNear : Int32) (o_runLimit : Int32) (o_runHalves : Int32) (o_power : Int32) (o_notedMany : Int32) (o_knownTold : Int32) (o_drawn : Int64) (o_all : Nat → Int32) (out_o_undos : Int32) (out_o_all : Nat → Int32) (hf : fX10_canUndo o_undos o_all = some (out_o_undos, out_o_all)) : Met l yX10_canUndo (Cond.code yX10_canUndo cX10_canUndo 2 none :: BIG) ({ frames := 1, cells := 0, slots := 0, locals := 23 } : Room) (cP G (TY3 cI cJ cZ) [.ref h_o] sz (wX10_canUndo cI cJ cZ h_o h_o_all h_o_tape h_o_words h_o_told h_o_isTold h_o_toldWave h_o_isPoint h_o_quarter h_o_roots h_o_laidRe h_o_laidIm h_o_byOrder h_o_noted1 h_o_counts h_o_binBy o_tapeSize o_thrown o_fault o_faultPlace o_stop o_next o_kind o_which o_at o_pointsRead o_bank o_isImage o_undos o_runRadix o_runOrder o_runNear o_runLimit o_runHalves o_power o_notedMany o_knownTold o_drawn o_all)) (cQ G (TY3 cI cJ cZ) sz (wX10_canUndo cI cJ cZ h_o h_o_all h_o_tape h_o_words h_o_told h_o_isTold h_o_toldWave h_o_isPoint h_o_quarter h_o_roots h_o_laidRe h_o_laidIm h_o_byOrder h_o_noted1 h_o_counts h_o_binBy o_tapeSize o_thrown o_fault o_faultPlace o_stop o_next o_kind o_which o_at o_pointsRead o_bank o_isImage o_undos o_runRadix o_runOrder o_runNear o_runLimit o_runHalves o_power o_notedMany o_knownTold o_drawn o_all) (wX10_canUndo cI cJ cZ h_o h_o_all h_o_tape h_o_words h_o_told h_o_isTold h_o_toldWave h_o_isPoint h_o_quarter h_o_roots h_o_laidRe h_o_laidIm h_o_byOrder h_o_noted1 h_o_counts h_o_binBy o_tapeSize o_thrown o_fault o_faultPlace o_stop o_next o_kind o_which o_at o_pointsRead o_bank o_isImage out_o_undos o_runRadix o_runOrder o_runNear o_runLimit o_runHalves o_power o_notedMany o_knownTold o_drawn out_o_all) none) 0 0 (va_A (wX10_canUndo cI cJ cZ h_o h_o_all h_o_tape h_o_words h_o_told h_o_isTold h_o_toldWave h_o_isPoint h_o_quarter h_o_roots h_o_laidRe h_o_laidIm h_o_byOrder h_o_noted1 h_o_counts h_o_binBy o_tapeSize o_thrown o_fault o_faultPlace o_stop o_next o_kind o_which o_at o_pointsRead o_bank o_isImage o_undos o_runRadix o_runOrder o_runNear o_runLimit o_runHalves o_power o_notedMany o_knownTold o_drawn o_all) sz) := by
  refine met_v (cc := cX10_canUndo) (maxL := 2) (plainFor_of_name (by decide)) (Nat.le_of_ble_eq_true rfl) (fun p e s m below meth c A ls Q hx hb hml hts hown hK hP hD hS hA hl hret => ?_)
  have hown : s.vm.findClass RX10 = some m.cls := hown
  have hl : lv_has ls 2 [(0, .ref h_o)] := hl
  have j41 : ∀ (o_undos : Int32) (o_all : Nat → Int32) (H : Heap) (locs : List Loc) (ls : Array Slot), fX10_canUndo_41 o_undos o_all = some (out_o_undos, out_o_all) → va_P G vwCl (wX10_canUndo cI cJ cZ h_o h_o_all h_o_tape h_o_words h_o_told h_o_isTold h_o_toldWave h_o_isPoint h_o_quarter h_o_roots h_o_laidRe h_o_laidIm h_o_byOrder h_o_noted1 h_o_counts h_o_binBy o_tapeSize o_thrown o_fault o_faultPlace o_stop o_next o_kind o_which o_at o_pointsRead o_bank o_isImage o_undos o_runRadix o_runOrder o_runNear o_runLimit o_runHalves o_power o_notedMany o_knownTold o_drawn o_all) H → va_D A (wX10_canUndo cI cJ cZ h_o h_o_all h_o_tape h_o_words h_o_told h_o_isTold h_o_toldWave h_o_isPoint h_o_quarter h_o_roots h_o_laidRe h_o_laidIm h_o_byOrder h_o_noted1 h_o_counts h_o_binBy o_tapeSize o_thrown o_fault o_faultPlace o_stop o_next o_kind o_which o_at o_pointsRead o_bank o_isImage o_undos o_runRadix o_runOrder o_runNear o_runLimit o_runHalves o_power o_notedMany o_knownTold o_drawn o_all) → va_S A s.heap H locs → lv_has ls 2 [(0, .ref h_o)] → W p l e ({ frames := 1, cells := 0, slots := 0, locals := 23 } : Room) s m ([.ref h_o] : List Value).toArray below meth c H locs 0 0 Q (F0 m 41 ls []) := by
    intro o_undos o_all H locs ls hf hP hD hS hl
    unfold fX10_canUndo_41 at hf
    refine lv_aload_n hx hb dX10_canUndo_41 rfl (lv_at hl 0 rfl) ?_
    refine lv_iconst (v := (0 : Int32)) hx hb dX10_canUndo_42 (by decide) ?_
    refine lv_iconst (v := (3 : Int32)) hx hb dX10_canUndo_43 (by decide) ?_
    refine lv_aload_n hx hb dX10_canUndo_44 rfl (lv_at hl 0 rfl) ?_
    refine rd (ci := 10) (C := RX10) (T := TX10) (N := 37) hx hb hts inX10 hown hK hP 0 19 rfl rfl (by decide) (hts _ q_fX10_129) rfl dX10_canUndo_45 ?_
    refine lv_iadd hx hb dX10_canUndo_48 ?_
    obtain ⟨o_all_6, e_7, hf⟩ := bd1_x hf
    refine call_v [.int (0 : Int32), .int ((3 : Int32) + o_undos)] [] ⟨hx, hb, hml, hown, hts⟩ hK hP hD hS hA hl.1 (tX10_copyBank l G cI cJ cZ H.size h_o h_o_all h_o_tape h_o_words h_o_told h_o_isTold h_o_toldWave h_o_isPoint h_o_quarter h_o_roots h_o_laidRe h_o_laidIm h_o_byOrder h_o_noted1 h_o_counts h_o_binBy o_tapeSize o_thrown o_fault o_faultPlace o_stop o_next o_kind o_which o_at o_pointsRead o_bank o_isImage o_undos o_runRadix o_runOrder o_runNear o_runLimit o_runHalves o_power o_notedMany o_knownTold o_drawn o_all (0 : Int32) ((3 : Int32) + o_undos) o_all_6 e_7) (cwV 2 hts (gv q_mX10_181 q_i_yX10_copyBank q_s_yX10_copyBank q_n_RX10 q_k_yX10_copyBank) rfl rfl rfl (by decide +kernel) ⟨by decide, by decide⟩) rfl rfl (Nat.le_of_ble_eq_true rfl) dX10_canUndo_49 ⟨Nat.zero_le _, Nat.zero_le _⟩ (ci := 10) rfl 0 rfl [0, 1] [] [0, 1] rfl rfl (ws2 := (wX10_canUndo cI cJ cZ h_o h_o_all h_o_tape h_o_words h_o_told h_o_isTold h_o_toldWave h_o_isPoint h_o_quarter h_o_roots h_o_laidRe h_o_laidIm h_o_byOrder h_o_noted1 h_o_counts h_o_binBy o_tapeSize o_thrown o_fault o_faultPlace o_stop o_next o_kind o_which o_at o_pointsRead o_bank o_isImage o_undos o_runRadix o_runOrder o_runNear o_runLimit o_runHalves o_power o_notedMany o_knownTold o_drawn o_all_6)) rfl (fun H locs hP hD hS => ?_)
    refine W.eq (g2 := F0 m 52 ls []) rfl ?_
    refine lv_aload_n hx hb dX10_canUndo_52 rfl (lv_at hl 0 rfl) ?_
    refine lv_dup hx hb dX10_canUndo_53 rfl ?_
    refine rd (ci := 10) (C := RX10) (T := TX10) (N := 37) hx hb hts inX10 hown hK hP 0 19 rfl rfl (by decide) (hts _ q_fX10_129) rfl dX10_canUndo_54 ?_
    refine lv_iconst (v := (1 : Int32)) hx hb dX10_canUndo_57 (by decide) ?_
    refine lv_iadd hx hb dX10_canUndo_58 ?_
    refine lv_topi (fun u_8 eu_8 => ?_)
    have hf := nm_x eu_8 hf
    refine wr (ci := 10) (C := RX10) (T := TX10) (N := 37) hx hb hts inX10 tyX10 tyX10_ok nmX10 hown hK hP hD hS 0 19 rfl rfl (by decide) (hts _ q_fX10_129) rfl rfl rfl (Nat.le_of_ble_eq_true rfl) dX10_canUndo_59 (ws2 := (wX10_canUndo cI cJ cZ h_o h_o_all h_o_tape h_o_words h_o_told h_o_isTold h_o_toldWave h_o_isPoint h_o_quarter h_o_roots h_o_laidRe h_o_laidIm h_o_byOrder h_o_noted1 h_o_counts h_o_binBy o_tapeSize o_thrown o_fault o_faultPlace o_stop o_next o_kind o_which o_at o_pointsRead o_bank o_isImage u_8 o_runRadix o_runOrder o_runNear o_runLimit o_runHalves o_power o_notedMany o_knownTold o_drawn o_all_6)) rfl (fun H locs hP hD hS => ?_)
    cases hf
    exact hret _ _ _ _ dX10_canUndo_62 hP hD hS
  have j35 : ∀ (o_undos : Int32) (o_all : Nat → Int32) (H : Heap) (locs : List Loc) (ls : Array Slot), fX10_canUndo_35 o_undos o_all = some (out_o_undos, out_o_all) → va_P G vwCl (wX10_canUndo cI cJ cZ h_o h_o_all h_o_tape h_o_words h_o_told h_o_isTold h_o_toldWave h_o_isPoint h_o_quarter h_o_roots h_o_laidRe h_o_laidIm h_o_byOrder h_o_noted1 h_o_counts h_o_binBy o_tapeSize o_thrown o_fault o_faultPlace o_stop o_next o_kind o_which o_at o_pointsRead o_bank o_isImage o_undos o_runRadix o_runOrder o_runNear o_runLimit o_runHalves o_power o_notedMany o_knownTold o_drawn o_all) H → va_D A (wX10_canUndo cI cJ cZ h_o h_o_all h_o_tape h_o_words h_o_told h_o_isTold h_o_toldWave h_o_isPoint h_o_quarter h_o_roots h_o_laidRe h_o_laidIm h_o_byOrder h_o_noted1 h_o_counts h_o_binBy o_tapeSize o_thrown o_fault o_faultPlace o_stop o_next o_kind o_which o_at o_pointsRead o_bank o_isImage o_undos o_runRadix o_runOrder o_runNear o_runLimit o_runHalves o_power o_notedMany o_knownTold o_drawn o_all) → va_S A s.heap H locs → lv_has ls 2 [(0, .ref h_o)] → W p l e ({ frames := 1, cells := 0, slots := 0, locals := 23 } : Room) s m ([.ref h_o] : List Value).toArray below meth c H locs 0 0 Q (F0 m 35 ls []) := by
    intro o_undos o_all H locs ls hf hP hD hS hl
    unfold fX10_canUndo_35 at hf
    refine lv_aload_n hx hb dX10_canUndo_35 rfl (lv_at hl 0 rfl) ?_
    refine lv_bipush (v := (19 : Int32)) hx hb dX10_canUndo_36 (by decide) ?_
    refine wr (ci := 10) (C := RX10) (T := TX10) (N := 37) hx hb hts inX10 tyX10 tyX10_ok nmX10 hown hK hP hD hS 0 19 rfl rfl (by decide) (hts _ q_fX10_129) rfl rfl rfl (Nat.le_of_ble_eq_true rfl) dX10_canUndo_38 (ws2 := (wX10_canUndo cI cJ cZ h_o h_o_all h_o_tape h_o_words h_o_told h_o_isTold h_o_toldWave h_o_isPoint h_o_quarter h_o_roots h_o_laidRe h_o_laidIm h_o_byOrder h_o_noted1 h_o_counts h_o_binBy o_tapeSize o_thrown o_fault o_faultPlace o_stop o_next o_kind o_which o_at o_pointsRead o_bank o_isImage (19 : Int32) o_runRadix o_runOrder o_runNear o_runLimit o_runHalves o_power o_notedMany o_knownTold o_drawn o_all)) rfl (fun H locs hP hD hS => ?_)
    exact j41 (19 : Int32) o_all H locs ls hf hP hD hS (lv_sub hl [0] rfl)
  have j11 : ∀ (n : Nat) (o_undos : Int32) (o_all : Nat → Int32) (v1 : Int32) (H : Heap) (locs : List Loc) (ls : Array Slot), fX10_canUndo_11 n o_undos o_all v1 = some (out_o_undos, out_o_all) → va_P G vwCl (wX10_canUndo cI cJ cZ h_o h_o_all h_o_tape h_o_words h_o_told h_o_isTold h_o_toldWave h_o_isPoint h_o_quarter h_o_roots h_o_laidRe h_o_laidIm h_o_byOrder h_o_noted1 h_o_counts h_o_binBy o_tapeSize o_thrown o_fault o_faultPlace o_stop o_next o_kind o_which o_at o_pointsRead o_bank o_isImage o_undos o_runRadix o_runOrder o_runNear o_runLimit o_runHalves o_power o_notedMany o_knownTold o_drawn o_all) H → va_D A (wX10_canUndo cI cJ cZ h_o h_o_all h_o_tape h_o_words h_o_told h_o_isTold h_o_toldWave h_o_isPoint h_o_quarter h_o_roots h_o_laidRe h_o_laidIm h_o_byOrder h_o_noted1 h_o_counts h_o_binBy o_tapeSize o_thrown o_fault o_faultPlace o_stop o_next o_kind o_which o_at o_pointsRead o_bank o_isImage o_undos o_runRadix o_runOrder o_runNear o_runLimit o_runHalves o_power o_notedMany o_knownTold o_drawn o_all) → va_S A s.heap H locs → lv_has ls 2 [(0, .ref h_o), (1, .int v1)] → W p l e ({ frames := 1, cells := 0, slots := 0, locals := 23 } : Room) s m ([.ref h_o] : List Value).toArray below meth c H locs 0 0 Q (F0 m 11 ls []) := by
    intro n
    induction n with
    | zero =>
      intro o_undos o_all v1 H locs ls hf
      have hf : (none : Option (Int32 × (Nat → Int32))) = some (out_o_undos, out_o_all) := hf
      cases hf
    | succ n ih =>
      intro o_undos o_all v1 H locs ls hf hP hD hS hl
      rw [fX10_canUndo_11.eq_2] at hf
      refine lv_iload_n hx hb dX10_canUndo_11 rfl (lv_at hl 1 rfl) ?_
      refine lv_bipush (v := (20 : Int32)) hx hb dX10_canUndo_12 (by decide) ?_
      refine lv_icmp_ge (tgt := 35) hx hb dX10_canUndo_14 (by decide) (fun c_2 => ?_) (fun c_2 => ?_)
      · have hf := it_t c_2 hf
        exact j35 o_undos o_all H locs ls hf hP hD hS (lv_sub hl [0] rfl)
      · have hf := it_f c_2 hf
        refine lv_aload_n hx hb dX10_canUndo_17 rfl (lv_at hl 0 rfl) ?_
        refine lv_iconst (v := (3 : Int32)) hx hb dX10_canUndo_18 (by decide) ?_
        refine lv_iload_n hx hb dX10_canUndo_19 rfl (lv_at hl 1 rfl) ?_
        refine lv_iadd hx hb dX10_canUndo_20 ?_
        refine lv_iconst (v := (3 : Int32)) hx hb dX10_canUndo_21 (by decide) ?_
        refine lv_iload_n hx hb dX10_canUndo_22 rfl (lv_at hl 1 rfl) ?_
        refine lv_iadd hx hb dX10_canUndo_23 ?_
        refine lv_iconst (v := (1 : Int32)) hx hb dX10_canUndo_24 (by decide) ?_
        refine lv_isub hx hb dX10_canUndo_25 ?_
        obtain ⟨o_all_3, e_4, hf⟩ := bd1_x hf
        refine call_v [.int ((3 : Int32) + v1), .int (((3 : Int32) + v1) - (1 : Int32))] [] ⟨hx, hb, hml, hown, hts⟩ hK hP hD hS hA hl.1 (tX10_copyBank l G cI cJ cZ H.size h_o h_o_all h_o_tape h_o_words h_o_told h_o_isTold h_o_toldWave h_o_isPoint h_o_quarter h_o_roots h_o_laidRe h_o_laidIm h_o_byOrder h_o_noted1 h_o_counts h_o_binBy o_tapeSize o_thrown o_fault o_faultPlace o_stop o_next o_kind o_which o_at o_pointsRead o_bank o_isImage o_undos o_runRadix o_runOrder o_runNear o_runLimit o_runHalves o_power o_notedMany o_knownTold o_drawn o_all ((3 : Int32) + v1) (((3 : Int32) + v1) - (1 : Int32)) o_all_3 e_4) (cwV 2 hts (gv q_mX10_181 q_i_yX10_copyBank q_s_yX10_copyBank q_n_RX10 q_k_yX10_copyBank) rfl rfl rfl (by decide +kernel) ⟨by decide, by decide⟩) rfl rfl (Nat.le_of_ble_eq_true rfl) dX10_canUndo_26 ⟨Nat.zero_le _, Nat.zero_le _⟩ (ci := 10) rfl 0 rfl [0, 1] [] [0, 1] rfl rfl (ws2 := (wX10_canUndo cI cJ cZ h_o h_o_all h_o_tape h_o_words h_o_told h_o_isTold h_o_toldWave h_o_isPoint h_o_quarter h_o_roots h_o_laidRe h_o_laidIm h_o_byOrder h_o_noted1 h_o_counts h_o_binBy o_tapeSize o_thrown o_fault o_faultPlace o_stop o_next o_kind o_which o_at o_pointsRead o_bank o_isImage o_undos o_runRadix o_runOrder o_runNear o_runLimit o_runHalves o_power o_notedMany o_knownTold o_drawn o_all_3)) rfl (fun H locs hP hD hS => ?_)
        refine W.eq (g2 := F0 m 29 ls []) rfl ?_
        obtain ⟨v1_5, ev1_5⟩ : ∃ y : Int32, y = v1 + (1 : Int32) := ⟨_, rfl⟩
        have hf := nm_x ev1_5 hf
        refine lv_iinc (v := v1_5) (lv' := [(1, .int v1_5), (0, .ref h_o)]) hx hb dX10_canUndo_29 hl (k := 1) rfl (by rw [ev1_5]; rfl) (by decide) rfl (fun ls hl => ?_)
        refine lv_goto (tgt := 11) hx hb dX10_canUndo_32 (by decide) ?_
        exact ih o_undos o_all_3 v1_5 H locs ls hf hP hD hS (lv_sub hl [1, 0] rfl)
  unfold fX10_canUndo at hf
  obtain ⟨H, eH⟩ : ∃ H, H = s.heap := ⟨_, rfl⟩
  obtain ⟨locs, elocs⟩ : ∃ z : List Loc, z = [] := ⟨_, rfl⟩
  have hP : va_P G vwCl (wX10_canUndo cI cJ cZ h_o h_o_all h_o_tape h_o_words h_o_told h_o_isTold h_o_toldWave h_o_isPoint h_o_quarter h_o_roots h_o_laidRe h_o_laidIm h_o_byOrder h_o_noted1 h_o_counts h_o_binBy o_tapeSize o_thrown o_fault o_faultPlace o_stop o_next o_kind o_which o_at o_pointsRead o_bank o_isImage o_undos o_runRadix o_runOrder o_runNear o_runLimit o_runHalves o_power o_notedMany o_knownTold o_drawn o_all) H := by rw [eH]; exact hP
  have hS : va_S A s.heap H locs := by rw [eH, elocs]; exact hS
  suffices hgo : W p l e ({ frames := 1, cells := 0, slots := 0, locals := 23 } : Room) s m ([.ref h_o] : List Value).toArray below meth c H locs 0 0 Q (F0 m 0 ls []) by rw [eH, elocs] at hgo; exact hgo
  clear eH elocs
  refine lv_aload_n hx hb dX10_canUndo_0 rfl (lv_at hl 0 rfl) ?_
  refine rd (ci := 10) (C := RX10) (T := TX10) (N := 37) hx hb hts inX10 hown hK hP 0 19 rfl rfl (by decide) (hts _ q_fX10_129) rfl dX10_canUndo_1 ?_
  refine lv_bipush (v := (20 : Int32)) hx hb dX10_canUndo_4 (by decide) ?_
  refine lv_icmp_ne (tgt := 41) hx hb dX10_canUndo_6 (by decide) (fun c_1 => ?_) (fun c_1 => ?_)
  · have hf := it_f c_1 hf
    exact j41 o_undos o_all H locs ls hf hP hD hS (lv_sub hl [0] rfl)
  · have hf := it_t c_1 hf
    refine lv_iconst (v := (1 : Int32)) hx hb dX10_canUndo_9 (by decide) ?_
    refine lv_istore_n (lv' := [(1, .int (1 : Int32)), (0, .ref h_o)]) hx hb dX10_canUndo_10 rfl hl (by decide) rfl (fun ls hl => ?_)
    exact j11 FU o_undos o_all (1 : Int32) H locs ls hf hP hD hS (lv_sub hl [1, 0] rfl)
def wX10_cos (cI cJ cZ : ClassId) (h_o h_o_quarter h_o_tape h_o_words h_o_told h_o_isTold h_o_toldWave h_o_isPoint h_o_all h_o_roots h_o_laidRe h_o_laidIm h_o_byOrder h_o_noted1 h_o_counts h_o_binBy : Nat) (o_tapeSize : Int32) (o_thrown : Int32) (o_fault : Int32) (o_faultPlace : Int32) (o_stop : Int32) (o_next : Int32) (o_kind : Int32) (o_which : Int32) (o_at : Int32) (o_pointsRead : Int32) (o_bank : Int32) (o_isImage : Int32) (o_undos : Int32) (o_runRadix : Int32) (o_runOrder : Int32) (o_runNear : Int32) (o_runLimit : Int32) (o_runHalves : Int32) (o_power : Int32) (o_notedMany : Int32) (o_knownTold : Int32) (o_drawn : Int64) (o_quarter : Nat → Int32) : va_W := [(h_o, .inr (10, [.ref h_o_tape, .int o_tapeSize, .int o_thrown, .ref h_o_words, .int o_fault, .int o_faultPlace, .int o_stop, .int o_next, .int o_kind, .int o_which, .int o_at, .ref h_o_told, .ref h_o_isTold, .ref h_o_toldWave, .ref h_o_isPoint, .int o_pointsRead, .ref h_o_all, .int o_bank, .int o_isImage, .int o_undos, .int o_runRadix, .int o_runOrder, .int o_runNear, .int o_runLimit, .int o_runHalves, .ref h_o_quarter, .int o_power, .ref h_o_roots, .ref h_o_laidRe, .ref h_o_laidIm, .ref h_o_byOrder, .int o_notedMany, .int o_knownTold, .ref h_o_noted1, .ref h_o_counts, .ref h_o_binBy, .long o_drawn])), (h_o_quarter, .inl (cI, 9, .inl o_quarter))]
def fX10_cos_14 (o_quarter : Nat → Int32) (s0 : Int32) : Option (Int32) :=
  if (8 : Int32) < s0 then (
    nm ((16 : Int32) - s0) (fun i_3 =>
    gd (inb i_3 9) (
    some (-(o_quarter (Int32.toNatClampNeg i_3)))))
  ) else (
    gd (inb s0 9) (
    some (o_quarter (Int32.toNatClampNeg s0)))
  )
def fX10_cos (o_quarter : Nat → Int32) (p1 : Int32) : Option (Int32) :=
  if p1 ≤ (16 : Int32) then (
    fX10_cos_14 o_quarter p1
  ) else (
    fX10_cos_14 o_quarter ((32 : Int32) - p1)
  )
set_option maxHeartbeats 4000000 in
set_option maxRecDepth 100000 in
theorem tX10_cos (l : Launch) (G : va_G) (cI cJ cZ : ClassId) (sz : Nat) (h_o h_o_quarter h_o_tape h_o_words h_o_told h_o_isTold h_o_toldWave h_o_isPoint h_o_all h_o_roots h_o_laidRe h_o_laidIm h_o_byOrder h_o_noted1 h_o_counts h_o_binBy : Nat) (o_tapeSize : Int32) (o_thrown : Int32) (o_fault : Int32) (o_faultPlace : Int32) (o_stop : Int32) (o_next : Int32) (o_kind : Int32) (o_which : Int32) (o_at : Int32) (o_pointsRead : Int32) (o_bank : Int32) (o_isImage : Int32) (o_undos : Int32) (o_runRadix : Int32) (o_runOrder : Int32) (o_runNear : Int32) (o_runLimit : Int32) (o_runHalves : Int32) (o_power : Int32) (o_notedMany : Int32) (o_knownTold : Int32) (o_drawn : Int64) (o_quarter : Nat → Int32) (p1 : Int32) (r : Int32) (hf : fX10_cos o_quarter p1 = some r) : Met l yX10_cos (Cond.code yX10_cos cX10_cos 3 (some .int) :: BIG) ({ frames := 0, cells := 0, slots := 0, locals := 0 } : Room) (cP G (TY3 cI cJ cZ) [.ref h_o, .int p1] sz (wX10_cos cI cJ cZ h_o h_o_quarter h_o_tape h_o_words h_o_told h_o_isTold h_o_toldWave h_o_isPoint h_o_all h_o_roots h_o_laidRe h_o_laidIm h_o_byOrder h_o_noted1 h_o_counts h_o_binBy o_tapeSize o_thrown o_fault o_faultPlace o_stop o_next o_kind o_which o_at o_pointsRead o_bank o_isImage o_undos o_runRadix o_runOrder o_runNear o_runLimit o_runHalves o_power o_notedMany o_knownTold o_drawn o_quarter)) (cQ G (TY3 cI cJ cZ) sz (wX10_cos cI cJ cZ h_o h_o_quarter h_o_tape h_o_words h_o_told h_o_isTold h_o_toldWave h_o_isPoint h_o_all h_o_roots h_o_laidRe h_o_laidIm h_o_byOrder h_o_noted1 h_o_counts h_o_binBy o_tapeSize o_thrown o_fault o_faultPlace o_stop o_next o_kind o_which o_at o_pointsRead o_bank o_isImage o_undos o_runRadix o_runOrder o_runNear o_runLimit o_runHalves o_power o_notedMany o_knownTold o_drawn o_quarter) (wX10_cos cI cJ cZ h_o h_o_quarter h_o_tape h_o_words h_o_told h_o_isTold h_o_toldWave h_o_isPoint h_o_all h_o_roots h_o_laidRe h_o_laidIm h_o_byOrder h_o_noted1 h_o_counts h_o_binBy o_tapeSize o_thrown o_fault o_faultPlace o_stop o_next o_kind o_which o_at o_pointsRead o_bank o_isImage o_undos o_runRadix o_runOrder o_runNear o_runLimit o_runHalves o_power o_notedMany o_knownTold o_drawn o_quarter) (some (.int r))) 0 0 (va_A (wX10_cos cI cJ cZ h_o h_o_quarter h_o_tape h_o_words h_o_told h_o_isTold h_o_toldWave h_o_isPoint h_o_all h_o_roots h_o_laidRe h_o_laidIm h_o_byOrder h_o_noted1 h_o_counts h_o_binBy o_tapeSize o_thrown o_fault o_faultPlace o_stop o_next o_kind o_which o_at o_pointsRead o_bank o_isImage o_undos o_runRadix o_runOrder o_runNear o_runLimit o_runHalves o_power o_notedMany o_knownTold o_drawn o_quarter) sz) := by
  refine met_i (cc := cX10_cos) (maxL := 3) (plainFor_of_name (by decide)) (Nat.le_of_ble_eq_true rfl) (fun p e s m below meth c A ls Q hx hb hml hts hown hK hP hD hS hA hl hret => ?_)
  have hown : s.vm.findClass RX10 = some m.cls := hown
  have hl : lv_has ls 3 [(0, .ref h_o), (1, .int p1)] := hl
  have j14 : ∀ (s0 : Int32) (H : Heap) (locs : List Loc) (ls : Array Slot), fX10_cos_14 o_quarter s0 = some r → va_P G vwCl (wX10_cos cI cJ cZ h_o h_o_quarter h_o_tape h_o_words h_o_told h_o_isTold h_o_toldWave h_o_isPoint h_o_all h_o_roots h_o_laidRe h_o_laidIm h_o_byOrder h_o_noted1 h_o_counts h_o_binBy o_tapeSize o_thrown o_fault o_faultPlace o_stop o_next o_kind o_which o_at o_pointsRead o_bank o_isImage o_undos o_runRadix o_runOrder o_runNear o_runLimit o_runHalves o_power o_notedMany o_knownTold o_drawn o_quarter) H → va_D A (wX10_cos cI cJ cZ h_o h_o_quarter h_o_tape h_o_words h_o_told h_o_isTold h_o_toldWave h_o_isPoint h_o_all h_o_roots h_o_laidRe h_o_laidIm h_o_byOrder h_o_noted1 h_o_counts h_o_binBy o_tapeSize o_thrown o_fault o_faultPlace o_stop o_next o_kind o_which o_at o_pointsRead o_bank o_isImage o_undos o_runRadix o_runOrder o_runNear o_runLimit o_runHalves o_power o_notedMany o_knownTold o_drawn o_quarter) → va_S A s.heap H locs → lv_has ls 3 [(0, .ref h_o)] → W p l e ({ frames := 0, cells := 0, slots := 0, locals := 0 } : Room) s m ([.ref h_o, .int p1] : List Value).toArray below meth c H locs 0 0 Q (F0 m 14 ls [.int s0]) := by
    intro s0 H locs ls hf hP hD hS hl
    unfold fX10_cos_14 at hf
    refine lv_istore_n (lv' := [(2, .int s0), (0, .ref h_o)]) hx hb dX10_cos_14 rfl hl (by decide) rfl (fun ls hl => ?_)
    refine lv_iload_n hx hb dX10_cos_15 rfl (lv_at hl 0 rfl) ?_
    refine lv_bipush (v := (8 : Int32)) hx hb dX10_cos_16 (by decide) ?_
    refine lv_icmp_gt (tgt := 30) hx hb dX10_cos_18 (by decide) (fun c_2 => ?_) (fun c_2 => ?_)
    · have hf := it_t c_2 hf
      refine lv_aload_n hx hb dX10_cos_30 rfl (lv_at hl 1 rfl) ?_
      refine rd (ci := 10) (C := RX10) (T := TX10) (N := 37) hx hb hts inX10 hown hK hP 0 25 rfl rfl (by decide) (hts _ q_fX10_36) rfl dX10_cos_31 ?_
      refine lv_bipush (v := (16 : Int32)) hx hb dX10_cos_34 (by decide) ?_
      refine lv_iload_n hx hb dX10_cos_36 rfl (lv_at hl 0 rfl) ?_
      refine lv_isub hx hb dX10_cos_37 ?_
      refine lv_topi (fun i_3 ei_3 => ?_)
      have hf := nm_x ei_3 hf
      obtain ⟨g_4, hf⟩ := gd_x hf
      refine va_iald hx hb hK hP 1 0 rfl rfl (inb_x g_4) dX10_cos_38 ?_
      refine lv_ineg hx hb dX10_cos_39 ?_
      cases hf
      exact hret _ _ _ _ dX10_cos_40 hP hD hS
    · have hf := it_f c_2 hf
      refine lv_aload_n hx hb dX10_cos_21 rfl (lv_at hl 1 rfl) ?_
      refine rd (ci := 10) (C := RX10) (T := TX10) (N := 37) hx hb hts inX10 hown hK hP 0 25 rfl rfl (by decide) (hts _ q_fX10_36) rfl dX10_cos_22 ?_
      refine lv_iload_n hx hb dX10_cos_25 rfl (lv_at hl 0 rfl) ?_
      obtain ⟨g_5, hf⟩ := gd_x hf
      refine va_iald hx hb hK hP 1 0 rfl rfl (inb_x g_5) dX10_cos_26 ?_
      refine lv_goto (tgt := 40) hx hb dX10_cos_27 (by decide) ?_
      cases hf
      exact hret _ _ _ _ dX10_cos_40 hP hD hS
  unfold fX10_cos at hf
  obtain ⟨H, eH⟩ : ∃ H, H = s.heap := ⟨_, rfl⟩
  obtain ⟨locs, elocs⟩ : ∃ z : List Loc, z = [] := ⟨_, rfl⟩
  have hP : va_P G vwCl (wX10_cos cI cJ cZ h_o h_o_quarter h_o_tape h_o_words h_o_told h_o_isTold h_o_toldWave h_o_isPoint h_o_all h_o_roots h_o_laidRe h_o_laidIm h_o_byOrder h_o_noted1 h_o_counts h_o_binBy o_tapeSize o_thrown o_fault o_faultPlace o_stop o_next o_kind o_which o_at o_pointsRead o_bank o_isImage o_undos o_runRadix o_runOrder o_runNear o_runLimit o_runHalves o_power o_notedMany o_knownTold o_drawn o_quarter) H := by rw [eH]; exact hP
  have hS : va_S A s.heap H locs := by rw [eH, elocs]; exact hS
  suffices hgo : W p l e ({ frames := 0, cells := 0, slots := 0, locals := 0 } : Room) s m ([.ref h_o, .int p1] : List Value).toArray below meth c H locs 0 0 Q (F0 m 0 ls []) by rw [eH, elocs] at hgo; exact hgo
  clear eH elocs
  refine lv_iload_n hx hb dX10_cos_0 rfl (lv_at hl 1 rfl) ?_
  refine lv_bipush (v := (16 : Int32)) hx hb dX10_cos_1 (by decide) ?_
  refine lv_icmp_le (tgt := 13) hx hb dX10_cos_3 (by decide) (fun c_1 => ?_) (fun c_1 => ?_)
  · have hf := it_t c_1 hf
    refine lv_iload_n hx hb dX10_cos_13 rfl (lv_at hl 1 rfl) ?_
    exact j14 p1 H locs ls hf hP hD hS (lv_sub hl [0] rfl)
  · have hf := it_f c_1 hf
    refine lv_bipush (v := (32 : Int32)) hx hb dX10_cos_6 (by decide) ?_
    refine lv_iload_n hx hb dX10_cos_8 rfl (lv_at hl 1 rfl) ?_
    refine lv_isub hx hb dX10_cos_9 ?_
    refine lv_goto (tgt := 14) hx hb dX10_cos_10 (by decide) ?_
    exact j14 ((32 : Int32) - p1) H locs ls hf hP hD hS (lv_sub hl [0] rfl)
def wX10_powerOf (cI cJ cZ : ClassId) (h_o h_o_tape h_o_words h_o_told h_o_isTold h_o_toldWave h_o_isPoint h_o_all h_o_quarter h_o_roots h_o_laidRe h_o_laidIm h_o_byOrder h_o_noted1 h_o_counts h_o_binBy : Nat) (o_tapeSize : Int32) (o_thrown : Int32) (o_fault : Int32) (o_faultPlace : Int32) (o_stop : Int32) (o_next : Int32) (o_kind : Int32) (o_which : Int32) (o_at : Int32) (o_pointsRead : Int32) (o_bank : Int32) (o_isImage : Int32) (o_undos : Int32) (o_runRadix : Int32) (o_runOrder : Int32) (o_runNear : Int32) (o_runLimit : Int32) (o_runHalves : Int32) (o_power : Int32) (o_notedMany : Int32) (o_knownTold : Int32) (o_drawn : Int64) : va_W := [(h_o, .inr (10, [.ref h_o_tape, .int o_tapeSize, .int o_thrown, .ref h_o_words, .int o_fault, .int o_faultPlace, .int o_stop, .int o_next, .int o_kind, .int o_which, .int o_at, .ref h_o_told, .ref h_o_isTold, .ref h_o_toldWave, .ref h_o_isPoint, .int o_pointsRead, .ref h_o_all, .int o_bank, .int o_isImage, .int o_undos, .int o_runRadix, .int o_runOrder, .int o_runNear, .int o_runLimit, .int o_runHalves, .ref h_o_quarter, .int o_power, .ref h_o_roots, .ref h_o_laidRe, .ref h_o_laidIm, .ref h_o_byOrder, .int o_notedMany, .int o_knownTold, .ref h_o_noted1, .ref h_o_counts, .ref h_o_binBy, .long o_drawn]))]
def fX10_powerOf (o_power : Int32) : Option (Int32) :=
  some o_power
set_option maxHeartbeats 4000000 in
set_option maxRecDepth 100000 in
theorem tX10_powerOf (l : Launch) (G : va_G) (cI cJ cZ : ClassId) (sz : Nat) (h_o h_o_tape h_o_words h_o_told h_o_isTold h_o_toldWave h_o_isPoint h_o_all h_o_quarter h_o_roots h_o_laidRe h_o_laidIm h_o_byOrder h_o_noted1 h_o_counts h_o_binBy : Nat) (o_tapeSize : Int32) (o_thrown : Int32) (o_fault : Int32) (o_faultPlace : Int32) (o_stop : Int32) (o_next : Int32) (o_kind : Int32) (o_which : Int32) (o_at : Int32) (o_pointsRead : Int32) (o_bank : Int32) (o_isImage : Int32) (o_undos : Int32) (o_runRadix : Int32) (o_runOrder : Int32) (o_runNear : Int32) (o_runLimit : Int32) (o_runHalves : Int32) (o_power : Int32) (o_notedMany : Int32) (o_knownTold : Int32) (o_drawn : Int64) (r : Int32) (hf : fX10_powerOf o_power = some r) : Met l yX10_powerOf (Cond.code yX10_powerOf cX10_powerOf 1 (some .int) :: BIG) ({ frames := 0, cells := 0, slots := 0, locals := 0 } : Room) (cP G (TY3 cI cJ cZ) [.ref h_o] sz (wX10_powerOf cI cJ cZ h_o h_o_tape h_o_words h_o_told h_o_isTold h_o_toldWave h_o_isPoint h_o_all h_o_quarter h_o_roots h_o_laidRe h_o_laidIm h_o_byOrder h_o_noted1 h_o_counts h_o_binBy o_tapeSize o_thrown o_fault o_faultPlace o_stop o_next o_kind o_which o_at o_pointsRead o_bank o_isImage o_undos o_runRadix o_runOrder o_runNear o_runLimit o_runHalves o_power o_notedMany o_knownTold o_drawn)) (cQ G (TY3 cI cJ cZ) sz (wX10_powerOf cI cJ cZ h_o h_o_tape h_o_words h_o_told h_o_isTold h_o_toldWave h_o_isPoint h_o_all h_o_quarter h_o_roots h_o_laidRe h_o_laidIm h_o_byOrder h_o_noted1 h_o_counts h_o_binBy o_tapeSize o_thrown o_fault o_faultPlace o_stop o_next o_kind o_which o_at o_pointsRead o_bank o_isImage o_undos o_runRadix o_runOrder o_runNear o_runLimit o_runHalves o_power o_notedMany o_knownTold o_drawn) (wX10_powerOf cI cJ cZ h_o h_o_tape h_o_words h_o_told h_o_isTold h_o_toldWave h_o_isPoint h_o_all h_o_quarter h_o_roots h_o_laidRe h_o_laidIm h_o_byOrder h_o_noted1 h_o_counts h_o_binBy o_tapeSize o_thrown o_fault o_faultPlace o_stop o_next o_kind o_which o_at o_pointsRead o_bank o_isImage o_undos o_runRadix o_runOrder o_runNear o_runLimit o_runHalves o_power o_notedMany o_knownTold o_drawn) (some (.int r))) 0 0 (va_A (wX10_powerOf cI cJ cZ h_o h_o_tape h_o_words h_o_told h_o_isTold h_o_toldWave h_o_isPoint h_o_all h_o_quarter h_o_roots h_o_laidRe h_o_laidIm h_o_byOrder h_o_noted1 h_o_counts h_o_binBy o_tapeSize o_thrown o_fault o_faultPlace o_stop o_next o_kind o_which o_at o_pointsRead o_bank o_isImage o_undos o_runRadix o_runOrder o_runNear o_runLimit o_runHalves o_power o_notedMany o_knownTold o_drawn) sz) := by
  refine met_i (cc := cX10_powerOf) (maxL := 1) (plainFor_of_name (by decide)) (Nat.le_of_ble_eq_true rfl) (fun p e s m below meth c A ls Q hx hb hml hts hown hK hP hD hS hA hl hret => ?_)
  have hown : s.vm.findClass RX10 = some m.cls := hown
  have hl : lv_has ls 1 [(0, .ref h_o)] := hl
  unfold fX10_powerOf at hf
  obtain ⟨H, eH⟩ : ∃ H, H = s.heap := ⟨_, rfl⟩
  obtain ⟨locs, elocs⟩ : ∃ z : List Loc, z = [] := ⟨_, rfl⟩
  have hP : va_P G vwCl (wX10_powerOf cI cJ cZ h_o h_o_tape h_o_words h_o_told h_o_isTold h_o_toldWave h_o_isPoint h_o_all h_o_quarter h_o_roots h_o_laidRe h_o_laidIm h_o_byOrder h_o_noted1 h_o_counts h_o_binBy o_tapeSize o_thrown o_fault o_faultPlace o_stop o_next o_kind o_which o_at o_pointsRead o_bank o_isImage o_undos o_runRadix o_runOrder o_runNear o_runLimit o_runHalves o_power o_notedMany o_knownTold o_drawn) H := by rw [eH]; exact hP
  have hS : va_S A s.heap H locs := by rw [eH, elocs]; exact hS
  suffices hgo : W p l e ({ frames := 0, cells := 0, slots := 0, locals := 0 } : Room) s m ([.ref h_o] : List Value).toArray below meth c H locs 0 0 Q (F0 m 0 ls []) by rw [eH, elocs] at hgo; exact hgo
  clear eH elocs
  refine lv_aload_n hx hb dX10_powerOf_0 rfl (lv_at hl 0 rfl) ?_
  refine rd (ci := 10) (C := RX10) (T := TX10) (N := 37) hx hb hts inX10 hown hK hP 0 26 rfl rfl (by decide) (hts _ q_fX10_193) rfl dX10_powerOf_1 ?_
  cases hf
  exact hret _ _ _ _ dX10_powerOf_4 hP hD hS
def wX10_cosOf (cI cJ cZ : ClassId) (h_o h_o_quarter h_o_told h_o_tape h_o_words h_o_isTold h_o_toldWave h_o_isPoint h_o_all h_o_roots h_o_laidRe h_o_laidIm h_o_byOrder h_o_noted1 h_o_counts h_o_binBy : Nat) (o_tapeSize : Int32) (o_thrown : Int32) (o_fault : Int32) (o_faultPlace : Int32) (o_stop : Int32) (o_next : Int32) (o_kind : Int32) (o_which : Int32) (o_at : Int32) (o_pointsRead : Int32) (o_bank : Int32) (o_isImage : Int32) (o_undos : Int32) (o_runRadix : Int32) (o_runOrder : Int32) (o_runNear : Int32) (o_runLimit : Int32) (o_runHalves : Int32) (o_power : Int32) (o_notedMany : Int32) (o_knownTold : Int32) (o_drawn : Int64) (o_quarter : Nat → Int32) (o_told : Nat → Int32) : va_W := [(h_o, .inr (10, [.ref h_o_tape, .int o_tapeSize, .int o_thrown, .ref h_o_words, .int o_fault, .int o_faultPlace, .int o_stop, .int o_next, .int o_kind, .int o_which, .int o_at, .ref h_o_told, .ref h_o_isTold, .ref h_o_toldWave, .ref h_o_isPoint, .int o_pointsRead, .ref h_o_all, .int o_bank, .int o_isImage, .int o_undos, .int o_runRadix, .int o_runOrder, .int o_runNear, .int o_runLimit, .int o_runHalves, .ref h_o_quarter, .int o_power, .ref h_o_roots, .ref h_o_laidRe, .ref h_o_laidIm, .ref h_o_byOrder, .int o_notedMany, .int o_knownTold, .ref h_o_noted1, .ref h_o_counts, .ref h_o_binBy, .long o_drawn])), (h_o_quarter, .inl (cI, 9, .inl o_quarter)), (h_o_told, .inl (cI, 12, .inl o_told))]
def fX10_cosOf (o_quarter : Nat → Int32) (o_told : Nat → Int32) (p1 : Int32) : Option (Int32) :=
  bd1 (fX10_size o_told) (fun r_1 =>
  gd (nz r_1) (
  bd1 (fX10_cos o_quarter ((p1 * (32 : Int32)) / r_1)) (fun r_4 =>
  some r_4)))
set_option maxHeartbeats 4000000 in
set_option maxRecDepth 100000 in
theorem tX10_cosOf (l : Launch) (G : va_G) (cI cJ cZ : ClassId) (sz : Nat) (h_o h_o_quarter h_o_told h_o_tape h_o_words h_o_isTold h_o_toldWave h_o_isPoint h_o_all h_o_roots h_o_laidRe h_o_laidIm h_o_byOrder h_o_noted1 h_o_counts h_o_binBy : Nat) (o_tapeSize : Int32) (o_thrown : Int32) (o_fault : Int32) (o_faultPlace : Int32) (o_stop : Int32) (o_next : Int32) (o_kind : Int32) (o_which : Int32) (o_at : Int32) (o_pointsRead : Int32) (o_bank : Int32) (o_isImage : Int32) (o_undos : Int32) (o_runRadix : Int32) (o_runOrder : Int32) (o_runNear : Int32) (o_runLimit : Int32) (o_runHalves : Int32) (o_power : Int32) (o_notedMany : Int32) (o_knownTold : Int32) (o_drawn : Int64) (o_quarter : Nat → Int32) (o_told : Nat → Int32) (p1 : Int32) (r : Int32) (hf : fX10_cosOf o_quarter o_told p1 = some r) : Met l yX10_cosOf (Cond.code yX10_cosOf cX10_cosOf 2 (some .int) :: BIG) ({ frames := 1, cells := 0, slots := 0, locals := 22 } : Room) (cP G (TY3 cI cJ cZ) [.ref h_o, .int p1] sz (wX10_cosOf cI cJ cZ h_o h_o_quarter h_o_told h_o_tape h_o_words h_o_isTold h_o_toldWave h_o_isPoint h_o_all h_o_roots h_o_laidRe h_o_laidIm h_o_byOrder h_o_noted1 h_o_counts h_o_binBy o_tapeSize o_thrown o_fault o_faultPlace o_stop o_next o_kind o_which o_at o_pointsRead o_bank o_isImage o_undos o_runRadix o_runOrder o_runNear o_runLimit o_runHalves o_power o_notedMany o_knownTold o_drawn o_quarter o_told)) (cQ G (TY3 cI cJ cZ) sz (wX10_cosOf cI cJ cZ h_o h_o_quarter h_o_told h_o_tape h_o_words h_o_isTold h_o_toldWave h_o_isPoint h_o_all h_o_roots h_o_laidRe h_o_laidIm h_o_byOrder h_o_noted1 h_o_counts h_o_binBy o_tapeSize o_thrown o_fault o_faultPlace o_stop o_next o_kind o_which o_at o_pointsRead o_bank o_isImage o_undos o_runRadix o_runOrder o_runNear o_runLimit o_runHalves o_power o_notedMany o_knownTold o_drawn o_quarter o_told) (wX10_cosOf cI cJ cZ h_o h_o_quarter h_o_told h_o_tape h_o_words h_o_isTold h_o_toldWave h_o_isPoint h_o_all h_o_roots h_o_laidRe h_o_laidIm h_o_byOrder h_o_noted1 h_o_counts h_o_binBy o_tapeSize o_thrown o_fault o_faultPlace o_stop o_next o_kind o_which o_at o_pointsRead o_bank o_isImage o_undos o_runRadix o_runOrder o_runNear o_runLimit o_runHalves o_power o_notedMany o_knownTold o_drawn o_quarter o_told) (some (.int r))) 0 0 (va_A (wX10_cosOf cI cJ cZ h_o h_o_quarter h_o_told h_o_tape h_o_words h_o_isTold h_o_toldWave h_o_isPoint h_o_all h_o_roots h_o_laidRe h_o_laidIm h_o_byOrder h_o_noted1 h_o_counts h_o_binBy o_tapeSize o_thrown o_fault o_faultPlace o_stop o_next o_kind o_which o_at o_pointsRead o_bank o_isImage o_undos o_runRadix o_runOrder o_runNear o_runLimit o_runHalves o_power o_notedMany o_knownTold o_drawn o_quarter o_told) sz) := by
  refine met_i (cc := cX10_cosOf) (maxL := 2) (plainFor_of_name (by decide)) (Nat.le_of_ble_eq_true rfl) (fun p e s m below meth c A ls Q hx hb hml hts hown hK hP hD hS hA hl hret => ?_)
  have hown : s.vm.findClass RX10 = some m.cls := hown
  have hl : lv_has ls 2 [(0, .ref h_o), (1, .int p1)] := hl
  unfold fX10_cosOf at hf
  obtain ⟨H, eH⟩ : ∃ H, H = s.heap := ⟨_, rfl⟩
  obtain ⟨locs, elocs⟩ : ∃ z : List Loc, z = [] := ⟨_, rfl⟩
  have hP : va_P G vwCl (wX10_cosOf cI cJ cZ h_o h_o_quarter h_o_told h_o_tape h_o_words h_o_isTold h_o_toldWave h_o_isPoint h_o_all h_o_roots h_o_laidRe h_o_laidIm h_o_byOrder h_o_noted1 h_o_counts h_o_binBy o_tapeSize o_thrown o_fault o_faultPlace o_stop o_next o_kind o_which o_at o_pointsRead o_bank o_isImage o_undos o_runRadix o_runOrder o_runNear o_runLimit o_runHalves o_power o_notedMany o_knownTold o_drawn o_quarter o_told) H := by rw [eH]; exact hP
  have hS : va_S A s.heap H locs := by rw [eH, elocs]; exact hS
  suffices hgo : W p l e ({ frames := 1, cells := 0, slots := 0, locals := 22 } : Room) s m ([.ref h_o, .int p1] : List Value).toArray below meth c H locs 0 0 Q (F0 m 0 ls []) by rw [eH, elocs] at hgo; exact hgo
  clear eH elocs
  refine lv_aload_n hx hb dX10_cosOf_0 rfl (lv_at hl 0 rfl) ?_
  refine lv_iload_n hx hb dX10_cosOf_1 rfl (lv_at hl 1 rfl) ?_
  refine lv_bipush (v := (32 : Int32)) hx hb dX10_cosOf_2 (by decide) ?_
  refine lv_imul hx hb dX10_cosOf_4 ?_
  refine lv_aload_n hx hb dX10_cosOf_5 rfl (lv_at hl 0 rfl) ?_
  obtain ⟨r_1, e_2, hf⟩ := bd1_x hf
  refine call_v [] [.int (p1 * (32 : Int32)), .ref h_o] ⟨hx, hb, hml, hown, hts⟩ hK hP hD hS hA hl.1 (tX10_size l G cI cJ cZ H.size h_o h_o_told h_o_tape h_o_words h_o_isTold h_o_toldWave h_o_isPoint h_o_all h_o_quarter h_o_roots h_o_laidRe h_o_laidIm h_o_byOrder h_o_noted1 h_o_counts h_o_binBy o_tapeSize o_thrown o_fault o_faultPlace o_stop o_next o_kind o_which o_at o_pointsRead o_bank o_isImage o_undos o_runRadix o_runOrder o_runNear o_runLimit o_runHalves o_power o_notedMany o_knownTold o_drawn o_told r_1 e_2) (cwV 0 hts (gv q_mX10_196 q_i_yX10_size q_s_yX10_size q_n_RX10 q_k_yX10_size) rfl rfl rfl (by decide +kernel) ⟨by decide, by decide⟩) rfl rfl (Nat.le_of_ble_eq_true rfl) dX10_cosOf_6 ⟨Nat.zero_le _, Nat.zero_le _⟩ (ci := 10) rfl 0 rfl [0, 2] [1] [1, 0, 2] rfl rfl (ws2 := (wX10_cosOf cI cJ cZ h_o h_o_quarter h_o_told h_o_tape h_o_words h_o_isTold h_o_toldWave h_o_isPoint h_o_all h_o_roots h_o_laidRe h_o_laidIm h_o_byOrder h_o_noted1 h_o_counts h_o_binBy o_tapeSize o_thrown o_fault o_faultPlace o_stop o_next o_kind o_which o_at o_pointsRead o_bank o_isImage o_undos o_runRadix o_runOrder o_runNear o_runLimit o_runHalves o_power o_notedMany o_knownTold o_drawn o_quarter o_told)) rfl (fun H locs hP hD hS => ?_)
  refine W.eq (g2 := F0 m 9 ls [.int r_1, .int (p1 * (32 : Int32)), .ref h_o]) rfl ?_
  obtain ⟨g_3, hf⟩ := gd_x hf
  refine lv_idiv hx hb dX10_cosOf_9 (nz_x g_3) ?_
  obtain ⟨r_4, e_5, hf⟩ := bd1_x hf
  refine call_v [.int ((p1 * (32 : Int32)) / r_1)] [] ⟨hx, hb, hml, hown, hts⟩ hK hP hD hS hA hl.1 (tX10_cos l G cI cJ cZ H.size h_o h_o_quarter h_o_tape h_o_words h_o_told h_o_isTold h_o_toldWave h_o_isPoint h_o_all h_o_roots h_o_laidRe h_o_laidIm h_o_byOrder h_o_noted1 h_o_counts h_o_binBy o_tapeSize o_thrown o_fault o_faultPlace o_stop o_next o_kind o_which o_at o_pointsRead o_bank o_isImage o_undos o_runRadix o_runOrder o_runNear o_runLimit o_runHalves o_power o_notedMany o_knownTold o_drawn o_quarter ((p1 * (32 : Int32)) / r_1) r_4 e_5) (cwV 1 hts (gv q_mX10_200 q_i_yX10_cos q_s_yX10_cos q_n_RX10 q_k_yX10_cos) rfl rfl rfl (by decide +kernel) ⟨by decide, by decide⟩) rfl rfl (Nat.le_of_ble_eq_true rfl) dX10_cosOf_10 ⟨Nat.zero_le _, Nat.zero_le _⟩ (ci := 10) rfl 0 rfl [0, 1] [2] [1, 2, 0] rfl rfl (ws2 := (wX10_cosOf cI cJ cZ h_o h_o_quarter h_o_told h_o_tape h_o_words h_o_isTold h_o_toldWave h_o_isPoint h_o_all h_o_roots h_o_laidRe h_o_laidIm h_o_byOrder h_o_noted1 h_o_counts h_o_binBy o_tapeSize o_thrown o_fault o_faultPlace o_stop o_next o_kind o_which o_at o_pointsRead o_bank o_isImage o_undos o_runRadix o_runOrder o_runNear o_runLimit o_runHalves o_power o_notedMany o_knownTold o_drawn o_quarter o_told)) rfl (fun H locs hP hD hS => ?_)
  refine W.eq (g2 := F0 m 13 ls [.int r_4]) rfl ?_
  cases hf
  exact hret _ _ _ _ dX10_cosOf_13 hP hD hS
def wX10_sinOf (cI cJ cZ : ClassId) (h_o h_o_quarter h_o_told h_o_tape h_o_words h_o_isTold h_o_toldWave h_o_isPoint h_o_all h_o_roots h_o_laidRe h_o_laidIm h_o_byOrder h_o_noted1 h_o_counts h_o_binBy : Nat) (o_tapeSize : Int32) (o_thrown : Int32) (o_fault : Int32) (o_faultPlace : Int32) (o_stop : Int32) (o_next : Int32) (o_kind : Int32) (o_which : Int32) (o_at : Int32) (o_pointsRead : Int32) (o_bank : Int32) (o_isImage : Int32) (o_undos : Int32) (o_runRadix : Int32) (o_runOrder : Int32) (o_runNear : Int32) (o_runLimit : Int32) (o_runHalves : Int32) (o_power : Int32) (o_notedMany : Int32) (o_knownTold : Int32) (o_drawn : Int64) (o_quarter : Nat → Int32) (o_told : Nat → Int32) : va_W := [(h_o, .inr (10, [.ref h_o_tape, .int o_tapeSize, .int o_thrown, .ref h_o_words, .int o_fault, .int o_faultPlace, .int o_stop, .int o_next, .int o_kind, .int o_which, .int o_at, .ref h_o_told, .ref h_o_isTold, .ref h_o_toldWave, .ref h_o_isPoint, .int o_pointsRead, .ref h_o_all, .int o_bank, .int o_isImage, .int o_undos, .int o_runRadix, .int o_runOrder, .int o_runNear, .int o_runLimit, .int o_runHalves, .ref h_o_quarter, .int o_power, .ref h_o_roots, .ref h_o_laidRe, .ref h_o_laidIm, .ref h_o_byOrder, .int o_notedMany, .int o_knownTold, .ref h_o_noted1, .ref h_o_counts, .ref h_o_binBy, .long o_drawn])), (h_o_quarter, .inl (cI, 9, .inl o_quarter)), (h_o_told, .inl (cI, 12, .inl o_told))]
def fX10_sinOf (o_quarter : Nat → Int32) (o_told : Nat → Int32) (p1 : Int32) : Option (Int32) :=
  bd1 (fX10_size o_told) (fun r_1 =>
  gd (nz r_1) (
  bd1 (fX10_cos o_quarter ((((p1 * (32 : Int32)) / r_1) + (24 : Int32)) - (((p1 * (32 : Int32)) / r_1) + (24 : Int32)) / (32 : Int32) * (32 : Int32))) (fun r_4 =>
  some r_4)))
set_option maxHeartbeats 4000000 in
set_option maxRecDepth 100000 in
theorem tX10_sinOf (l : Launch) (G : va_G) (cI cJ cZ : ClassId) (sz : Nat) (h_o h_o_quarter h_o_told h_o_tape h_o_words h_o_isTold h_o_toldWave h_o_isPoint h_o_all h_o_roots h_o_laidRe h_o_laidIm h_o_byOrder h_o_noted1 h_o_counts h_o_binBy : Nat) (o_tapeSize : Int32) (o_thrown : Int32) (o_fault : Int32) (o_faultPlace : Int32) (o_stop : Int32) (o_next : Int32) (o_kind : Int32) (o_which : Int32) (o_at : Int32) (o_pointsRead : Int32) (o_bank : Int32) (o_isImage : Int32) (o_undos : Int32) (o_runRadix : Int32) (o_runOrder : Int32) (o_runNear : Int32) (o_runLimit : Int32) (o_runHalves : Int32) (o_power : Int32) (o_notedMany : Int32) (o_knownTold : Int32) (o_drawn : Int64) (o_quarter : Nat → Int32) (o_told : Nat → Int32) (p1 : Int32) (r : Int32) (hf : fX10_sinOf o_quarter o_told p1 = some r) : Met l yX10_sinOf (Cond.code yX10_sinOf cX10_sinOf 2 (some .int) :: BIG) ({ frames := 1, cells := 0, slots := 0, locals := 22 } : Room) (cP G (TY3 cI cJ cZ) [.ref h_o, .int p1] sz (wX10_sinOf cI cJ cZ h_o h_o_quarter h_o_told h_o_tape h_o_words h_o_isTold h_o_toldWave h_o_isPoint h_o_all h_o_roots h_o_laidRe h_o_laidIm h_o_byOrder h_o_noted1 h_o_counts h_o_binBy o_tapeSize o_thrown o_fault o_faultPlace o_stop o_next o_kind o_which o_at o_pointsRead o_bank o_isImage o_undos o_runRadix o_runOrder o_runNear o_runLimit o_runHalves o_power o_notedMany o_knownTold o_drawn o_quarter o_told)) (cQ G (TY3 cI cJ cZ) sz (wX10_sinOf cI cJ cZ h_o h_o_quarter h_o_told h_o_tape h_o_words h_o_isTold h_o_toldWave h_o_isPoint h_o_all h_o_roots h_o_laidRe h_o_laidIm h_o_byOrder h_o_noted1 h_o_counts h_o_binBy o_tapeSize o_thrown o_fault o_faultPlace o_stop o_next o_kind o_which o_at o_pointsRead o_bank o_isImage o_undos o_runRadix o_runOrder o_runNear o_runLimit o_runHalves o_power o_notedMany o_knownTold o_drawn o_quarter o_told) (wX10_sinOf cI cJ cZ h_o h_o_quarter h_o_told h_o_tape h_o_words h_o_isTold h_o_toldWave h_o_isPoint h_o_all h_o_roots h_o_laidRe h_o_laidIm h_o_byOrder h_o_noted1 h_o_counts h_o_binBy o_tapeSize o_thrown o_fault o_faultPlace o_stop o_next o_kind o_which o_at o_pointsRead o_bank o_isImage o_undos o_runRadix o_runOrder o_runNear o_runLimit o_runHalves o_power o_notedMany o_knownTold o_drawn o_quarter o_told) (some (.int r))) 0 0 (va_A (wX10_sinOf cI cJ cZ h_o h_o_quarter h_o_told h_o_tape h_o_words h_o_isTold h_o_toldWave h_o_isPoint h_o_all h_o_roots h_o_laidRe h_o_laidIm h_o_byOrder h_o_noted1 h_o_counts h_o_binBy o_tapeSize o_thrown o_fault o_faultPlace o_stop o_next o_kind o_which o_at o_pointsRead o_bank o_isImage o_undos o_runRadix o_runOrder o_runNear o_runLimit o_runHalves o_power o_notedMany o_knownTold o_drawn o_quarter o_told) sz) := by
  refine met_i (cc := cX10_sinOf) (maxL := 2) (plainFor_of_name (by decide)) (Nat.le_of_ble_eq_true rfl) (fun p e s m below meth c A ls Q hx hb hml hts hown hK hP hD hS hA hl hret => ?_)
  have hown : s.vm.findClass RX10 = some m.cls := hown
  have hl : lv_has ls 2 [(0, .ref h_o), (1, .int p1)] := hl
  unfold fX10_sinOf at hf
  obtain ⟨H, eH⟩ : ∃ H, H = s.heap := ⟨_, rfl⟩
  obtain ⟨locs, elocs⟩ : ∃ z : List Loc, z = [] := ⟨_, rfl⟩
  have hP : va_P G vwCl (wX10_sinOf cI cJ cZ h_o h_o_quarter h_o_told h_o_tape h_o_words h_o_isTold h_o_toldWave h_o_isPoint h_o_all h_o_roots h_o_laidRe h_o_laidIm h_o_byOrder h_o_noted1 h_o_counts h_o_binBy o_tapeSize o_thrown o_fault o_faultPlace o_stop o_next o_kind o_which o_at o_pointsRead o_bank o_isImage o_undos o_runRadix o_runOrder o_runNear o_runLimit o_runHalves o_power o_notedMany o_knownTold o_drawn o_quarter o_told) H := by rw [eH]; exact hP
  have hS : va_S A s.heap H locs := by rw [eH, elocs]; exact hS
  suffices hgo : W p l e ({ frames := 1, cells := 0, slots := 0, locals := 22 } : Room) s m ([.ref h_o, .int p1] : List Value).toArray below meth c H locs 0 0 Q (F0 m 0 ls []) by rw [eH, elocs] at hgo; exact hgo
  clear eH elocs
  refine lv_aload_n hx hb dX10_sinOf_0 rfl (lv_at hl 0 rfl) ?_
  refine lv_iload_n hx hb dX10_sinOf_1 rfl (lv_at hl 1 rfl) ?_
  refine lv_bipush (v := (32 : Int32)) hx hb dX10_sinOf_2 (by decide) ?_
  refine lv_imul hx hb dX10_sinOf_4 ?_
  refine lv_aload_n hx hb dX10_sinOf_5 rfl (lv_at hl 0 rfl) ?_
  obtain ⟨r_1, e_2, hf⟩ := bd1_x hf
  refine call_v [] [.int (p1 * (32 : Int32)), .ref h_o] ⟨hx, hb, hml, hown, hts⟩ hK hP hD hS hA hl.1 (tX10_size l G cI cJ cZ H.size h_o h_o_told h_o_tape h_o_words h_o_isTold h_o_toldWave h_o_isPoint h_o_all h_o_quarter h_o_roots h_o_laidRe h_o_laidIm h_o_byOrder h_o_noted1 h_o_counts h_o_binBy o_tapeSize o_thrown o_fault o_faultPlace o_stop o_next o_kind o_which o_at o_pointsRead o_bank o_isImage o_undos o_runRadix o_runOrder o_runNear o_runLimit o_runHalves o_power o_notedMany o_knownTold o_drawn o_told r_1 e_2) (cwV 0 hts (gv q_mX10_196 q_i_yX10_size q_s_yX10_size q_n_RX10 q_k_yX10_size) rfl rfl rfl (by decide +kernel) ⟨by decide, by decide⟩) rfl rfl (Nat.le_of_ble_eq_true rfl) dX10_sinOf_6 ⟨Nat.zero_le _, Nat.zero_le _⟩ (ci := 10) rfl 0 rfl [0, 2] [1] [1, 0, 2] rfl rfl (ws2 := (wX10_sinOf cI cJ cZ h_o h_o_quarter h_o_told h_o_tape h_o_words h_o_isTold h_o_toldWave h_o_isPoint h_o_all h_o_roots h_o_laidRe h_o_laidIm h_o_byOrder h_o_noted1 h_o_counts h_o_binBy o_tapeSize o_thrown o_fault o_faultPlace o_stop o_next o_kind o_which o_at o_pointsRead o_bank o_isImage o_undos o_runRadix o_runOrder o_runNear o_runLimit o_runHalves o_power o_notedMany o_knownTold o_drawn o_quarter o_told)) rfl (fun H locs hP hD hS => ?_)
  refine W.eq (g2 := F0 m 9 ls [.int r_1, .int (p1 * (32 : Int32)), .ref h_o]) rfl ?_
  obtain ⟨g_3, hf⟩ := gd_x hf
  refine lv_idiv hx hb dX10_sinOf_9 (nz_x g_3) ?_
  refine lv_bipush (v := (24 : Int32)) hx hb dX10_sinOf_10 (by decide) ?_
  refine lv_iadd hx hb dX10_sinOf_12 ?_
  refine lv_bipush (v := (32 : Int32)) hx hb dX10_sinOf_13 (by decide) ?_
  refine lv_irem hx hb dX10_sinOf_15 (by decide) ?_
  obtain ⟨r_4, e_5, hf⟩ := bd1_x hf
  refine call_v [.int ((((p1 * (32 : Int32)) / r_1) + (24 : Int32)) - (((p1 * (32 : Int32)) / r_1) + (24 : Int32)) / (32 : Int32) * (32 : Int32))] [] ⟨hx, hb, hml, hown, hts⟩ hK hP hD hS hA hl.1 (tX10_cos l G cI cJ cZ H.size h_o h_o_quarter h_o_tape h_o_words h_o_told h_o_isTold h_o_toldWave h_o_isPoint h_o_all h_o_roots h_o_laidRe h_o_laidIm h_o_byOrder h_o_noted1 h_o_counts h_o_binBy o_tapeSize o_thrown o_fault o_faultPlace o_stop o_next o_kind o_which o_at o_pointsRead o_bank o_isImage o_undos o_runRadix o_runOrder o_runNear o_runLimit o_runHalves o_power o_notedMany o_knownTold o_drawn o_quarter ((((p1 * (32 : Int32)) / r_1) + (24 : Int32)) - (((p1 * (32 : Int32)) / r_1) + (24 : Int32)) / (32 : Int32) * (32 : Int32)) r_4 e_5) (cwV 1 hts (gv q_mX10_200 q_i_yX10_cos q_s_yX10_cos q_n_RX10 q_k_yX10_cos) rfl rfl rfl (by decide +kernel) ⟨by decide, by decide⟩) rfl rfl (Nat.le_of_ble_eq_true rfl) dX10_sinOf_16 ⟨Nat.zero_le _, Nat.zero_le _⟩ (ci := 10) rfl 0 rfl [0, 1] [2] [1, 2, 0] rfl rfl (ws2 := (wX10_sinOf cI cJ cZ h_o h_o_quarter h_o_told h_o_tape h_o_words h_o_isTold h_o_toldWave h_o_isPoint h_o_all h_o_roots h_o_laidRe h_o_laidIm h_o_byOrder h_o_noted1 h_o_counts h_o_binBy o_tapeSize o_thrown o_fault o_faultPlace o_stop o_next o_kind o_which o_at o_pointsRead o_bank o_isImage o_undos o_runRadix o_runOrder o_runNear o_runLimit o_runHalves o_power o_notedMany o_knownTold o_drawn o_quarter o_told)) rfl (fun H locs hP hD hS => ?_)
  refine W.eq (g2 := F0 m 19 ls [.int r_4]) rfl ?_
  cases hf
  exact hret _ _ _ _ dX10_sinOf_19 hP hD hS
def wX10_isPlace (cI cJ cZ : ClassId) (h_o h_o_told h_o_tape h_o_words h_o_isTold h_o_toldWave h_o_isPoint h_o_all h_o_quarter h_o_roots h_o_laidRe h_o_laidIm h_o_byOrder h_o_noted1 h_o_counts h_o_binBy : Nat) (o_tapeSize : Int32) (o_thrown : Int32) (o_fault : Int32) (o_faultPlace : Int32) (o_stop : Int32) (o_next : Int32) (o_kind : Int32) (o_which : Int32) (o_at : Int32) (o_pointsRead : Int32) (o_bank : Int32) (o_isImage : Int32) (o_undos : Int32) (o_runRadix : Int32) (o_runOrder : Int32) (o_runNear : Int32) (o_runLimit : Int32) (o_runHalves : Int32) (o_power : Int32) (o_notedMany : Int32) (o_knownTold : Int32) (o_drawn : Int64) (o_told : Nat → Int32) : va_W := [(h_o, .inr (10, [.ref h_o_tape, .int o_tapeSize, .int o_thrown, .ref h_o_words, .int o_fault, .int o_faultPlace, .int o_stop, .int o_next, .int o_kind, .int o_which, .int o_at, .ref h_o_told, .ref h_o_isTold, .ref h_o_toldWave, .ref h_o_isPoint, .int o_pointsRead, .ref h_o_all, .int o_bank, .int o_isImage, .int o_undos, .int o_runRadix, .int o_runOrder, .int o_runNear, .int o_runLimit, .int o_runHalves, .ref h_o_quarter, .int o_power, .ref h_o_roots, .ref h_o_laidRe, .ref h_o_laidIm, .ref h_o_byOrder, .int o_notedMany, .int o_knownTold, .ref h_o_noted1, .ref h_o_counts, .ref h_o_binBy, .long o_drawn])), (h_o_told, .inl (cI, 12, .inl o_told))]
def fX10_isPlace (o_told : Nat → Int32) (p1 : Int32) : Option (Int32) :=
  if p1 < 0 then (
    some (0 : Int32)
  ) else (
    bd1 (fX10_size o_told) (fun r_2 =>
    if r_2 ≤ p1 then (
      some (0 : Int32)
    ) else (
      some (1 : Int32)
    ))
  )
set_option maxHeartbeats 4000000 in
set_option maxRecDepth 100000 in
theorem tX10_isPlace (l : Launch) (G : va_G) (cI cJ cZ : ClassId) (sz : Nat) (h_o h_o_told h_o_tape h_o_words h_o_isTold h_o_toldWave h_o_isPoint h_o_all h_o_quarter h_o_roots h_o_laidRe h_o_laidIm h_o_byOrder h_o_noted1 h_o_counts h_o_binBy : Nat) (o_tapeSize : Int32) (o_thrown : Int32) (o_fault : Int32) (o_faultPlace : Int32) (o_stop : Int32) (o_next : Int32) (o_kind : Int32) (o_which : Int32) (o_at : Int32) (o_pointsRead : Int32) (o_bank : Int32) (o_isImage : Int32) (o_undos : Int32) (o_runRadix : Int32) (o_runOrder : Int32) (o_runNear : Int32) (o_runLimit : Int32) (o_runHalves : Int32) (o_power : Int32) (o_notedMany : Int32) (o_knownTold : Int32) (o_drawn : Int64) (o_told : Nat → Int32) (p1 : Int32) (r : Int32) (hf : fX10_isPlace o_told p1 = some r) : Met l yX10_isPlace (Cond.code yX10_isPlace cX10_isPlace 2 (some .boolean) :: BIG) ({ frames := 1, cells := 0, slots := 0, locals := 20 } : Room) (cP G (TY3 cI cJ cZ) [.ref h_o, .int p1] sz (wX10_isPlace cI cJ cZ h_o h_o_told h_o_tape h_o_words h_o_isTold h_o_toldWave h_o_isPoint h_o_all h_o_quarter h_o_roots h_o_laidRe h_o_laidIm h_o_byOrder h_o_noted1 h_o_counts h_o_binBy o_tapeSize o_thrown o_fault o_faultPlace o_stop o_next o_kind o_which o_at o_pointsRead o_bank o_isImage o_undos o_runRadix o_runOrder o_runNear o_runLimit o_runHalves o_power o_notedMany o_knownTold o_drawn o_told)) (cQ G (TY3 cI cJ cZ) sz (wX10_isPlace cI cJ cZ h_o h_o_told h_o_tape h_o_words h_o_isTold h_o_toldWave h_o_isPoint h_o_all h_o_quarter h_o_roots h_o_laidRe h_o_laidIm h_o_byOrder h_o_noted1 h_o_counts h_o_binBy o_tapeSize o_thrown o_fault o_faultPlace o_stop o_next o_kind o_which o_at o_pointsRead o_bank o_isImage o_undos o_runRadix o_runOrder o_runNear o_runLimit o_runHalves o_power o_notedMany o_knownTold o_drawn o_told) (wX10_isPlace cI cJ cZ h_o h_o_told h_o_tape h_o_words h_o_isTold h_o_toldWave h_o_isPoint h_o_all h_o_quarter h_o_roots h_o_laidRe h_o_laidIm h_o_byOrder h_o_noted1 h_o_counts h_o_binBy o_tapeSize o_thrown o_fault o_faultPlace o_stop o_next o_kind o_which o_at o_pointsRead o_bank o_isImage o_undos o_runRadix o_runOrder o_runNear o_runLimit o_runHalves o_power o_notedMany o_knownTold o_drawn o_told) (some (.int r))) 0 0 (va_A (wX10_isPlace cI cJ cZ h_o h_o_told h_o_tape h_o_words h_o_isTold h_o_toldWave h_o_isPoint h_o_all h_o_quarter h_o_roots h_o_laidRe h_o_laidIm h_o_byOrder h_o_noted1 h_o_counts h_o_binBy o_tapeSize o_thrown o_fault o_faultPlace o_stop o_next o_kind o_which o_at o_pointsRead o_bank o_isImage o_undos o_runRadix o_runOrder o_runNear o_runLimit o_runHalves o_power o_notedMany o_knownTold o_drawn o_told) sz) := by
  refine met_z (cc := cX10_isPlace) (maxL := 2) (plainFor_of_name (by decide)) (Nat.le_of_ble_eq_true rfl) (fun p e s m below meth c A ls Q hx hb hml hts hown hK hP hD hS hA hl hret => ?_)
  have hown : s.vm.findClass RX10 = some m.cls := hown
  have hl : lv_has ls 2 [(0, .ref h_o), (1, .int p1)] := hl
  unfold fX10_isPlace at hf
  obtain ⟨H, eH⟩ : ∃ H, H = s.heap := ⟨_, rfl⟩
  obtain ⟨locs, elocs⟩ : ∃ z : List Loc, z = [] := ⟨_, rfl⟩
  have hP : va_P G vwCl (wX10_isPlace cI cJ cZ h_o h_o_told h_o_tape h_o_words h_o_isTold h_o_toldWave h_o_isPoint h_o_all h_o_quarter h_o_roots h_o_laidRe h_o_laidIm h_o_byOrder h_o_noted1 h_o_counts h_o_binBy o_tapeSize o_thrown o_fault o_faultPlace o_stop o_next o_kind o_which o_at o_pointsRead o_bank o_isImage o_undos o_runRadix o_runOrder o_runNear o_runLimit o_runHalves o_power o_notedMany o_knownTold o_drawn o_told) H := by rw [eH]; exact hP
  have hS : va_S A s.heap H locs := by rw [eH, elocs]; exact hS
  suffices hgo : W p l e ({ frames := 1, cells := 0, slots := 0, locals := 20 } : Room) s m ([.ref h_o, .int p1] : List Value).toArray below meth c H locs 0 0 Q (F0 m 0 ls []) by rw [eH, elocs] at hgo; exact hgo
  clear eH elocs
  refine lv_iload_n hx hb dX10_isPlace_0 rfl (lv_at hl 1 rfl) ?_
  refine lv_if_lt (tgt := 16) hx hb dX10_isPlace_1 (by decide) (fun c_1 => ?_) (fun c_1 => ?_)
  · have hf := it_t c_1 hf
    refine lv_iconst (v := (0 : Int32)) hx hb dX10_isPlace_16 (by decide) ?_
    cases hf
    exact hret _ _ _ _ dX10_isPlace_17 rfl hP hD hS
  · have hf := it_f c_1 hf
    refine lv_iload_n hx hb dX10_isPlace_4 rfl (lv_at hl 1 rfl) ?_
    refine lv_aload_n hx hb dX10_isPlace_5 rfl (lv_at hl 0 rfl) ?_
    obtain ⟨r_2, e_3, hf⟩ := bd1_x hf
    refine call_v [] [.int p1] ⟨hx, hb, hml, hown, hts⟩ hK hP hD hS hA hl.1 (tX10_size l G cI cJ cZ H.size h_o h_o_told h_o_tape h_o_words h_o_isTold h_o_toldWave h_o_isPoint h_o_all h_o_quarter h_o_roots h_o_laidRe h_o_laidIm h_o_byOrder h_o_noted1 h_o_counts h_o_binBy o_tapeSize o_thrown o_fault o_faultPlace o_stop o_next o_kind o_which o_at o_pointsRead o_bank o_isImage o_undos o_runRadix o_runOrder o_runNear o_runLimit o_runHalves o_power o_notedMany o_knownTold o_drawn o_told r_2 e_3) (cwV 0 hts (gv q_mX10_196 q_i_yX10_size q_s_yX10_size q_n_RX10 q_k_yX10_size) rfl rfl rfl (by decide +kernel) ⟨by decide, by decide⟩) rfl rfl (Nat.le_of_ble_eq_true rfl) dX10_isPlace_6 ⟨Nat.zero_le _, Nat.zero_le _⟩ (ci := 10) rfl 0 rfl [0, 1] [] [0, 1] rfl rfl (ws2 := (wX10_isPlace cI cJ cZ h_o h_o_told h_o_tape h_o_words h_o_isTold h_o_toldWave h_o_isPoint h_o_all h_o_quarter h_o_roots h_o_laidRe h_o_laidIm h_o_byOrder h_o_noted1 h_o_counts h_o_binBy o_tapeSize o_thrown o_fault o_faultPlace o_stop o_next o_kind o_which o_at o_pointsRead o_bank o_isImage o_undos o_runRadix o_runOrder o_runNear o_runLimit o_runHalves o_power o_notedMany o_knownTold o_drawn o_told)) rfl (fun H locs hP hD hS => ?_)
    refine W.eq (g2 := F0 m 9 ls [.int r_2, .int p1]) rfl ?_
    refine lv_icmp_ge (tgt := 16) hx hb dX10_isPlace_9 (by decide) (fun c_4 => ?_) (fun c_4 => ?_)
    · have hf := it_t c_4 hf
      refine lv_iconst (v := (0 : Int32)) hx hb dX10_isPlace_16 (by decide) ?_
      cases hf
      exact hret _ _ _ _ dX10_isPlace_17 rfl hP hD hS
    · have hf := it_f c_4 hf
      refine lv_iconst (v := (1 : Int32)) hx hb dX10_isPlace_12 (by decide) ?_
      refine lv_goto (tgt := 17) hx hb dX10_isPlace_13 (by decide) ?_
      cases hf
      exact hret _ _ _ _ dX10_isPlace_17 rfl hP hD hS
def wX10_turn (cI cJ cZ : ClassId) (h_o h_o_quarter h_o_told h_o_tape h_o_words h_o_isTold h_o_toldWave h_o_isPoint h_o_all h_o_roots h_o_laidRe h_o_laidIm h_o_byOrder h_o_noted1 h_o_counts h_o_binBy : Nat) (o_tapeSize : Int32) (o_thrown : Int32) (o_fault : Int32) (o_faultPlace : Int32) (o_stop : Int32) (o_next : Int32) (o_kind : Int32) (o_which : Int32) (o_at : Int32) (o_pointsRead : Int32) (o_bank : Int32) (o_isImage : Int32) (o_undos : Int32) (o_runRadix : Int32) (o_runOrder : Int32) (o_runNear : Int32) (o_runLimit : Int32) (o_runHalves : Int32) (o_power : Int32) (o_notedMany : Int32) (o_knownTold : Int32) (o_drawn : Int64) (o_quarter : Nat → Int32) (o_told : Nat → Int32) : va_W := [(h_o, .inr (10, [.ref h_o_tape, .int o_tapeSize, .int o_thrown, .ref h_o_words, .int o_fault, .int o_faultPlace, .int o_stop, .int o_next, .int o_kind, .int o_which, .int o_at, .ref h_o_told, .ref h_o_isTold, .ref h_o_toldWave, .ref h_o_isPoint, .int o_pointsRead, .ref h_o_all, .int o_bank, .int o_isImage, .int o_undos, .int o_runRadix, .int o_runOrder, .int o_runNear, .int o_runLimit, .int o_runHalves, .ref h_o_quarter, .int o_power, .ref h_o_roots, .ref h_o_laidRe, .ref h_o_laidIm, .ref h_o_byOrder, .int o_notedMany, .int o_knownTold, .ref h_o_noted1, .ref h_o_counts, .ref h_o_binBy, .long o_drawn])), (h_o_quarter, .inl (cI, 9, .inl o_quarter)), (h_o_told, .inl (cI, 12, .inl o_told))]
def fX10_turn (o_thrown : Int32) (o_quarter : Nat → Int32) (o_told : Nat → Int32) (p1 : Int32) (p2 : Int32) : Option (Int32 × Int32) :=
  bd1 (fX10_isPlace o_told p1) (fun r_1 =>
  if r_1 = 0 then (
    some ((-2147483648 : Int32), (0 : Int32))
  ) else (
    bd1 (fX10_isIn p2 (0 : Int32) (1 : Int32)) (fun r_4 =>
    if r_4 = 0 then (
      some ((-2147483648 : Int32), (0 : Int32))
    ) else (
      if p2 = 0 then (
        bd1 (fX10_cosOf o_quarter o_told p1) (fun r_10 =>
        some (r_10, (0 : Int32)))
      ) else (
        bd1 (fX10_sinOf o_quarter o_told p1) (fun r_8 =>
        some (-r_8, (0 : Int32)))
      )
    ))
  ))
set_option maxHeartbeats 4000000 in
set_option maxRecDepth 100000 in
theorem tX10_turn (l : Launch) (G : va_G) (cI cJ cZ : ClassId) (sz : Nat) (h_o h_o_quarter h_o_told h_o_tape h_o_words h_o_isTold h_o_toldWave h_o_isPoint h_o_all h_o_roots h_o_laidRe h_o_laidIm h_o_byOrder h_o_noted1 h_o_counts h_o_binBy : Nat) (o_tapeSize : Int32) (o_thrown : Int32) (o_fault : Int32) (o_faultPlace : Int32) (o_stop : Int32) (o_next : Int32) (o_kind : Int32) (o_which : Int32) (o_at : Int32) (o_pointsRead : Int32) (o_bank : Int32) (o_isImage : Int32) (o_undos : Int32) (o_runRadix : Int32) (o_runOrder : Int32) (o_runNear : Int32) (o_runLimit : Int32) (o_runHalves : Int32) (o_power : Int32) (o_notedMany : Int32) (o_knownTold : Int32) (o_drawn : Int64) (o_quarter : Nat → Int32) (o_told : Nat → Int32) (p1 : Int32) (p2 : Int32) (r : Int32) (out_o_thrown : Int32) (hf : fX10_turn o_thrown o_quarter o_told p1 p2 = some (r, out_o_thrown)) : Met l yX10_turn (Cond.code yX10_turn cX10_turn 3 (some .int) :: BIG) ({ frames := 2, cells := 0, slots := 0, locals := 43 } : Room) (cP G (TY3 cI cJ cZ) [.ref h_o, .int p1, .int p2] sz (wX10_turn cI cJ cZ h_o h_o_quarter h_o_told h_o_tape h_o_words h_o_isTold h_o_toldWave h_o_isPoint h_o_all h_o_roots h_o_laidRe h_o_laidIm h_o_byOrder h_o_noted1 h_o_counts h_o_binBy o_tapeSize o_thrown o_fault o_faultPlace o_stop o_next o_kind o_which o_at o_pointsRead o_bank o_isImage o_undos o_runRadix o_runOrder o_runNear o_runLimit o_runHalves o_power o_notedMany o_knownTold o_drawn o_quarter o_told)) (cQ G (TY3 cI cJ cZ) sz (wX10_turn cI cJ cZ h_o h_o_quarter h_o_told h_o_tape h_o_words h_o_isTold h_o_toldWave h_o_isPoint h_o_all h_o_roots h_o_laidRe h_o_laidIm h_o_byOrder h_o_noted1 h_o_counts h_o_binBy o_tapeSize o_thrown o_fault o_faultPlace o_stop o_next o_kind o_which o_at o_pointsRead o_bank o_isImage o_undos o_runRadix o_runOrder o_runNear o_runLimit o_runHalves o_power o_notedMany o_knownTold o_drawn o_quarter o_told) (wX10_turn cI cJ cZ h_o h_o_quarter h_o_told h_o_tape h_o_words h_o_isTold h_o_toldWave h_o_isPoint h_o_all h_o_roots h_o_laidRe h_o_laidIm h_o_byOrder h_o_noted1 h_o_counts h_o_binBy o_tapeSize out_o_thrown o_fault o_faultPlace o_stop o_next o_kind o_which o_at o_pointsRead o_bank o_isImage o_undos o_runRadix o_runOrder o_runNear o_runLimit o_runHalves o_power o_notedMany o_knownTold o_drawn o_quarter o_told) (some (.int r))) 0 0 (va_A (wX10_turn cI cJ cZ h_o h_o_quarter h_o_told h_o_tape h_o_words h_o_isTold h_o_toldWave h_o_isPoint h_o_all h_o_roots h_o_laidRe h_o_laidIm h_o_byOrder h_o_noted1 h_o_counts h_o_binBy o_tapeSize o_thrown o_fault o_faultPlace o_stop o_next o_kind o_which o_at o_pointsRead o_bank o_isImage o_undos o_runRadix o_runOrder o_runNear o_runLimit o_runHalves o_power o_notedMany o_knownTold o_drawn o_quarter o_told) sz) := by
  refine met_i (cc := cX10_turn) (maxL := 3) (plainFor_of_name (by decide)) (Nat.le_of_ble_eq_true rfl) (fun p e s m below meth c A ls Q hx hb hml hts hown hK hP hD hS hA hl hret => ?_)
  have hown : s.vm.findClass RX10 = some m.cls := hown
  have hl : lv_has ls 3 [(0, .ref h_o), (1, .int p1), (2, .int p2)] := hl
  unfold fX10_turn at hf
  obtain ⟨H, eH⟩ : ∃ H, H = s.heap := ⟨_, rfl⟩
  obtain ⟨locs, elocs⟩ : ∃ z : List Loc, z = [] := ⟨_, rfl⟩
  have hP : va_P G vwCl (wX10_turn cI cJ cZ h_o h_o_quarter h_o_told h_o_tape h_o_words h_o_isTold h_o_toldWave h_o_isPoint h_o_all h_o_roots h_o_laidRe h_o_laidIm h_o_byOrder h_o_noted1 h_o_counts h_o_binBy o_tapeSize o_thrown o_fault o_faultPlace o_stop o_next o_kind o_which o_at o_pointsRead o_bank o_isImage o_undos o_runRadix o_runOrder o_runNear o_runLimit o_runHalves o_power o_notedMany o_knownTold o_drawn o_quarter o_told) H := by rw [eH]; exact hP
  have hS : va_S A s.heap H locs := by rw [eH, elocs]; exact hS
  suffices hgo : W p l e ({ frames := 2, cells := 0, slots := 0, locals := 43 } : Room) s m ([.ref h_o, .int p1, .int p2] : List Value).toArray below meth c H locs 0 0 Q (F0 m 0 ls []) by rw [eH, elocs] at hgo; exact hgo
  clear eH elocs
  refine lv_aload_n hx hb dX10_turn_0 rfl (lv_at hl 0 rfl) ?_
  refine lv_iconst (v := (0 : Int32)) hx hb dX10_turn_1 (by decide) ?_
  refine wr (ci := 10) (C := RX10) (T := TX10) (N := 37) hx hb hts inX10 tyX10 tyX10_ok nmX10 hown hK hP hD hS 0 2 rfl rfl (by decide) (hts _ q_fX10_70) rfl rfl rfl (Nat.le_of_ble_eq_true rfl) dX10_turn_2 (ws2 := (wX10_turn cI cJ cZ h_o h_o_quarter h_o_told h_o_tape h_o_words h_o_isTold h_o_toldWave h_o_isPoint h_o_all h_o_roots h_o_laidRe h_o_laidIm h_o_byOrder h_o_noted1 h_o_counts h_o_binBy o_tapeSize (0 : Int32) o_fault o_faultPlace o_stop o_next o_kind o_which o_at o_pointsRead o_bank o_isImage o_undos o_runRadix o_runOrder o_runNear o_runLimit o_runHalves o_power o_notedMany o_knownTold o_drawn o_quarter o_told)) rfl (fun H locs hP hD hS => ?_)
  refine lv_aload_n hx hb dX10_turn_5 rfl (lv_at hl 0 rfl) ?_
  refine lv_iload_n hx hb dX10_turn_6 rfl (lv_at hl 1 rfl) ?_
  obtain ⟨r_1, e_2, hf⟩ := bd1_x hf
  refine call_v [.int p1] [] ⟨hx, hb, hml, hown, hts⟩ hK hP hD hS hA hl.1 (tX10_isPlace l G cI cJ cZ H.size h_o h_o_told h_o_tape h_o_words h_o_isTold h_o_toldWave h_o_isPoint h_o_all h_o_quarter h_o_roots h_o_laidRe h_o_laidIm h_o_byOrder h_o_noted1 h_o_counts h_o_binBy o_tapeSize (0 : Int32) o_fault o_faultPlace o_stop o_next o_kind o_which o_at o_pointsRead o_bank o_isImage o_undos o_runRadix o_runOrder o_runNear o_runLimit o_runHalves o_power o_notedMany o_knownTold o_drawn o_told p1 r_1 e_2) (cwV 1 hts (gv q_mX10_203 q_i_yX10_isPlace q_s_yX10_isPlace q_n_RX10 q_k_yX10_isPlace) rfl rfl rfl (by decide +kernel) ⟨by decide, by decide⟩) rfl rfl (Nat.le_of_ble_eq_true rfl) dX10_turn_7 ⟨Nat.zero_le _, Nat.zero_le _⟩ (ci := 10) rfl 0 rfl [0, 2] [1] [1, 0, 2] rfl rfl (ws2 := (wX10_turn cI cJ cZ h_o h_o_quarter h_o_told h_o_tape h_o_words h_o_isTold h_o_toldWave h_o_isPoint h_o_all h_o_roots h_o_laidRe h_o_laidIm h_o_byOrder h_o_noted1 h_o_counts h_o_binBy o_tapeSize (0 : Int32) o_fault o_faultPlace o_stop o_next o_kind o_which o_at o_pointsRead o_bank o_isImage o_undos o_runRadix o_runOrder o_runNear o_runLimit o_runHalves o_power o_notedMany o_knownTold o_drawn o_quarter o_told)) rfl (fun H locs hP hD hS => ?_)
  refine W.eq (g2 := F0 m 10 ls [.int r_1]) rfl ?_
  refine lv_if_eq (tgt := 22) hx hb dX10_turn_10 (by decide) (fun c_3 => ?_) (fun c_3 => ?_)
  · have hf := it_t c_3 hf
    refine lv_ldc (v := (-2147483648 : Int32)) hx hb hown (hts _ q_cX10_206) dX10_turn_22 ?_
    cases hf
    exact hret _ _ _ _ dX10_turn_24 hP hD hS
  · have hf := it_f c_3 hf
    refine lv_iload_n hx hb dX10_turn_13 rfl (lv_at hl 2 rfl) ?_
    refine lv_iconst (v := (0 : Int32)) hx hb dX10_turn_14 (by decide) ?_
    refine lv_iconst (v := (1 : Int32)) hx hb dX10_turn_15 (by decide) ?_
    obtain ⟨r_4, e_5, hf⟩ := bd1_x hf
    refine call_s [.int p2, .int (0 : Int32), .int (1 : Int32)] [] ⟨hx, hb, hml, hown, hts⟩ hK hP hD hS hA hl.1 (tX10_isIn l G cI cJ cZ H.size p2 (0 : Int32) (1 : Int32) r_4 e_5) (va_cwS 3 hts (gs q_mX10_138 q_s_yX10_isIn q_n_RX10 q_k_yX10_isIn) rfl rfl rfl (by decide +kernel) ⟨by decide, by decide⟩) rfl rfl (Nat.le_of_ble_eq_true rfl) dX10_turn_16 ⟨Nat.zero_le _, Nat.zero_le _⟩ [] [0, 1, 2] [0, 1, 2] rfl rfl (ws2 := (wX10_turn cI cJ cZ h_o h_o_quarter h_o_told h_o_tape h_o_words h_o_isTold h_o_toldWave h_o_isPoint h_o_all h_o_roots h_o_laidRe h_o_laidIm h_o_byOrder h_o_noted1 h_o_counts h_o_binBy o_tapeSize (0 : Int32) o_fault o_faultPlace o_stop o_next o_kind o_which o_at o_pointsRead o_bank o_isImage o_undos o_runRadix o_runOrder o_runNear o_runLimit o_runHalves o_power o_notedMany o_knownTold o_drawn o_quarter o_told)) rfl (fun H locs hP hD hS => ?_)
    refine W.eq (g2 := F0 m 19 ls [.int r_4]) rfl ?_
    refine lv_if_ne (tgt := 25) hx hb dX10_turn_19 (by decide) (fun c_6 => ?_) (fun c_6 => ?_)
    · have hf := it_f c_6 hf
      refine lv_iload_n hx hb dX10_turn_25 rfl (lv_at hl 2 rfl) ?_
      refine lv_if_ne (tgt := 37) hx hb dX10_turn_26 (by decide) (fun c_7 => ?_) (fun c_7 => ?_)
      · have hf := it_f c_7 hf
        refine lv_aload_n hx hb dX10_turn_37 rfl (lv_at hl 0 rfl) ?_
        refine lv_iload_n hx hb dX10_turn_38 rfl (lv_at hl 1 rfl) ?_
        obtain ⟨r_8, e_9, hf⟩ := bd1_x hf
        refine call_v [.int p1] [] ⟨hx, hb, hml, hown, hts⟩ hK hP hD hS hA hl.1 (tX10_sinOf l G cI cJ cZ H.size h_o h_o_quarter h_o_told h_o_tape h_o_words h_o_isTold h_o_toldWave h_o_isPoint h_o_all h_o_roots h_o_laidRe h_o_laidIm h_o_byOrder h_o_noted1 h_o_counts h_o_binBy o_tapeSize (0 : Int32) o_fault o_faultPlace o_stop o_next o_kind o_which o_at o_pointsRead o_bank o_isImage o_undos o_runRadix o_runOrder o_runNear o_runLimit o_runHalves o_power o_notedMany o_knownTold o_drawn o_quarter o_told p1 r_8 e_9) (cwV 1 hts (gv q_mX10_210 q_i_yX10_sinOf q_s_yX10_sinOf q_n_RX10 q_k_yX10_sinOf) rfl rfl rfl (by decide +kernel) ⟨by decide, by decide⟩) rfl rfl (Nat.le_of_ble_eq_true rfl) dX10_turn_39 ⟨Nat.zero_le _, Nat.zero_le _⟩ (ci := 10) rfl 0 rfl [0, 1, 2] [] [0, 1, 2] rfl rfl (ws2 := (wX10_turn cI cJ cZ h_o h_o_quarter h_o_told h_o_tape h_o_words h_o_isTold h_o_toldWave h_o_isPoint h_o_all h_o_roots h_o_laidRe h_o_laidIm h_o_byOrder h_o_noted1 h_o_counts h_o_binBy o_tapeSize (0 : Int32) o_fault o_faultPlace o_stop o_next o_kind o_which o_at o_pointsRead o_bank o_isImage o_undos o_runRadix o_runOrder o_runNear o_runLimit o_runHalves o_power o_notedMany o_knownTold o_drawn o_quarter o_told)) rfl (fun H locs hP hD hS => ?_)
        refine W.eq (g2 := F0 m 42 ls [.int r_8]) rfl ?_
        refine lv_ineg hx hb dX10_turn_42 ?_
        cases hf
        exact hret _ _ _ _ dX10_turn_43 hP hD hS
      · have hf := it_t c_7 hf
        refine lv_aload_n hx hb dX10_turn_29 rfl (lv_at hl 0 rfl) ?_
        refine lv_iload_n hx hb dX10_turn_30 rfl (lv_at hl 1 rfl) ?_
        obtain ⟨r_10, e_11, hf⟩ := bd1_x hf
        refine call_v [.int p1] [] ⟨hx, hb, hml, hown, hts⟩ hK hP hD hS hA hl.1 (tX10_cosOf l G cI cJ cZ H.size h_o h_o_quarter h_o_told h_o_tape h_o_words h_o_isTold h_o_toldWave h_o_isPoint h_o_all h_o_roots h_o_laidRe h_o_laidIm h_o_byOrder h_o_noted1 h_o_counts h_o_binBy o_tapeSize (0 : Int32) o_fault o_faultPlace o_stop o_next o_kind o_which o_at o_pointsRead o_bank o_isImage o_undos o_runRadix o_runOrder o_runNear o_runLimit o_runHalves o_power o_notedMany o_knownTold o_drawn o_quarter o_told p1 r_10 e_11) (cwV 1 hts (gv q_mX10_207 q_i_yX10_cosOf q_s_yX10_cosOf q_n_RX10 q_k_yX10_cosOf) rfl rfl rfl (by decide +kernel) ⟨by decide, by decide⟩) rfl rfl (Nat.le_of_ble_eq_true rfl) dX10_turn_31 ⟨Nat.zero_le _, Nat.zero_le _⟩ (ci := 10) rfl 0 rfl [0, 1, 2] [] [0, 1, 2] rfl rfl (ws2 := (wX10_turn cI cJ cZ h_o h_o_quarter h_o_told h_o_tape h_o_words h_o_isTold h_o_toldWave h_o_isPoint h_o_all h_o_roots h_o_laidRe h_o_laidIm h_o_byOrder h_o_noted1 h_o_counts h_o_binBy o_tapeSize (0 : Int32) o_fault o_faultPlace o_stop o_next o_kind o_which o_at o_pointsRead o_bank o_isImage o_undos o_runRadix o_runOrder o_runNear o_runLimit o_runHalves o_power o_notedMany o_knownTold o_drawn o_quarter o_told)) rfl (fun H locs hP hD hS => ?_)
        refine W.eq (g2 := F0 m 34 ls [.int r_10]) rfl ?_
        refine lv_goto (tgt := 43) hx hb dX10_turn_34 (by decide) ?_
        cases hf
        exact hret _ _ _ _ dX10_turn_43 hP hD hS
    · have hf := it_t c_6 hf
      refine lv_ldc (v := (-2147483648 : Int32)) hx hb hown (hts _ q_cX10_206) dX10_turn_22 ?_
      cases hf
      exact hret _ _ _ _ dX10_turn_24 hP hD hS
def wX10_stagesMany (cI cJ cZ : ClassId) (h_o h_o_tape h_o_words h_o_told h_o_isTold h_o_toldWave h_o_isPoint h_o_all h_o_quarter h_o_roots h_o_laidRe h_o_laidIm h_o_byOrder h_o_noted1 h_o_counts h_o_binBy : Nat) (o_tapeSize : Int32) (o_thrown : Int32) (o_fault : Int32) (o_faultPlace : Int32) (o_stop : Int32) (o_next : Int32) (o_kind : Int32) (o_which : Int32) (o_at : Int32) (o_pointsRead : Int32) (o_bank : Int32) (o_isImage : Int32) (o_undos : Int32) (o_runRadix : Int32) (o_runOrder : Int32) (o_runNear : Int32) (o_runLimit : Int32) (o_runHalves : Int32) (o_power : Int32) (o_notedMany : Int32) (o_knownTold : Int32) (o_drawn : Int64) : va_W := [(h_o, .inr (10, [.ref h_o_tape, .int o_tapeSize, .int o_thrown, .ref h_o_words, .int o_fault, .int o_faultPlace, .int o_stop, .int o_next, .int o_kind, .int o_which, .int o_at, .ref h_o_told, .ref h_o_isTold, .ref h_o_toldWave, .ref h_o_isPoint, .int o_pointsRead, .ref h_o_all, .int o_bank, .int o_isImage, .int o_undos, .int o_runRadix, .int o_runOrder, .int o_runNear, .int o_runLimit, .int o_runHalves, .ref h_o_quarter, .int o_power, .ref h_o_roots, .ref h_o_laidRe, .ref h_o_laidIm, .ref h_o_byOrder, .int o_notedMany, .int o_knownTold, .ref h_o_noted1, .ref h_o_counts, .ref h_o_binBy, .long o_drawn]))]
def fX10_stagesMany (o_runRadix : Int32) (o_power : Int32) : Option (Int32) :=
  if o_runRadix = (2 : Int32) then (
    bd1 (fX10_powerOf o_power) (fun r_4 =>
    some r_4)
  ) else (
    bd1 (fX10_powerOf o_power) (fun r_2 =>
    some ((r_2 + (1 : Int32)) / (2 : Int32)))
  )
set_option maxHeartbeats 4000000 in
set_option maxRecDepth 100000 in
theorem tX10_stagesMany (l : Launch) (G : va_G) (cI cJ cZ : ClassId) (sz : Nat) (h_o h_o_tape h_o_words h_o_told h_o_isTold h_o_toldWave h_o_isPoint h_o_all h_o_quarter h_o_roots h_o_laidRe h_o_laidIm h_o_byOrder h_o_noted1 h_o_counts h_o_binBy : Nat) (o_tapeSize : Int32) (o_thrown : Int32) (o_fault : Int32) (o_faultPlace : Int32) (o_stop : Int32) (o_next : Int32) (o_kind : Int32) (o_which : Int32) (o_at : Int32) (o_pointsRead : Int32) (o_bank : Int32) (o_isImage : Int32) (o_undos : Int32) (o_runRadix : Int32) (o_runOrder : Int32) (o_runNear : Int32) (o_runLimit : Int32) (o_runHalves : Int32) (o_power : Int32) (o_notedMany : Int32) (o_knownTold : Int32) (o_drawn : Int64) (r : Int32) (hf : fX10_stagesMany o_runRadix o_power = some r) : Met l yX10_stagesMany (Cond.code yX10_stagesMany cX10_stagesMany 1 (some .int) :: BIG) ({ frames := 1, cells := 0, slots := 0, locals := 20 } : Room) (cP G (TY3 cI cJ cZ) [.ref h_o] sz (wX10_stagesMany cI cJ cZ h_o h_o_tape h_o_words h_o_told h_o_isTold h_o_toldWave h_o_isPoint h_o_all h_o_quarter h_o_roots h_o_laidRe h_o_laidIm h_o_byOrder h_o_noted1 h_o_counts h_o_binBy o_tapeSize o_thrown o_fault o_faultPlace o_stop o_next o_kind o_which o_at o_pointsRead o_bank o_isImage o_undos o_runRadix o_runOrder o_runNear o_runLimit o_runHalves o_power o_notedMany o_knownTold o_drawn)) (cQ G (TY3 cI cJ cZ) sz (wX10_stagesMany cI cJ cZ h_o h_o_tape h_o_words h_o_told h_o_isTold h_o_toldWave h_o_isPoint h_o_all h_o_quarter h_o_roots h_o_laidRe h_o_laidIm h_o_byOrder h_o_noted1 h_o_counts h_o_binBy o_tapeSize o_thrown o_fault o_faultPlace o_stop o_next o_kind o_which o_at o_pointsRead o_bank o_isImage o_undos o_runRadix o_runOrder o_runNear o_runLimit o_runHalves o_power o_notedMany o_knownTold o_drawn) (wX10_stagesMany cI cJ cZ h_o h_o_tape h_o_words h_o_told h_o_isTold h_o_toldWave h_o_isPoint h_o_all h_o_quarter h_o_roots h_o_laidRe h_o_laidIm h_o_byOrder h_o_noted1 h_o_counts h_o_binBy o_tapeSize o_thrown o_fault o_faultPlace o_stop o_next o_kind o_which o_at o_pointsRead o_bank o_isImage o_undos o_runRadix o_runOrder o_runNear o_runLimit o_runHalves o_power o_notedMany o_knownTold o_drawn) (some (.int r))) 0 0 (va_A (wX10_stagesMany cI cJ cZ h_o h_o_tape h_o_words h_o_told h_o_isTold h_o_toldWave h_o_isPoint h_o_all h_o_quarter h_o_roots h_o_laidRe h_o_laidIm h_o_byOrder h_o_noted1 h_o_counts h_o_binBy o_tapeSize o_thrown o_fault o_faultPlace o_stop o_next o_kind o_which o_at o_pointsRead o_bank o_isImage o_undos o_runRadix o_runOrder o_runNear o_runLimit o_runHalves o_power o_notedMany o_knownTold o_drawn) sz) := by
  refine met_i (cc := cX10_stagesMany) (maxL := 1) (plainFor_of_name (by decide)) (Nat.le_of_ble_eq_true rfl) (fun p e s m below meth c A ls Q hx hb hml hts hown hK hP hD hS hA hl hret => ?_)
  have hown : s.vm.findClass RX10 = some m.cls := hown
  have hl : lv_has ls 1 [(0, .ref h_o)] := hl
  unfold fX10_stagesMany at hf
  obtain ⟨H, eH⟩ : ∃ H, H = s.heap := ⟨_, rfl⟩
  obtain ⟨locs, elocs⟩ : ∃ z : List Loc, z = [] := ⟨_, rfl⟩
  have hP : va_P G vwCl (wX10_stagesMany cI cJ cZ h_o h_o_tape h_o_words h_o_told h_o_isTold h_o_toldWave h_o_isPoint h_o_all h_o_quarter h_o_roots h_o_laidRe h_o_laidIm h_o_byOrder h_o_noted1 h_o_counts h_o_binBy o_tapeSize o_thrown o_fault o_faultPlace o_stop o_next o_kind o_which o_at o_pointsRead o_bank o_isImage o_undos o_runRadix o_runOrder o_runNear o_runLimit o_runHalves o_power o_notedMany o_knownTold o_drawn) H := by rw [eH]; exact hP
  have hS : va_S A s.heap H locs := by rw [eH, elocs]; exact hS
  suffices hgo : W p l e ({ frames := 1, cells := 0, slots := 0, locals := 20 } : Room) s m ([.ref h_o] : List Value).toArray below meth c H locs 0 0 Q (F0 m 0 ls []) by rw [eH, elocs] at hgo; exact hgo
  clear eH elocs
  refine lv_aload_n hx hb dX10_stagesMany_0 rfl (lv_at hl 0 rfl) ?_
  refine rd (ci := 10) (C := RX10) (T := TX10) (N := 37) hx hb hts inX10 hown hK hP 0 20 rfl rfl (by decide) (hts _ q_fX10_166) rfl dX10_stagesMany_1 ?_
  refine lv_iconst (v := (2 : Int32)) hx hb dX10_stagesMany_4 (by decide) ?_
  refine lv_icmp_ne (tgt := 15) hx hb dX10_stagesMany_5 (by decide) (fun c_1 => ?_) (fun c_1 => ?_)
  · have hf := it_f c_1 hf
    refine lv_aload_n hx hb dX10_stagesMany_15 rfl (lv_at hl 0 rfl) ?_
    obtain ⟨r_2, e_3, hf⟩ := bd1_x hf
    refine call_v [] [] ⟨hx, hb, hml, hown, hts⟩ hK hP hD hS hA hl.1 (tX10_powerOf l G cI cJ cZ H.size h_o h_o_tape h_o_words h_o_told h_o_isTold h_o_toldWave h_o_isPoint h_o_all h_o_quarter h_o_roots h_o_laidRe h_o_laidIm h_o_byOrder h_o_noted1 h_o_counts h_o_binBy o_tapeSize o_thrown o_fault o_faultPlace o_stop o_next o_kind o_which o_at o_pointsRead o_bank o_isImage o_undos o_runRadix o_runOrder o_runNear o_runLimit o_runHalves o_power o_notedMany o_knownTold o_drawn r_2 e_3) (cwV 0 hts (gv q_mX10_213 q_i_yX10_powerOf q_s_yX10_powerOf q_n_RX10 q_k_yX10_powerOf) rfl rfl rfl (by decide +kernel) ⟨by decide, by decide⟩) rfl rfl (Nat.le_of_ble_eq_true rfl) dX10_stagesMany_16 ⟨Nat.zero_le _, Nat.zero_le _⟩ (ci := 10) rfl 0 rfl [0] [] [0] rfl rfl (ws2 := (wX10_stagesMany cI cJ cZ h_o h_o_tape h_o_words h_o_told h_o_isTold h_o_toldWave h_o_isPoint h_o_all h_o_quarter h_o_roots h_o_laidRe h_o_laidIm h_o_byOrder h_o_noted1 h_o_counts h_o_binBy o_tapeSize o_thrown o_fault o_faultPlace o_stop o_next o_kind o_which o_at o_pointsRead o_bank o_isImage o_undos o_runRadix o_runOrder o_runNear o_runLimit o_runHalves o_power o_notedMany o_knownTold o_drawn)) rfl (fun H locs hP hD hS => ?_)
    refine W.eq (g2 := F0 m 19 ls [.int r_2]) rfl ?_
    refine lv_iconst (v := (1 : Int32)) hx hb dX10_stagesMany_19 (by decide) ?_
    refine lv_iadd hx hb dX10_stagesMany_20 ?_
    refine lv_iconst (v := (2 : Int32)) hx hb dX10_stagesMany_21 (by decide) ?_
    refine lv_idiv hx hb dX10_stagesMany_22 (by decide) ?_
    cases hf
    exact hret _ _ _ _ dX10_stagesMany_23 hP hD hS
  · have hf := it_t c_1 hf
    refine lv_aload_n hx hb dX10_stagesMany_8 rfl (lv_at hl 0 rfl) ?_
    obtain ⟨r_4, e_5, hf⟩ := bd1_x hf
    refine call_v [] [] ⟨hx, hb, hml, hown, hts⟩ hK hP hD hS hA hl.1 (tX10_powerOf l G cI cJ cZ H.size h_o h_o_tape h_o_words h_o_told h_o_isTold h_o_toldWave h_o_isPoint h_o_all h_o_quarter h_o_roots h_o_laidRe h_o_laidIm h_o_byOrder h_o_noted1 h_o_counts h_o_binBy o_tapeSize o_thrown o_fault o_faultPlace o_stop o_next o_kind o_which o_at o_pointsRead o_bank o_isImage o_undos o_runRadix o_runOrder o_runNear o_runLimit o_runHalves o_power o_notedMany o_knownTold o_drawn r_4 e_5) (cwV 0 hts (gv q_mX10_213 q_i_yX10_powerOf q_s_yX10_powerOf q_n_RX10 q_k_yX10_powerOf) rfl rfl rfl (by decide +kernel) ⟨by decide, by decide⟩) rfl rfl (Nat.le_of_ble_eq_true rfl) dX10_stagesMany_9 ⟨Nat.zero_le _, Nat.zero_le _⟩ (ci := 10) rfl 0 rfl [0] [] [0] rfl rfl (ws2 := (wX10_stagesMany cI cJ cZ h_o h_o_tape h_o_words h_o_told h_o_isTold h_o_toldWave h_o_isPoint h_o_all h_o_quarter h_o_roots h_o_laidRe h_o_laidIm h_o_byOrder h_o_noted1 h_o_counts h_o_binBy o_tapeSize o_thrown o_fault o_faultPlace o_stop o_next o_kind o_which o_at o_pointsRead o_bank o_isImage o_undos o_runRadix o_runOrder o_runNear o_runLimit o_runHalves o_power o_notedMany o_knownTold o_drawn)) rfl (fun H locs hP hD hS => ?_)
    refine W.eq (g2 := F0 m 12 ls [.int r_4]) rfl ?_
    refine lv_goto (tgt := 23) hx hb dX10_stagesMany_12 (by decide) ?_
    cases hf
    exact hret _ _ _ _ dX10_stagesMany_23 hP hD hS
def wX10_radixAt (cI cJ cZ : ClassId) (h_o h_o_tape h_o_words h_o_told h_o_isTold h_o_toldWave h_o_isPoint h_o_all h_o_quarter h_o_roots h_o_laidRe h_o_laidIm h_o_byOrder h_o_noted1 h_o_counts h_o_binBy : Nat) (o_tapeSize : Int32) (o_thrown : Int32) (o_fault : Int32) (o_faultPlace : Int32) (o_stop : Int32) (o_next : Int32) (o_kind : Int32) (o_which : Int32) (o_at : Int32) (o_pointsRead : Int32) (o_bank : Int32) (o_isImage : Int32) (o_undos : Int32) (o_runRadix : Int32) (o_runOrder : Int32) (o_runNear : Int32) (o_runLimit : Int32) (o_runHalves : Int32) (o_power : Int32) (o_notedMany : Int32) (o_knownTold : Int32) (o_drawn : Int64) : va_W := [(h_o, .inr (10, [.ref h_o_tape, .int o_tapeSize, .int o_thrown, .ref h_o_words, .int o_fault, .int o_faultPlace, .int o_stop, .int o_next, .int o_kind, .int o_which, .int o_at, .ref h_o_told, .ref h_o_isTold, .ref h_o_toldWave, .ref h_o_isPoint, .int o_pointsRead, .ref h_o_all, .int o_bank, .int o_isImage, .int o_undos, .int o_runRadix, .int o_runOrder, .int o_runNear, .int o_runLimit, .int o_runHalves, .ref h_o_quarter, .int o_power, .ref h_o_roots, .ref h_o_laidRe, .ref h_o_laidIm, .ref h_o_byOrder, .int o_notedMany, .int o_knownTold, .ref h_o_noted1, .ref h_o_counts, .ref h_o_binBy, .long o_drawn]))]
def fX10_radixAt_46 (o_runRadix : Int32) (s0 : Int32) : Option (Int32) :=
  if o_runRadix = (2 : Int32) then (
    some (2 : Int32)
  ) else (
    if s0 = 0 then (
      some (4 : Int32)
    ) else (
      some (2 : Int32)
    )
  )
def fX10_radixAt_45 (o_runRadix : Int32) : Option (Int32) :=
  fX10_radixAt_46 o_runRadix (0 : Int32)
def fX10_radixAt_38 (o_runRadix : Int32) (s0 : Int32) (s1 : Int32) : Option (Int32) :=
  if s0 = s1 then (
    fX10_radixAt_46 o_runRadix (1 : Int32)
  ) else (
    fX10_radixAt_45 o_runRadix
  )
def fX10_radixAt_15 (o_runRadix : Int32) (o_runOrder : Int32) (o_power : Int32) (v1 : Int32) (s0 : Int32) : Option (Int32) :=
  if s0 = 0 then (
    fX10_radixAt_45 o_runRadix
  ) else (
    if o_runOrder = 0 then (
      fX10_radixAt_38 o_runRadix v1 (0 : Int32)
    ) else (
      bd1 (fX10_stagesMany o_runRadix o_power) (fun r_6 =>
      fX10_radixAt_38 o_runRadix v1 (r_6 - (1 : Int32)))
    )
  )
def fX10_radixAt (o_runRadix : Int32) (o_runOrder : Int32) (o_power : Int32) (p1 : Int32) : Option (Int32) :=
  bd1 (fX10_powerOf o_power) (fun r_1 =>
  if (r_1 - r_1 / (2 : Int32) * (2 : Int32)) = (1 : Int32) then (
    fX10_radixAt_15 o_runRadix o_runOrder o_power p1 (1 : Int32)
  ) else (
    fX10_radixAt_15 o_runRadix o_runOrder o_power p1 (0 : Int32)
  ))
set_option maxHeartbeats 4000000 in
set_option maxRecDepth 100000 in
theorem tX10_radixAt (l : Launch) (G : va_G) (cI cJ cZ : ClassId) (sz : Nat) (h_o h_o_tape h_o_words h_o_told h_o_isTold h_o_toldWave h_o_isPoint h_o_all h_o_quarter h_o_roots h_o_laidRe h_o_laidIm h_o_byOrder h_o_noted1 h_o_counts h_o_binBy : Nat) (o_tapeSize : Int32) (o_thrown : Int32) (o_fault : Int32) (o_faultPlace : Int32) (o_stop : Int32) (o_next : Int32) (o_kind : Int32) (o_which : Int32) (o_at : Int32) (o_pointsRead : Int32) (o_bank : Int32) (o_isImage : Int32) (o_undos : Int32) (o_runRadix : Int32) (o_runOrder : Int32) (o_runNear : Int32) (o_runLimit : Int32) (o_runHalves : Int32) (o_power : Int32) (o_notedMany : Int32) (o_knownTold : Int32) (o_drawn : Int64) (p1 : Int32) (r : Int32) (hf : fX10_radixAt o_runRadix o_runOrder o_power p1 = some r) : Met l yX10_radixAt (Cond.code yX10_radixAt cX10_radixAt 4 (some .int) :: BIG) ({ frames := 2, cells := 0, slots := 0, locals := 40 } : Room) (cP G (TY3 cI cJ cZ) [.ref h_o, .int p1] sz (wX10_radixAt cI cJ cZ h_o h_o_tape h_o_words h_o_told h_o_isTold h_o_toldWave h_o_isPoint h_o_all h_o_quarter h_o_roots h_o_laidRe h_o_laidIm h_o_byOrder h_o_noted1 h_o_counts h_o_binBy o_tapeSize o_thrown o_fault o_faultPlace o_stop o_next o_kind o_which o_at o_pointsRead o_bank o_isImage o_undos o_runRadix o_runOrder o_runNear o_runLimit o_runHalves o_power o_notedMany o_knownTold o_drawn)) (cQ G (TY3 cI cJ cZ) sz (wX10_radixAt cI cJ cZ h_o h_o_tape h_o_words h_o_told h_o_isTold h_o_toldWave h_o_isPoint h_o_all h_o_quarter h_o_roots h_o_laidRe h_o_laidIm h_o_byOrder h_o_noted1 h_o_counts h_o_binBy o_tapeSize o_thrown o_fault o_faultPlace o_stop o_next o_kind o_which o_at o_pointsRead o_bank o_isImage o_undos o_runRadix o_runOrder o_runNear o_runLimit o_runHalves o_power o_notedMany o_knownTold o_drawn) (wX10_radixAt cI cJ cZ h_o h_o_tape h_o_words h_o_told h_o_isTold h_o_toldWave h_o_isPoint h_o_all h_o_quarter h_o_roots h_o_laidRe h_o_laidIm h_o_byOrder h_o_noted1 h_o_counts h_o_binBy o_tapeSize o_thrown o_fault o_faultPlace o_stop o_next o_kind o_which o_at o_pointsRead o_bank o_isImage o_undos o_runRadix o_runOrder o_runNear o_runLimit o_runHalves o_power o_notedMany o_knownTold o_drawn) (some (.int r))) 0 0 (va_A (wX10_radixAt cI cJ cZ h_o h_o_tape h_o_words h_o_told h_o_isTold h_o_toldWave h_o_isPoint h_o_all h_o_quarter h_o_roots h_o_laidRe h_o_laidIm h_o_byOrder h_o_noted1 h_o_counts h_o_binBy o_tapeSize o_thrown o_fault o_faultPlace o_stop o_next o_kind o_which o_at o_pointsRead o_bank o_isImage o_undos o_runRadix o_runOrder o_runNear o_runLimit o_runHalves o_power o_notedMany o_knownTold o_drawn) sz) := by
  refine met_i (cc := cX10_radixAt) (maxL := 4) (plainFor_of_name (by decide)) (Nat.le_of_ble_eq_true rfl) (fun p e s m below meth c A ls Q hx hb hml hts hown hK hP hD hS hA hl hret => ?_)
  have hown : s.vm.findClass RX10 = some m.cls := hown
  have hl : lv_has ls 4 [(0, .ref h_o), (1, .int p1)] := hl
  have j46 : ∀ (s0 : Int32) (H : Heap) (locs : List Loc) (ls : Array Slot), fX10_radixAt_46 o_runRadix s0 = some r → va_P G vwCl (wX10_radixAt cI cJ cZ h_o h_o_tape h_o_words h_o_told h_o_isTold h_o_toldWave h_o_isPoint h_o_all h_o_quarter h_o_roots h_o_laidRe h_o_laidIm h_o_byOrder h_o_noted1 h_o_counts h_o_binBy o_tapeSize o_thrown o_fault o_faultPlace o_stop o_next o_kind o_which o_at o_pointsRead o_bank o_isImage o_undos o_runRadix o_runOrder o_runNear o_runLimit o_runHalves o_power o_notedMany o_knownTold o_drawn) H → va_D A (wX10_radixAt cI cJ cZ h_o h_o_tape h_o_words h_o_told h_o_isTold h_o_toldWave h_o_isPoint h_o_all h_o_quarter h_o_roots h_o_laidRe h_o_laidIm h_o_byOrder h_o_noted1 h_o_counts h_o_binBy o_tapeSize o_thrown o_fault o_faultPlace o_stop o_next o_kind o_which o_at o_pointsRead o_bank o_isImage o_undos o_runRadix o_runOrder o_runNear o_runLimit o_runHalves o_power o_notedMany o_knownTold o_drawn) → va_S A s.heap H locs → lv_has ls 4 [(0, .ref h_o)] → W p l e ({ frames := 2, cells := 0, slots := 0, locals := 40 } : Room) s m ([.ref h_o, .int p1] : List Value).toArray below meth c H locs 0 0 Q (F0 m 46 ls [.int s0]) := by
    intro s0 H locs ls hf hP hD hS hl
    unfold fX10_radixAt_46 at hf
    refine lv_istore_n (lv' := [(3, .int s0), (0, .ref h_o)]) hx hb dX10_radixAt_46 rfl hl (by decide) rfl (fun ls hl => ?_)
    refine lv_aload_n hx hb dX10_radixAt_47 rfl (lv_at hl 1 rfl) ?_
    refine rd (ci := 10) (C := RX10) (T := TX10) (N := 37) hx hb hts inX10 hown hK hP 0 20 rfl rfl (by decide) (hts _ q_fX10_166) rfl dX10_radixAt_48 ?_
    refine lv_iconst (v := (2 : Int32)) hx hb dX10_radixAt_51 (by decide) ?_
    refine lv_icmp_eq (tgt := 59) hx hb dX10_radixAt_52 (by decide) (fun c_9 => ?_) (fun c_9 => ?_)
    · have hf := it_t c_9 hf
      refine lv_iconst (v := (2 : Int32)) hx hb dX10_radixAt_59 (by decide) ?_
      refine lv_goto (tgt := 64) hx hb dX10_radixAt_60 (by decide) ?_
      cases hf
      exact hret _ _ _ _ dX10_radixAt_64 hP hD hS
    · have hf := it_f c_9 hf
      refine lv_iload_n hx hb dX10_radixAt_55 rfl (lv_at hl 0 rfl) ?_
      refine lv_if_eq (tgt := 63) hx hb dX10_radixAt_56 (by decide) (fun c_10 => ?_) (fun c_10 => ?_)
      · have hf := it_t c_10 hf
        refine lv_iconst (v := (4 : Int32)) hx hb dX10_radixAt_63 (by decide) ?_
        cases hf
        exact hret _ _ _ _ dX10_radixAt_64 hP hD hS
      · have hf := it_f c_10 hf
        refine lv_iconst (v := (2 : Int32)) hx hb dX10_radixAt_59 (by decide) ?_
        refine lv_goto (tgt := 64) hx hb dX10_radixAt_60 (by decide) ?_
        cases hf
        exact hret _ _ _ _ dX10_radixAt_64 hP hD hS
  have j45 : ∀ (H : Heap) (locs : List Loc) (ls : Array Slot), fX10_radixAt_45 o_runRadix = some r → va_P G vwCl (wX10_radixAt cI cJ cZ h_o h_o_tape h_o_words h_o_told h_o_isTold h_o_toldWave h_o_isPoint h_o_all h_o_quarter h_o_roots h_o_laidRe h_o_laidIm h_o_byOrder h_o_noted1 h_o_counts h_o_binBy o_tapeSize o_thrown o_fault o_faultPlace o_stop o_next o_kind o_which o_at o_pointsRead o_bank o_isImage o_undos o_runRadix o_runOrder o_runNear o_runLimit o_runHalves o_power o_notedMany o_knownTold o_drawn) H → va_D A (wX10_radixAt cI cJ cZ h_o h_o_tape h_o_words h_o_told h_o_isTold h_o_toldWave h_o_isPoint h_o_all h_o_quarter h_o_roots h_o_laidRe h_o_laidIm h_o_byOrder h_o_noted1 h_o_counts h_o_binBy o_tapeSize o_thrown o_fault o_faultPlace o_stop o_next o_kind o_which o_at o_pointsRead o_bank o_isImage o_undos o_runRadix o_runOrder o_runNear o_runLimit o_runHalves o_power o_notedMany o_knownTold o_drawn) → va_S A s.heap H locs → lv_has ls 4 [(0, .ref h_o)] → W p l e ({ frames := 2, cells := 0, slots := 0, locals := 40 } : Room) s m ([.ref h_o, .int p1] : List Value).toArray below meth c H locs 0 0 Q (F0 m 45 ls []) := by
    intro  H locs ls hf hP hD hS hl
    unfold fX10_radixAt_45 at hf
    refine lv_iconst (v := (0 : Int32)) hx hb dX10_radixAt_45 (by decide) ?_
    exact j46 (0 : Int32) H locs ls hf hP hD hS (lv_sub hl [0] rfl)
  have j38 : ∀ (s0 : Int32) (s1 : Int32) (H : Heap) (locs : List Loc) (ls : Array Slot), fX10_radixAt_38 o_runRadix s0 s1 = some r → va_P G vwCl (wX10_radixAt cI cJ cZ h_o h_o_tape h_o_words h_o_told h_o_isTold h_o_toldWave h_o_isPoint h_o_all h_o_quarter h_o_roots h_o_laidRe h_o_laidIm h_o_byOrder h_o_noted1 h_o_counts h_o_binBy o_tapeSize o_thrown o_fault o_faultPlace o_stop o_next o_kind o_which o_at o_pointsRead o_bank o_isImage o_undos o_runRadix o_runOrder o_runNear o_runLimit o_runHalves o_power o_notedMany o_knownTold o_drawn) H → va_D A (wX10_radixAt cI cJ cZ h_o h_o_tape h_o_words h_o_told h_o_isTold h_o_toldWave h_o_isPoint h_o_all h_o_quarter h_o_roots h_o_laidRe h_o_laidIm h_o_byOrder h_o_noted1 h_o_counts h_o_binBy o_tapeSize o_thrown o_fault o_faultPlace o_stop o_next o_kind o_which o_at o_pointsRead o_bank o_isImage o_undos o_runRadix o_runOrder o_runNear o_runLimit o_runHalves o_power o_notedMany o_knownTold o_drawn) → va_S A s.heap H locs → lv_has ls 4 [(0, .ref h_o)] → W p l e ({ frames := 2, cells := 0, slots := 0, locals := 40 } : Room) s m ([.ref h_o, .int p1] : List Value).toArray below meth c H locs 0 0 Q (F0 m 38 ls [.int s1, .int s0]) := by
    intro s0 s1 H locs ls hf hP hD hS hl
    unfold fX10_radixAt_38 at hf
    refine lv_icmp_ne (tgt := 45) hx hb dX10_radixAt_38 (by decide) (fun c_8 => ?_) (fun c_8 => ?_)
    · have hf := it_f c_8 hf
      exact j45 H locs ls hf hP hD hS (lv_sub hl [0] rfl)
    · have hf := it_t c_8 hf
      refine lv_iconst (v := (1 : Int32)) hx hb dX10_radixAt_41 (by decide) ?_
      refine lv_goto (tgt := 46) hx hb dX10_radixAt_42 (by decide) ?_
      exact j46 (1 : Int32) H locs ls hf hP hD hS (lv_sub hl [0] rfl)
  have j15 : ∀ (v1 : Int32) (s0 : Int32) (H : Heap) (locs : List Loc) (ls : Array Slot), fX10_radixAt_15 o_runRadix o_runOrder o_power v1 s0 = some r → va_P G vwCl (wX10_radixAt cI cJ cZ h_o h_o_tape h_o_words h_o_told h_o_isTold h_o_toldWave h_o_isPoint h_o_all h_o_quarter h_o_roots h_o_laidRe h_o_laidIm h_o_byOrder h_o_noted1 h_o_counts h_o_binBy o_tapeSize o_thrown o_fault o_faultPlace o_stop o_next o_kind o_which o_at o_pointsRead o_bank o_isImage o_undos o_runRadix o_runOrder o_runNear o_runLimit o_runHalves o_power o_notedMany o_knownTold o_drawn) H → va_D A (wX10_radixAt cI cJ cZ h_o h_o_tape h_o_words h_o_told h_o_isTold h_o_toldWave h_o_isPoint h_o_all h_o_quarter h_o_roots h_o_laidRe h_o_laidIm h_o_byOrder h_o_noted1 h_o_counts h_o_binBy o_tapeSize o_thrown o_fault o_faultPlace o_stop o_next o_kind o_which o_at o_pointsRead o_bank o_isImage o_undos o_runRadix o_runOrder o_runNear o_runLimit o_runHalves o_power o_notedMany o_knownTold o_drawn) → va_S A s.heap H locs → lv_has ls 4 [(0, .ref h_o), (1, .int v1)] → W p l e ({ frames := 2, cells := 0, slots := 0, locals := 40 } : Room) s m ([.ref h_o, .int p1] : List Value).toArray below meth c H locs 0 0 Q (F0 m 15 ls [.int s0]) := by
    intro v1 s0 H locs ls hf hP hD hS hl
    unfold fX10_radixAt_15 at hf
    refine lv_istore_n (lv' := [(2, .int s0), (0, .ref h_o), (1, .int v1)]) hx hb dX10_radixAt_15 rfl hl (by decide) rfl (fun ls hl => ?_)
    refine lv_iload_n hx hb dX10_radixAt_16 rfl (lv_at hl 0 rfl) ?_
    refine lv_if_eq (tgt := 45) hx hb dX10_radixAt_17 (by decide) (fun c_4 => ?_) (fun c_4 => ?_)
    · have hf := it_t c_4 hf
      exact j45 H locs ls hf hP hD hS (lv_sub hl [1] rfl)
    · have hf := it_f c_4 hf
      refine lv_iload_n hx hb dX10_radixAt_20 rfl (lv_at hl 2 rfl) ?_
      refine lv_aload_n hx hb dX10_radixAt_21 rfl (lv_at hl 1 rfl) ?_
      refine rd (ci := 10) (C := RX10) (T := TX10) (N := 37) hx hb hts inX10 hown hK hP 0 21 rfl rfl (by decide) (hts _ q_fX10_169) rfl dX10_radixAt_22 ?_
      refine lv_if_ne (tgt := 32) hx hb dX10_radixAt_25 (by decide) (fun c_5 => ?_) (fun c_5 => ?_)
      · have hf := it_f c_5 hf
        refine lv_aload_n hx hb dX10_radixAt_32 rfl (lv_at hl 1 rfl) ?_
        obtain ⟨r_6, e_7, hf⟩ := bd1_x hf
        refine call_v [] [.int v1] ⟨hx, hb, hml, hown, hts⟩ hK hP hD hS hA hl.1 (tX10_stagesMany l G cI cJ cZ H.size h_o h_o_tape h_o_words h_o_told h_o_isTold h_o_toldWave h_o_isPoint h_o_all h_o_quarter h_o_roots h_o_laidRe h_o_laidIm h_o_byOrder h_o_noted1 h_o_counts h_o_binBy o_tapeSize o_thrown o_fault o_faultPlace o_stop o_next o_kind o_which o_at o_pointsRead o_bank o_isImage o_undos o_runRadix o_runOrder o_runNear o_runLimit o_runHalves o_power o_notedMany o_knownTold o_drawn r_6 e_7) (cwV 0 hts (gv q_mX10_216 q_i_yX10_stagesMany q_s_yX10_stagesMany q_n_RX10 q_k_yX10_stagesMany) rfl rfl rfl (by decide +kernel) ⟨by decide, by decide⟩) rfl rfl (Nat.le_of_ble_eq_true rfl) dX10_radixAt_33 ⟨Nat.zero_le _, Nat.zero_le _⟩ (ci := 10) rfl 0 rfl [0] [] [0] rfl rfl (ws2 := (wX10_radixAt cI cJ cZ h_o h_o_tape h_o_words h_o_told h_o_isTold h_o_toldWave h_o_isPoint h_o_all h_o_quarter h_o_roots h_o_laidRe h_o_laidIm h_o_byOrder h_o_noted1 h_o_counts h_o_binBy o_tapeSize o_thrown o_fault o_faultPlace o_stop o_next o_kind o_which o_at o_pointsRead o_bank o_isImage o_undos o_runRadix o_runOrder o_runNear o_runLimit o_runHalves o_power o_notedMany o_knownTold o_drawn)) rfl (fun H locs hP hD hS => ?_)
        refine W.eq (g2 := F0 m 36 ls [.int r_6, .int v1]) rfl ?_
        refine lv_iconst (v := (1 : Int32)) hx hb dX10_radixAt_36 (by decide) ?_
        refine lv_isub hx hb dX10_radixAt_37 ?_
        exact j38 v1 (r_6 - (1 : Int32)) H locs ls hf hP hD hS (lv_sub hl [1] rfl)
      · have hf := it_t c_5 hf
        refine lv_iconst (v := (0 : Int32)) hx hb dX10_radixAt_28 (by decide) ?_
        refine lv_goto (tgt := 38) hx hb dX10_radixAt_29 (by decide) ?_
        exact j38 v1 (0 : Int32) H locs ls hf hP hD hS (lv_sub hl [1] rfl)
  unfold fX10_radixAt at hf
  obtain ⟨H, eH⟩ : ∃ H, H = s.heap := ⟨_, rfl⟩
  obtain ⟨locs, elocs⟩ : ∃ z : List Loc, z = [] := ⟨_, rfl⟩
  have hP : va_P G vwCl (wX10_radixAt cI cJ cZ h_o h_o_tape h_o_words h_o_told h_o_isTold h_o_toldWave h_o_isPoint h_o_all h_o_quarter h_o_roots h_o_laidRe h_o_laidIm h_o_byOrder h_o_noted1 h_o_counts h_o_binBy o_tapeSize o_thrown o_fault o_faultPlace o_stop o_next o_kind o_which o_at o_pointsRead o_bank o_isImage o_undos o_runRadix o_runOrder o_runNear o_runLimit o_runHalves o_power o_notedMany o_knownTold o_drawn) H := by rw [eH]; exact hP
  have hS : va_S A s.heap H locs := by rw [eH, elocs]; exact hS
  suffices hgo : W p l e ({ frames := 2, cells := 0, slots := 0, locals := 40 } : Room) s m ([.ref h_o, .int p1] : List Value).toArray below meth c H locs 0 0 Q (F0 m 0 ls []) by rw [eH, elocs] at hgo; exact hgo
  clear eH elocs
  refine lv_aload_n hx hb dX10_radixAt_0 rfl (lv_at hl 0 rfl) ?_
  obtain ⟨r_1, e_2, hf⟩ := bd1_x hf
  refine call_v [] [] ⟨hx, hb, hml, hown, hts⟩ hK hP hD hS hA hl.1 (tX10_powerOf l G cI cJ cZ H.size h_o h_o_tape h_o_words h_o_told h_o_isTold h_o_toldWave h_o_isPoint h_o_all h_o_quarter h_o_roots h_o_laidRe h_o_laidIm h_o_byOrder h_o_noted1 h_o_counts h_o_binBy o_tapeSize o_thrown o_fault o_faultPlace o_stop o_next o_kind o_which o_at o_pointsRead o_bank o_isImage o_undos o_runRadix o_runOrder o_runNear o_runLimit o_runHalves o_power o_notedMany o_knownTold o_drawn r_1 e_2) (cwV 0 hts (gv q_mX10_213 q_i_yX10_powerOf q_s_yX10_powerOf q_n_RX10 q_k_yX10_powerOf) rfl rfl rfl (by decide +kernel) ⟨by decide, by decide⟩) rfl rfl (Nat.le_of_ble_eq_true rfl) dX10_radixAt_1 ⟨Nat.zero_le _, Nat.zero_le _⟩ (ci := 10) rfl 0 rfl [0] [] [0] rfl rfl (ws2 := (wX10_radixAt cI cJ cZ h_o h_o_tape h_o_words h_o_told h_o_isTold h_o_toldWave h_o_isPoint h_o_all h_o_quarter h_o_roots h_o_laidRe h_o_laidIm h_o_byOrder h_o_noted1 h_o_counts h_o_binBy o_tapeSize o_thrown o_fault o_faultPlace o_stop o_next o_kind o_which o_at o_pointsRead o_bank o_isImage o_undos o_runRadix o_runOrder o_runNear o_runLimit o_runHalves o_power o_notedMany o_knownTold o_drawn)) rfl (fun H locs hP hD hS => ?_)
  refine W.eq (g2 := F0 m 4 ls [.int r_1]) rfl ?_
  refine lv_iconst (v := (2 : Int32)) hx hb dX10_radixAt_4 (by decide) ?_
  refine lv_irem hx hb dX10_radixAt_5 (by decide) ?_
  refine lv_iconst (v := (1 : Int32)) hx hb dX10_radixAt_6 (by decide) ?_
  refine lv_icmp_ne (tgt := 14) hx hb dX10_radixAt_7 (by decide) (fun c_3 => ?_) (fun c_3 => ?_)
  · have hf := it_f c_3 hf
    refine lv_iconst (v := (0 : Int32)) hx hb dX10_radixAt_14 (by decide) ?_
    exact j15 p1 (0 : Int32) H locs ls hf hP hD hS (lv_sub hl [0, 1] rfl)
  · have hf := it_t c_3 hf
    refine lv_iconst (v := (1 : Int32)) hx hb dX10_radixAt_10 (by decide) ?_
    refine lv_goto (tgt := 15) hx hb dX10_radixAt_11 (by decide) ?_
    exact j15 p1 (1 : Int32) H locs ls hf hP hD hS (lv_sub hl [0, 1] rfl)
def wX10_digitOf (cI cJ cZ : ClassId) (h_o h_o_tape h_o_words h_o_told h_o_isTold h_o_toldWave h_o_isPoint h_o_all h_o_quarter h_o_roots h_o_laidRe h_o_laidIm h_o_byOrder h_o_noted1 h_o_counts h_o_binBy : Nat) (o_tapeSize : Int32) (o_thrown : Int32) (o_fault : Int32) (o_faultPlace : Int32) (o_stop : Int32) (o_next : Int32) (o_kind : Int32) (o_which : Int32) (o_at : Int32) (o_pointsRead : Int32) (o_bank : Int32) (o_isImage : Int32) (o_undos : Int32) (o_runRadix : Int32) (o_runOrder : Int32) (o_runNear : Int32) (o_runLimit : Int32) (o_runHalves : Int32) (o_power : Int32) (o_notedMany : Int32) (o_knownTold : Int32) (o_drawn : Int64) : va_W := [(h_o, .inr (10, [.ref h_o_tape, .int o_tapeSize, .int o_thrown, .ref h_o_words, .int o_fault, .int o_faultPlace, .int o_stop, .int o_next, .int o_kind, .int o_which, .int o_at, .ref h_o_told, .ref h_o_isTold, .ref h_o_toldWave, .ref h_o_isPoint, .int o_pointsRead, .ref h_o_all, .int o_bank, .int o_isImage, .int o_undos, .int o_runRadix, .int o_runOrder, .int o_runNear, .int o_runLimit, .int o_runHalves, .ref h_o_quarter, .int o_power, .ref h_o_roots, .ref h_o_laidRe, .ref h_o_laidIm, .ref h_o_byOrder, .int o_notedMany, .int o_knownTold, .ref h_o_noted1, .ref h_o_counts, .ref h_o_binBy, .long o_drawn]))]
def fX10_digitOf_33 (o_runRadix : Int32) (o_runOrder : Int32) (o_power : Int32) (v2 : Int32) (v3 : Int32) : Option (Int32) :=
  bd1 (fX10_stagesMany o_runRadix o_power) (fun r_9 =>
  bd1 (fX10_radixAt o_runRadix o_runOrder o_power ((r_9 - (1 : Int32)) - v2)) (fun r_11 =>
  gd (nz r_11) (
  some (v3 - v3 / r_11 * r_11))))
def fX10_digitOf_5 (o_runRadix : Int32) (o_runOrder : Int32) (o_power : Int32) : Nat → Int32 → Int32 → Int32 → Option (Int32)
  | 0, _, _, _ => none
  | n + 1, v2, v3, v4 =>
    if v2 ≤ v4 then (
      fX10_digitOf_33 o_runRadix o_runOrder o_power v2 v3
    ) else (
      bd1 (fX10_stagesMany o_runRadix o_power) (fun r_2 =>
      bd1 (fX10_radixAt o_runRadix o_runOrder o_power ((r_2 - (1 : Int32)) - v4)) (fun r_4 =>
      gd (nz r_4) (
      nm (v3 / r_4) (fun v3_7 =>
      nm (v4 + (1 : Int32)) (fun v4_8 =>
      fX10_digitOf_5 o_runRadix o_runOrder o_power n v2 v3_7 v4_8)))))
    )
def fX10_digitOf (o_runRadix : Int32) (o_runOrder : Int32) (o_power : Int32) (p1 : Int32) (p2 : Int32) : Option (Int32) :=
  fX10_digitOf_5 o_runRadix o_runOrder o_power FU p2 p1 (0 : Int32)
set_option maxHeartbeats 4000000 in
set_option maxRecDepth 100000 in
theorem tX10_digitOf (l : Launch) (G : va_G) (cI cJ cZ : ClassId) (sz : Nat) (h_o h_o_tape h_o_words h_o_told h_o_isTold h_o_toldWave h_o_isPoint h_o_all h_o_quarter h_o_roots h_o_laidRe h_o_laidIm h_o_byOrder h_o_noted1 h_o_counts h_o_binBy : Nat) (o_tapeSize : Int32) (o_thrown : Int32) (o_fault : Int32) (o_faultPlace : Int32) (o_stop : Int32) (o_next : Int32) (o_kind : Int32) (o_which : Int32) (o_at : Int32) (o_pointsRead : Int32) (o_bank : Int32) (o_isImage : Int32) (o_undos : Int32) (o_runRadix : Int32) (o_runOrder : Int32) (o_runNear : Int32) (o_runLimit : Int32) (o_runHalves : Int32) (o_power : Int32) (o_notedMany : Int32) (o_knownTold : Int32) (o_drawn : Int64) (p1 : Int32) (p2 : Int32) (r : Int32) (hf : fX10_digitOf o_runRadix o_runOrder o_power p1 p2 = some r) : Met l yX10_digitOf (Cond.code yX10_digitOf cX10_digitOf 5 (some .int) :: BIG) ({ frames := 3, cells := 0, slots := 0, locals := 63 } : Room) (cP G (TY3 cI cJ cZ) [.ref h_o, .int p1, .int p2] sz (wX10_digitOf cI cJ cZ h_o h_o_tape h_o_words h_o_told h_o_isTold h_o_toldWave h_o_isPoint h_o_all h_o_quarter h_o_roots h_o_laidRe h_o_laidIm h_o_byOrder h_o_noted1 h_o_counts h_o_binBy o_tapeSize o_thrown o_fault o_faultPlace o_stop o_next o_kind o_which o_at o_pointsRead o_bank o_isImage o_undos o_runRadix o_runOrder o_runNear o_runLimit o_runHalves o_power o_notedMany o_knownTold o_drawn)) (cQ G (TY3 cI cJ cZ) sz (wX10_digitOf cI cJ cZ h_o h_o_tape h_o_words h_o_told h_o_isTold h_o_toldWave h_o_isPoint h_o_all h_o_quarter h_o_roots h_o_laidRe h_o_laidIm h_o_byOrder h_o_noted1 h_o_counts h_o_binBy o_tapeSize o_thrown o_fault o_faultPlace o_stop o_next o_kind o_which o_at o_pointsRead o_bank o_isImage o_undos o_runRadix o_runOrder o_runNear o_runLimit o_runHalves o_power o_notedMany o_knownTold o_drawn) (wX10_digitOf cI cJ cZ h_o h_o_tape h_o_words h_o_told h_o_isTold h_o_toldWave h_o_isPoint h_o_all h_o_quarter h_o_roots h_o_laidRe h_o_laidIm h_o_byOrder h_o_noted1 h_o_counts h_o_binBy o_tapeSize o_thrown o_fault o_faultPlace o_stop o_next o_kind o_which o_at o_pointsRead o_bank o_isImage o_undos o_runRadix o_runOrder o_runNear o_runLimit o_runHalves o_power o_notedMany o_knownTold o_drawn) (some (.int r))) 0 0 (va_A (wX10_digitOf cI cJ cZ h_o h_o_tape h_o_words h_o_told h_o_isTold h_o_toldWave h_o_isPoint h_o_all h_o_quarter h_o_roots h_o_laidRe h_o_laidIm h_o_byOrder h_o_noted1 h_o_counts h_o_binBy o_tapeSize o_thrown o_fault o_faultPlace o_stop o_next o_kind o_which o_at o_pointsRead o_bank o_isImage o_undos o_runRadix o_runOrder o_runNear o_runLimit o_runHalves o_power o_notedMany o_knownTold o_drawn) sz) := by
  refine met_i (cc := cX10_digitOf) (maxL := 5) (plainFor_of_name (by decide)) (Nat.le_of_ble_eq_true rfl) (fun p e s m below meth c A ls Q hx hb hml hts hown hK hP hD hS hA hl hret => ?_)
  have hown : s.vm.findClass RX10 = some m.cls := hown
  have hl : lv_has ls 5 [(0, .ref h_o), (1, .int p1), (2, .int p2)] := hl
  have j33 : ∀ (v2 : Int32) (v3 : Int32) (H : Heap) (locs : List Loc) (ls : Array Slot), fX10_digitOf_33 o_runRadix o_runOrder o_power v2 v3 = some r → va_P G vwCl (wX10_digitOf cI cJ cZ h_o h_o_tape h_o_words h_o_told h_o_isTold h_o_toldWave h_o_isPoint h_o_all h_o_quarter h_o_roots h_o_laidRe h_o_laidIm h_o_byOrder h_o_noted1 h_o_counts h_o_binBy o_tapeSize o_thrown o_fault o_faultPlace o_stop o_next o_kind o_which o_at o_pointsRead o_bank o_isImage o_undos o_runRadix o_runOrder o_runNear o_runLimit o_runHalves o_power o_notedMany o_knownTold o_drawn) H → va_D A (wX10_digitOf cI cJ cZ h_o h_o_tape h_o_words h_o_told h_o_isTold h_o_toldWave h_o_isPoint h_o_all h_o_quarter h_o_roots h_o_laidRe h_o_laidIm h_o_byOrder h_o_noted1 h_o_counts h_o_binBy o_tapeSize o_thrown o_fault o_faultPlace o_stop o_next o_kind o_which o_at o_pointsRead o_bank o_isImage o_undos o_runRadix o_runOrder o_runNear o_runLimit o_runHalves o_power o_notedMany o_knownTold o_drawn) → va_S A s.heap H locs → lv_has ls 5 [(0, .ref h_o), (2, .int v2), (3, .int v3)] → W p l e ({ frames := 3, cells := 0, slots := 0, locals := 63 } : Room) s m ([.ref h_o, .int p1, .int p2] : List Value).toArray below meth c H locs 0 0 Q (F0 m 33 ls []) := by
    intro v2 v3 H locs ls hf hP hD hS hl
    unfold fX10_digitOf_33 at hf
    refine lv_iload_n hx hb dX10_digitOf_33 rfl (lv_at hl 2 rfl) ?_
    refine lv_aload_n hx hb dX10_digitOf_34 rfl (lv_at hl 0 rfl) ?_
    refine lv_aload_n hx hb dX10_digitOf_35 rfl (lv_at hl 0 rfl) ?_
    obtain ⟨r_9, e_10, hf⟩ := bd1_x hf
    refine call_v [] [.ref h_o, .int v3] ⟨hx, hb, hml, hown, hts⟩ hK hP hD hS hA hl.1 (tX10_stagesMany l G cI cJ cZ H.size h_o h_o_tape h_o_words h_o_told h_o_isTold h_o_toldWave h_o_isPoint h_o_all h_o_quarter h_o_roots h_o_laidRe h_o_laidIm h_o_byOrder h_o_noted1 h_o_counts h_o_binBy o_tapeSize o_thrown o_fault o_faultPlace o_stop o_next o_kind o_which o_at o_pointsRead o_bank o_isImage o_undos o_runRadix o_runOrder o_runNear o_runLimit o_runHalves o_power o_notedMany o_knownTold o_drawn r_9 e_10) (cwV 0 hts (gv q_mX10_216 q_i_yX10_stagesMany q_s_yX10_stagesMany q_n_RX10 q_k_yX10_stagesMany) rfl rfl rfl (by decide +kernel) ⟨by decide, by decide⟩) rfl rfl (Nat.le_of_ble_eq_true rfl) dX10_digitOf_36 ⟨Nat.zero_le _, Nat.zero_le _⟩ (ci := 10) rfl 0 rfl [0] [] [0] rfl rfl (ws2 := (wX10_digitOf cI cJ cZ h_o h_o_tape h_o_words h_o_told h_o_isTold h_o_toldWave h_o_isPoint h_o_all h_o_quarter h_o_roots h_o_laidRe h_o_laidIm h_o_byOrder h_o_noted1 h_o_counts h_o_binBy o_tapeSize o_thrown o_fault o_faultPlace o_stop o_next o_kind o_which o_at o_pointsRead o_bank o_isImage o_undos o_runRadix o_runOrder o_runNear o_runLimit o_runHalves o_power o_notedMany o_knownTold o_drawn)) rfl (fun H locs hP hD hS => ?_)
    refine W.eq (g2 := F0 m 39 ls [.int r_9, .ref h_o, .int v3]) rfl ?_
    refine lv_iconst (v := (1 : Int32)) hx hb dX10_digitOf_39 (by decide) ?_
    refine lv_isub hx hb dX10_digitOf_40 ?_
    refine lv_iload_n hx hb dX10_digitOf_41 rfl (lv_at hl 1 rfl) ?_
    refine lv_isub hx hb dX10_digitOf_42 ?_
    obtain ⟨r_11, e_12, hf⟩ := bd1_x hf
    refine call_v [.int ((r_9 - (1 : Int32)) - v2)] [.int v3] ⟨hx, hb, hml, hown, hts⟩ hK hP hD hS hA hl.1 (tX10_radixAt l G cI cJ cZ H.size h_o h_o_tape h_o_words h_o_told h_o_isTold h_o_toldWave h_o_isPoint h_o_all h_o_quarter h_o_roots h_o_laidRe h_o_laidIm h_o_byOrder h_o_noted1 h_o_counts h_o_binBy o_tapeSize o_thrown o_fault o_faultPlace o_stop o_next o_kind o_which o_at o_pointsRead o_bank o_isImage o_undos o_runRadix o_runOrder o_runNear o_runLimit o_runHalves o_power o_notedMany o_knownTold o_drawn ((r_9 - (1 : Int32)) - v2) r_11 e_12) (cwV 1 hts (gv q_mX10_219 q_i_yX10_radixAt q_s_yX10_radixAt q_n_RX10 q_k_yX10_radixAt) rfl rfl rfl (by decide +kernel) ⟨by decide, by decide⟩) rfl rfl (Nat.le_of_ble_eq_true rfl) dX10_digitOf_43 ⟨Nat.zero_le _, Nat.zero_le _⟩ (ci := 10) rfl 0 rfl [0] [] [0] rfl rfl (ws2 := (wX10_digitOf cI cJ cZ h_o h_o_tape h_o_words h_o_told h_o_isTold h_o_toldWave h_o_isPoint h_o_all h_o_quarter h_o_roots h_o_laidRe h_o_laidIm h_o_byOrder h_o_noted1 h_o_counts h_o_binBy o_tapeSize o_thrown o_fault o_faultPlace o_stop o_next o_kind o_which o_at o_pointsRead o_bank o_isImage o_undos o_runRadix o_runOrder o_runNear o_runLimit o_runHalves o_power o_notedMany o_knownTold o_drawn)) rfl (fun H locs hP hD hS => ?_)
    refine W.eq (g2 := F0 m 46 ls [.int r_11, .int v3]) rfl ?_
    obtain ⟨g_13, hf⟩ := gd_x hf
    refine lv_irem hx hb dX10_digitOf_46 (nz_x g_13) ?_
    cases hf
    exact hret _ _ _ _ dX10_digitOf_47 hP hD hS
  have j5 : ∀ (n : Nat) (v2 : Int32) (v3 : Int32) (v4 : Int32) (H : Heap) (locs : List Loc) (ls : Array Slot), fX10_digitOf_5 o_runRadix o_runOrder o_power n v2 v3 v4 = some r → va_P G vwCl (wX10_digitOf cI cJ cZ h_o h_o_tape h_o_words h_o_told h_o_isTold h_o_toldWave h_o_isPoint h_o_all h_o_quarter h_o_roots h_o_laidRe h_o_laidIm h_o_byOrder h_o_noted1 h_o_counts h_o_binBy o_tapeSize o_thrown o_fault o_faultPlace o_stop o_next o_kind o_which o_at o_pointsRead o_bank o_isImage o_undos o_runRadix o_runOrder o_runNear o_runLimit o_runHalves o_power o_notedMany o_knownTold o_drawn) H → va_D A (wX10_digitOf cI cJ cZ h_o h_o_tape h_o_words h_o_told h_o_isTold h_o_toldWave h_o_isPoint h_o_all h_o_quarter h_o_roots h_o_laidRe h_o_laidIm h_o_byOrder h_o_noted1 h_o_counts h_o_binBy o_tapeSize o_thrown o_fault o_faultPlace o_stop o_next o_kind o_which o_at o_pointsRead o_bank o_isImage o_undos o_runRadix o_runOrder o_runNear o_runLimit o_runHalves o_power o_notedMany o_knownTold o_drawn) → va_S A s.heap H locs → lv_has ls 5 [(0, .ref h_o), (2, .int v2), (3, .int v3), (4, .int v4)] → W p l e ({ frames := 3, cells := 0, slots := 0, locals := 63 } : Room) s m ([.ref h_o, .int p1, .int p2] : List Value).toArray below meth c H locs 0 0 Q (F0 m 5 ls []) := by
    intro n
    induction n with
    | zero =>
      intro v2 v3 v4 H locs ls hf
      have hf : (none : Option (Int32)) = some r := hf
      cases hf
    | succ n ih =>
      intro v2 v3 v4 H locs ls hf hP hD hS hl
      rw [fX10_digitOf_5.eq_2] at hf
      refine lv_iload hx hb dX10_digitOf_5 (lv_at hl 3 rfl) ?_
      refine lv_iload_n hx hb dX10_digitOf_7 rfl (lv_at hl 1 rfl) ?_
      refine lv_icmp_ge (tgt := 33) hx hb dX10_digitOf_8 (by decide) (fun c_1 => ?_) (fun c_1 => ?_)
      · have hf := it_t c_1 hf
        exact j33 v2 v3 H locs ls hf hP hD hS (lv_sub hl [0, 1, 2] rfl)
      · have hf := it_f c_1 hf
        refine lv_iload_n hx hb dX10_digitOf_11 rfl (lv_at hl 2 rfl) ?_
        refine lv_aload_n hx hb dX10_digitOf_12 rfl (lv_at hl 0 rfl) ?_
        refine lv_aload_n hx hb dX10_digitOf_13 rfl (lv_at hl 0 rfl) ?_
        obtain ⟨r_2, e_3, hf⟩ := bd1_x hf
        refine call_v [] [.ref h_o, .int v3] ⟨hx, hb, hml, hown, hts⟩ hK hP hD hS hA hl.1 (tX10_stagesMany l G cI cJ cZ H.size h_o h_o_tape h_o_words h_o_told h_o_isTold h_o_toldWave h_o_isPoint h_o_all h_o_quarter h_o_roots h_o_laidRe h_o_laidIm h_o_byOrder h_o_noted1 h_o_counts h_o_binBy o_tapeSize o_thrown o_fault o_faultPlace o_stop o_next o_kind o_which o_at o_pointsRead o_bank o_isImage o_undos o_runRadix o_runOrder o_runNear o_runLimit o_runHalves o_power o_notedMany o_knownTold o_drawn r_2 e_3) (cwV 0 hts (gv q_mX10_216 q_i_yX10_stagesMany q_s_yX10_stagesMany q_n_RX10 q_k_yX10_stagesMany) rfl rfl rfl (by decide +kernel) ⟨by decide, by decide⟩) rfl rfl (Nat.le_of_ble_eq_true rfl) dX10_digitOf_14 ⟨Nat.zero_le _, Nat.zero_le _⟩ (ci := 10) rfl 0 rfl [0] [] [0] rfl rfl (ws2 := (wX10_digitOf cI cJ cZ h_o h_o_tape h_o_words h_o_told h_o_isTold h_o_toldWave h_o_isPoint h_o_all h_o_quarter h_o_roots h_o_laidRe h_o_laidIm h_o_byOrder h_o_noted1 h_o_counts h_o_binBy o_tapeSize o_thrown o_fault o_faultPlace o_stop o_next o_kind o_which o_at o_pointsRead o_bank o_isImage o_undos o_runRadix o_runOrder o_runNear o_runLimit o_runHalves o_power o_notedMany o_knownTold o_drawn)) rfl (fun H locs hP hD hS => ?_)
        refine W.eq (g2 := F0 m 17 ls [.int r_2, .ref h_o, .int v3]) rfl ?_
        refine lv_iconst (v := (1 : Int32)) hx hb dX10_digitOf_17 (by decide) ?_
        refine lv_isub hx hb dX10_digitOf_18 ?_
        refine lv_iload hx hb dX10_digitOf_19 (lv_at hl 3 rfl) ?_
        refine lv_isub hx hb dX10_digitOf_21 ?_
        obtain ⟨r_4, e_5, hf⟩ := bd1_x hf
        refine call_v [.int ((r_2 - (1 : Int32)) - v4)] [.int v3] ⟨hx, hb, hml, hown, hts⟩ hK hP hD hS hA hl.1 (tX10_radixAt l G cI cJ cZ H.size h_o h_o_tape h_o_words h_o_told h_o_isTold h_o_toldWave h_o_isPoint h_o_all h_o_quarter h_o_roots h_o_laidRe h_o_laidIm h_o_byOrder h_o_noted1 h_o_counts h_o_binBy o_tapeSize o_thrown o_fault o_faultPlace o_stop o_next o_kind o_which o_at o_pointsRead o_bank o_isImage o_undos o_runRadix o_runOrder o_runNear o_runLimit o_runHalves o_power o_notedMany o_knownTold o_drawn ((r_2 - (1 : Int32)) - v4) r_4 e_5) (cwV 1 hts (gv q_mX10_219 q_i_yX10_radixAt q_s_yX10_radixAt q_n_RX10 q_k_yX10_radixAt) rfl rfl rfl (by decide +kernel) ⟨by decide, by decide⟩) rfl rfl (Nat.le_of_ble_eq_true rfl) dX10_digitOf_22 ⟨Nat.zero_le _, Nat.zero_le _⟩ (ci := 10) rfl 0 rfl [0] [] [0] rfl rfl (ws2 := (wX10_digitOf cI cJ cZ h_o h_o_tape h_o_words h_o_told h_o_isTold h_o_toldWave h_o_isPoint h_o_all h_o_quarter h_o_roots h_o_laidRe h_o_laidIm h_o_byOrder h_o_noted1 h_o_counts h_o_binBy o_tapeSize o_thrown o_fault o_faultPlace o_stop o_next o_kind o_which o_at o_pointsRead o_bank o_isImage o_undos o_runRadix o_runOrder o_runNear o_runLimit o_runHalves o_power o_notedMany o_knownTold o_drawn)) rfl (fun H locs hP hD hS => ?_)
        refine W.eq (g2 := F0 m 25 ls [.int r_4, .int v3]) rfl ?_
        obtain ⟨g_6, hf⟩ := gd_x hf
        refine lv_idiv hx hb dX10_digitOf_25 (nz_x g_6) ?_
        refine lv_topi (fun v3_7 ev3_7 => ?_)
        have hf := nm_x ev3_7 hf
        refine lv_istore_n (lv' := [(3, .int v3_7), (0, .ref h_o), (2, .int v2), (4, .int v4)]) hx hb dX10_digitOf_26 rfl hl (by decide) rfl (fun ls hl => ?_)
        obtain ⟨v4_8, ev4_8⟩ : ∃ y : Int32, y = v4 + (1 : Int32) := ⟨_, rfl⟩
        have hf := nm_x ev4_8 hf
        refine lv_iinc (v := v4_8) (lv' := [(4, .int v4_8), (3, .int v3_7), (0, .ref h_o), (2, .int v2)]) hx hb dX10_digitOf_27 hl (k := 3) rfl (by rw [ev4_8]; rfl) (by decide) rfl (fun ls hl => ?_)
        refine lv_goto (tgt := 5) hx hb dX10_digitOf_30 (by decide) ?_
        exact ih v2 v3_7 v4_8 H locs ls hf hP hD hS (lv_sub hl [2, 3, 1, 0] rfl)
  unfold fX10_digitOf at hf
  obtain ⟨H, eH⟩ : ∃ H, H = s.heap := ⟨_, rfl⟩
  obtain ⟨locs, elocs⟩ : ∃ z : List Loc, z = [] := ⟨_, rfl⟩
  have hP : va_P G vwCl (wX10_digitOf cI cJ cZ h_o h_o_tape h_o_words h_o_told h_o_isTold h_o_toldWave h_o_isPoint h_o_all h_o_quarter h_o_roots h_o_laidRe h_o_laidIm h_o_byOrder h_o_noted1 h_o_counts h_o_binBy o_tapeSize o_thrown o_fault o_faultPlace o_stop o_next o_kind o_which o_at o_pointsRead o_bank o_isImage o_undos o_runRadix o_runOrder o_runNear o_runLimit o_runHalves o_power o_notedMany o_knownTold o_drawn) H := by rw [eH]; exact hP
  have hS : va_S A s.heap H locs := by rw [eH, elocs]; exact hS
  suffices hgo : W p l e ({ frames := 3, cells := 0, slots := 0, locals := 63 } : Room) s m ([.ref h_o, .int p1, .int p2] : List Value).toArray below meth c H locs 0 0 Q (F0 m 0 ls []) by rw [eH, elocs] at hgo; exact hgo
  clear eH elocs
  refine lv_iload_n hx hb dX10_digitOf_0 rfl (lv_at hl 1 rfl) ?_
  refine lv_istore_n (lv' := [(3, .int p1), (0, .ref h_o), (1, .int p1), (2, .int p2)]) hx hb dX10_digitOf_1 rfl hl (by decide) rfl (fun ls hl => ?_)
  refine lv_iconst (v := (0 : Int32)) hx hb dX10_digitOf_2 (by decide) ?_
  refine lv_istore (lv' := [(4, .int (0 : Int32)), (3, .int p1), (0, .ref h_o), (1, .int p1), (2, .int p2)]) hx hb dX10_digitOf_3 hl (by decide) rfl (fun ls hl => ?_)
  exact j5 FU p2 p1 (0 : Int32) H locs ls hf hP hD hS (lv_sub hl [2, 4, 1, 0] rfl)
def wX10_reversedOf (cI cJ cZ : ClassId) (h_o h_o_tape h_o_words h_o_told h_o_isTold h_o_toldWave h_o_isPoint h_o_all h_o_quarter h_o_roots h_o_laidRe h_o_laidIm h_o_byOrder h_o_noted1 h_o_counts h_o_binBy : Nat) (o_tapeSize : Int32) (o_thrown : Int32) (o_fault : Int32) (o_faultPlace : Int32) (o_stop : Int32) (o_next : Int32) (o_kind : Int32) (o_which : Int32) (o_at : Int32) (o_pointsRead : Int32) (o_bank : Int32) (o_isImage : Int32) (o_undos : Int32) (o_runRadix : Int32) (o_runOrder : Int32) (o_runNear : Int32) (o_runLimit : Int32) (o_runHalves : Int32) (o_power : Int32) (o_notedMany : Int32) (o_knownTold : Int32) (o_drawn : Int64) : va_W := [(h_o, .inr (10, [.ref h_o_tape, .int o_tapeSize, .int o_thrown, .ref h_o_words, .int o_fault, .int o_faultPlace, .int o_stop, .int o_next, .int o_kind, .int o_which, .int o_at, .ref h_o_told, .ref h_o_isTold, .ref h_o_toldWave, .ref h_o_isPoint, .int o_pointsRead, .ref h_o_all, .int o_bank, .int o_isImage, .int o_undos, .int o_runRadix, .int o_runOrder, .int o_runNear, .int o_runLimit, .int o_runHalves, .ref h_o_quarter, .int o_power, .ref h_o_roots, .ref h_o_laidRe, .ref h_o_laidIm, .ref h_o_byOrder, .int o_notedMany, .int o_knownTold, .ref h_o_noted1, .ref h_o_counts, .ref h_o_binBy, .long o_drawn]))]
def fX10_reversedOf_12 (o_runRadix : Int32) (o_runOrder : Int32) (o_power : Int32) : Nat → Int32 → Int32 → Int32 → Option (Int32)
  | 0, _, _, _ => none
  | n + 1, v2, v3, v4 =>
    if v4 < 0 then (
      some v2
    ) else (
      bd1 (fX10_radixAt o_runRadix o_runOrder o_power v4) (fun r_5 =>
      gd (nz r_5) (
      nm ((v2 * r_5) + (v3 - v3 / r_5 * r_5)) (fun v2_8 =>
      gd (nz r_5) (
      nm (v3 / r_5) (fun v3_10 =>
      nm (v4 + (-1 : Int32)) (fun v4_11 =>
      fX10_reversedOf_12 o_runRadix o_runOrder o_power n v2_8 v3_10 v4_11))))))
    )
def fX10_reversedOf (o_runRadix : Int32) (o_runOrder : Int32) (o_power : Int32) (p1 : Int32) : Option (Int32) :=
  bd1 (fX10_stagesMany o_runRadix o_power) (fun r_1 =>
  nm (r_1 - (1 : Int32)) (fun v4_3 =>
  fX10_reversedOf_12 o_runRadix o_runOrder o_power FU (0 : Int32) p1 v4_3))
set_option maxHeartbeats 4000000 in
set_option maxRecDepth 100000 in
theorem tX10_reversedOf (l : Launch) (G : va_G) (cI cJ cZ : ClassId) (sz : Nat) (h_o h_o_tape h_o_words h_o_told h_o_isTold h_o_toldWave h_o_isPoint h_o_all h_o_quarter h_o_roots h_o_laidRe h_o_laidIm h_o_byOrder h_o_noted1 h_o_counts h_o_binBy : Nat) (o_tapeSize : Int32) (o_thrown : Int32) (o_fault : Int32) (o_faultPlace : Int32) (o_stop : Int32) (o_next : Int32) (o_kind : Int32) (o_which : Int32) (o_at : Int32) (o_pointsRead : Int32) (o_bank : Int32) (o_isImage : Int32) (o_undos : Int32) (o_runRadix : Int32) (o_runOrder : Int32) (o_runNear : Int32) (o_runLimit : Int32) (o_runHalves : Int32) (o_power : Int32) (o_notedMany : Int32) (o_knownTold : Int32) (o_drawn : Int64) (p1 : Int32) (r : Int32) (hf : fX10_reversedOf o_runRadix o_runOrder o_power p1 = some r) : Met l yX10_reversedOf (Cond.code yX10_reversedOf cX10_reversedOf 6 (some .int) :: BIG) ({ frames := 3, cells := 0, slots := 0, locals := 63 } : Room) (cP G (TY3 cI cJ cZ) [.ref h_o, .int p1] sz (wX10_reversedOf cI cJ cZ h_o h_o_tape h_o_words h_o_told h_o_isTold h_o_toldWave h_o_isPoint h_o_all h_o_quarter h_o_roots h_o_laidRe h_o_laidIm h_o_byOrder h_o_noted1 h_o_counts h_o_binBy o_tapeSize o_thrown o_fault o_faultPlace o_stop o_next o_kind o_which o_at o_pointsRead o_bank o_isImage o_undos o_runRadix o_runOrder o_runNear o_runLimit o_runHalves o_power o_notedMany o_knownTold o_drawn)) (cQ G (TY3 cI cJ cZ) sz (wX10_reversedOf cI cJ cZ h_o h_o_tape h_o_words h_o_told h_o_isTold h_o_toldWave h_o_isPoint h_o_all h_o_quarter h_o_roots h_o_laidRe h_o_laidIm h_o_byOrder h_o_noted1 h_o_counts h_o_binBy o_tapeSize o_thrown o_fault o_faultPlace o_stop o_next o_kind o_which o_at o_pointsRead o_bank o_isImage o_undos o_runRadix o_runOrder o_runNear o_runLimit o_runHalves o_power o_notedMany o_knownTold o_drawn) (wX10_reversedOf cI cJ cZ h_o h_o_tape h_o_words h_o_told h_o_isTold h_o_toldWave h_o_isPoint h_o_all h_o_quarter h_o_roots h_o_laidRe h_o_laidIm h_o_byOrder h_o_noted1 h_o_counts h_o_binBy o_tapeSize o_thrown o_fault o_faultPlace o_stop o_next o_kind o_which o_at o_pointsRead o_bank o_isImage o_undos o_runRadix o_runOrder o_runNear o_runLimit o_runHalves o_power o_notedMany o_knownTold o_drawn) (some (.int r))) 0 0 (va_A (wX10_reversedOf cI cJ cZ h_o h_o_tape h_o_words h_o_told h_o_isTold h_o_toldWave h_o_isPoint h_o_all h_o_quarter h_o_roots h_o_laidRe h_o_laidIm h_o_byOrder h_o_noted1 h_o_counts h_o_binBy o_tapeSize o_thrown o_fault o_faultPlace o_stop o_next o_kind o_which o_at o_pointsRead o_bank o_isImage o_undos o_runRadix o_runOrder o_runNear o_runLimit o_runHalves o_power o_notedMany o_knownTold o_drawn) sz) := by
  refine met_i (cc := cX10_reversedOf) (maxL := 6) (plainFor_of_name (by decide)) (Nat.le_of_ble_eq_true rfl) (fun p e s m below meth c A ls Q hx hb hml hts hown hK hP hD hS hA hl hret => ?_)
  have hown : s.vm.findClass RX10 = some m.cls := hown
  have hl : lv_has ls 6 [(0, .ref h_o), (1, .int p1)] := hl
  have j12 : ∀ (n : Nat) (v2 : Int32) (v3 : Int32) (v4 : Int32) (H : Heap) (locs : List Loc) (ls : Array Slot), fX10_reversedOf_12 o_runRadix o_runOrder o_power n v2 v3 v4 = some r → va_P G vwCl (wX10_reversedOf cI cJ cZ h_o h_o_tape h_o_words h_o_told h_o_isTold h_o_toldWave h_o_isPoint h_o_all h_o_quarter h_o_roots h_o_laidRe h_o_laidIm h_o_byOrder h_o_noted1 h_o_counts h_o_binBy o_tapeSize o_thrown o_fault o_faultPlace o_stop o_next o_kind o_which o_at o_pointsRead o_bank o_isImage o_undos o_runRadix o_runOrder o_runNear o_runLimit o_runHalves o_power o_notedMany o_knownTold o_drawn) H → va_D A (wX10_reversedOf cI cJ cZ h_o h_o_tape h_o_words h_o_told h_o_isTold h_o_toldWave h_o_isPoint h_o_all h_o_quarter h_o_roots h_o_laidRe h_o_laidIm h_o_byOrder h_o_noted1 h_o_counts h_o_binBy o_tapeSize o_thrown o_fault o_faultPlace o_stop o_next o_kind o_which o_at o_pointsRead o_bank o_isImage o_undos o_runRadix o_runOrder o_runNear o_runLimit o_runHalves o_power o_notedMany o_knownTold o_drawn) → va_S A s.heap H locs → lv_has ls 6 [(0, .ref h_o), (2, .int v2), (3, .int v3), (4, .int v4)] → W p l e ({ frames := 3, cells := 0, slots := 0, locals := 63 } : Room) s m ([.ref h_o, .int p1] : List Value).toArray below meth c H locs 0 0 Q (F0 m 12 ls []) := by
    intro n
    induction n with
    | zero =>
      intro v2 v3 v4 H locs ls hf
      have hf : (none : Option (Int32)) = some r := hf
      cases hf
    | succ n ih =>
      intro v2 v3 v4 H locs ls hf hP hD hS hl
      rw [fX10_reversedOf_12.eq_2] at hf
      refine lv_iload hx hb dX10_reversedOf_12 (lv_at hl 3 rfl) ?_
      refine lv_if_lt (tgt := 46) hx hb dX10_reversedOf_14 (by decide) (fun c_4 => ?_) (fun c_4 => ?_)
      · have hf := it_t c_4 hf
        refine lv_iload_n hx hb dX10_reversedOf_46 rfl (lv_at hl 1 rfl) ?_
        cases hf
        exact hret _ _ _ _ dX10_reversedOf_47 hP hD hS
      · have hf := it_f c_4 hf
        refine lv_aload_n hx hb dX10_reversedOf_17 rfl (lv_at hl 0 rfl) ?_
        refine lv_iload hx hb dX10_reversedOf_18 (lv_at hl 3 rfl) ?_
        obtain ⟨r_5, e_6, hf⟩ := bd1_x hf
        refine call_v [.int v4] [] ⟨hx, hb, hml, hown, hts⟩ hK hP hD hS hA hl.1 (tX10_radixAt l G cI cJ cZ H.size h_o h_o_tape h_o_words h_o_told h_o_isTold h_o_toldWave h_o_isPoint h_o_all h_o_quarter h_o_roots h_o_laidRe h_o_laidIm h_o_byOrder h_o_noted1 h_o_counts h_o_binBy o_tapeSize o_thrown o_fault o_faultPlace o_stop o_next o_kind o_which o_at o_pointsRead o_bank o_isImage o_undos o_runRadix o_runOrder o_runNear o_runLimit o_runHalves o_power o_notedMany o_knownTold o_drawn v4 r_5 e_6) (cwV 1 hts (gv q_mX10_219 q_i_yX10_radixAt q_s_yX10_radixAt q_n_RX10 q_k_yX10_radixAt) rfl rfl rfl (by decide +kernel) ⟨by decide, by decide⟩) rfl rfl (Nat.le_of_ble_eq_true rfl) dX10_reversedOf_20 ⟨Nat.zero_le _, Nat.zero_le _⟩ (ci := 10) rfl 0 rfl [0] [] [0] rfl rfl (ws2 := (wX10_reversedOf cI cJ cZ h_o h_o_tape h_o_words h_o_told h_o_isTold h_o_toldWave h_o_isPoint h_o_all h_o_quarter h_o_roots h_o_laidRe h_o_laidIm h_o_byOrder h_o_noted1 h_o_counts h_o_binBy o_tapeSize o_thrown o_fault o_faultPlace o_stop o_next o_kind o_which o_at o_pointsRead o_bank o_isImage o_undos o_runRadix o_runOrder o_runNear o_runLimit o_runHalves o_power o_notedMany o_knownTold o_drawn)) rfl (fun H locs hP hD hS => ?_)
        refine W.eq (g2 := F0 m 23 ls [.int r_5]) rfl ?_
        refine lv_istore (lv' := [(5, .int r_5), (0, .ref h_o), (2, .int v2), (3, .int v3), (4, .int v4)]) hx hb dX10_reversedOf_23 hl (by decide) rfl (fun ls hl => ?_)
        refine lv_iload_n hx hb dX10_reversedOf_25 rfl (lv_at hl 2 rfl) ?_
        refine lv_iload hx hb dX10_reversedOf_26 (lv_at hl 0 rfl) ?_
        refine lv_imul hx hb dX10_reversedOf_28 ?_
        refine lv_iload_n hx hb dX10_reversedOf_29 rfl (lv_at hl 3 rfl) ?_
        refine lv_iload hx hb dX10_reversedOf_30 (lv_at hl 0 rfl) ?_
        obtain ⟨g_7, hf⟩ := gd_x hf
        refine lv_irem hx hb dX10_reversedOf_32 (nz_x g_7) ?_
        refine lv_iadd hx hb dX10_reversedOf_33 ?_
        refine lv_topi (fun v2_8 ev2_8 => ?_)
        have hf := nm_x ev2_8 hf
        refine lv_istore_n (lv' := [(2, .int v2_8), (5, .int r_5), (0, .ref h_o), (3, .int v3), (4, .int v4)]) hx hb dX10_reversedOf_34 rfl hl (by decide) rfl (fun ls hl => ?_)
        refine lv_iload_n hx hb dX10_reversedOf_35 rfl (lv_at hl 3 rfl) ?_
        refine lv_iload hx hb dX10_reversedOf_36 (lv_at hl 1 rfl) ?_
        obtain ⟨g_9, hf⟩ := gd_x hf
        refine lv_idiv hx hb dX10_reversedOf_38 (nz_x g_9) ?_
        refine lv_topi (fun v3_10 ev3_10 => ?_)
        have hf := nm_x ev3_10 hf
        refine lv_istore_n (lv' := [(3, .int v3_10), (2, .int v2_8), (5, .int r_5), (0, .ref h_o), (4, .int v4)]) hx hb dX10_reversedOf_39 rfl hl (by decide) rfl (fun ls hl => ?_)
        obtain ⟨v4_11, ev4_11⟩ : ∃ y : Int32, y = v4 + (-1 : Int32) := ⟨_, rfl⟩
        have hf := nm_x ev4_11 hf
        refine lv_iinc (v := v4_11) (lv' := [(4, .int v4_11), (3, .int v3_10), (2, .int v2_8), (5, .int r_5), (0, .ref h_o)]) hx hb dX10_reversedOf_40 hl (k := 4) rfl (by rw [ev4_11]; rfl) (by decide) rfl (fun ls hl => ?_)
        refine lv_goto (tgt := 12) hx hb dX10_reversedOf_43 (by decide) ?_
        exact ih v2_8 v3_10 v4_11 H locs ls hf hP hD hS (lv_sub hl [4, 2, 1, 0] rfl)
  unfold fX10_reversedOf at hf
  obtain ⟨H, eH⟩ : ∃ H, H = s.heap := ⟨_, rfl⟩
  obtain ⟨locs, elocs⟩ : ∃ z : List Loc, z = [] := ⟨_, rfl⟩
  have hP : va_P G vwCl (wX10_reversedOf cI cJ cZ h_o h_o_tape h_o_words h_o_told h_o_isTold h_o_toldWave h_o_isPoint h_o_all h_o_quarter h_o_roots h_o_laidRe h_o_laidIm h_o_byOrder h_o_noted1 h_o_counts h_o_binBy o_tapeSize o_thrown o_fault o_faultPlace o_stop o_next o_kind o_which o_at o_pointsRead o_bank o_isImage o_undos o_runRadix o_runOrder o_runNear o_runLimit o_runHalves o_power o_notedMany o_knownTold o_drawn) H := by rw [eH]; exact hP
  have hS : va_S A s.heap H locs := by rw [eH, elocs]; exact hS
  suffices hgo : W p l e ({ frames := 3, cells := 0, slots := 0, locals := 63 } : Room) s m ([.ref h_o, .int p1] : List Value).toArray below meth c H locs 0 0 Q (F0 m 0 ls []) by rw [eH, elocs] at hgo; exact hgo
  clear eH elocs
  refine lv_iconst (v := (0 : Int32)) hx hb dX10_reversedOf_0 (by decide) ?_
  refine lv_istore_n (lv' := [(2, .int (0 : Int32)), (0, .ref h_o), (1, .int p1)]) hx hb dX10_reversedOf_1 rfl hl (by decide) rfl (fun ls hl => ?_)
  refine lv_iload_n hx hb dX10_reversedOf_2 rfl (lv_at hl 2 rfl) ?_
  refine lv_istore_n (lv' := [(3, .int p1), (2, .int (0 : Int32)), (0, .ref h_o), (1, .int p1)]) hx hb dX10_reversedOf_3 rfl hl (by decide) rfl (fun ls hl => ?_)
  refine lv_aload_n hx hb dX10_reversedOf_4 rfl (lv_at hl 2 rfl) ?_
  obtain ⟨r_1, e_2, hf⟩ := bd1_x hf
  refine call_v [] [] ⟨hx, hb, hml, hown, hts⟩ hK hP hD hS hA hl.1 (tX10_stagesMany l G cI cJ cZ H.size h_o h_o_tape h_o_words h_o_told h_o_isTold h_o_toldWave h_o_isPoint h_o_all h_o_quarter h_o_roots h_o_laidRe h_o_laidIm h_o_byOrder h_o_noted1 h_o_counts h_o_binBy o_tapeSize o_thrown o_fault o_faultPlace o_stop o_next o_kind o_which o_at o_pointsRead o_bank o_isImage o_undos o_runRadix o_runOrder o_runNear o_runLimit o_runHalves o_power o_notedMany o_knownTold o_drawn r_1 e_2) (cwV 0 hts (gv q_mX10_216 q_i_yX10_stagesMany q_s_yX10_stagesMany q_n_RX10 q_k_yX10_stagesMany) rfl rfl rfl (by decide +kernel) ⟨by decide, by decide⟩) rfl rfl (Nat.le_of_ble_eq_true rfl) dX10_reversedOf_5 ⟨Nat.zero_le _, Nat.zero_le _⟩ (ci := 10) rfl 0 rfl [0] [] [0] rfl rfl (ws2 := (wX10_reversedOf cI cJ cZ h_o h_o_tape h_o_words h_o_told h_o_isTold h_o_toldWave h_o_isPoint h_o_all h_o_quarter h_o_roots h_o_laidRe h_o_laidIm h_o_byOrder h_o_noted1 h_o_counts h_o_binBy o_tapeSize o_thrown o_fault o_faultPlace o_stop o_next o_kind o_which o_at o_pointsRead o_bank o_isImage o_undos o_runRadix o_runOrder o_runNear o_runLimit o_runHalves o_power o_notedMany o_knownTold o_drawn)) rfl (fun H locs hP hD hS => ?_)
  refine W.eq (g2 := F0 m 8 ls [.int r_1]) rfl ?_
  refine lv_iconst (v := (1 : Int32)) hx hb dX10_reversedOf_8 (by decide) ?_
  refine lv_isub hx hb dX10_reversedOf_9 ?_
  refine lv_topi (fun v4_3 ev4_3 => ?_)
  have hf := nm_x ev4_3 hf
  refine lv_istore (lv' := [(4, .int v4_3), (3, .int p1), (2, .int (0 : Int32)), (0, .ref h_o), (1, .int p1)]) hx hb dX10_reversedOf_10 hl (by decide) rfl (fun ls hl => ?_)
  exact j12 FU (0 : Int32) p1 v4_3 H locs ls hf hP hD hS (lv_sub hl [3, 2, 1, 0] rfl)
def wX10_reversed (cI cJ cZ : ClassId) (h_o h_o_told h_o_tape h_o_words h_o_isTold h_o_toldWave h_o_isPoint h_o_all h_o_quarter h_o_roots h_o_laidRe h_o_laidIm h_o_byOrder h_o_noted1 h_o_counts h_o_binBy : Nat) (o_tapeSize : Int32) (o_thrown : Int32) (o_fault : Int32) (o_faultPlace : Int32) (o_stop : Int32) (o_next : Int32) (o_kind : Int32) (o_which : Int32) (o_at : Int32) (o_pointsRead : Int32) (o_bank : Int32) (o_isImage : Int32) (o_undos : Int32) (o_runRadix : Int32) (o_runOrder : Int32) (o_runNear : Int32) (o_runLimit : Int32) (o_runHalves : Int32) (o_power : Int32) (o_notedMany : Int32) (o_knownTold : Int32) (o_drawn : Int64) (o_told : Nat → Int32) : va_W := [(h_o, .inr (10, [.ref h_o_tape, .int o_tapeSize, .int o_thrown, .ref h_o_words, .int o_fault, .int o_faultPlace, .int o_stop, .int o_next, .int o_kind, .int o_which, .int o_at, .ref h_o_told, .ref h_o_isTold, .ref h_o_toldWave, .ref h_o_isPoint, .int o_pointsRead, .ref h_o_all, .int o_bank, .int o_isImage, .int o_undos, .int o_runRadix, .int o_runOrder, .int o_runNear, .int o_runLimit, .int o_runHalves, .ref h_o_quarter, .int o_power, .ref h_o_roots, .ref h_o_laidRe, .ref h_o_laidIm, .ref h_o_byOrder, .int o_notedMany, .int o_knownTold, .ref h_o_noted1, .ref h_o_counts, .ref h_o_binBy, .long o_drawn])), (h_o_told, .inl (cI, 12, .inl o_told))]
def fX10_reversed (o_thrown : Int32) (o_runRadix : Int32) (o_runOrder : Int32) (o_power : Int32) (o_told : Nat → Int32) (p1 : Int32) : Option (Int32 × Int32) :=
  bd1 (fX10_isPlace o_told p1) (fun r_1 =>
  if r_1 = 0 then (
    some ((-1 : Int32), (0 : Int32))
  ) else (
    bd1 (fX10_reversedOf o_runRadix o_runOrder o_power p1) (fun r_4 =>
    some (r_4, (0 : Int32)))
  ))
set_option maxHeartbeats 4000000 in
set_option maxRecDepth 100000 in
theorem tX10_reversed (l : Launch) (G : va_G) (cI cJ cZ : ClassId) (sz : Nat) (h_o h_o_told h_o_tape h_o_words h_o_isTold h_o_toldWave h_o_isPoint h_o_all h_o_quarter h_o_roots h_o_laidRe h_o_laidIm h_o_byOrder h_o_noted1 h_o_counts h_o_binBy : Nat) (o_tapeSize : Int32) (o_thrown : Int32) (o_fault : Int32) (o_faultPlace : Int32) (o_stop : Int32) (o_next : Int32) (o_kind : Int32) (o_which : Int32) (o_at : Int32) (o_pointsRead : Int32) (o_bank : Int32) (o_isImage : Int32) (o_undos : Int32) (o_runRadix : Int32) (o_runOrder : Int32) (o_runNear : Int32) (o_runLimit : Int32) (o_runHalves : Int32) (o_power : Int32) (o_notedMany : Int32) (o_knownTold : Int32) (o_drawn : Int64) (o_told : Nat → Int32) (p1 : Int32) (r : Int32) (out_o_thrown : Int32) (hf : fX10_reversed o_thrown o_runRadix o_runOrder o_power o_told p1 = some (r, out_o_thrown)) : Met l yX10_reversed (Cond.code yX10_reversed cX10_reversed 2 (some .int) :: BIG) ({ frames := 4, cells := 0, slots := 0, locals := 88 } : Room) (cP G (TY3 cI cJ cZ) [.ref h_o, .int p1] sz (wX10_reversed cI cJ cZ h_o h_o_told h_o_tape h_o_words h_o_isTold h_o_toldWave h_o_isPoint h_o_all h_o_quarter h_o_roots h_o_laidRe h_o_laidIm h_o_byOrder h_o_noted1 h_o_counts h_o_binBy o_tapeSize o_thrown o_fault o_faultPlace o_stop o_next o_kind o_which o_at o_pointsRead o_bank o_isImage o_undos o_runRadix o_runOrder o_runNear o_runLimit o_runHalves o_power o_notedMany o_knownTold o_drawn o_told)) (cQ G (TY3 cI cJ cZ) sz (wX10_reversed cI cJ cZ h_o h_o_told h_o_tape h_o_words h_o_isTold h_o_toldWave h_o_isPoint h_o_all h_o_quarter h_o_roots h_o_laidRe h_o_laidIm h_o_byOrder h_o_noted1 h_o_counts h_o_binBy o_tapeSize o_thrown o_fault o_faultPlace o_stop o_next o_kind o_which o_at o_pointsRead o_bank o_isImage o_undos o_runRadix o_runOrder o_runNear o_runLimit o_runHalves o_power o_notedMany o_knownTold o_drawn o_told) (wX10_reversed cI cJ cZ h_o h_o_told h_o_tape h_o_words h_o_isTold h_o_toldWave h_o_isPoint h_o_all h_o_quarter h_o_roots h_o_laidRe h_o_laidIm h_o_byOrder h_o_noted1 h_o_counts h_o_binBy o_tapeSize out_o_thrown o_fault o_faultPlace o_stop o_next o_kind o_which o_at o_pointsRead o_bank o_isImage o_undos o_runRadix o_runOrder o_runNear o_runLimit o_runHalves o_power o_notedMany o_knownTold o_drawn o_told) (some (.int r))) 0 0 (va_A (wX10_reversed cI cJ cZ h_o h_o_told h_o_tape h_o_words h_o_isTold h_o_toldWave h_o_isPoint h_o_all h_o_quarter h_o_roots h_o_laidRe h_o_laidIm h_o_byOrder h_o_noted1 h_o_counts h_o_binBy o_tapeSize o_thrown o_fault o_faultPlace o_stop o_next o_kind o_which o_at o_pointsRead o_bank o_isImage o_undos o_runRadix o_runOrder o_runNear o_runLimit o_runHalves o_power o_notedMany o_knownTold o_drawn o_told) sz) := by
  refine met_i (cc := cX10_reversed) (maxL := 2) (plainFor_of_name (by decide)) (Nat.le_of_ble_eq_true rfl) (fun p e s m below meth c A ls Q hx hb hml hts hown hK hP hD hS hA hl hret => ?_)
  have hown : s.vm.findClass RX10 = some m.cls := hown
  have hl : lv_has ls 2 [(0, .ref h_o), (1, .int p1)] := hl
  unfold fX10_reversed at hf
  obtain ⟨H, eH⟩ : ∃ H, H = s.heap := ⟨_, rfl⟩
  obtain ⟨locs, elocs⟩ : ∃ z : List Loc, z = [] := ⟨_, rfl⟩
  have hP : va_P G vwCl (wX10_reversed cI cJ cZ h_o h_o_told h_o_tape h_o_words h_o_isTold h_o_toldWave h_o_isPoint h_o_all h_o_quarter h_o_roots h_o_laidRe h_o_laidIm h_o_byOrder h_o_noted1 h_o_counts h_o_binBy o_tapeSize o_thrown o_fault o_faultPlace o_stop o_next o_kind o_which o_at o_pointsRead o_bank o_isImage o_undos o_runRadix o_runOrder o_runNear o_runLimit o_runHalves o_power o_notedMany o_knownTold o_drawn o_told) H := by rw [eH]; exact hP
  have hS : va_S A s.heap H locs := by rw [eH, elocs]; exact hS
  suffices hgo : W p l e ({ frames := 4, cells := 0, slots := 0, locals := 88 } : Room) s m ([.ref h_o, .int p1] : List Value).toArray below meth c H locs 0 0 Q (F0 m 0 ls []) by rw [eH, elocs] at hgo; exact hgo
  clear eH elocs
  refine lv_aload_n hx hb dX10_reversed_0 rfl (lv_at hl 0 rfl) ?_
  refine lv_iconst (v := (0 : Int32)) hx hb dX10_reversed_1 (by decide) ?_
  refine wr (ci := 10) (C := RX10) (T := TX10) (N := 37) hx hb hts inX10 tyX10 tyX10_ok nmX10 hown hK hP hD hS 0 2 rfl rfl (by decide) (hts _ q_fX10_70) rfl rfl rfl (Nat.le_of_ble_eq_true rfl) dX10_reversed_2 (ws2 := (wX10_reversed cI cJ cZ h_o h_o_told h_o_tape h_o_words h_o_isTold h_o_toldWave h_o_isPoint h_o_all h_o_quarter h_o_roots h_o_laidRe h_o_laidIm h_o_byOrder h_o_noted1 h_o_counts h_o_binBy o_tapeSize (0 : Int32) o_fault o_faultPlace o_stop o_next o_kind o_which o_at o_pointsRead o_bank o_isImage o_undos o_runRadix o_runOrder o_runNear o_runLimit o_runHalves o_power o_notedMany o_knownTold o_drawn o_told)) rfl (fun H locs hP hD hS => ?_)
  refine lv_aload_n hx hb dX10_reversed_5 rfl (lv_at hl 0 rfl) ?_
  refine lv_iload_n hx hb dX10_reversed_6 rfl (lv_at hl 1 rfl) ?_
  obtain ⟨r_1, e_2, hf⟩ := bd1_x hf
  refine call_v [.int p1] [] ⟨hx, hb, hml, hown, hts⟩ hK hP hD hS hA hl.1 (tX10_isPlace l G cI cJ cZ H.size h_o h_o_told h_o_tape h_o_words h_o_isTold h_o_toldWave h_o_isPoint h_o_all h_o_quarter h_o_roots h_o_laidRe h_o_laidIm h_o_byOrder h_o_noted1 h_o_counts h_o_binBy o_tapeSize (0 : Int32) o_fault o_faultPlace o_stop o_next o_kind o_which o_at o_pointsRead o_bank o_isImage o_undos o_runRadix o_runOrder o_runNear o_runLimit o_runHalves o_power o_notedMany o_knownTold o_drawn o_told p1 r_1 e_2) (cwV 1 hts (gv q_mX10_203 q_i_yX10_isPlace q_s_yX10_isPlace q_n_RX10 q_k_yX10_isPlace) rfl rfl rfl (by decide +kernel) ⟨by decide, by decide⟩) rfl rfl (Nat.le_of_ble_eq_true rfl) dX10_reversed_7 ⟨Nat.zero_le _, Nat.zero_le _⟩ (ci := 10) rfl 0 rfl [0, 1] [] [0, 1] rfl rfl (ws2 := (wX10_reversed cI cJ cZ h_o h_o_told h_o_tape h_o_words h_o_isTold h_o_toldWave h_o_isPoint h_o_all h_o_quarter h_o_roots h_o_laidRe h_o_laidIm h_o_byOrder h_o_noted1 h_o_counts h_o_binBy o_tapeSize (0 : Int32) o_fault o_faultPlace o_stop o_next o_kind o_which o_at o_pointsRead o_bank o_isImage o_undos o_runRadix o_runOrder o_runNear o_runLimit o_runHalves o_power o_notedMany o_knownTold o_drawn o_told)) rfl (fun H locs hP hD hS => ?_)
  refine W.eq (g2 := F0 m 10 ls [.int r_1]) rfl ?_
  refine lv_if_eq (tgt := 21) hx hb dX10_reversed_10 (by decide) (fun c_3 => ?_) (fun c_3 => ?_)
  · have hf := it_t c_3 hf
    refine lv_iconst (v := (-1 : Int32)) hx hb dX10_reversed_21 (by decide) ?_
    cases hf
    exact hret _ _ _ _ dX10_reversed_22 hP hD hS
  · have hf := it_f c_3 hf
    refine lv_aload_n hx hb dX10_reversed_13 rfl (lv_at hl 0 rfl) ?_
    refine lv_iload_n hx hb dX10_reversed_14 rfl (lv_at hl 1 rfl) ?_
    obtain ⟨r_4, e_5, hf⟩ := bd1_x hf
    refine call_v [.int p1] [] ⟨hx, hb, hml, hown, hts⟩ hK hP hD hS hA hl.1 (tX10_reversedOf l G cI cJ cZ H.size h_o h_o_tape h_o_words h_o_told h_o_isTold h_o_toldWave h_o_isPoint h_o_all h_o_quarter h_o_roots h_o_laidRe h_o_laidIm h_o_byOrder h_o_noted1 h_o_counts h_o_binBy o_tapeSize (0 : Int32) o_fault o_faultPlace o_stop o_next o_kind o_which o_at o_pointsRead o_bank o_isImage o_undos o_runRadix o_runOrder o_runNear o_runLimit o_runHalves o_power o_notedMany o_knownTold o_drawn p1 r_4 e_5) (cwV 1 hts (gv q_mX10_222 q_i_yX10_reversedOf q_s_yX10_reversedOf q_n_RX10 q_k_yX10_reversedOf) rfl rfl rfl (by decide +kernel) ⟨by decide, by decide⟩) rfl rfl (Nat.le_of_ble_eq_true rfl) dX10_reversed_15 ⟨Nat.zero_le _, Nat.zero_le _⟩ (ci := 10) rfl 0 rfl [0] [1] [1, 0] rfl rfl (ws2 := (wX10_reversed cI cJ cZ h_o h_o_told h_o_tape h_o_words h_o_isTold h_o_toldWave h_o_isPoint h_o_all h_o_quarter h_o_roots h_o_laidRe h_o_laidIm h_o_byOrder h_o_noted1 h_o_counts h_o_binBy o_tapeSize (0 : Int32) o_fault o_faultPlace o_stop o_next o_kind o_which o_at o_pointsRead o_bank o_isImage o_undos o_runRadix o_runOrder o_runNear o_runLimit o_runHalves o_power o_notedMany o_knownTold o_drawn o_told)) rfl (fun H locs hP hD hS => ?_)
    refine W.eq (g2 := F0 m 18 ls [.int r_4]) rfl ?_
    refine lv_goto (tgt := 22) hx hb dX10_reversed_18 (by decide) ?_
    cases hf
    exact hret _ _ _ _ dX10_reversed_22 hP hD hS
def wX10_digit (cI cJ cZ : ClassId) (h_o h_o_told h_o_tape h_o_words h_o_isTold h_o_toldWave h_o_isPoint h_o_all h_o_quarter h_o_roots h_o_laidRe h_o_laidIm h_o_byOrder h_o_noted1 h_o_counts h_o_binBy : Nat) (o_tapeSize : Int32) (o_thrown : Int32) (o_fault : Int32) (o_faultPlace : Int32) (o_stop : Int32) (o_next : Int32) (o_kind : Int32) (o_which : Int32) (o_at : Int32) (o_pointsRead : Int32) (o_bank : Int32) (o_isImage : Int32) (o_undos : Int32) (o_runRadix : Int32) (o_runOrder : Int32) (o_runNear : Int32) (o_runLimit : Int32) (o_runHalves : Int32) (o_power : Int32) (o_notedMany : Int32) (o_knownTold : Int32) (o_drawn : Int64) (o_told : Nat → Int32) : va_W := [(h_o, .inr (10, [.ref h_o_tape, .int o_tapeSize, .int o_thrown, .ref h_o_words, .int o_fault, .int o_faultPlace, .int o_stop, .int o_next, .int o_kind, .int o_which, .int o_at, .ref h_o_told, .ref h_o_isTold, .ref h_o_toldWave, .ref h_o_isPoint, .int o_pointsRead, .ref h_o_all, .int o_bank, .int o_isImage, .int o_undos, .int o_runRadix, .int o_runOrder, .int o_runNear, .int o_runLimit, .int o_runHalves, .ref h_o_quarter, .int o_power, .ref h_o_roots, .ref h_o_laidRe, .ref h_o_laidIm, .ref h_o_byOrder, .int o_notedMany, .int o_knownTold, .ref h_o_noted1, .ref h_o_counts, .ref h_o_binBy, .long o_drawn])), (h_o_told, .inl (cI, 12, .inl o_told))]
def fX10_digit (o_thrown : Int32) (o_runRadix : Int32) (o_runOrder : Int32) (o_power : Int32) (o_told : Nat → Int32) (p1 : Int32) (p2 : Int32) : Option (Int32 × Int32) :=
  bd1 (fX10_isPlace o_told p1) (fun r_1 =>
  if r_1 = 0 then (
    some ((-1 : Int32), (0 : Int32))
  ) else (
    if p2 < 0 then (
      some ((-1 : Int32), (0 : Int32))
    ) else (
      bd1 (fX10_stagesMany o_runRadix o_power) (fun r_5 =>
      if r_5 ≤ p2 then (
        some ((-1 : Int32), (0 : Int32))
      ) else (
        bd1 (fX10_digitOf o_runRadix o_runOrder o_power p1 p2) (fun r_8 =>
        some (r_8, (0 : Int32)))
      ))
    )
  ))
set_option maxHeartbeats 4000000 in
set_option maxRecDepth 100000 in
theorem tX10_digit (l : Launch) (G : va_G) (cI cJ cZ : ClassId) (sz : Nat) (h_o h_o_told h_o_tape h_o_words h_o_isTold h_o_toldWave h_o_isPoint h_o_all h_o_quarter h_o_roots h_o_laidRe h_o_laidIm h_o_byOrder h_o_noted1 h_o_counts h_o_binBy : Nat) (o_tapeSize : Int32) (o_thrown : Int32) (o_fault : Int32) (o_faultPlace : Int32) (o_stop : Int32) (o_next : Int32) (o_kind : Int32) (o_which : Int32) (o_at : Int32) (o_pointsRead : Int32) (o_bank : Int32) (o_isImage : Int32) (o_undos : Int32) (o_runRadix : Int32) (o_runOrder : Int32) (o_runNear : Int32) (o_runLimit : Int32) (o_runHalves : Int32) (o_power : Int32) (o_notedMany : Int32) (o_knownTold : Int32) (o_drawn : Int64) (o_told : Nat → Int32) (p1 : Int32) (p2 : Int32) (r : Int32) (out_o_thrown : Int32) (hf : fX10_digit o_thrown o_runRadix o_runOrder o_power o_told p1 p2 = some (r, out_o_thrown)) : Met l yX10_digit (Cond.code yX10_digit cX10_digit 3 (some .int) :: BIG) ({ frames := 4, cells := 0, slots := 0, locals := 87 } : Room) (cP G (TY3 cI cJ cZ) [.ref h_o, .int p1, .int p2] sz (wX10_digit cI cJ cZ h_o h_o_told h_o_tape h_o_words h_o_isTold h_o_toldWave h_o_isPoint h_o_all h_o_quarter h_o_roots h_o_laidRe h_o_laidIm h_o_byOrder h_o_noted1 h_o_counts h_o_binBy o_tapeSize o_thrown o_fault o_faultPlace o_stop o_next o_kind o_which o_at o_pointsRead o_bank o_isImage o_undos o_runRadix o_runOrder o_runNear o_runLimit o_runHalves o_power o_notedMany o_knownTold o_drawn o_told)) (cQ G (TY3 cI cJ cZ) sz (wX10_digit cI cJ cZ h_o h_o_told h_o_tape h_o_words h_o_isTold h_o_toldWave h_o_isPoint h_o_all h_o_quarter h_o_roots h_o_laidRe h_o_laidIm h_o_byOrder h_o_noted1 h_o_counts h_o_binBy o_tapeSize o_thrown o_fault o_faultPlace o_stop o_next o_kind o_which o_at o_pointsRead o_bank o_isImage o_undos o_runRadix o_runOrder o_runNear o_runLimit o_runHalves o_power o_notedMany o_knownTold o_drawn o_told) (wX10_digit cI cJ cZ h_o h_o_told h_o_tape h_o_words h_o_isTold h_o_toldWave h_o_isPoint h_o_all h_o_quarter h_o_roots h_o_laidRe h_o_laidIm h_o_byOrder h_o_noted1 h_o_counts h_o_binBy o_tapeSize out_o_thrown o_fault o_faultPlace o_stop o_next o_kind o_which o_at o_pointsRead o_bank o_isImage o_undos o_runRadix o_runOrder o_runNear o_runLimit o_runHalves o_power o_notedMany o_knownTold o_drawn o_told) (some (.int r))) 0 0 (va_A (wX10_digit cI cJ cZ h_o h_o_told h_o_tape h_o_words h_o_isTold h_o_toldWave h_o_isPoint h_o_all h_o_quarter h_o_roots h_o_laidRe h_o_laidIm h_o_byOrder h_o_noted1 h_o_counts h_o_binBy o_tapeSize o_thrown o_fault o_faultPlace o_stop o_next o_kind o_which o_at o_pointsRead o_bank o_isImage o_undos o_runRadix o_runOrder o_runNear o_runLimit o_runHalves o_power o_notedMany o_knownTold o_drawn o_told) sz) := by
  refine met_i (cc := cX10_digit) (maxL := 3) (plainFor_of_name (by decide)) (Nat.le_of_ble_eq_true rfl) (fun p e s m below meth c A ls Q hx hb hml hts hown hK hP hD hS hA hl hret => ?_)
  have hown : s.vm.findClass RX10 = some m.cls := hown
  have hl : lv_has ls 3 [(0, .ref h_o), (1, .int p1), (2, .int p2)] := hl
  unfold fX10_digit at hf
  obtain ⟨H, eH⟩ : ∃ H, H = s.heap := ⟨_, rfl⟩
  obtain ⟨locs, elocs⟩ : ∃ z : List Loc, z = [] := ⟨_, rfl⟩
  have hP : va_P G vwCl (wX10_digit cI cJ cZ h_o h_o_told h_o_tape h_o_words h_o_isTold h_o_toldWave h_o_isPoint h_o_all h_o_quarter h_o_roots h_o_laidRe h_o_laidIm h_o_byOrder h_o_noted1 h_o_counts h_o_binBy o_tapeSize o_thrown o_fault o_faultPlace o_stop o_next o_kind o_which o_at o_pointsRead o_bank o_isImage o_undos o_runRadix o_runOrder o_runNear o_runLimit o_runHalves o_power o_notedMany o_knownTold o_drawn o_told) H := by rw [eH]; exact hP
  have hS : va_S A s.heap H locs := by rw [eH, elocs]; exact hS
  suffices hgo : W p l e ({ frames := 4, cells := 0, slots := 0, locals := 87 } : Room) s m ([.ref h_o, .int p1, .int p2] : List Value).toArray below meth c H locs 0 0 Q (F0 m 0 ls []) by rw [eH, elocs] at hgo; exact hgo
  clear eH elocs
  refine lv_aload_n hx hb dX10_digit_0 rfl (lv_at hl 0 rfl) ?_
  refine lv_iconst (v := (0 : Int32)) hx hb dX10_digit_1 (by decide) ?_
  refine wr (ci := 10) (C := RX10) (T := TX10) (N := 37) hx hb hts inX10 tyX10 tyX10_ok nmX10 hown hK hP hD hS 0 2 rfl rfl (by decide) (hts _ q_fX10_70) rfl rfl rfl (Nat.le_of_ble_eq_true rfl) dX10_digit_2 (ws2 := (wX10_digit cI cJ cZ h_o h_o_told h_o_tape h_o_words h_o_isTold h_o_toldWave h_o_isPoint h_o_all h_o_quarter h_o_roots h_o_laidRe h_o_laidIm h_o_byOrder h_o_noted1 h_o_counts h_o_binBy o_tapeSize (0 : Int32) o_fault o_faultPlace o_stop o_next o_kind o_which o_at o_pointsRead o_bank o_isImage o_undos o_runRadix o_runOrder o_runNear o_runLimit o_runHalves o_power o_notedMany o_knownTold o_drawn o_told)) rfl (fun H locs hP hD hS => ?_)
  refine lv_aload_n hx hb dX10_digit_5 rfl (lv_at hl 0 rfl) ?_
  refine lv_iload_n hx hb dX10_digit_6 rfl (lv_at hl 1 rfl) ?_
  obtain ⟨r_1, e_2, hf⟩ := bd1_x hf
  refine call_v [.int p1] [] ⟨hx, hb, hml, hown, hts⟩ hK hP hD hS hA hl.1 (tX10_isPlace l G cI cJ cZ H.size h_o h_o_told h_o_tape h_o_words h_o_isTold h_o_toldWave h_o_isPoint h_o_all h_o_quarter h_o_roots h_o_laidRe h_o_laidIm h_o_byOrder h_o_noted1 h_o_counts h_o_binBy o_tapeSize (0 : Int32) o_fault o_faultPlace o_stop o_next o_kind o_which o_at o_pointsRead o_bank o_isImage o_undos o_runRadix o_runOrder o_runNear o_runLimit o_runHalves o_power o_notedMany o_knownTold o_drawn o_told p1 r_1 e_2) (cwV 1 hts (gv q_mX10_203 q_i_yX10_isPlace q_s_yX10_isPlace q_n_RX10 q_k_yX10_isPlace) rfl rfl rfl (by decide +kernel) ⟨by decide, by decide⟩) rfl rfl (Nat.le_of_ble_eq_true rfl) dX10_digit_7 ⟨Nat.zero_le _, Nat.zero_le _⟩ (ci := 10) rfl 0 rfl [0, 1] [] [0, 1] rfl rfl (ws2 := (wX10_digit cI cJ cZ h_o h_o_told h_o_tape h_o_words h_o_isTold h_o_toldWave h_o_isPoint h_o_all h_o_quarter h_o_roots h_o_laidRe h_o_laidIm h_o_byOrder h_o_noted1 h_o_counts h_o_binBy o_tapeSize (0 : Int32) o_fault o_faultPlace o_stop o_next o_kind o_which o_at o_pointsRead o_bank o_isImage o_undos o_runRadix o_runOrder o_runNear o_runLimit o_runHalves o_power o_notedMany o_knownTold o_drawn o_told)) rfl (fun H locs hP hD hS => ?_)
  refine W.eq (g2 := F0 m 10 ls [.int r_1]) rfl ?_
  refine lv_if_eq (tgt := 34) hx hb dX10_digit_10 (by decide) (fun c_3 => ?_) (fun c_3 => ?_)
  · have hf := it_t c_3 hf
    refine lv_iconst (v := (-1 : Int32)) hx hb dX10_digit_34 (by decide) ?_
    cases hf
    exact hret _ _ _ _ dX10_digit_35 hP hD hS
  · have hf := it_f c_3 hf
    refine lv_iload_n hx hb dX10_digit_13 rfl (lv_at hl 2 rfl) ?_
    refine lv_if_lt (tgt := 34) hx hb dX10_digit_14 (by decide) (fun c_4 => ?_) (fun c_4 => ?_)
    · have hf := it_t c_4 hf
      refine lv_iconst (v := (-1 : Int32)) hx hb dX10_digit_34 (by decide) ?_
      cases hf
      exact hret _ _ _ _ dX10_digit_35 hP hD hS
    · have hf := it_f c_4 hf
      refine lv_iload_n hx hb dX10_digit_17 rfl (lv_at hl 2 rfl) ?_
      refine lv_aload_n hx hb dX10_digit_18 rfl (lv_at hl 0 rfl) ?_
      obtain ⟨r_5, e_6, hf⟩ := bd1_x hf
      refine call_v [] [.int p2] ⟨hx, hb, hml, hown, hts⟩ hK hP hD hS hA hl.1 (tX10_stagesMany l G cI cJ cZ H.size h_o h_o_tape h_o_words h_o_told h_o_isTold h_o_toldWave h_o_isPoint h_o_all h_o_quarter h_o_roots h_o_laidRe h_o_laidIm h_o_byOrder h_o_noted1 h_o_counts h_o_binBy o_tapeSize (0 : Int32) o_fault o_faultPlace o_stop o_next o_kind o_which o_at o_pointsRead o_bank o_isImage o_undos o_runRadix o_runOrder o_runNear o_runLimit o_runHalves o_power o_notedMany o_knownTold o_drawn r_5 e_6) (cwV 0 hts (gv q_mX10_216 q_i_yX10_stagesMany q_s_yX10_stagesMany q_n_RX10 q_k_yX10_stagesMany) rfl rfl rfl (by decide +kernel) ⟨by decide, by decide⟩) rfl rfl (Nat.le_of_ble_eq_true rfl) dX10_digit_19 ⟨Nat.zero_le _, Nat.zero_le _⟩ (ci := 10) rfl 0 rfl [0] [1] [1, 0] rfl rfl (ws2 := (wX10_digit cI cJ cZ h_o h_o_told h_o_tape h_o_words h_o_isTold h_o_toldWave h_o_isPoint h_o_all h_o_quarter h_o_roots h_o_laidRe h_o_laidIm h_o_byOrder h_o_noted1 h_o_counts h_o_binBy o_tapeSize (0 : Int32) o_fault o_faultPlace o_stop o_next o_kind o_which o_at o_pointsRead o_bank o_isImage o_undos o_runRadix o_runOrder o_runNear o_runLimit o_runHalves o_power o_notedMany o_knownTold o_drawn o_told)) rfl (fun H locs hP hD hS => ?_)
      refine W.eq (g2 := F0 m 22 ls [.int r_5, .int p2]) rfl ?_
      refine lv_icmp_ge (tgt := 34) hx hb dX10_digit_22 (by decide) (fun c_7 => ?_) (fun c_7 => ?_)
      · have hf := it_t c_7 hf
        refine lv_iconst (v := (-1 : Int32)) hx hb dX10_digit_34 (by decide) ?_
        cases hf
        exact hret _ _ _ _ dX10_digit_35 hP hD hS
      · have hf := it_f c_7 hf
        refine lv_aload_n hx hb dX10_digit_25 rfl (lv_at hl 0 rfl) ?_
        refine lv_iload_n hx hb dX10_digit_26 rfl (lv_at hl 1 rfl) ?_
        refine lv_iload_n hx hb dX10_digit_27 rfl (lv_at hl 2 rfl) ?_
        obtain ⟨r_8, e_9, hf⟩ := bd1_x hf
        refine call_v [.int p1, .int p2] [] ⟨hx, hb, hml, hown, hts⟩ hK hP hD hS hA hl.1 (tX10_digitOf l G cI cJ cZ H.size h_o h_o_tape h_o_words h_o_told h_o_isTold h_o_toldWave h_o_isPoint h_o_all h_o_quarter h_o_roots h_o_laidRe h_o_laidIm h_o_byOrder h_o_noted1 h_o_counts h_o_binBy o_tapeSize (0 : Int32) o_fault o_faultPlace o_stop o_next o_kind o_which o_at o_pointsRead o_bank o_isImage o_undos o_runRadix o_runOrder o_runNear o_runLimit o_runHalves o_power o_notedMany o_knownTold o_drawn p1 p2 r_8 e_9) (cwV 2 hts (gv q_mX10_225 q_i_yX10_digitOf q_s_yX10_digitOf q_n_RX10 q_k_yX10_digitOf) rfl rfl rfl (by decide +kernel) ⟨by decide, by decide⟩) rfl rfl (Nat.le_of_ble_eq_true rfl) dX10_digit_28 ⟨Nat.zero_le _, Nat.zero_le _⟩ (ci := 10) rfl 0 rfl [0] [1] [1, 0] rfl rfl (ws2 := (wX10_digit cI cJ cZ h_o h_o_told h_o_tape h_o_words h_o_isTold h_o_toldWave h_o_isPoint h_o_all h_o_quarter h_o_roots h_o_laidRe h_o_laidIm h_o_byOrder h_o_noted1 h_o_counts h_o_binBy o_tapeSize (0 : Int32) o_fault o_faultPlace o_stop o_next o_kind o_which o_at o_pointsRead o_bank o_isImage o_undos o_runRadix o_runOrder o_runNear o_runLimit o_runHalves o_power o_notedMany o_knownTold o_drawn o_told)) rfl (fun H locs hP hD hS => ?_)
        refine W.eq (g2 := F0 m 31 ls [.int r_8]) rfl ?_
        refine lv_goto (tgt := 35) hx hb dX10_digit_31 (by decide) ?_
        cases hf
        exact hret _ _ _ _ dX10_digit_35 hP hD hS
def wX10_over0 (cI cJ cZ : ClassId) : va_W := []
def fX10_over0 (p1 : Int32) : Option (Int32) :=
  if 0 ≤ p1 then (
    some p1
  ) else (
    some (-p1)
  )
set_option maxHeartbeats 4000000 in
set_option maxRecDepth 100000 in
theorem tX10_over0 (l : Launch) (G : va_G) (cI cJ cZ : ClassId) (sz : Nat) (p1 : Int32) (r : Int32) (hf : fX10_over0 p1 = some r) : Met l yX10_over0 (Cond.code yX10_over0 cX10_over0 1 (some .int) :: BIG) ({ frames := 0, cells := 0, slots := 0, locals := 0 } : Room) (cP G (TY3 cI cJ cZ) [.int p1] sz (wX10_over0 cI cJ cZ)) (cQ G (TY3 cI cJ cZ) sz (wX10_over0 cI cJ cZ) (wX10_over0 cI cJ cZ) (some (.int r))) 0 0 (va_A (wX10_over0 cI cJ cZ) sz) := by
  refine met_i (cc := cX10_over0) (maxL := 1) (plainFor_of_name (by decide)) (Nat.le_of_ble_eq_true rfl) (fun p e s m below meth c A ls Q hx hb hml hts hown hK hP hD hS hA hl hret => ?_)
  have hown : s.vm.findClass RX10 = some m.cls := hown
  have hl : lv_has ls 1 [(0, .int p1)] := hl
  unfold fX10_over0 at hf
  obtain ⟨H, eH⟩ : ∃ H, H = s.heap := ⟨_, rfl⟩
  obtain ⟨locs, elocs⟩ : ∃ z : List Loc, z = [] := ⟨_, rfl⟩
  have hP : va_P G vwCl (wX10_over0 cI cJ cZ) H := by rw [eH]; exact hP
  have hS : va_S A s.heap H locs := by rw [eH, elocs]; exact hS
  suffices hgo : W p l e ({ frames := 0, cells := 0, slots := 0, locals := 0 } : Room) s m ([.int p1] : List Value).toArray below meth c H locs 0 0 Q (F0 m 0 ls []) by rw [eH, elocs] at hgo; exact hgo
  clear eH elocs
  refine lv_iload_n hx hb dX10_over0_0 rfl (lv_at hl 0 rfl) ?_
  refine lv_if_ge (tgt := 9) hx hb dX10_over0_1 (by decide) (fun c_1 => ?_) (fun c_1 => ?_)
  · have hf := it_t c_1 hf
    refine lv_iload_n hx hb dX10_over0_9 rfl (lv_at hl 0 rfl) ?_
    cases hf
    exact hret _ _ _ _ dX10_over0_10 hP hD hS
  · have hf := it_f c_1 hf
    refine lv_iload_n hx hb dX10_over0_4 rfl (lv_at hl 0 rfl) ?_
    refine lv_ineg hx hb dX10_over0_5 ?_
    refine lv_goto (tgt := 10) hx hb dX10_over0_6 (by decide) ?_
    cases hf
    exact hret _ _ _ _ dX10_over0_10 hP hD hS
def wX10_largestIn (cI cJ cZ : ClassId) (h_o h_o_all h_o_tape h_o_words h_o_told h_o_isTold h_o_toldWave h_o_isPoint h_o_quarter h_o_roots h_o_laidRe h_o_laidIm h_o_byOrder h_o_noted1 h_o_counts h_o_binBy : Nat) (o_tapeSize : Int32) (o_thrown : Int32) (o_fault : Int32) (o_faultPlace : Int32) (o_stop : Int32) (o_next : Int32) (o_kind : Int32) (o_which : Int32) (o_at : Int32) (o_pointsRead : Int32) (o_bank : Int32) (o_isImage : Int32) (o_undos : Int32) (o_runRadix : Int32) (o_runOrder : Int32) (o_runNear : Int32) (o_runLimit : Int32) (o_runHalves : Int32) (o_power : Int32) (o_notedMany : Int32) (o_knownTold : Int32) (o_drawn : Int64) (o_all : Nat → Int32) : va_W := [(h_o, .inr (10, [.ref h_o_tape, .int o_tapeSize, .int o_thrown, .ref h_o_words, .int o_fault, .int o_faultPlace, .int o_stop, .int o_next, .int o_kind, .int o_which, .int o_at, .ref h_o_told, .ref h_o_isTold, .ref h_o_toldWave, .ref h_o_isPoint, .int o_pointsRead, .ref h_o_all, .int o_bank, .int o_isImage, .int o_undos, .int o_runRadix, .int o_runOrder, .int o_runNear, .int o_runLimit, .int o_runHalves, .ref h_o_quarter, .int o_power, .ref h_o_roots, .ref h_o_laidRe, .ref h_o_laidIm, .ref h_o_byOrder, .int o_notedMany, .int o_knownTold, .ref h_o_noted1, .ref h_o_counts, .ref h_o_binBy, .long o_drawn])), (h_o_all, .inl (cI, 3128, .inl o_all))]
def fX10_largestIn_63 (o_bank : Int32) (o_all : Nat → Int32) (k5 : Int32 → Int32 → Int32 → Int32 → Option (Int32)) (v1 : Int32) (v2 : Int32) (v4 : Int32) (s0 : Int32) : Option (Int32) :=
  nm (v4 + (1 : Int32)) (fun v4_12 =>
  k5 v1 v2 s0 v4_12)
def fX10_largestIn_50 (o_bank : Int32) (o_all : Nat → Int32) (k5 : Int32 → Int32 → Int32 → Int32 → Option (Int32)) (v1 : Int32) (v2 : Int32) (v4 : Int32) (v6 : Int32) (s0 : Int32) : Option (Int32) :=
  if v6 ≤ s0 then (
    fX10_largestIn_63 o_bank o_all k5 v1 v2 v4 s0
  ) else (
    fX10_largestIn_63 o_bank o_all k5 v1 v2 v4 v6
  )
def fX10_largestIn_5 (o_bank : Int32) (o_all : Nat → Int32) : Nat → Int32 → Int32 → Int32 → Int32 → Option (Int32)
  | 0, _, _, _, _ => none
  | n + 1, v1, v2, v3, v4 =>
    if (v1 + v2) ≤ v4 then (
      some v3
    ) else (
      bd1 (fX10_of o_bank o_all v4) (fun r_2 =>
      bd1 (fX10_over0 r_2) (fun r_4 =>
      bd1 (fX10_of o_bank o_all ((32 : Int32) + v4)) (fun r_6 =>
      bd1 (fX10_over0 r_6) (fun r_8 =>
      if r_4 ≤ v3 then (
        fX10_largestIn_50 o_bank o_all (fX10_largestIn_5 o_bank o_all n) v1 v2 v4 r_8 v3
      ) else (
        fX10_largestIn_50 o_bank o_all (fX10_largestIn_5 o_bank o_all n) v1 v2 v4 r_8 r_4
      )))))
    )
def fX10_largestIn (o_bank : Int32) (o_all : Nat → Int32) (p1 : Int32) (p2 : Int32) : Option (Int32) :=
  fX10_largestIn_5 o_bank o_all FU p1 p2 (0 : Int32) p1
set_option maxHeartbeats 4000000 in
set_option maxRecDepth 100000 in
theorem tX10_largestIn (l : Launch) (G : va_G) (cI cJ cZ : ClassId) (sz : Nat) (h_o h_o_all h_o_tape h_o_words h_o_told h_o_isTold h_o_toldWave h_o_isPoint h_o_quarter h_o_roots h_o_laidRe h_o_laidIm h_o_byOrder h_o_noted1 h_o_counts h_o_binBy : Nat) (o_tapeSize : Int32) (o_thrown : Int32) (o_fault : Int32) (o_faultPlace : Int32) (o_stop : Int32) (o_next : Int32) (o_kind : Int32) (o_which : Int32) (o_at : Int32) (o_pointsRead : Int32) (o_bank : Int32) (o_isImage : Int32) (o_undos : Int32) (o_runRadix : Int32) (o_runOrder : Int32) (o_runNear : Int32) (o_runLimit : Int32) (o_runHalves : Int32) (o_power : Int32) (o_notedMany : Int32) (o_knownTold : Int32) (o_drawn : Int64) (o_all : Nat → Int32) (p1 : Int32) (p2 : Int32) (r : Int32) (hf : fX10_largestIn o_bank o_all p1 p2 = some r) : Met l yX10_largestIn (Cond.code yX10_largestIn cX10_largestIn 7 (some .int) :: BIG) ({ frames := 1, cells := 0, slots := 0, locals := 21 } : Room) (cP G (TY3 cI cJ cZ) [.ref h_o, .int p1, .int p2] sz (wX10_largestIn cI cJ cZ h_o h_o_all h_o_tape h_o_words h_o_told h_o_isTold h_o_toldWave h_o_isPoint h_o_quarter h_o_roots h_o_laidRe h_o_laidIm h_o_byOrder h_o_noted1 h_o_counts h_o_binBy o_tapeSize o_thrown o_fault o_faultPlace o_stop o_next o_kind o_which o_at o_pointsRead o_bank o_isImage o_undos o_runRadix o_runOrder o_runNear o_runLimit o_runHalves o_power o_notedMany o_knownTold o_drawn o_all)) (cQ G (TY3 cI cJ cZ) sz (wX10_largestIn cI cJ cZ h_o h_o_all h_o_tape h_o_words h_o_told h_o_isTold h_o_toldWave h_o_isPoint h_o_quarter h_o_roots h_o_laidRe h_o_laidIm h_o_byOrder h_o_noted1 h_o_counts h_o_binBy o_tapeSize o_thrown o_fault o_faultPlace o_stop o_next o_kind o_which o_at o_pointsRead o_bank o_isImage o_undos o_runRadix o_runOrder o_runNear o_runLimit o_runHalves o_power o_notedMany o_knownTold o_drawn o_all) (wX10_largestIn cI cJ cZ h_o h_o_all h_o_tape h_o_words h_o_told h_o_isTold h_o_toldWave h_o_isPoint h_o_quarter h_o_roots h_o_laidRe h_o_laidIm h_o_byOrder h_o_noted1 h_o_counts h_o_binBy o_tapeSize o_thrown o_fault o_faultPlace o_stop o_next o_kind o_which o_at o_pointsRead o_bank o_isImage o_undos o_runRadix o_runOrder o_runNear o_runLimit o_runHalves o_power o_notedMany o_knownTold o_drawn o_all) (some (.int r))) 0 0 (va_A (wX10_largestIn cI cJ cZ h_o h_o_all h_o_tape h_o_words h_o_told h_o_isTold h_o_toldWave h_o_isPoint h_o_quarter h_o_roots h_o_laidRe h_o_laidIm h_o_byOrder h_o_noted1 h_o_counts h_o_binBy o_tapeSize o_thrown o_fault o_faultPlace o_stop o_next o_kind o_which o_at o_pointsRead o_bank o_isImage o_undos o_runRadix o_runOrder o_runNear o_runLimit o_runHalves o_power o_notedMany o_knownTold o_drawn o_all) sz) := by
  refine met_i (cc := cX10_largestIn) (maxL := 7) (plainFor_of_name (by decide)) (Nat.le_of_ble_eq_true rfl) (fun p e s m below meth c A ls Q hx hb hml hts hown hK hP hD hS hA hl hret => ?_)
  have hown : s.vm.findClass RX10 = some m.cls := hown
  have hl : lv_has ls 7 [(0, .ref h_o), (1, .int p1), (2, .int p2)] := hl
  have j63 : ∀ (k5 : Int32 → Int32 → Int32 → Int32 → Option (Int32)), (∀ (v1 : Int32) (v2 : Int32) (v3 : Int32) (v4 : Int32) (H : Heap) (locs : List Loc) (ls : Array Slot), k5 v1 v2 v3 v4 = some r → va_P G vwCl (wX10_largestIn cI cJ cZ h_o h_o_all h_o_tape h_o_words h_o_told h_o_isTold h_o_toldWave h_o_isPoint h_o_quarter h_o_roots h_o_laidRe h_o_laidIm h_o_byOrder h_o_noted1 h_o_counts h_o_binBy o_tapeSize o_thrown o_fault o_faultPlace o_stop o_next o_kind o_which o_at o_pointsRead o_bank o_isImage o_undos o_runRadix o_runOrder o_runNear o_runLimit o_runHalves o_power o_notedMany o_knownTold o_drawn o_all) H → va_D A (wX10_largestIn cI cJ cZ h_o h_o_all h_o_tape h_o_words h_o_told h_o_isTold h_o_toldWave h_o_isPoint h_o_quarter h_o_roots h_o_laidRe h_o_laidIm h_o_byOrder h_o_noted1 h_o_counts h_o_binBy o_tapeSize o_thrown o_fault o_faultPlace o_stop o_next o_kind o_which o_at o_pointsRead o_bank o_isImage o_undos o_runRadix o_runOrder o_runNear o_runLimit o_runHalves o_power o_notedMany o_knownTold o_drawn o_all) → va_S A s.heap H locs → lv_has ls 7 [(0, .ref h_o), (1, .int v1), (2, .int v2), (3, .int v3), (4, .int v4)] → W p l e ({ frames := 1, cells := 0, slots := 0, locals := 21 } : Room) s m ([.ref h_o, .int p1, .int p2] : List Value).toArray below meth c H locs 0 0 Q (F0 m 5 ls [])) → ∀ (v1 : Int32) (v2 : Int32) (v4 : Int32) (s0 : Int32) (H : Heap) (locs : List Loc) (ls : Array Slot), fX10_largestIn_63 o_bank o_all k5 v1 v2 v4 s0 = some r → va_P G vwCl (wX10_largestIn cI cJ cZ h_o h_o_all h_o_tape h_o_words h_o_told h_o_isTold h_o_toldWave h_o_isPoint h_o_quarter h_o_roots h_o_laidRe h_o_laidIm h_o_byOrder h_o_noted1 h_o_counts h_o_binBy o_tapeSize o_thrown o_fault o_faultPlace o_stop o_next o_kind o_which o_at o_pointsRead o_bank o_isImage o_undos o_runRadix o_runOrder o_runNear o_runLimit o_runHalves o_power o_notedMany o_knownTold o_drawn o_all) H → va_D A (wX10_largestIn cI cJ cZ h_o h_o_all h_o_tape h_o_words h_o_told h_o_isTold h_o_toldWave h_o_isPoint h_o_quarter h_o_roots h_o_laidRe h_o_laidIm h_o_byOrder h_o_noted1 h_o_counts h_o_binBy o_tapeSize o_thrown o_fault o_faultPlace o_stop o_next o_kind o_which o_at o_pointsRead o_bank o_isImage o_undos o_runRadix o_runOrder o_runNear o_runLimit o_runHalves o_power o_notedMany o_knownTold o_drawn o_all) → va_S A s.heap H locs → lv_has ls 7 [(0, .ref h_o), (1, .int v1), (2, .int v2), (4, .int v4)] → W p l e ({ frames := 1, cells := 0, slots := 0, locals := 21 } : Room) s m ([.ref h_o, .int p1, .int p2] : List Value).toArray below meth c H locs 0 0 Q (F0 m 63 ls [.int s0]) := by
    intro k5 hk5 v1 v2 v4 s0 H locs ls hf hP hD hS hl
    unfold fX10_largestIn_63 at hf
    refine lv_istore_n (lv' := [(3, .int s0), (0, .ref h_o), (1, .int v1), (2, .int v2), (4, .int v4)]) hx hb dX10_largestIn_63 rfl hl (by decide) rfl (fun ls hl => ?_)
    obtain ⟨v4_12, ev4_12⟩ : ∃ y : Int32, y = v4 + (1 : Int32) := ⟨_, rfl⟩
    have hf := nm_x ev4_12 hf
    refine lv_iinc (v := v4_12) (lv' := [(4, .int v4_12), (3, .int s0), (0, .ref h_o), (1, .int v1), (2, .int v2)]) hx hb dX10_largestIn_64 hl (k := 4) rfl (by rw [ev4_12]; rfl) (by decide) rfl (fun ls hl => ?_)
    refine lv_goto (tgt := 5) hx hb dX10_largestIn_67 (by decide) ?_
    exact hk5 v1 v2 s0 v4_12 H locs ls hf hP hD hS (lv_sub hl [2, 3, 4, 1, 0] rfl)
  have j50 : ∀ (k5 : Int32 → Int32 → Int32 → Int32 → Option (Int32)), (∀ (v1 : Int32) (v2 : Int32) (v3 : Int32) (v4 : Int32) (H : Heap) (locs : List Loc) (ls : Array Slot), k5 v1 v2 v3 v4 = some r → va_P G vwCl (wX10_largestIn cI cJ cZ h_o h_o_all h_o_tape h_o_words h_o_told h_o_isTold h_o_toldWave h_o_isPoint h_o_quarter h_o_roots h_o_laidRe h_o_laidIm h_o_byOrder h_o_noted1 h_o_counts h_o_binBy o_tapeSize o_thrown o_fault o_faultPlace o_stop o_next o_kind o_which o_at o_pointsRead o_bank o_isImage o_undos o_runRadix o_runOrder o_runNear o_runLimit o_runHalves o_power o_notedMany o_knownTold o_drawn o_all) H → va_D A (wX10_largestIn cI cJ cZ h_o h_o_all h_o_tape h_o_words h_o_told h_o_isTold h_o_toldWave h_o_isPoint h_o_quarter h_o_roots h_o_laidRe h_o_laidIm h_o_byOrder h_o_noted1 h_o_counts h_o_binBy o_tapeSize o_thrown o_fault o_faultPlace o_stop o_next o_kind o_which o_at o_pointsRead o_bank o_isImage o_undos o_runRadix o_runOrder o_runNear o_runLimit o_runHalves o_power o_notedMany o_knownTold o_drawn o_all) → va_S A s.heap H locs → lv_has ls 7 [(0, .ref h_o), (1, .int v1), (2, .int v2), (3, .int v3), (4, .int v4)] → W p l e ({ frames := 1, cells := 0, slots := 0, locals := 21 } : Room) s m ([.ref h_o, .int p1, .int p2] : List Value).toArray below meth c H locs 0 0 Q (F0 m 5 ls [])) → ∀ (v1 : Int32) (v2 : Int32) (v4 : Int32) (v6 : Int32) (s0 : Int32) (H : Heap) (locs : List Loc) (ls : Array Slot), fX10_largestIn_50 o_bank o_all k5 v1 v2 v4 v6 s0 = some r → va_P G vwCl (wX10_largestIn cI cJ cZ h_o h_o_all h_o_tape h_o_words h_o_told h_o_isTold h_o_toldWave h_o_isPoint h_o_quarter h_o_roots h_o_laidRe h_o_laidIm h_o_byOrder h_o_noted1 h_o_counts h_o_binBy o_tapeSize o_thrown o_fault o_faultPlace o_stop o_next o_kind o_which o_at o_pointsRead o_bank o_isImage o_undos o_runRadix o_runOrder o_runNear o_runLimit o_runHalves o_power o_notedMany o_knownTold o_drawn o_all) H → va_D A (wX10_largestIn cI cJ cZ h_o h_o_all h_o_tape h_o_words h_o_told h_o_isTold h_o_toldWave h_o_isPoint h_o_quarter h_o_roots h_o_laidRe h_o_laidIm h_o_byOrder h_o_noted1 h_o_counts h_o_binBy o_tapeSize o_thrown o_fault o_faultPlace o_stop o_next o_kind o_which o_at o_pointsRead o_bank o_isImage o_undos o_runRadix o_runOrder o_runNear o_runLimit o_runHalves o_power o_notedMany o_knownTold o_drawn o_all) → va_S A s.heap H locs → lv_has ls 7 [(0, .ref h_o), (1, .int v1), (2, .int v2), (4, .int v4), (6, .int v6)] → W p l e ({ frames := 1, cells := 0, slots := 0, locals := 21 } : Room) s m ([.ref h_o, .int p1, .int p2] : List Value).toArray below meth c H locs 0 0 Q (F0 m 50 ls [.int s0]) := by
    intro k5 hk5 v1 v2 v4 v6 s0 H locs ls hf hP hD hS hl
    unfold fX10_largestIn_50 at hf
    refine lv_istore_n (lv' := [(3, .int s0), (0, .ref h_o), (1, .int v1), (2, .int v2), (4, .int v4), (6, .int v6)]) hx hb dX10_largestIn_50 rfl hl (by decide) rfl (fun ls hl => ?_)
    refine lv_iload hx hb dX10_largestIn_51 (lv_at hl 5 rfl) ?_
    refine lv_iload_n hx hb dX10_largestIn_53 rfl (lv_at hl 0 rfl) ?_
    refine lv_icmp_le (tgt := 62) hx hb dX10_largestIn_54 (by decide) (fun c_11 => ?_) (fun c_11 => ?_)
    · have hf := it_t c_11 hf
      refine lv_iload_n hx hb dX10_largestIn_62 rfl (lv_at hl 0 rfl) ?_
      exact j63 k5 hk5 v1 v2 v4 s0 H locs ls hf hP hD hS (lv_sub hl [1, 2, 3, 4] rfl)
    · have hf := it_f c_11 hf
      refine lv_iload hx hb dX10_largestIn_57 (lv_at hl 5 rfl) ?_
      refine lv_goto (tgt := 63) hx hb dX10_largestIn_59 (by decide) ?_
      exact j63 k5 hk5 v1 v2 v4 v6 H locs ls hf hP hD hS (lv_sub hl [1, 2, 3, 4] rfl)
  have j5 : ∀ (n : Nat) (v1 : Int32) (v2 : Int32) (v3 : Int32) (v4 : Int32) (H : Heap) (locs : List Loc) (ls : Array Slot), fX10_largestIn_5 o_bank o_all n v1 v2 v3 v4 = some r → va_P G vwCl (wX10_largestIn cI cJ cZ h_o h_o_all h_o_tape h_o_words h_o_told h_o_isTold h_o_toldWave h_o_isPoint h_o_quarter h_o_roots h_o_laidRe h_o_laidIm h_o_byOrder h_o_noted1 h_o_counts h_o_binBy o_tapeSize o_thrown o_fault o_faultPlace o_stop o_next o_kind o_which o_at o_pointsRead o_bank o_isImage o_undos o_runRadix o_runOrder o_runNear o_runLimit o_runHalves o_power o_notedMany o_knownTold o_drawn o_all) H → va_D A (wX10_largestIn cI cJ cZ h_o h_o_all h_o_tape h_o_words h_o_told h_o_isTold h_o_toldWave h_o_isPoint h_o_quarter h_o_roots h_o_laidRe h_o_laidIm h_o_byOrder h_o_noted1 h_o_counts h_o_binBy o_tapeSize o_thrown o_fault o_faultPlace o_stop o_next o_kind o_which o_at o_pointsRead o_bank o_isImage o_undos o_runRadix o_runOrder o_runNear o_runLimit o_runHalves o_power o_notedMany o_knownTold o_drawn o_all) → va_S A s.heap H locs → lv_has ls 7 [(0, .ref h_o), (1, .int v1), (2, .int v2), (3, .int v3), (4, .int v4)] → W p l e ({ frames := 1, cells := 0, slots := 0, locals := 21 } : Room) s m ([.ref h_o, .int p1, .int p2] : List Value).toArray below meth c H locs 0 0 Q (F0 m 5 ls []) := by
    intro n
    induction n with
    | zero =>
      intro v1 v2 v3 v4 H locs ls hf
      have hf : (none : Option (Int32)) = some r := hf
      cases hf
    | succ n ih =>
      intro v1 v2 v3 v4 H locs ls hf hP hD hS hl
      rw [fX10_largestIn_5.eq_2] at hf
      refine lv_iload hx hb dX10_largestIn_5 (lv_at hl 4 rfl) ?_
      refine lv_iload_n hx hb dX10_largestIn_7 rfl (lv_at hl 1 rfl) ?_
      refine lv_iload_n hx hb dX10_largestIn_8 rfl (lv_at hl 2 rfl) ?_
      refine lv_iadd hx hb dX10_largestIn_9 ?_
      refine lv_icmp_ge (tgt := 70) hx hb dX10_largestIn_10 (by decide) (fun c_1 => ?_) (fun c_1 => ?_)
      · have hf := it_t c_1 hf
        refine lv_iload_n hx hb dX10_largestIn_70 rfl (lv_at hl 3 rfl) ?_
        cases hf
        exact hret _ _ _ _ dX10_largestIn_71 hP hD hS
      · have hf := it_f c_1 hf
        refine lv_aload_n hx hb dX10_largestIn_13 rfl (lv_at hl 0 rfl) ?_
        refine lv_iload hx hb dX10_largestIn_14 (lv_at hl 4 rfl) ?_
        obtain ⟨r_2, e_3, hf⟩ := bd1_x hf
        refine call_v [.int v4] [] ⟨hx, hb, hml, hown, hts⟩ hK hP hD hS hA hl.1 (tX10_of l G cI cJ cZ H.size h_o h_o_all h_o_tape h_o_words h_o_told h_o_isTold h_o_toldWave h_o_isPoint h_o_quarter h_o_roots h_o_laidRe h_o_laidIm h_o_byOrder h_o_noted1 h_o_counts h_o_binBy o_tapeSize o_thrown o_fault o_faultPlace o_stop o_next o_kind o_which o_at o_pointsRead o_bank o_isImage o_undos o_runRadix o_runOrder o_runNear o_runLimit o_runHalves o_power o_notedMany o_knownTold o_drawn o_all v4 r_2 e_3) (cwV 1 hts (gv q_mX10_187 q_i_yX10_of q_s_yX10_of q_n_RX10 q_k_yX10_of) rfl rfl rfl (by decide +kernel) ⟨by decide, by decide⟩) rfl rfl (Nat.le_of_ble_eq_true rfl) dX10_largestIn_16 ⟨Nat.zero_le _, Nat.zero_le _⟩ (ci := 10) rfl 0 rfl [0, 1] [] [0, 1] rfl rfl (ws2 := (wX10_largestIn cI cJ cZ h_o h_o_all h_o_tape h_o_words h_o_told h_o_isTold h_o_toldWave h_o_isPoint h_o_quarter h_o_roots h_o_laidRe h_o_laidIm h_o_byOrder h_o_noted1 h_o_counts h_o_binBy o_tapeSize o_thrown o_fault o_faultPlace o_stop o_next o_kind o_which o_at o_pointsRead o_bank o_isImage o_undos o_runRadix o_runOrder o_runNear o_runLimit o_runHalves o_power o_notedMany o_knownTold o_drawn o_all)) rfl (fun H locs hP hD hS => ?_)
        refine W.eq (g2 := F0 m 19 ls [.int r_2]) rfl ?_
        obtain ⟨r_4, e_5, hf⟩ := bd1_x hf
        refine call_s [.int r_2] [] ⟨hx, hb, hml, hown, hts⟩ hK hP hD hS hA hl.1 (tX10_over0 l G cI cJ cZ H.size r_2 r_4 e_5) (va_cwS 1 hts (gs q_mX10_228 q_s_yX10_over0 q_n_RX10 q_k_yX10_over0) rfl rfl rfl (by decide +kernel) ⟨by decide, by decide⟩) rfl rfl (Nat.le_of_ble_eq_true rfl) dX10_largestIn_19 ⟨Nat.zero_le _, Nat.zero_le _⟩ [] [0, 1] [0, 1] rfl rfl (ws2 := (wX10_largestIn cI cJ cZ h_o h_o_all h_o_tape h_o_words h_o_told h_o_isTold h_o_toldWave h_o_isPoint h_o_quarter h_o_roots h_o_laidRe h_o_laidIm h_o_byOrder h_o_noted1 h_o_counts h_o_binBy o_tapeSize o_thrown o_fault o_faultPlace o_stop o_next o_kind o_which o_at o_pointsRead o_bank o_isImage o_undos o_runRadix o_runOrder o_runNear o_runLimit o_runHalves o_power o_notedMany o_knownTold o_drawn o_all)) rfl (fun H locs hP hD hS => ?_)
        refine W.eq (g2 := F0 m 22 ls [.int r_4]) rfl ?_
        refine lv_istore (lv' := [(5, .int r_4), (0, .ref h_o), (1, .int v1), (2, .int v2), (3, .int v3), (4, .int v4)]) hx hb dX10_largestIn_22 hl (by decide) rfl (fun ls hl => ?_)
        refine lv_aload_n hx hb dX10_largestIn_24 rfl (lv_at hl 1 rfl) ?_
        refine lv_bipush (v := (32 : Int32)) hx hb dX10_largestIn_25 (by decide) ?_
        refine lv_iload hx hb dX10_largestIn_27 (lv_at hl 5 rfl) ?_
        refine lv_iadd hx hb dX10_largestIn_29 ?_
        obtain ⟨r_6, e_7, hf⟩ := bd1_x hf
        refine call_v [.int ((32 : Int32) + v4)] [] ⟨hx, hb, hml, hown, hts⟩ hK hP hD hS hA hl.1 (tX10_of l G cI cJ cZ H.size h_o h_o_all h_o_tape h_o_words h_o_told h_o_isTold h_o_toldWave h_o_isPoint h_o_quarter h_o_roots h_o_laidRe h_o_laidIm h_o_byOrder h_o_noted1 h_o_counts h_o_binBy o_tapeSize o_thrown o_fault o_faultPlace o_stop o_next o_kind o_which o_at o_pointsRead o_bank o_isImage o_undos o_runRadix o_runOrder o_runNear o_runLimit o_runHalves o_power o_notedMany o_knownTold o_drawn o_all ((32 : Int32) + v4) r_6 e_7) (cwV 1 hts (gv q_mX10_187 q_i_yX10_of q_s_yX10_of q_n_RX10 q_k_yX10_of) rfl rfl rfl (by decide +kernel) ⟨by decide, by decide⟩) rfl rfl (Nat.le_of_ble_eq_true rfl) dX10_largestIn_30 ⟨Nat.zero_le _, Nat.zero_le _⟩ (ci := 10) rfl 0 rfl [0, 1] [] [0, 1] rfl rfl (ws2 := (wX10_largestIn cI cJ cZ h_o h_o_all h_o_tape h_o_words h_o_told h_o_isTold h_o_toldWave h_o_isPoint h_o_quarter h_o_roots h_o_laidRe h_o_laidIm h_o_byOrder h_o_noted1 h_o_counts h_o_binBy o_tapeSize o_thrown o_fault o_faultPlace o_stop o_next o_kind o_which o_at o_pointsRead o_bank o_isImage o_undos o_runRadix o_runOrder o_runNear o_runLimit o_runHalves o_power o_notedMany o_knownTold o_drawn o_all)) rfl (fun H locs hP hD hS => ?_)
        refine W.eq (g2 := F0 m 33 ls [.int r_6]) rfl ?_
        obtain ⟨r_8, e_9, hf⟩ := bd1_x hf
        refine call_s [.int r_6] [] ⟨hx, hb, hml, hown, hts⟩ hK hP hD hS hA hl.1 (tX10_over0 l G cI cJ cZ H.size r_6 r_8 e_9) (va_cwS 1 hts (gs q_mX10_228 q_s_yX10_over0 q_n_RX10 q_k_yX10_over0) rfl rfl rfl (by decide +kernel) ⟨by decide, by decide⟩) rfl rfl (Nat.le_of_ble_eq_true rfl) dX10_largestIn_33 ⟨Nat.zero_le _, Nat.zero_le _⟩ [] [0, 1] [0, 1] rfl rfl (ws2 := (wX10_largestIn cI cJ cZ h_o h_o_all h_o_tape h_o_words h_o_told h_o_isTold h_o_toldWave h_o_isPoint h_o_quarter h_o_roots h_o_laidRe h_o_laidIm h_o_byOrder h_o_noted1 h_o_counts h_o_binBy o_tapeSize o_thrown o_fault o_faultPlace o_stop o_next o_kind o_which o_at o_pointsRead o_bank o_isImage o_undos o_runRadix o_runOrder o_runNear o_runLimit o_runHalves o_power o_notedMany o_knownTold o_drawn o_all)) rfl (fun H locs hP hD hS => ?_)
        refine W.eq (g2 := F0 m 36 ls [.int r_8]) rfl ?_
        refine lv_istore (lv' := [(6, .int r_8), (5, .int r_4), (0, .ref h_o), (1, .int v1), (2, .int v2), (3, .int v3), (4, .int v4)]) hx hb dX10_largestIn_36 hl (by decide) rfl (fun ls hl => ?_)
        refine lv_iload hx hb dX10_largestIn_38 (lv_at hl 1 rfl) ?_
        refine lv_iload_n hx hb dX10_largestIn_40 rfl (lv_at hl 5 rfl) ?_
        refine lv_icmp_le (tgt := 49) hx hb dX10_largestIn_41 (by decide) (fun c_10 => ?_) (fun c_10 => ?_)
        · have hf := it_t c_10 hf
          refine lv_iload_n hx hb dX10_largestIn_49 rfl (lv_at hl 5 rfl) ?_
          exact j50 (fX10_largestIn_5 o_bank o_all n) ih v1 v2 v4 r_8 v3 H locs ls hf hP hD hS (lv_sub hl [2, 3, 4, 6, 0] rfl)
        · have hf := it_f c_10 hf
          refine lv_iload hx hb dX10_largestIn_44 (lv_at hl 1 rfl) ?_
          refine lv_goto (tgt := 50) hx hb dX10_largestIn_46 (by decide) ?_
          exact j50 (fX10_largestIn_5 o_bank o_all n) ih v1 v2 v4 r_8 r_4 H locs ls hf hP hD hS (lv_sub hl [2, 3, 4, 6, 0] rfl)
  unfold fX10_largestIn at hf
  obtain ⟨H, eH⟩ : ∃ H, H = s.heap := ⟨_, rfl⟩
  obtain ⟨locs, elocs⟩ : ∃ z : List Loc, z = [] := ⟨_, rfl⟩
  have hP : va_P G vwCl (wX10_largestIn cI cJ cZ h_o h_o_all h_o_tape h_o_words h_o_told h_o_isTold h_o_toldWave h_o_isPoint h_o_quarter h_o_roots h_o_laidRe h_o_laidIm h_o_byOrder h_o_noted1 h_o_counts h_o_binBy o_tapeSize o_thrown o_fault o_faultPlace o_stop o_next o_kind o_which o_at o_pointsRead o_bank o_isImage o_undos o_runRadix o_runOrder o_runNear o_runLimit o_runHalves o_power o_notedMany o_knownTold o_drawn o_all) H := by rw [eH]; exact hP
  have hS : va_S A s.heap H locs := by rw [eH, elocs]; exact hS
  suffices hgo : W p l e ({ frames := 1, cells := 0, slots := 0, locals := 21 } : Room) s m ([.ref h_o, .int p1, .int p2] : List Value).toArray below meth c H locs 0 0 Q (F0 m 0 ls []) by rw [eH, elocs] at hgo; exact hgo
  clear eH elocs
  refine lv_iconst (v := (0 : Int32)) hx hb dX10_largestIn_0 (by decide) ?_
  refine lv_istore_n (lv' := [(3, .int (0 : Int32)), (0, .ref h_o), (1, .int p1), (2, .int p2)]) hx hb dX10_largestIn_1 rfl hl (by decide) rfl (fun ls hl => ?_)
  refine lv_iload_n hx hb dX10_largestIn_2 rfl (lv_at hl 2 rfl) ?_
  refine lv_istore (lv' := [(4, .int p1), (3, .int (0 : Int32)), (0, .ref h_o), (1, .int p1), (2, .int p2)]) hx hb dX10_largestIn_3 hl (by decide) rfl (fun ls hl => ?_)
  exact j5 FU p1 p2 (0 : Int32) p1 H locs ls hf hP hD hS (lv_sub hl [2, 3, 4, 1, 0] rfl)
def wX10_largestNow (cI cJ cZ : ClassId) (h_o h_o_all h_o_told h_o_tape h_o_words h_o_isTold h_o_toldWave h_o_isPoint h_o_quarter h_o_roots h_o_laidRe h_o_laidIm h_o_byOrder h_o_noted1 h_o_counts h_o_binBy : Nat) (o_tapeSize : Int32) (o_thrown : Int32) (o_fault : Int32) (o_faultPlace : Int32) (o_stop : Int32) (o_next : Int32) (o_kind : Int32) (o_which : Int32) (o_at : Int32) (o_pointsRead : Int32) (o_bank : Int32) (o_isImage : Int32) (o_undos : Int32) (o_runRadix : Int32) (o_runOrder : Int32) (o_runNear : Int32) (o_runLimit : Int32) (o_runHalves : Int32) (o_power : Int32) (o_notedMany : Int32) (o_knownTold : Int32) (o_drawn : Int64) (o_all : Nat → Int32) (o_told : Nat → Int32) : va_W := [(h_o, .inr (10, [.ref h_o_tape, .int o_tapeSize, .int o_thrown, .ref h_o_words, .int o_fault, .int o_faultPlace, .int o_stop, .int o_next, .int o_kind, .int o_which, .int o_at, .ref h_o_told, .ref h_o_isTold, .ref h_o_toldWave, .ref h_o_isPoint, .int o_pointsRead, .ref h_o_all, .int o_bank, .int o_isImage, .int o_undos, .int o_runRadix, .int o_runOrder, .int o_runNear, .int o_runLimit, .int o_runHalves, .ref h_o_quarter, .int o_power, .ref h_o_roots, .ref h_o_laidRe, .ref h_o_laidIm, .ref h_o_byOrder, .int o_notedMany, .int o_knownTold, .ref h_o_noted1, .ref h_o_counts, .ref h_o_binBy, .long o_drawn])), (h_o_all, .inl (cI, 3128, .inl o_all)), (h_o_told, .inl (cI, 12, .inl o_told))]
def fX10_largestNow (o_bank : Int32) (o_all : Nat → Int32) (o_told : Nat → Int32) : Option (Int32) :=
  bd1 (fX10_size o_told) (fun r_1 =>
  bd1 (fX10_largestIn o_bank o_all (0 : Int32) r_1) (fun r_3 =>
  some r_3))
set_option maxHeartbeats 4000000 in
set_option maxRecDepth 100000 in
theorem tX10_largestNow (l : Launch) (G : va_G) (cI cJ cZ : ClassId) (sz : Nat) (h_o h_o_all h_o_told h_o_tape h_o_words h_o_isTold h_o_toldWave h_o_isPoint h_o_quarter h_o_roots h_o_laidRe h_o_laidIm h_o_byOrder h_o_noted1 h_o_counts h_o_binBy : Nat) (o_tapeSize : Int32) (o_thrown : Int32) (o_fault : Int32) (o_faultPlace : Int32) (o_stop : Int32) (o_next : Int32) (o_kind : Int32) (o_which : Int32) (o_at : Int32) (o_pointsRead : Int32) (o_bank : Int32) (o_isImage : Int32) (o_undos : Int32) (o_runRadix : Int32) (o_runOrder : Int32) (o_runNear : Int32) (o_runLimit : Int32) (o_runHalves : Int32) (o_power : Int32) (o_notedMany : Int32) (o_knownTold : Int32) (o_drawn : Int64) (o_all : Nat → Int32) (o_told : Nat → Int32) (r : Int32) (hf : fX10_largestNow o_bank o_all o_told = some r) : Met l yX10_largestNow (Cond.code yX10_largestNow cX10_largestNow 1 (some .int) :: BIG) ({ frames := 2, cells := 0, slots := 0, locals := 47 } : Room) (cP G (TY3 cI cJ cZ) [.ref h_o] sz (wX10_largestNow cI cJ cZ h_o h_o_all h_o_told h_o_tape h_o_words h_o_isTold h_o_toldWave h_o_isPoint h_o_quarter h_o_roots h_o_laidRe h_o_laidIm h_o_byOrder h_o_noted1 h_o_counts h_o_binBy o_tapeSize o_thrown o_fault o_faultPlace o_stop o_next o_kind o_which o_at o_pointsRead o_bank o_isImage o_undos o_runRadix o_runOrder o_runNear o_runLimit o_runHalves o_power o_notedMany o_knownTold o_drawn o_all o_told)) (cQ G (TY3 cI cJ cZ) sz (wX10_largestNow cI cJ cZ h_o h_o_all h_o_told h_o_tape h_o_words h_o_isTold h_o_toldWave h_o_isPoint h_o_quarter h_o_roots h_o_laidRe h_o_laidIm h_o_byOrder h_o_noted1 h_o_counts h_o_binBy o_tapeSize o_thrown o_fault o_faultPlace o_stop o_next o_kind o_which o_at o_pointsRead o_bank o_isImage o_undos o_runRadix o_runOrder o_runNear o_runLimit o_runHalves o_power o_notedMany o_knownTold o_drawn o_all o_told) (wX10_largestNow cI cJ cZ h_o h_o_all h_o_told h_o_tape h_o_words h_o_isTold h_o_toldWave h_o_isPoint h_o_quarter h_o_roots h_o_laidRe h_o_laidIm h_o_byOrder h_o_noted1 h_o_counts h_o_binBy o_tapeSize o_thrown o_fault o_faultPlace o_stop o_next o_kind o_which o_at o_pointsRead o_bank o_isImage o_undos o_runRadix o_runOrder o_runNear o_runLimit o_runHalves o_power o_notedMany o_knownTold o_drawn o_all o_told) (some (.int r))) 0 0 (va_A (wX10_largestNow cI cJ cZ h_o h_o_all h_o_told h_o_tape h_o_words h_o_isTold h_o_toldWave h_o_isPoint h_o_quarter h_o_roots h_o_laidRe h_o_laidIm h_o_byOrder h_o_noted1 h_o_counts h_o_binBy o_tapeSize o_thrown o_fault o_faultPlace o_stop o_next o_kind o_which o_at o_pointsRead o_bank o_isImage o_undos o_runRadix o_runOrder o_runNear o_runLimit o_runHalves o_power o_notedMany o_knownTold o_drawn o_all o_told) sz) := by
  refine met_i (cc := cX10_largestNow) (maxL := 1) (plainFor_of_name (by decide)) (Nat.le_of_ble_eq_true rfl) (fun p e s m below meth c A ls Q hx hb hml hts hown hK hP hD hS hA hl hret => ?_)
  have hown : s.vm.findClass RX10 = some m.cls := hown
  have hl : lv_has ls 1 [(0, .ref h_o)] := hl
  unfold fX10_largestNow at hf
  obtain ⟨H, eH⟩ : ∃ H, H = s.heap := ⟨_, rfl⟩
  obtain ⟨locs, elocs⟩ : ∃ z : List Loc, z = [] := ⟨_, rfl⟩
  have hP : va_P G vwCl (wX10_largestNow cI cJ cZ h_o h_o_all h_o_told h_o_tape h_o_words h_o_isTold h_o_toldWave h_o_isPoint h_o_quarter h_o_roots h_o_laidRe h_o_laidIm h_o_byOrder h_o_noted1 h_o_counts h_o_binBy o_tapeSize o_thrown o_fault o_faultPlace o_stop o_next o_kind o_which o_at o_pointsRead o_bank o_isImage o_undos o_runRadix o_runOrder o_runNear o_runLimit o_runHalves o_power o_notedMany o_knownTold o_drawn o_all o_told) H := by rw [eH]; exact hP
  have hS : va_S A s.heap H locs := by rw [eH, elocs]; exact hS
  suffices hgo : W p l e ({ frames := 2, cells := 0, slots := 0, locals := 47 } : Room) s m ([.ref h_o] : List Value).toArray below meth c H locs 0 0 Q (F0 m 0 ls []) by rw [eH, elocs] at hgo; exact hgo
  clear eH elocs
  refine lv_aload_n hx hb dX10_largestNow_0 rfl (lv_at hl 0 rfl) ?_
  refine lv_iconst (v := (0 : Int32)) hx hb dX10_largestNow_1 (by decide) ?_
  refine lv_aload_n hx hb dX10_largestNow_2 rfl (lv_at hl 0 rfl) ?_
  obtain ⟨r_1, e_2, hf⟩ := bd1_x hf
  refine call_v [] [.int (0 : Int32), .ref h_o] ⟨hx, hb, hml, hown, hts⟩ hK hP hD hS hA hl.1 (tX10_size l G cI cJ cZ H.size h_o h_o_told h_o_tape h_o_words h_o_isTold h_o_toldWave h_o_isPoint h_o_all h_o_quarter h_o_roots h_o_laidRe h_o_laidIm h_o_byOrder h_o_noted1 h_o_counts h_o_binBy o_tapeSize o_thrown o_fault o_faultPlace o_stop o_next o_kind o_which o_at o_pointsRead o_bank o_isImage o_undos o_runRadix o_runOrder o_runNear o_runLimit o_runHalves o_power o_notedMany o_knownTold o_drawn o_told r_1 e_2) (cwV 0 hts (gv q_mX10_196 q_i_yX10_size q_s_yX10_size q_n_RX10 q_k_yX10_size) rfl rfl rfl (by decide +kernel) ⟨by decide, by decide⟩) rfl rfl (Nat.le_of_ble_eq_true rfl) dX10_largestNow_3 ⟨Nat.zero_le _, Nat.zero_le _⟩ (ci := 10) rfl 0 rfl [0, 2] [1] [1, 0, 2] rfl rfl (ws2 := (wX10_largestNow cI cJ cZ h_o h_o_all h_o_told h_o_tape h_o_words h_o_isTold h_o_toldWave h_o_isPoint h_o_quarter h_o_roots h_o_laidRe h_o_laidIm h_o_byOrder h_o_noted1 h_o_counts h_o_binBy o_tapeSize o_thrown o_fault o_faultPlace o_stop o_next o_kind o_which o_at o_pointsRead o_bank o_isImage o_undos o_runRadix o_runOrder o_runNear o_runLimit o_runHalves o_power o_notedMany o_knownTold o_drawn o_all o_told)) rfl (fun H locs hP hD hS => ?_)
  refine W.eq (g2 := F0 m 6 ls [.int r_1, .int (0 : Int32), .ref h_o]) rfl ?_
  obtain ⟨r_3, e_4, hf⟩ := bd1_x hf
  refine call_v [.int (0 : Int32), .int r_1] [] ⟨hx, hb, hml, hown, hts⟩ hK hP hD hS hA hl.1 (tX10_largestIn l G cI cJ cZ H.size h_o h_o_all h_o_tape h_o_words h_o_told h_o_isTold h_o_toldWave h_o_isPoint h_o_quarter h_o_roots h_o_laidRe h_o_laidIm h_o_byOrder h_o_noted1 h_o_counts h_o_binBy o_tapeSize o_thrown o_fault o_faultPlace o_stop o_next o_kind o_which o_at o_pointsRead o_bank o_isImage o_undos o_runRadix o_runOrder o_runNear o_runLimit o_runHalves o_power o_notedMany o_knownTold o_drawn o_all (0 : Int32) r_1 r_3 e_4) (cwV 2 hts (gv q_mX10_231 q_i_yX10_largestIn q_s_yX10_largestIn q_n_RX10 q_k_yX10_largestIn) rfl rfl rfl (by decide +kernel) ⟨by decide, by decide⟩) rfl rfl (Nat.le_of_ble_eq_true rfl) dX10_largestNow_6 ⟨Nat.zero_le _, Nat.zero_le _⟩ (ci := 10) rfl 0 rfl [0, 1] [2] [1, 2, 0] rfl rfl (ws2 := (wX10_largestNow cI cJ cZ h_o h_o_all h_o_told h_o_tape h_o_words h_o_isTold h_o_toldWave h_o_isPoint h_o_quarter h_o_roots h_o_laidRe h_o_laidIm h_o_byOrder h_o_noted1 h_o_counts h_o_binBy o_tapeSize o_thrown o_fault o_faultPlace o_stop o_next o_kind o_which o_at o_pointsRead o_bank o_isImage o_undos o_runRadix o_runOrder o_runNear o_runLimit o_runHalves o_power o_notedMany o_knownTold o_drawn o_all o_told)) rfl (fun H locs hP hD hS => ?_)
  refine W.eq (g2 := F0 m 9 ls [.int r_3]) rfl ?_
  cases hf
  exact hret _ _ _ _ dX10_largestNow_9 hP hD hS
def wX10_rounded (cI cJ cZ : ClassId) (h_o h_o_tape h_o_words h_o_told h_o_isTold h_o_toldWave h_o_isPoint h_o_all h_o_quarter h_o_roots h_o_laidRe h_o_laidIm h_o_byOrder h_o_noted1 h_o_counts h_o_binBy : Nat) (o_tapeSize : Int32) (o_thrown : Int32) (o_fault : Int32) (o_faultPlace : Int32) (o_stop : Int32) (o_next : Int32) (o_kind : Int32) (o_which : Int32) (o_at : Int32) (o_pointsRead : Int32) (o_bank : Int32) (o_isImage : Int32) (o_undos : Int32) (o_runRadix : Int32) (o_runOrder : Int32) (o_runNear : Int32) (o_runLimit : Int32) (o_runHalves : Int32) (o_power : Int32) (o_notedMany : Int32) (o_knownTold : Int32) (o_drawn : Int64) : va_W := [(h_o, .inr (10, [.ref h_o_tape, .int o_tapeSize, .int o_thrown, .ref h_o_words, .int o_fault, .int o_faultPlace, .int o_stop, .int o_next, .int o_kind, .int o_which, .int o_at, .ref h_o_told, .ref h_o_isTold, .ref h_o_toldWave, .ref h_o_isPoint, .int o_pointsRead, .ref h_o_all, .int o_bank, .int o_isImage, .int o_undos, .int o_runRadix, .int o_runOrder, .int o_runNear, .int o_runLimit, .int o_runHalves, .ref h_o_quarter, .int o_power, .ref h_o_roots, .ref h_o_laidRe, .ref h_o_laidIm, .ref h_o_byOrder, .int o_notedMany, .int o_knownTold, .ref h_o_noted1, .ref h_o_counts, .ref h_o_binBy, .long o_drawn]))]
def fX10_rounded (o_runNear : Int32) (p1 : Int64) (p2 : Int32) : Option (Int64) :=
  if o_runNear = (1 : Int32) then (
    some ((p1 + ((1 : Int64) <<< (Int32.toInt64 (p2 - (1 : Int32)) &&& 63))) >>> (Int32.toInt64 p2 &&& 63))
  ) else (
    some (p1 >>> (Int32.toInt64 p2 &&& 63))
  )
set_option maxHeartbeats 4000000 in
set_option maxRecDepth 100000 in
theorem tX10_rounded (l : Launch) (G : va_G) (cI cJ cZ : ClassId) (sz : Nat) (h_o h_o_tape h_o_words h_o_told h_o_isTold h_o_toldWave h_o_isPoint h_o_all h_o_quarter h_o_roots h_o_laidRe h_o_laidIm h_o_byOrder h_o_noted1 h_o_counts h_o_binBy : Nat) (o_tapeSize : Int32) (o_thrown : Int32) (o_fault : Int32) (o_faultPlace : Int32) (o_stop : Int32) (o_next : Int32) (o_kind : Int32) (o_which : Int32) (o_at : Int32) (o_pointsRead : Int32) (o_bank : Int32) (o_isImage : Int32) (o_undos : Int32) (o_runRadix : Int32) (o_runOrder : Int32) (o_runNear : Int32) (o_runLimit : Int32) (o_runHalves : Int32) (o_power : Int32) (o_notedMany : Int32) (o_knownTold : Int32) (o_drawn : Int64) (p1 : Int64) (p2 : Int32) (r : Int64) (hf : fX10_rounded o_runNear p1 p2 = some r) : Met l yX10_rounded (Cond.code yX10_rounded cX10_rounded 4 (some .long) :: BIG) ({ frames := 0, cells := 0, slots := 0, locals := 0 } : Room) (cP G (TY3 cI cJ cZ) [.ref h_o, .long p1, .int p2] sz (wX10_rounded cI cJ cZ h_o h_o_tape h_o_words h_o_told h_o_isTold h_o_toldWave h_o_isPoint h_o_all h_o_quarter h_o_roots h_o_laidRe h_o_laidIm h_o_byOrder h_o_noted1 h_o_counts h_o_binBy o_tapeSize o_thrown o_fault o_faultPlace o_stop o_next o_kind o_which o_at o_pointsRead o_bank o_isImage o_undos o_runRadix o_runOrder o_runNear o_runLimit o_runHalves o_power o_notedMany o_knownTold o_drawn)) (cQ G (TY3 cI cJ cZ) sz (wX10_rounded cI cJ cZ h_o h_o_tape h_o_words h_o_told h_o_isTold h_o_toldWave h_o_isPoint h_o_all h_o_quarter h_o_roots h_o_laidRe h_o_laidIm h_o_byOrder h_o_noted1 h_o_counts h_o_binBy o_tapeSize o_thrown o_fault o_faultPlace o_stop o_next o_kind o_which o_at o_pointsRead o_bank o_isImage o_undos o_runRadix o_runOrder o_runNear o_runLimit o_runHalves o_power o_notedMany o_knownTold o_drawn) (wX10_rounded cI cJ cZ h_o h_o_tape h_o_words h_o_told h_o_isTold h_o_toldWave h_o_isPoint h_o_all h_o_quarter h_o_roots h_o_laidRe h_o_laidIm h_o_byOrder h_o_noted1 h_o_counts h_o_binBy o_tapeSize o_thrown o_fault o_faultPlace o_stop o_next o_kind o_which o_at o_pointsRead o_bank o_isImage o_undos o_runRadix o_runOrder o_runNear o_runLimit o_runHalves o_power o_notedMany o_knownTold o_drawn) (some (.long r))) 0 0 (va_A (wX10_rounded cI cJ cZ h_o h_o_tape h_o_words h_o_told h_o_isTold h_o_toldWave h_o_isPoint h_o_all h_o_quarter h_o_roots h_o_laidRe h_o_laidIm h_o_byOrder h_o_noted1 h_o_counts h_o_binBy o_tapeSize o_thrown o_fault o_faultPlace o_stop o_next o_kind o_which o_at o_pointsRead o_bank o_isImage o_undos o_runRadix o_runOrder o_runNear o_runLimit o_runHalves o_power o_notedMany o_knownTold o_drawn) sz) := by
  refine met_l (cc := cX10_rounded) (maxL := 4) (plainFor_of_name (by decide)) (Nat.le_of_ble_eq_true rfl) (fun p e s m below meth c A ls Q hx hb hml hts hown hK hP hD hS hA hl hret => ?_)
  have hown : s.vm.findClass RX10 = some m.cls := hown
  have hl : lv_has ls 4 [(0, .ref h_o), (1, .long p1), (3, .int p2)] := hl
  unfold fX10_rounded at hf
  obtain ⟨H, eH⟩ : ∃ H, H = s.heap := ⟨_, rfl⟩
  obtain ⟨locs, elocs⟩ : ∃ z : List Loc, z = [] := ⟨_, rfl⟩
  have hP : va_P G vwCl (wX10_rounded cI cJ cZ h_o h_o_tape h_o_words h_o_told h_o_isTold h_o_toldWave h_o_isPoint h_o_all h_o_quarter h_o_roots h_o_laidRe h_o_laidIm h_o_byOrder h_o_noted1 h_o_counts h_o_binBy o_tapeSize o_thrown o_fault o_faultPlace o_stop o_next o_kind o_which o_at o_pointsRead o_bank o_isImage o_undos o_runRadix o_runOrder o_runNear o_runLimit o_runHalves o_power o_notedMany o_knownTold o_drawn) H := by rw [eH]; exact hP
  have hS : va_S A s.heap H locs := by rw [eH, elocs]; exact hS
  suffices hgo : W p l e ({ frames := 0, cells := 0, slots := 0, locals := 0 } : Room) s m ([.ref h_o, .long p1, .int p2] : List Value).toArray below meth c H locs 0 0 Q (F0 m 0 ls []) by rw [eH, elocs] at hgo; exact hgo
  clear eH elocs
  refine lv_aload_n hx hb dX10_rounded_0 rfl (lv_at hl 0 rfl) ?_
  refine rd (ci := 10) (C := RX10) (T := TX10) (N := 37) hx hb hts inX10 hown hK hP 0 22 rfl rfl (by decide) (hts _ q_fX10_172) rfl dX10_rounded_1 ?_
  refine lv_iconst (v := (1 : Int32)) hx hb dX10_rounded_4 (by decide) ?_
  refine lv_icmp_ne (tgt := 20) hx hb dX10_rounded_5 (by decide) (fun c_1 => ?_) (fun c_1 => ?_)
  · have hf := it_f c_1 hf
    refine lv_lload_n hx hb dX10_rounded_20 rfl (lv_at hl 1 rfl) ?_
    refine lv_iload_n hx hb dX10_rounded_21 rfl (lv_at hl 2 rfl) ?_
    refine lv_lshr hx hb dX10_rounded_22 rfl ?_
    cases hf
    exact hret _ _ _ _ dX10_rounded_23 hP hD hS
  · have hf := it_t c_1 hf
    refine lv_lload_n hx hb dX10_rounded_8 rfl (lv_at hl 1 rfl) ?_
    refine lv_lconst (v := (1 : Int64)) hx hb dX10_rounded_9 (by decide) ?_
    refine lv_iload_n hx hb dX10_rounded_10 rfl (lv_at hl 2 rfl) ?_
    refine lv_iconst (v := (1 : Int32)) hx hb dX10_rounded_11 (by decide) ?_
    refine lv_isub hx hb dX10_rounded_12 ?_
    refine lv_lshl hx hb dX10_rounded_13 rfl ?_
    refine lv_ladd hx hb dX10_rounded_14 ?_
    refine lv_iload_n hx hb dX10_rounded_15 rfl (lv_at hl 2 rfl) ?_
    refine lv_lshr hx hb dX10_rounded_16 rfl ?_
    refine lv_goto (tgt := 23) hx hb dX10_rounded_17 (by decide) ?_
    cases hf
    exact hret _ _ _ _ dX10_rounded_23 hP hD hS
def wX10_laid (cI cJ cZ : ClassId) (h_o h_o_all h_o_laidIm h_o_laidRe h_o_told h_o_tape h_o_words h_o_isTold h_o_toldWave h_o_isPoint h_o_quarter h_o_roots h_o_byOrder h_o_noted1 h_o_counts h_o_binBy : Nat) (o_tapeSize : Int32) (o_thrown : Int32) (o_fault : Int32) (o_faultPlace : Int32) (o_stop : Int32) (o_next : Int32) (o_kind : Int32) (o_which : Int32) (o_at : Int32) (o_pointsRead : Int32) (o_bank : Int32) (o_isImage : Int32) (o_undos : Int32) (o_runRadix : Int32) (o_runOrder : Int32) (o_runNear : Int32) (o_runLimit : Int32) (o_runHalves : Int32) (o_power : Int32) (o_notedMany : Int32) (o_knownTold : Int32) (o_drawn : Int64) (o_all : Nat → Int32) (o_laidIm : Nat → Int32) (o_laidRe : Nat → Int32) (o_told : Nat → Int32) : va_W := [(h_o, .inr (10, [.ref h_o_tape, .int o_tapeSize, .int o_thrown, .ref h_o_words, .int o_fault, .int o_faultPlace, .int o_stop, .int o_next, .int o_kind, .int o_which, .int o_at, .ref h_o_told, .ref h_o_isTold, .ref h_o_toldWave, .ref h_o_isPoint, .int o_pointsRead, .ref h_o_all, .int o_bank, .int o_isImage, .int o_undos, .int o_runRadix, .int o_runOrder, .int o_runNear, .int o_runLimit, .int o_runHalves, .ref h_o_quarter, .int o_power, .ref h_o_roots, .ref h_o_laidRe, .ref h_o_laidIm, .ref h_o_byOrder, .int o_notedMany, .int o_knownTold, .ref h_o_noted1, .ref h_o_counts, .ref h_o_binBy, .long o_drawn])), (h_o_all, .inl (cI, 3128, .inl o_all)), (h_o_laidIm, .inl (cI, 32, .inl o_laidIm)), (h_o_laidRe, .inl (cI, 32, .inl o_laidRe)), (h_o_told, .inl (cI, 12, .inl o_told))]
def fX10_laid_2 (o_bank : Int32) (o_laidIm : Nat → Int32) (o_laidRe : Nat → Int32) (o_told : Nat → Int32) : Nat → (Nat → Int32) → Int32 → Option ((Nat → Int32))
  | 0, _, _ => none
  | n + 1, o_all, v1 =>
    bd1 (fX10_size o_told) (fun r_1 =>
    if r_1 ≤ v1 then (
      some o_all
    ) else (
      gd (inb v1 32) (
      bd1 (fX10_lay o_bank o_all v1 (o_laidRe (Int32.toNatClampNeg v1))) (fun o_all_5 =>
      gd (inb v1 32) (
      bd1 (fX10_lay o_bank o_all_5 ((32 : Int32) + v1) (o_laidIm (Int32.toNatClampNeg v1))) (fun o_all_8 =>
      nm (v1 + (1 : Int32)) (fun v1_10 =>
      fX10_laid_2 o_bank o_laidIm o_laidRe o_told n o_all_8 v1_10)))))
    ))
def fX10_laid (o_bank : Int32) (o_all : Nat → Int32) (o_laidIm : Nat → Int32) (o_laidRe : Nat → Int32) (o_told : Nat → Int32) : Option ((Nat → Int32)) :=
  fX10_laid_2 o_bank o_laidIm o_laidRe o_told FU o_all (0 : Int32)
set_option maxHeartbeats 4000000 in
set_option maxRecDepth 100000 in
theorem tX10_laid (l : Launch) (G : va_G) (cI cJ cZ : ClassId) (sz : Nat) (h_o h_o_all h_o_laidIm h_o_laidRe h_o_told h_o_tape h_o_words h_o_isTold h_o_toldWave h_o_isPoint h_o_quarter h_o_roots h_o_byOrder h_o_noted1 h_o_counts h_o_binBy : Nat) (o_tapeSize : Int32) (o_thrown : Int32) (o_fault : Int32) (o_faultPlace : Int32) (o_stop : Int32) (o_next : Int32) (o_kind : Int32) (o_which : Int32) (o_at : Int32) (o_pointsRead : Int32) (o_bank : Int32) (o_isImage : Int32) (o_undos : Int32) (o_runRadix : Int32) (o_runOrder : Int32) (o_runNear : Int32) (o_runLimit : Int32) (o_runHalves : Int32) (o_power : Int32) (o_notedMany : Int32) (o_knownTold : Int32) (o_drawn : Int64) (o_all : Nat → Int32) (o_laidIm : Nat → Int32) (o_laidRe : Nat → Int32) (o_told : Nat → Int32) (out_o_all : Nat → Int32) (hf : fX10_laid o_bank o_all o_laidIm o_laidRe o_told = some out_o_all) : Met l yX10_laid (Cond.code yX10_laid cX10_laid 2 none :: BIG) ({ frames := 1, cells := 0, slots := 0, locals := 22 } : Room) (cP G (TY3 cI cJ cZ) [.ref h_o] sz (wX10_laid cI cJ cZ h_o h_o_all h_o_laidIm h_o_laidRe h_o_told h_o_tape h_o_words h_o_isTold h_o_toldWave h_o_isPoint h_o_quarter h_o_roots h_o_byOrder h_o_noted1 h_o_counts h_o_binBy o_tapeSize o_thrown o_fault o_faultPlace o_stop o_next o_kind o_which o_at o_pointsRead o_bank o_isImage o_undos o_runRadix o_runOrder o_runNear o_runLimit o_runHalves o_power o_notedMany o_knownTold o_drawn o_all o_laidIm o_laidRe o_told)) (cQ G (TY3 cI cJ cZ) sz (wX10_laid cI cJ cZ h_o h_o_all h_o_laidIm h_o_laidRe h_o_told h_o_tape h_o_words h_o_isTold h_o_toldWave h_o_isPoint h_o_quarter h_o_roots h_o_byOrder h_o_noted1 h_o_counts h_o_binBy o_tapeSize o_thrown o_fault o_faultPlace o_stop o_next o_kind o_which o_at o_pointsRead o_bank o_isImage o_undos o_runRadix o_runOrder o_runNear o_runLimit o_runHalves o_power o_notedMany o_knownTold o_drawn o_all o_laidIm o_laidRe o_told) (wX10_laid cI cJ cZ h_o h_o_all h_o_laidIm h_o_laidRe h_o_told h_o_tape h_o_words h_o_isTold h_o_toldWave h_o_isPoint h_o_quarter h_o_roots h_o_byOrder h_o_noted1 h_o_counts h_o_binBy o_tapeSize o_thrown o_fault o_faultPlace o_stop o_next o_kind o_which o_at o_pointsRead o_bank o_isImage o_undos o_runRadix o_runOrder o_runNear o_runLimit o_runHalves o_power o_notedMany o_knownTold o_drawn out_o_all o_laidIm o_laidRe o_told) none) 0 0 (va_A (wX10_laid cI cJ cZ h_o h_o_all h_o_laidIm h_o_laidRe h_o_told h_o_tape h_o_words h_o_isTold h_o_toldWave h_o_isPoint h_o_quarter h_o_roots h_o_byOrder h_o_noted1 h_o_counts h_o_binBy o_tapeSize o_thrown o_fault o_faultPlace o_stop o_next o_kind o_which o_at o_pointsRead o_bank o_isImage o_undos o_runRadix o_runOrder o_runNear o_runLimit o_runHalves o_power o_notedMany o_knownTold o_drawn o_all o_laidIm o_laidRe o_told) sz) := by
  refine met_v (cc := cX10_laid) (maxL := 2) (plainFor_of_name (by decide)) (Nat.le_of_ble_eq_true rfl) (fun p e s m below meth c A ls Q hx hb hml hts hown hK hP hD hS hA hl hret => ?_)
  have hown : s.vm.findClass RX10 = some m.cls := hown
  have hl : lv_has ls 2 [(0, .ref h_o)] := hl
  have j2 : ∀ (n : Nat) (o_all : Nat → Int32) (v1 : Int32) (H : Heap) (locs : List Loc) (ls : Array Slot), fX10_laid_2 o_bank o_laidIm o_laidRe o_told n o_all v1 = some out_o_all → va_P G vwCl (wX10_laid cI cJ cZ h_o h_o_all h_o_laidIm h_o_laidRe h_o_told h_o_tape h_o_words h_o_isTold h_o_toldWave h_o_isPoint h_o_quarter h_o_roots h_o_byOrder h_o_noted1 h_o_counts h_o_binBy o_tapeSize o_thrown o_fault o_faultPlace o_stop o_next o_kind o_which o_at o_pointsRead o_bank o_isImage o_undos o_runRadix o_runOrder o_runNear o_runLimit o_runHalves o_power o_notedMany o_knownTold o_drawn o_all o_laidIm o_laidRe o_told) H → va_D A (wX10_laid cI cJ cZ h_o h_o_all h_o_laidIm h_o_laidRe h_o_told h_o_tape h_o_words h_o_isTold h_o_toldWave h_o_isPoint h_o_quarter h_o_roots h_o_byOrder h_o_noted1 h_o_counts h_o_binBy o_tapeSize o_thrown o_fault o_faultPlace o_stop o_next o_kind o_which o_at o_pointsRead o_bank o_isImage o_undos o_runRadix o_runOrder o_runNear o_runLimit o_runHalves o_power o_notedMany o_knownTold o_drawn o_all o_laidIm o_laidRe o_told) → va_S A s.heap H locs → lv_has ls 2 [(0, .ref h_o), (1, .int v1)] → W p l e ({ frames := 1, cells := 0, slots := 0, locals := 22 } : Room) s m ([.ref h_o] : List Value).toArray below meth c H locs 0 0 Q (F0 m 2 ls []) := by
    intro n
    induction n with
    | zero =>
      intro o_all v1 H locs ls hf
      have hf : (none : Option ((Nat → Int32))) = some out_o_all := hf
      cases hf
    | succ n ih =>
      intro o_all v1 H locs ls hf hP hD hS hl
      rw [fX10_laid_2.eq_2] at hf
      refine lv_iload_n hx hb dX10_laid_2 rfl (lv_at hl 1 rfl) ?_
      refine lv_aload_n hx hb dX10_laid_3 rfl (lv_at hl 0 rfl) ?_
      obtain ⟨r_1, e_2, hf⟩ := bd1_x hf
      refine call_v [] [.int v1] ⟨hx, hb, hml, hown, hts⟩ hK hP hD hS hA hl.1 (tX10_size l G cI cJ cZ H.size h_o h_o_told h_o_tape h_o_words h_o_isTold h_o_toldWave h_o_isPoint h_o_all h_o_quarter h_o_roots h_o_laidRe h_o_laidIm h_o_byOrder h_o_noted1 h_o_counts h_o_binBy o_tapeSize o_thrown o_fault o_faultPlace o_stop o_next o_kind o_which o_at o_pointsRead o_bank o_isImage o_undos o_runRadix o_runOrder o_runNear o_runLimit o_runHalves o_power o_notedMany o_knownTold o_drawn o_told r_1 e_2) (cwV 0 hts (gv q_mX10_196 q_i_yX10_size q_s_yX10_size q_n_RX10 q_k_yX10_size) rfl rfl rfl (by decide +kernel) ⟨by decide, by decide⟩) rfl rfl (Nat.le_of_ble_eq_true rfl) dX10_laid_4 ⟨Nat.zero_le _, Nat.zero_le _⟩ (ci := 10) rfl 0 rfl [0, 4] [1, 2, 3] [3, 0, 1, 2, 4] rfl rfl (ws2 := (wX10_laid cI cJ cZ h_o h_o_all h_o_laidIm h_o_laidRe h_o_told h_o_tape h_o_words h_o_isTold h_o_toldWave h_o_isPoint h_o_quarter h_o_roots h_o_byOrder h_o_noted1 h_o_counts h_o_binBy o_tapeSize o_thrown o_fault o_faultPlace o_stop o_next o_kind o_which o_at o_pointsRead o_bank o_isImage o_undos o_runRadix o_runOrder o_runNear o_runLimit o_runHalves o_power o_notedMany o_knownTold o_drawn o_all o_laidIm o_laidRe o_told)) rfl (fun H locs hP hD hS => ?_)
      refine W.eq (g2 := F0 m 7 ls [.int r_1, .int v1]) rfl ?_
      refine lv_icmp_ge (tgt := 41) hx hb dX10_laid_7 (by decide) (fun c_3 => ?_) (fun c_3 => ?_)
      · have hf := it_t c_3 hf
        cases hf
        exact hret _ _ _ _ dX10_laid_41 hP hD hS
      · have hf := it_f c_3 hf
        refine lv_aload_n hx hb dX10_laid_10 rfl (lv_at hl 0 rfl) ?_
        refine lv_iload_n hx hb dX10_laid_11 rfl (lv_at hl 1 rfl) ?_
        refine lv_aload_n hx hb dX10_laid_12 rfl (lv_at hl 0 rfl) ?_
        refine rd (ci := 10) (C := RX10) (T := TX10) (N := 37) hx hb hts inX10 hown hK hP 0 28 rfl rfl (by decide) (hts _ q_fX10_42) rfl dX10_laid_13 ?_
        refine lv_iload_n hx hb dX10_laid_16 rfl (lv_at hl 1 rfl) ?_
        obtain ⟨g_4, hf⟩ := gd_x hf
        refine va_iald hx hb hK hP 3 0 rfl rfl (inb_x g_4) dX10_laid_17 ?_
        obtain ⟨o_all_5, e_6, hf⟩ := bd1_x hf
        refine call_v [.int v1, .int (o_laidRe (Int32.toNatClampNeg v1))] [] ⟨hx, hb, hml, hown, hts⟩ hK hP hD hS hA hl.1 (tX10_lay l G cI cJ cZ H.size h_o h_o_all h_o_tape h_o_words h_o_told h_o_isTold h_o_toldWave h_o_isPoint h_o_quarter h_o_roots h_o_laidRe h_o_laidIm h_o_byOrder h_o_noted1 h_o_counts h_o_binBy o_tapeSize o_thrown o_fault o_faultPlace o_stop o_next o_kind o_which o_at o_pointsRead o_bank o_isImage o_undos o_runRadix o_runOrder o_runNear o_runLimit o_runHalves o_power o_notedMany o_knownTold o_drawn o_all v1 (o_laidRe (Int32.toNatClampNeg v1)) o_all_5 e_6) (cwV 2 hts (gv q_mX10_118 q_i_yX10_lay q_s_yX10_lay q_n_RX10 q_k_yX10_lay) rfl rfl rfl (by decide +kernel) ⟨by decide, by decide⟩) rfl rfl (Nat.le_of_ble_eq_true rfl) dX10_laid_18 ⟨Nat.zero_le _, Nat.zero_le _⟩ (ci := 10) rfl 0 rfl [0, 1] [2, 3, 4] [3, 4, 0, 1, 2] rfl rfl (ws2 := (wX10_laid cI cJ cZ h_o h_o_all h_o_laidIm h_o_laidRe h_o_told h_o_tape h_o_words h_o_isTold h_o_toldWave h_o_isPoint h_o_quarter h_o_roots h_o_byOrder h_o_noted1 h_o_counts h_o_binBy o_tapeSize o_thrown o_fault o_faultPlace o_stop o_next o_kind o_which o_at o_pointsRead o_bank o_isImage o_undos o_runRadix o_runOrder o_runNear o_runLimit o_runHalves o_power o_notedMany o_knownTold o_drawn o_all_5 o_laidIm o_laidRe o_told)) rfl (fun H locs hP hD hS => ?_)
        refine W.eq (g2 := F0 m 21 ls []) rfl ?_
        refine lv_aload_n hx hb dX10_laid_21 rfl (lv_at hl 0 rfl) ?_
        refine lv_bipush (v := (32 : Int32)) hx hb dX10_laid_22 (by decide) ?_
        refine lv_iload_n hx hb dX10_laid_24 rfl (lv_at hl 1 rfl) ?_
        refine lv_iadd hx hb dX10_laid_25 ?_
        refine lv_aload_n hx hb dX10_laid_26 rfl (lv_at hl 0 rfl) ?_
        refine rd (ci := 10) (C := RX10) (T := TX10) (N := 37) hx hb hts inX10 hown hK hP 0 29 rfl rfl (by decide) (hts _ q_fX10_45) rfl dX10_laid_27 ?_
        refine lv_iload_n hx hb dX10_laid_30 rfl (lv_at hl 1 rfl) ?_
        obtain ⟨g_7, hf⟩ := gd_x hf
        refine va_iald hx hb hK hP 2 0 rfl rfl (inb_x g_7) dX10_laid_31 ?_
        obtain ⟨o_all_8, e_9, hf⟩ := bd1_x hf
        refine call_v [.int ((32 : Int32) + v1), .int (o_laidIm (Int32.toNatClampNeg v1))] [] ⟨hx, hb, hml, hown, hts⟩ hK hP hD hS hA hl.1 (tX10_lay l G cI cJ cZ H.size h_o h_o_all h_o_tape h_o_words h_o_told h_o_isTold h_o_toldWave h_o_isPoint h_o_quarter h_o_roots h_o_laidRe h_o_laidIm h_o_byOrder h_o_noted1 h_o_counts h_o_binBy o_tapeSize o_thrown o_fault o_faultPlace o_stop o_next o_kind o_which o_at o_pointsRead o_bank o_isImage o_undos o_runRadix o_runOrder o_runNear o_runLimit o_runHalves o_power o_notedMany o_knownTold o_drawn o_all_5 ((32 : Int32) + v1) (o_laidIm (Int32.toNatClampNeg v1)) o_all_8 e_9) (cwV 2 hts (gv q_mX10_118 q_i_yX10_lay q_s_yX10_lay q_n_RX10 q_k_yX10_lay) rfl rfl rfl (by decide +kernel) ⟨by decide, by decide⟩) rfl rfl (Nat.le_of_ble_eq_true rfl) dX10_laid_32 ⟨Nat.zero_le _, Nat.zero_le _⟩ (ci := 10) rfl 0 rfl [0, 1] [2, 3, 4] [3, 4, 0, 1, 2] rfl rfl (ws2 := (wX10_laid cI cJ cZ h_o h_o_all h_o_laidIm h_o_laidRe h_o_told h_o_tape h_o_words h_o_isTold h_o_toldWave h_o_isPoint h_o_quarter h_o_roots h_o_byOrder h_o_noted1 h_o_counts h_o_binBy o_tapeSize o_thrown o_fault o_faultPlace o_stop o_next o_kind o_which o_at o_pointsRead o_bank o_isImage o_undos o_runRadix o_runOrder o_runNear o_runLimit o_runHalves o_power o_notedMany o_knownTold o_drawn o_all_8 o_laidIm o_laidRe o_told)) rfl (fun H locs hP hD hS => ?_)
        refine W.eq (g2 := F0 m 35 ls []) rfl ?_
        obtain ⟨v1_10, ev1_10⟩ : ∃ y : Int32, y = v1 + (1 : Int32) := ⟨_, rfl⟩
        have hf := nm_x ev1_10 hf
        refine lv_iinc (v := v1_10) (lv' := [(1, .int v1_10), (0, .ref h_o)]) hx hb dX10_laid_35 hl (k := 1) rfl (by rw [ev1_10]; rfl) (by decide) rfl (fun ls hl => ?_)
        refine lv_goto (tgt := 2) hx hb dX10_laid_38 (by decide) ?_
        exact ih o_all_8 v1_10 H locs ls hf hP hD hS (lv_sub hl [1, 0] rfl)
  unfold fX10_laid at hf
  obtain ⟨H, eH⟩ : ∃ H, H = s.heap := ⟨_, rfl⟩
  obtain ⟨locs, elocs⟩ : ∃ z : List Loc, z = [] := ⟨_, rfl⟩
  have hP : va_P G vwCl (wX10_laid cI cJ cZ h_o h_o_all h_o_laidIm h_o_laidRe h_o_told h_o_tape h_o_words h_o_isTold h_o_toldWave h_o_isPoint h_o_quarter h_o_roots h_o_byOrder h_o_noted1 h_o_counts h_o_binBy o_tapeSize o_thrown o_fault o_faultPlace o_stop o_next o_kind o_which o_at o_pointsRead o_bank o_isImage o_undos o_runRadix o_runOrder o_runNear o_runLimit o_runHalves o_power o_notedMany o_knownTold o_drawn o_all o_laidIm o_laidRe o_told) H := by rw [eH]; exact hP
  have hS : va_S A s.heap H locs := by rw [eH, elocs]; exact hS
  suffices hgo : W p l e ({ frames := 1, cells := 0, slots := 0, locals := 22 } : Room) s m ([.ref h_o] : List Value).toArray below meth c H locs 0 0 Q (F0 m 0 ls []) by rw [eH, elocs] at hgo; exact hgo
  clear eH elocs
  refine lv_iconst (v := (0 : Int32)) hx hb dX10_laid_0 (by decide) ?_
  refine lv_istore_n (lv' := [(1, .int (0 : Int32)), (0, .ref h_o)]) hx hb dX10_laid_1 rfl hl (by decide) rfl (fun ls hl => ?_)
  exact j2 FU o_all (0 : Int32) H locs ls hf hP hD hS (lv_sub hl [1, 0] rfl)
def wX10_reverses (cI cJ cZ : ClassId) (h_o h_o_all h_o_laidIm h_o_laidRe h_o_told h_o_tape h_o_words h_o_isTold h_o_toldWave h_o_isPoint h_o_quarter h_o_roots h_o_byOrder h_o_noted1 h_o_counts h_o_binBy : Nat) (o_tapeSize : Int32) (o_thrown : Int32) (o_fault : Int32) (o_faultPlace : Int32) (o_stop : Int32) (o_next : Int32) (o_kind : Int32) (o_which : Int32) (o_at : Int32) (o_pointsRead : Int32) (o_bank : Int32) (o_isImage : Int32) (o_undos : Int32) (o_runRadix : Int32) (o_runOrder : Int32) (o_runNear : Int32) (o_runLimit : Int32) (o_runHalves : Int32) (o_power : Int32) (o_notedMany : Int32) (o_knownTold : Int32) (o_drawn : Int64) (o_all : Nat → Int32) (o_laidIm : Nat → Int32) (o_laidRe : Nat → Int32) (o_told : Nat → Int32) : va_W := [(h_o, .inr (10, [.ref h_o_tape, .int o_tapeSize, .int o_thrown, .ref h_o_words, .int o_fault, .int o_faultPlace, .int o_stop, .int o_next, .int o_kind, .int o_which, .int o_at, .ref h_o_told, .ref h_o_isTold, .ref h_o_toldWave, .ref h_o_isPoint, .int o_pointsRead, .ref h_o_all, .int o_bank, .int o_isImage, .int o_undos, .int o_runRadix, .int o_runOrder, .int o_runNear, .int o_runLimit, .int o_runHalves, .ref h_o_quarter, .int o_power, .ref h_o_roots, .ref h_o_laidRe, .ref h_o_laidIm, .ref h_o_byOrder, .int o_notedMany, .int o_knownTold, .ref h_o_noted1, .ref h_o_counts, .ref h_o_binBy, .long o_drawn])), (h_o_all, .inl (cI, 3128, .inl o_all)), (h_o_laidIm, .inl (cI, 32, .inl o_laidIm)), (h_o_laidRe, .inl (cI, 32, .inl o_laidRe)), (h_o_told, .inl (cI, 12, .inl o_told))]
def fX10_reverses_47 (o_bank : Int32) (o_told : Nat → Int32) (o_all : Nat → Int32) (o_laidIm : Nat → Int32) (o_laidRe : Nat → Int32) : Option ((Nat → Int32) × (Nat → Int32) × (Nat → Int32)) :=
  bd1 (fX10_laid o_bank o_all o_laidIm o_laidRe o_told) (fun o_all_15 =>
  some (o_all_15, o_laidIm, o_laidRe))
def fX10_reverses_2 (o_bank : Int32) (o_runRadix : Int32) (o_runOrder : Int32) (o_power : Int32) (o_told : Nat → Int32) : Nat → (Nat → Int32) → (Nat → Int32) → (Nat → Int32) → Int32 → Option ((Nat → Int32) × (Nat → Int32) × (Nat → Int32))
  | 0, _, _, _, _ => none
  | n + 1, o_all, o_laidIm, o_laidRe, v1 =>
    bd1 (fX10_size o_told) (fun r_1 =>
    if r_1 ≤ v1 then (
      fX10_reverses_47 o_bank o_told o_all o_laidIm o_laidRe
    ) else (
      bd1 (fX10_reversedOf o_runRadix o_runOrder o_power v1) (fun r_4 =>
      bd1 (fX10_of o_bank o_all v1) (fun r_6 =>
      gd (inb r_4 32) (
      nm (upd o_laidRe (Int32.toNatClampNeg r_4) r_6) (fun o_laidRe_9 =>
      bd1 (fX10_of o_bank o_all ((32 : Int32) + v1)) (fun r_10 =>
      gd (inb r_4 32) (
      nm (upd o_laidIm (Int32.toNatClampNeg r_4) r_10) (fun o_laidIm_13 =>
      nm (v1 + (1 : Int32)) (fun v1_14 =>
      fX10_reverses_2 o_bank o_runRadix o_runOrder o_power o_told n o_all o_laidIm_13 o_laidRe_9 v1_14))))))))
    ))
def fX10_reverses (o_bank : Int32) (o_runRadix : Int32) (o_runOrder : Int32) (o_power : Int32) (o_all : Nat → Int32) (o_laidIm : Nat → Int32) (o_laidRe : Nat → Int32) (o_told : Nat → Int32) : Option ((Nat → Int32) × (Nat → Int32) × (Nat → Int32)) :=
  fX10_reverses_2 o_bank o_runRadix o_runOrder o_power o_told FU o_all o_laidIm o_laidRe (0 : Int32)
set_option maxHeartbeats 4000000 in
set_option maxRecDepth 100000 in
theorem tX10_reverses (l : Launch) (G : va_G) (cI cJ cZ : ClassId) (sz : Nat) (h_o h_o_all h_o_laidIm h_o_laidRe h_o_told h_o_tape h_o_words h_o_isTold h_o_toldWave h_o_isPoint h_o_quarter h_o_roots h_o_byOrder h_o_noted1 h_o_counts h_o_binBy : Nat) (o_tapeSize : Int32) (o_thrown : Int32) (o_fault : Int32) (o_faultPlace : Int32) (o_stop : Int32) (o_next : Int32) (o_kind : Int32) (o_which : Int32) (o_at : Int32) (o_pointsRead : Int32) (o_bank : Int32) (o_isImage : Int32) (o_undos : Int32) (o_runRadix : Int32) (o_runOrder : Int32) (o_runNear : Int32) (o_runLimit : Int32) (o_runHalves : Int32) (o_power : Int32) (o_notedMany : Int32) (o_knownTold : Int32) (o_drawn : Int64) (o_all : Nat → Int32) (o_laidIm : Nat → Int32) (o_laidRe : Nat → Int32) (o_told : Nat → Int32) (out_o_all : Nat → Int32) (out_o_laidIm : Nat → Int32) (out_o_laidRe : Nat → Int32) (hf : fX10_reverses o_bank o_runRadix o_runOrder o_power o_all o_laidIm o_laidRe o_told = some (out_o_all, out_o_laidIm, out_o_laidRe)) : Met l yX10_reverses (Cond.code yX10_reverses cX10_reverses 3 none :: BIG) ({ frames := 4, cells := 0, slots := 0, locals := 88 } : Room) (cP G (TY3 cI cJ cZ) [.ref h_o] sz (wX10_reverses cI cJ cZ h_o h_o_all h_o_laidIm h_o_laidRe h_o_told h_o_tape h_o_words h_o_isTold h_o_toldWave h_o_isPoint h_o_quarter h_o_roots h_o_byOrder h_o_noted1 h_o_counts h_o_binBy o_tapeSize o_thrown o_fault o_faultPlace o_stop o_next o_kind o_which o_at o_pointsRead o_bank o_isImage o_undos o_runRadix o_runOrder o_runNear o_runLimit o_runHalves o_power o_notedMany o_knownTold o_drawn o_all o_laidIm o_laidRe o_told)) (cQ G (TY3 cI cJ cZ) sz (wX10_reverses cI cJ cZ h_o h_o_all h_o_laidIm h_o_laidRe h_o_told h_o_tape h_o_words h_o_isTold h_o_toldWave h_o_isPoint h_o_quarter h_o_roots h_o_byOrder h_o_noted1 h_o_counts h_o_binBy o_tapeSize o_thrown o_fault o_faultPlace o_stop o_next o_kind o_which o_at o_pointsRead o_bank o_isImage o_undos o_runRadix o_runOrder o_runNear o_runLimit o_runHalves o_power o_notedMany o_knownTold o_drawn o_all o_laidIm o_laidRe o_told) (wX10_reverses cI cJ cZ h_o h_o_all h_o_laidIm h_o_laidRe h_o_told h_o_tape h_o_words h_o_isTold h_o_toldWave h_o_isPoint h_o_quarter h_o_roots h_o_byOrder h_o_noted1 h_o_counts h_o_binBy o_tapeSize o_thrown o_fault o_faultPlace o_stop o_next o_kind o_which o_at o_pointsRead o_bank o_isImage o_undos o_runRadix o_runOrder o_runNear o_runLimit o_runHalves o_power o_notedMany o_knownTold o_drawn out_o_all out_o_laidIm out_o_laidRe o_told) none) 0 0 (va_A (wX10_reverses cI cJ cZ h_o h_o_all h_o_laidIm h_o_laidRe h_o_told h_o_tape h_o_words h_o_isTold h_o_toldWave h_o_isPoint h_o_quarter h_o_roots h_o_byOrder h_o_noted1 h_o_counts h_o_binBy o_tapeSize o_thrown o_fault o_faultPlace o_stop o_next o_kind o_which o_at o_pointsRead o_bank o_isImage o_undos o_runRadix o_runOrder o_runNear o_runLimit o_runHalves o_power o_notedMany o_knownTold o_drawn o_all o_laidIm o_laidRe o_told) sz) := by
  refine met_v (cc := cX10_reverses) (maxL := 3) (plainFor_of_name (by decide)) (Nat.le_of_ble_eq_true rfl) (fun p e s m below meth c A ls Q hx hb hml hts hown hK hP hD hS hA hl hret => ?_)
  have hown : s.vm.findClass RX10 = some m.cls := hown
  have hl : lv_has ls 3 [(0, .ref h_o)] := hl
  have j47 : ∀ (o_all : Nat → Int32) (o_laidIm : Nat → Int32) (o_laidRe : Nat → Int32) (H : Heap) (locs : List Loc) (ls : Array Slot), fX10_reverses_47 o_bank o_told o_all o_laidIm o_laidRe = some (out_o_all, out_o_laidIm, out_o_laidRe) → va_P G vwCl (wX10_reverses cI cJ cZ h_o h_o_all h_o_laidIm h_o_laidRe h_o_told h_o_tape h_o_words h_o_isTold h_o_toldWave h_o_isPoint h_o_quarter h_o_roots h_o_byOrder h_o_noted1 h_o_counts h_o_binBy o_tapeSize o_thrown o_fault o_faultPlace o_stop o_next o_kind o_which o_at o_pointsRead o_bank o_isImage o_undos o_runRadix o_runOrder o_runNear o_runLimit o_runHalves o_power o_notedMany o_knownTold o_drawn o_all o_laidIm o_laidRe o_told) H → va_D A (wX10_reverses cI cJ cZ h_o h_o_all h_o_laidIm h_o_laidRe h_o_told h_o_tape h_o_words h_o_isTold h_o_toldWave h_o_isPoint h_o_quarter h_o_roots h_o_byOrder h_o_noted1 h_o_counts h_o_binBy o_tapeSize o_thrown o_fault o_faultPlace o_stop o_next o_kind o_which o_at o_pointsRead o_bank o_isImage o_undos o_runRadix o_runOrder o_runNear o_runLimit o_runHalves o_power o_notedMany o_knownTold o_drawn o_all o_laidIm o_laidRe o_told) → va_S A s.heap H locs → lv_has ls 3 [(0, .ref h_o)] → W p l e ({ frames := 4, cells := 0, slots := 0, locals := 88 } : Room) s m ([.ref h_o] : List Value).toArray below meth c H locs 0 0 Q (F0 m 47 ls []) := by
    intro o_all o_laidIm o_laidRe H locs ls hf hP hD hS hl
    unfold fX10_reverses_47 at hf
    refine lv_aload_n hx hb dX10_reverses_47 rfl (lv_at hl 0 rfl) ?_
    obtain ⟨o_all_15, e_16, hf⟩ := bd1_x hf
    refine call_v [] [] ⟨hx, hb, hml, hown, hts⟩ hK hP hD hS hA hl.1 (tX10_laid l G cI cJ cZ H.size h_o h_o_all h_o_laidIm h_o_laidRe h_o_told h_o_tape h_o_words h_o_isTold h_o_toldWave h_o_isPoint h_o_quarter h_o_roots h_o_byOrder h_o_noted1 h_o_counts h_o_binBy o_tapeSize o_thrown o_fault o_faultPlace o_stop o_next o_kind o_which o_at o_pointsRead o_bank o_isImage o_undos o_runRadix o_runOrder o_runNear o_runLimit o_runHalves o_power o_notedMany o_knownTold o_drawn o_all o_laidIm o_laidRe o_told o_all_15 e_16) (cwV 0 hts (gv q_mX10_234 q_i_yX10_laid q_s_yX10_laid q_n_RX10 q_k_yX10_laid) rfl rfl rfl (by decide +kernel) ⟨by decide, by decide⟩) rfl rfl (Nat.le_of_ble_eq_true rfl) dX10_reverses_48 ⟨Nat.zero_le _, Nat.zero_le _⟩ (ci := 10) rfl 0 rfl [0, 1, 2, 3, 4] [] [0, 1, 2, 3, 4] rfl rfl (ws2 := (wX10_reverses cI cJ cZ h_o h_o_all h_o_laidIm h_o_laidRe h_o_told h_o_tape h_o_words h_o_isTold h_o_toldWave h_o_isPoint h_o_quarter h_o_roots h_o_byOrder h_o_noted1 h_o_counts h_o_binBy o_tapeSize o_thrown o_fault o_faultPlace o_stop o_next o_kind o_which o_at o_pointsRead o_bank o_isImage o_undos o_runRadix o_runOrder o_runNear o_runLimit o_runHalves o_power o_notedMany o_knownTold o_drawn o_all_15 o_laidIm o_laidRe o_told)) rfl (fun H locs hP hD hS => ?_)
    refine W.eq (g2 := F0 m 51 ls []) rfl ?_
    cases hf
    exact hret _ _ _ _ dX10_reverses_51 hP hD hS
  have j2 : ∀ (n : Nat) (o_all : Nat → Int32) (o_laidIm : Nat → Int32) (o_laidRe : Nat → Int32) (v1 : Int32) (H : Heap) (locs : List Loc) (ls : Array Slot), fX10_reverses_2 o_bank o_runRadix o_runOrder o_power o_told n o_all o_laidIm o_laidRe v1 = some (out_o_all, out_o_laidIm, out_o_laidRe) → va_P G vwCl (wX10_reverses cI cJ cZ h_o h_o_all h_o_laidIm h_o_laidRe h_o_told h_o_tape h_o_words h_o_isTold h_o_toldWave h_o_isPoint h_o_quarter h_o_roots h_o_byOrder h_o_noted1 h_o_counts h_o_binBy o_tapeSize o_thrown o_fault o_faultPlace o_stop o_next o_kind o_which o_at o_pointsRead o_bank o_isImage o_undos o_runRadix o_runOrder o_runNear o_runLimit o_runHalves o_power o_notedMany o_knownTold o_drawn o_all o_laidIm o_laidRe o_told) H → va_D A (wX10_reverses cI cJ cZ h_o h_o_all h_o_laidIm h_o_laidRe h_o_told h_o_tape h_o_words h_o_isTold h_o_toldWave h_o_isPoint h_o_quarter h_o_roots h_o_byOrder h_o_noted1 h_o_counts h_o_binBy o_tapeSize o_thrown o_fault o_faultPlace o_stop o_next o_kind o_which o_at o_pointsRead o_bank o_isImage o_undos o_runRadix o_runOrder o_runNear o_runLimit o_runHalves o_power o_notedMany o_knownTold o_drawn o_all o_laidIm o_laidRe o_told) → va_S A s.heap H locs → lv_has ls 3 [(0, .ref h_o), (1, .int v1)] → W p l e ({ frames := 4, cells := 0, slots := 0, locals := 88 } : Room) s m ([.ref h_o] : List Value).toArray below meth c H locs 0 0 Q (F0 m 2 ls []) := by
    intro n
    induction n with
    | zero =>
      intro o_all o_laidIm o_laidRe v1 H locs ls hf
      have hf : (none : Option ((Nat → Int32) × (Nat → Int32) × (Nat → Int32))) = some (out_o_all, out_o_laidIm, out_o_laidRe) := hf
      cases hf
    | succ n ih =>
      intro o_all o_laidIm o_laidRe v1 H locs ls hf hP hD hS hl
      rw [fX10_reverses_2.eq_2] at hf
      refine lv_iload_n hx hb dX10_reverses_2 rfl (lv_at hl 1 rfl) ?_
      refine lv_aload_n hx hb dX10_reverses_3 rfl (lv_at hl 0 rfl) ?_
      obtain ⟨r_1, e_2, hf⟩ := bd1_x hf
      refine call_v [] [.int v1] ⟨hx, hb, hml, hown, hts⟩ hK hP hD hS hA hl.1 (tX10_size l G cI cJ cZ H.size h_o h_o_told h_o_tape h_o_words h_o_isTold h_o_toldWave h_o_isPoint h_o_all h_o_quarter h_o_roots h_o_laidRe h_o_laidIm h_o_byOrder h_o_noted1 h_o_counts h_o_binBy o_tapeSize o_thrown o_fault o_faultPlace o_stop o_next o_kind o_which o_at o_pointsRead o_bank o_isImage o_undos o_runRadix o_runOrder o_runNear o_runLimit o_runHalves o_power o_notedMany o_knownTold o_drawn o_told r_1 e_2) (cwV 0 hts (gv q_mX10_196 q_i_yX10_size q_s_yX10_size q_n_RX10 q_k_yX10_size) rfl rfl rfl (by decide +kernel) ⟨by decide, by decide⟩) rfl rfl (Nat.le_of_ble_eq_true rfl) dX10_reverses_4 ⟨Nat.zero_le _, Nat.zero_le _⟩ (ci := 10) rfl 0 rfl [0, 4] [1, 2, 3] [3, 0, 1, 2, 4] rfl rfl (ws2 := (wX10_reverses cI cJ cZ h_o h_o_all h_o_laidIm h_o_laidRe h_o_told h_o_tape h_o_words h_o_isTold h_o_toldWave h_o_isPoint h_o_quarter h_o_roots h_o_byOrder h_o_noted1 h_o_counts h_o_binBy o_tapeSize o_thrown o_fault o_faultPlace o_stop o_next o_kind o_which o_at o_pointsRead o_bank o_isImage o_undos o_runRadix o_runOrder o_runNear o_runLimit o_runHalves o_power o_notedMany o_knownTold o_drawn o_all o_laidIm o_laidRe o_told)) rfl (fun H locs hP hD hS => ?_)
      refine W.eq (g2 := F0 m 7 ls [.int r_1, .int v1]) rfl ?_
      refine lv_icmp_ge (tgt := 47) hx hb dX10_reverses_7 (by decide) (fun c_3 => ?_) (fun c_3 => ?_)
      · have hf := it_t c_3 hf
        exact j47 o_all o_laidIm o_laidRe H locs ls hf hP hD hS (lv_sub hl [0] rfl)
      · have hf := it_f c_3 hf
        refine lv_aload_n hx hb dX10_reverses_10 rfl (lv_at hl 0 rfl) ?_
        refine lv_iload_n hx hb dX10_reverses_11 rfl (lv_at hl 1 rfl) ?_
        obtain ⟨r_4, e_5, hf⟩ := bd1_x hf
        refine call_v [.int v1] [] ⟨hx, hb, hml, hown, hts⟩ hK hP hD hS hA hl.1 (tX10_reversedOf l G cI cJ cZ H.size h_o h_o_tape h_o_words h_o_told h_o_isTold h_o_toldWave h_o_isPoint h_o_all h_o_quarter h_o_roots h_o_laidRe h_o_laidIm h_o_byOrder h_o_noted1 h_o_counts h_o_binBy o_tapeSize o_thrown o_fault o_faultPlace o_stop o_next o_kind o_which o_at o_pointsRead o_bank o_isImage o_undos o_runRadix o_runOrder o_runNear o_runLimit o_runHalves o_power o_notedMany o_knownTold o_drawn v1 r_4 e_5) (cwV 1 hts (gv q_mX10_222 q_i_yX10_reversedOf q_s_yX10_reversedOf q_n_RX10 q_k_yX10_reversedOf) rfl rfl rfl (by decide +kernel) ⟨by decide, by decide⟩) rfl rfl (Nat.le_of_ble_eq_true rfl) dX10_reverses_12 ⟨Nat.zero_le _, Nat.zero_le _⟩ (ci := 10) rfl 0 rfl [0] [1, 2, 3, 4] [4, 0, 1, 2, 3] rfl rfl (ws2 := (wX10_reverses cI cJ cZ h_o h_o_all h_o_laidIm h_o_laidRe h_o_told h_o_tape h_o_words h_o_isTold h_o_toldWave h_o_isPoint h_o_quarter h_o_roots h_o_byOrder h_o_noted1 h_o_counts h_o_binBy o_tapeSize o_thrown o_fault o_faultPlace o_stop o_next o_kind o_which o_at o_pointsRead o_bank o_isImage o_undos o_runRadix o_runOrder o_runNear o_runLimit o_runHalves o_power o_notedMany o_knownTold o_drawn o_all o_laidIm o_laidRe o_told)) rfl (fun H locs hP hD hS => ?_)
        refine W.eq (g2 := F0 m 15 ls [.int r_4]) rfl ?_
        refine lv_istore_n (lv' := [(2, .int r_4), (0, .ref h_o), (1, .int v1)]) hx hb dX10_reverses_15 rfl hl (by decide) rfl (fun ls hl => ?_)
        refine lv_aload_n hx hb dX10_reverses_16 rfl (lv_at hl 1 rfl) ?_
        refine rd (ci := 10) (C := RX10) (T := TX10) (N := 37) hx hb hts inX10 hown hK hP 0 28 rfl rfl (by decide) (hts _ q_fX10_42) rfl dX10_reverses_17 ?_
        refine lv_iload_n hx hb dX10_reverses_20 rfl (lv_at hl 0 rfl) ?_
        refine lv_aload_n hx hb dX10_reverses_21 rfl (lv_at hl 1 rfl) ?_
        refine lv_iload_n hx hb dX10_reverses_22 rfl (lv_at hl 2 rfl) ?_
        obtain ⟨r_6, e_7, hf⟩ := bd1_x hf
        refine call_v [.int v1] [.int r_4, .ref h_o_laidRe] ⟨hx, hb, hml, hown, hts⟩ hK hP hD hS hA hl.1 (tX10_of l G cI cJ cZ H.size h_o h_o_all h_o_tape h_o_words h_o_told h_o_isTold h_o_toldWave h_o_isPoint h_o_quarter h_o_roots h_o_laidRe h_o_laidIm h_o_byOrder h_o_noted1 h_o_counts h_o_binBy o_tapeSize o_thrown o_fault o_faultPlace o_stop o_next o_kind o_which o_at o_pointsRead o_bank o_isImage o_undos o_runRadix o_runOrder o_runNear o_runLimit o_runHalves o_power o_notedMany o_knownTold o_drawn o_all v1 r_6 e_7) (cwV 1 hts (gv q_mX10_187 q_i_yX10_of q_s_yX10_of q_n_RX10 q_k_yX10_of) rfl rfl rfl (by decide +kernel) ⟨by decide, by decide⟩) rfl rfl (Nat.le_of_ble_eq_true rfl) dX10_reverses_23 ⟨Nat.zero_le _, Nat.zero_le _⟩ (ci := 10) rfl 0 rfl [0, 1] [2, 3, 4] [3, 4, 0, 1, 2] rfl rfl (ws2 := (wX10_reverses cI cJ cZ h_o h_o_all h_o_laidIm h_o_laidRe h_o_told h_o_tape h_o_words h_o_isTold h_o_toldWave h_o_isPoint h_o_quarter h_o_roots h_o_byOrder h_o_noted1 h_o_counts h_o_binBy o_tapeSize o_thrown o_fault o_faultPlace o_stop o_next o_kind o_which o_at o_pointsRead o_bank o_isImage o_undos o_runRadix o_runOrder o_runNear o_runLimit o_runHalves o_power o_notedMany o_knownTold o_drawn o_all o_laidIm o_laidRe o_told)) rfl (fun H locs hP hD hS => ?_)
        refine W.eq (g2 := F0 m 26 ls [.int r_6, .int r_4, .ref h_o_laidRe]) rfl ?_
        obtain ⟨g_8, hf⟩ := gd_x hf
        obtain ⟨o_laidRe_9, eo_laidRe_9⟩ : ∃ y : Nat → Int32, y = upd o_laidRe (Int32.toNatClampNeg r_4) r_6 := ⟨_, rfl⟩
        have hf := nm_x eo_laidRe_9 hf
        refine ist hx hb hK hP hD hS 3 0 rfl rfl (inb_x g_8) dX10_reverses_26 eo_laidRe_9 (ws2 := (wX10_reverses cI cJ cZ h_o h_o_all h_o_laidIm h_o_laidRe h_o_told h_o_tape h_o_words h_o_isTold h_o_toldWave h_o_isPoint h_o_quarter h_o_roots h_o_byOrder h_o_noted1 h_o_counts h_o_binBy o_tapeSize o_thrown o_fault o_faultPlace o_stop o_next o_kind o_which o_at o_pointsRead o_bank o_isImage o_undos o_runRadix o_runOrder o_runNear o_runLimit o_runHalves o_power o_notedMany o_knownTold o_drawn o_all o_laidIm o_laidRe_9 o_told)) rfl (fun H locs hP hD hS => ?_)
        refine lv_aload_n hx hb dX10_reverses_27 rfl (lv_at hl 1 rfl) ?_
        refine rd (ci := 10) (C := RX10) (T := TX10) (N := 37) hx hb hts inX10 hown hK hP 0 29 rfl rfl (by decide) (hts _ q_fX10_45) rfl dX10_reverses_28 ?_
        refine lv_iload_n hx hb dX10_reverses_31 rfl (lv_at hl 0 rfl) ?_
        refine lv_aload_n hx hb dX10_reverses_32 rfl (lv_at hl 1 rfl) ?_
        refine lv_bipush (v := (32 : Int32)) hx hb dX10_reverses_33 (by decide) ?_
        refine lv_iload_n hx hb dX10_reverses_35 rfl (lv_at hl 2 rfl) ?_
        refine lv_iadd hx hb dX10_reverses_36 ?_
        obtain ⟨r_10, e_11, hf⟩ := bd1_x hf
        refine call_v [.int ((32 : Int32) + v1)] [.int r_4, .ref h_o_laidIm] ⟨hx, hb, hml, hown, hts⟩ hK hP hD hS hA hl.1 (tX10_of l G cI cJ cZ H.size h_o h_o_all h_o_tape h_o_words h_o_told h_o_isTold h_o_toldWave h_o_isPoint h_o_quarter h_o_roots h_o_laidRe h_o_laidIm h_o_byOrder h_o_noted1 h_o_counts h_o_binBy o_tapeSize o_thrown o_fault o_faultPlace o_stop o_next o_kind o_which o_at o_pointsRead o_bank o_isImage o_undos o_runRadix o_runOrder o_runNear o_runLimit o_runHalves o_power o_notedMany o_knownTold o_drawn o_all ((32 : Int32) + v1) r_10 e_11) (cwV 1 hts (gv q_mX10_187 q_i_yX10_of q_s_yX10_of q_n_RX10 q_k_yX10_of) rfl rfl rfl (by decide +kernel) ⟨by decide, by decide⟩) rfl rfl (Nat.le_of_ble_eq_true rfl) dX10_reverses_37 ⟨Nat.zero_le _, Nat.zero_le _⟩ (ci := 10) rfl 0 rfl [0, 1] [2, 3, 4] [3, 4, 0, 1, 2] rfl rfl (ws2 := (wX10_reverses cI cJ cZ h_o h_o_all h_o_laidIm h_o_laidRe h_o_told h_o_tape h_o_words h_o_isTold h_o_toldWave h_o_isPoint h_o_quarter h_o_roots h_o_byOrder h_o_noted1 h_o_counts h_o_binBy o_tapeSize o_thrown o_fault o_faultPlace o_stop o_next o_kind o_which o_at o_pointsRead o_bank o_isImage o_undos o_runRadix o_runOrder o_runNear o_runLimit o_runHalves o_power o_notedMany o_knownTold o_drawn o_all o_laidIm o_laidRe_9 o_told)) rfl (fun H locs hP hD hS => ?_)
        refine W.eq (g2 := F0 m 40 ls [.int r_10, .int r_4, .ref h_o_laidIm]) rfl ?_
        obtain ⟨g_12, hf⟩ := gd_x hf
        obtain ⟨o_laidIm_13, eo_laidIm_13⟩ : ∃ y : Nat → Int32, y = upd o_laidIm (Int32.toNatClampNeg r_4) r_10 := ⟨_, rfl⟩
        have hf := nm_x eo_laidIm_13 hf
        refine ist hx hb hK hP hD hS 2 0 rfl rfl (inb_x g_12) dX10_reverses_40 eo_laidIm_13 (ws2 := (wX10_reverses cI cJ cZ h_o h_o_all h_o_laidIm h_o_laidRe h_o_told h_o_tape h_o_words h_o_isTold h_o_toldWave h_o_isPoint h_o_quarter h_o_roots h_o_byOrder h_o_noted1 h_o_counts h_o_binBy o_tapeSize o_thrown o_fault o_faultPlace o_stop o_next o_kind o_which o_at o_pointsRead o_bank o_isImage o_undos o_runRadix o_runOrder o_runNear o_runLimit o_runHalves o_power o_notedMany o_knownTold o_drawn o_all o_laidIm_13 o_laidRe_9 o_told)) rfl (fun H locs hP hD hS => ?_)
        obtain ⟨v1_14, ev1_14⟩ : ∃ y : Int32, y = v1 + (1 : Int32) := ⟨_, rfl⟩
        have hf := nm_x ev1_14 hf
        refine lv_iinc (v := v1_14) (lv' := [(1, .int v1_14), (2, .int r_4), (0, .ref h_o)]) hx hb dX10_reverses_41 hl (k := 2) rfl (by rw [ev1_14]; rfl) (by decide) rfl (fun ls hl => ?_)
        refine lv_goto (tgt := 2) hx hb dX10_reverses_44 (by decide) ?_
        exact ih o_all o_laidIm_13 o_laidRe_9 v1_14 H locs ls hf hP hD hS (lv_sub hl [2, 0] rfl)
  unfold fX10_reverses at hf
  obtain ⟨H, eH⟩ : ∃ H, H = s.heap := ⟨_, rfl⟩
  obtain ⟨locs, elocs⟩ : ∃ z : List Loc, z = [] := ⟨_, rfl⟩
  have hP : va_P G vwCl (wX10_reverses cI cJ cZ h_o h_o_all h_o_laidIm h_o_laidRe h_o_told h_o_tape h_o_words h_o_isTold h_o_toldWave h_o_isPoint h_o_quarter h_o_roots h_o_byOrder h_o_noted1 h_o_counts h_o_binBy o_tapeSize o_thrown o_fault o_faultPlace o_stop o_next o_kind o_which o_at o_pointsRead o_bank o_isImage o_undos o_runRadix o_runOrder o_runNear o_runLimit o_runHalves o_power o_notedMany o_knownTold o_drawn o_all o_laidIm o_laidRe o_told) H := by rw [eH]; exact hP
  have hS : va_S A s.heap H locs := by rw [eH, elocs]; exact hS
  suffices hgo : W p l e ({ frames := 4, cells := 0, slots := 0, locals := 88 } : Room) s m ([.ref h_o] : List Value).toArray below meth c H locs 0 0 Q (F0 m 0 ls []) by rw [eH, elocs] at hgo; exact hgo
  clear eH elocs
  refine lv_iconst (v := (0 : Int32)) hx hb dX10_reverses_0 (by decide) ?_
  refine lv_istore_n (lv' := [(1, .int (0 : Int32)), (0, .ref h_o)]) hx hb dX10_reverses_1 rfl hl (by decide) rfl (fun ls hl => ?_)
  exact j2 FU o_all o_laidIm o_laidRe (0 : Int32) H locs ls hf hP hD hS (lv_sub hl [1, 0] rfl)
def wX10_halvedNow (cI cJ cZ : ClassId) (h_o h_o_all h_o_told h_o_tape h_o_words h_o_isTold h_o_toldWave h_o_isPoint h_o_quarter h_o_roots h_o_laidRe h_o_laidIm h_o_byOrder h_o_noted1 h_o_counts h_o_binBy : Nat) (o_tapeSize : Int32) (o_thrown : Int32) (o_fault : Int32) (o_faultPlace : Int32) (o_stop : Int32) (o_next : Int32) (o_kind : Int32) (o_which : Int32) (o_at : Int32) (o_pointsRead : Int32) (o_bank : Int32) (o_isImage : Int32) (o_undos : Int32) (o_runRadix : Int32) (o_runOrder : Int32) (o_runNear : Int32) (o_runLimit : Int32) (o_runHalves : Int32) (o_power : Int32) (o_notedMany : Int32) (o_knownTold : Int32) (o_drawn : Int64) (o_all : Nat → Int32) (o_told : Nat → Int32) : va_W := [(h_o, .inr (10, [.ref h_o_tape, .int o_tapeSize, .int o_thrown, .ref h_o_words, .int o_fault, .int o_faultPlace, .int o_stop, .int o_next, .int o_kind, .int o_which, .int o_at, .ref h_o_told, .ref h_o_isTold, .ref h_o_toldWave, .ref h_o_isPoint, .int o_pointsRead, .ref h_o_all, .int o_bank, .int o_isImage, .int o_undos, .int o_runRadix, .int o_runOrder, .int o_runNear, .int o_runLimit, .int o_runHalves, .ref h_o_quarter, .int o_power, .ref h_o_roots, .ref h_o_laidRe, .ref h_o_laidIm, .ref h_o_byOrder, .int o_notedMany, .int o_knownTold, .ref h_o_noted1, .ref h_o_counts, .ref h_o_binBy, .long o_drawn])), (h_o_all, .inl (cI, 3128, .inl o_all)), (h_o_told, .inl (cI, 12, .inl o_told))]
def fX10_halvedNow_83 (o_bank : Int32) (o_runNear : Int32) (o_runLimit : Int32) (o_runHalves : Int32) (o_told : Nat → Int32) (k26 : (Nat → Int32) → Int32 → Int32 → Option (Int32 × (Nat → Int32))) (o_all : Nat → Int32) (v2 : Int32) (v3 : Int32) : Option (Int32 × (Nat → Int32)) :=
  nm (v3 + (1 : Int32)) (fun v3_15 =>
  k26 o_all v2 v3_15)
def fX10_halvedNow_51 (o_bank : Int32) (o_runNear : Int32) (o_runLimit : Int32) (o_runHalves : Int32) (o_told : Nat → Int32) (k26 : (Nat → Int32) → Int32 → Int32 → Option (Int32 × (Nat → Int32))) : Nat → (Nat → Int32) → Int32 → Int32 → Int32 → Option (Int32 × (Nat → Int32))
  | 0, _, _, _, _ => none
  | n + 1, o_all, v2, v3, v4 =>
    if (64 : Int32) ≤ v4 then (
      fX10_halvedNow_83 o_bank o_runNear o_runLimit o_runHalves o_told k26 o_all v2 v3
    ) else (
      bd1 (fX10_of o_bank o_all v4) (fun r_8 =>
      bd1 (fX10_rounded o_runNear (Int32.toInt64 r_8) (1 : Int32)) (fun r_10 =>
      bd1 (fX10_lay o_bank o_all v4 (Int64.toInt32 r_10)) (fun o_all_12 =>
      nm (v4 + (1 : Int32)) (fun v4_14 =>
      fX10_halvedNow_51 o_bank o_runNear o_runLimit o_runHalves o_told k26 n o_all_12 v2 v3 v4_14))))
    )
def fX10_halvedNow_26 (o_bank : Int32) (o_runNear : Int32) (o_runLimit : Int32) (o_runHalves : Int32) (o_told : Nat → Int32) : Nat → (Nat → Int32) → Int32 → Int32 → Option (Int32 × (Nat → Int32))
  | 0, _, _, _ => none
  | n + 1, o_all, v2, v3 =>
    if o_runHalves = 0 then (
      some (v3, o_all)
    ) else (
      bd1 (fX10_largestNow o_bank o_all o_told) (fun r_4 =>
      if (r_4 * v2) ≤ ((2 : Int32) * o_runLimit) then (
        some (v3, o_all)
      ) else (
        fX10_halvedNow_51 o_bank o_runNear o_runLimit o_runHalves o_told (fX10_halvedNow_26 o_bank o_runNear o_runLimit o_runHalves o_told n) FU o_all v2 v3 (0 : Int32)
      ))
    )
def fX10_halvedNow_23 (o_bank : Int32) (o_runNear : Int32) (o_runLimit : Int32) (o_runHalves : Int32) (o_told : Nat → Int32) (o_all : Nat → Int32) (s0 : Int32) : Option (Int32 × (Nat → Int32)) :=
  fX10_halvedNow_26 o_bank o_runNear o_runLimit o_runHalves o_told FU o_all s0 (0 : Int32)
def fX10_halvedNow (o_bank : Int32) (o_runOrder : Int32) (o_runNear : Int32) (o_runLimit : Int32) (o_runHalves : Int32) (o_all : Nat → Int32) (o_told : Nat → Int32) (p1 : Int32) : Option (Int32 × (Nat → Int32)) :=
  if p1 = (4 : Int32) then (
    fX10_halvedNow_23 o_bank o_runNear o_runLimit o_runHalves o_told o_all (12 : Int32)
  ) else (
    if o_runOrder = 0 then (
      fX10_halvedNow_23 o_bank o_runNear o_runLimit o_runHalves o_told o_all (5 : Int32)
    ) else (
      fX10_halvedNow_23 o_bank o_runNear o_runLimit o_runHalves o_told o_all (6 : Int32)
    )
  )
set_option maxHeartbeats 4000000 in
set_option maxRecDepth 100000 in
theorem tX10_halvedNow (l : Launch) (G : va_G) (cI cJ cZ : ClassId) (sz : Nat) (h_o h_o_all h_o_told h_o_tape h_o_words h_o_isTold h_o_toldWave h_o_isPoint h_o_quarter h_o_roots h_o_laidRe h_o_laidIm h_o_byOrder h_o_noted1 h_o_counts h_o_binBy : Nat) (o_tapeSize : Int32) (o_thrown : Int32) (o_fault : Int32) (o_faultPlace : Int32) (o_stop : Int32) (o_next : Int32) (o_kind : Int32) (o_which : Int32) (o_at : Int32) (o_pointsRead : Int32) (o_bank : Int32) (o_isImage : Int32) (o_undos : Int32) (o_runRadix : Int32) (o_runOrder : Int32) (o_runNear : Int32) (o_runLimit : Int32) (o_runHalves : Int32) (o_power : Int32) (o_notedMany : Int32) (o_knownTold : Int32) (o_drawn : Int64) (o_all : Nat → Int32) (o_told : Nat → Int32) (p1 : Int32) (r : Int32) (out_o_all : Nat → Int32) (hf : fX10_halvedNow o_bank o_runOrder o_runNear o_runLimit o_runHalves o_all o_told p1 = some (r, out_o_all)) : Met l yX10_halvedNow (Cond.code yX10_halvedNow cX10_halvedNow 5 (some .int) :: BIG) ({ frames := 3, cells := 0, slots := 0, locals := 67 } : Room) (cP G (TY3 cI cJ cZ) [.ref h_o, .int p1] sz (wX10_halvedNow cI cJ cZ h_o h_o_all h_o_told h_o_tape h_o_words h_o_isTold h_o_toldWave h_o_isPoint h_o_quarter h_o_roots h_o_laidRe h_o_laidIm h_o_byOrder h_o_noted1 h_o_counts h_o_binBy o_tapeSize o_thrown o_fault o_faultPlace o_stop o_next o_kind o_which o_at o_pointsRead o_bank o_isImage o_undos o_runRadix o_runOrder o_runNear o_runLimit o_runHalves o_power o_notedMany o_knownTold o_drawn o_all o_told)) (cQ G (TY3 cI cJ cZ) sz (wX10_halvedNow cI cJ cZ h_o h_o_all h_o_told h_o_tape h_o_words h_o_isTold h_o_toldWave h_o_isPoint h_o_quarter h_o_roots h_o_laidRe h_o_laidIm h_o_byOrder h_o_noted1 h_o_counts h_o_binBy o_tapeSize o_thrown o_fault o_faultPlace o_stop o_next o_kind o_which o_at o_pointsRead o_bank o_isImage o_undos o_runRadix o_runOrder o_runNear o_runLimit o_runHalves o_power o_notedMany o_knownTold o_drawn o_all o_told) (wX10_halvedNow cI cJ cZ h_o h_o_all h_o_told h_o_tape h_o_words h_o_isTold h_o_toldWave h_o_isPoint h_o_quarter h_o_roots h_o_laidRe h_o_laidIm h_o_byOrder h_o_noted1 h_o_counts h_o_binBy o_tapeSize o_thrown o_fault o_faultPlace o_stop o_next o_kind o_which o_at o_pointsRead o_bank o_isImage o_undos o_runRadix o_runOrder o_runNear o_runLimit o_runHalves o_power o_notedMany o_knownTold o_drawn out_o_all o_told) (some (.int r))) 0 0 (va_A (wX10_halvedNow cI cJ cZ h_o h_o_all h_o_told h_o_tape h_o_words h_o_isTold h_o_toldWave h_o_isPoint h_o_quarter h_o_roots h_o_laidRe h_o_laidIm h_o_byOrder h_o_noted1 h_o_counts h_o_binBy o_tapeSize o_thrown o_fault o_faultPlace o_stop o_next o_kind o_which o_at o_pointsRead o_bank o_isImage o_undos o_runRadix o_runOrder o_runNear o_runLimit o_runHalves o_power o_notedMany o_knownTold o_drawn o_all o_told) sz) := by
  refine met_i (cc := cX10_halvedNow) (maxL := 5) (plainFor_of_name (by decide)) (Nat.le_of_ble_eq_true rfl) (fun p e s m below meth c A ls Q hx hb hml hts hown hK hP hD hS hA hl hret => ?_)
  have hown : s.vm.findClass RX10 = some m.cls := hown
  have hl : lv_has ls 5 [(0, .ref h_o), (1, .int p1)] := hl
  have j83 : ∀ (k26 : (Nat → Int32) → Int32 → Int32 → Option (Int32 × (Nat → Int32))), (∀ (o_all : Nat → Int32) (v2 : Int32) (v3 : Int32) (H : Heap) (locs : List Loc) (ls : Array Slot), k26 o_all v2 v3 = some (r, out_o_all) → va_P G vwCl (wX10_halvedNow cI cJ cZ h_o h_o_all h_o_told h_o_tape h_o_words h_o_isTold h_o_toldWave h_o_isPoint h_o_quarter h_o_roots h_o_laidRe h_o_laidIm h_o_byOrder h_o_noted1 h_o_counts h_o_binBy o_tapeSize o_thrown o_fault o_faultPlace o_stop o_next o_kind o_which o_at o_pointsRead o_bank o_isImage o_undos o_runRadix o_runOrder o_runNear o_runLimit o_runHalves o_power o_notedMany o_knownTold o_drawn o_all o_told) H → va_D A (wX10_halvedNow cI cJ cZ h_o h_o_all h_o_told h_o_tape h_o_words h_o_isTold h_o_toldWave h_o_isPoint h_o_quarter h_o_roots h_o_laidRe h_o_laidIm h_o_byOrder h_o_noted1 h_o_counts h_o_binBy o_tapeSize o_thrown o_fault o_faultPlace o_stop o_next o_kind o_which o_at o_pointsRead o_bank o_isImage o_undos o_runRadix o_runOrder o_runNear o_runLimit o_runHalves o_power o_notedMany o_knownTold o_drawn o_all o_told) → va_S A s.heap H locs → lv_has ls 5 [(0, .ref h_o), (2, .int v2), (3, .int v3)] → W p l e ({ frames := 3, cells := 0, slots := 0, locals := 67 } : Room) s m ([.ref h_o, .int p1] : List Value).toArray below meth c H locs 0 0 Q (F0 m 26 ls [])) → ∀ (o_all : Nat → Int32) (v2 : Int32) (v3 : Int32) (H : Heap) (locs : List Loc) (ls : Array Slot), fX10_halvedNow_83 o_bank o_runNear o_runLimit o_runHalves o_told k26 o_all v2 v3 = some (r, out_o_all) → va_P G vwCl (wX10_halvedNow cI cJ cZ h_o h_o_all h_o_told h_o_tape h_o_words h_o_isTold h_o_toldWave h_o_isPoint h_o_quarter h_o_roots h_o_laidRe h_o_laidIm h_o_byOrder h_o_noted1 h_o_counts h_o_binBy o_tapeSize o_thrown o_fault o_faultPlace o_stop o_next o_kind o_which o_at o_pointsRead o_bank o_isImage o_undos o_runRadix o_runOrder o_runNear o_runLimit o_runHalves o_power o_notedMany o_knownTold o_drawn o_all o_told) H → va_D A (wX10_halvedNow cI cJ cZ h_o h_o_all h_o_told h_o_tape h_o_words h_o_isTold h_o_toldWave h_o_isPoint h_o_quarter h_o_roots h_o_laidRe h_o_laidIm h_o_byOrder h_o_noted1 h_o_counts h_o_binBy o_tapeSize o_thrown o_fault o_faultPlace o_stop o_next o_kind o_which o_at o_pointsRead o_bank o_isImage o_undos o_runRadix o_runOrder o_runNear o_runLimit o_runHalves o_power o_notedMany o_knownTold o_drawn o_all o_told) → va_S A s.heap H locs → lv_has ls 5 [(0, .ref h_o), (2, .int v2), (3, .int v3)] → W p l e ({ frames := 3, cells := 0, slots := 0, locals := 67 } : Room) s m ([.ref h_o, .int p1] : List Value).toArray below meth c H locs 0 0 Q (F0 m 83 ls []) := by
    intro k26 hk26 o_all v2 v3 H locs ls hf hP hD hS hl
    unfold fX10_halvedNow_83 at hf
    obtain ⟨v3_15, ev3_15⟩ : ∃ y : Int32, y = v3 + (1 : Int32) := ⟨_, rfl⟩
    have hf := nm_x ev3_15 hf
    refine lv_iinc (v := v3_15) (lv' := [(3, .int v3_15), (0, .ref h_o), (2, .int v2)]) hx hb dX10_halvedNow_83 hl (k := 2) rfl (by rw [ev3_15]; rfl) (by decide) rfl (fun ls hl => ?_)
    refine lv_goto (tgt := 26) hx hb dX10_halvedNow_86 (by decide) ?_
    exact hk26 o_all v2 v3_15 H locs ls hf hP hD hS (lv_sub hl [1, 2, 0] rfl)
  have j51 : ∀ (k26 : (Nat → Int32) → Int32 → Int32 → Option (Int32 × (Nat → Int32))), (∀ (o_all : Nat → Int32) (v2 : Int32) (v3 : Int32) (H : Heap) (locs : List Loc) (ls : Array Slot), k26 o_all v2 v3 = some (r, out_o_all) → va_P G vwCl (wX10_halvedNow cI cJ cZ h_o h_o_all h_o_told h_o_tape h_o_words h_o_isTold h_o_toldWave h_o_isPoint h_o_quarter h_o_roots h_o_laidRe h_o_laidIm h_o_byOrder h_o_noted1 h_o_counts h_o_binBy o_tapeSize o_thrown o_fault o_faultPlace o_stop o_next o_kind o_which o_at o_pointsRead o_bank o_isImage o_undos o_runRadix o_runOrder o_runNear o_runLimit o_runHalves o_power o_notedMany o_knownTold o_drawn o_all o_told) H → va_D A (wX10_halvedNow cI cJ cZ h_o h_o_all h_o_told h_o_tape h_o_words h_o_isTold h_o_toldWave h_o_isPoint h_o_quarter h_o_roots h_o_laidRe h_o_laidIm h_o_byOrder h_o_noted1 h_o_counts h_o_binBy o_tapeSize o_thrown o_fault o_faultPlace o_stop o_next o_kind o_which o_at o_pointsRead o_bank o_isImage o_undos o_runRadix o_runOrder o_runNear o_runLimit o_runHalves o_power o_notedMany o_knownTold o_drawn o_all o_told) → va_S A s.heap H locs → lv_has ls 5 [(0, .ref h_o), (2, .int v2), (3, .int v3)] → W p l e ({ frames := 3, cells := 0, slots := 0, locals := 67 } : Room) s m ([.ref h_o, .int p1] : List Value).toArray below meth c H locs 0 0 Q (F0 m 26 ls [])) → ∀ (n : Nat) (o_all : Nat → Int32) (v2 : Int32) (v3 : Int32) (v4 : Int32) (H : Heap) (locs : List Loc) (ls : Array Slot), fX10_halvedNow_51 o_bank o_runNear o_runLimit o_runHalves o_told k26 n o_all v2 v3 v4 = some (r, out_o_all) → va_P G vwCl (wX10_halvedNow cI cJ cZ h_o h_o_all h_o_told h_o_tape h_o_words h_o_isTold h_o_toldWave h_o_isPoint h_o_quarter h_o_roots h_o_laidRe h_o_laidIm h_o_byOrder h_o_noted1 h_o_counts h_o_binBy o_tapeSize o_thrown o_fault o_faultPlace o_stop o_next o_kind o_which o_at o_pointsRead o_bank o_isImage o_undos o_runRadix o_runOrder o_runNear o_runLimit o_runHalves o_power o_notedMany o_knownTold o_drawn o_all o_told) H → va_D A (wX10_halvedNow cI cJ cZ h_o h_o_all h_o_told h_o_tape h_o_words h_o_isTold h_o_toldWave h_o_isPoint h_o_quarter h_o_roots h_o_laidRe h_o_laidIm h_o_byOrder h_o_noted1 h_o_counts h_o_binBy o_tapeSize o_thrown o_fault o_faultPlace o_stop o_next o_kind o_which o_at o_pointsRead o_bank o_isImage o_undos o_runRadix o_runOrder o_runNear o_runLimit o_runHalves o_power o_notedMany o_knownTold o_drawn o_all o_told) → va_S A s.heap H locs → lv_has ls 5 [(0, .ref h_o), (2, .int v2), (3, .int v3), (4, .int v4)] → W p l e ({ frames := 3, cells := 0, slots := 0, locals := 67 } : Room) s m ([.ref h_o, .int p1] : List Value).toArray below meth c H locs 0 0 Q (F0 m 51 ls []) := by
    intro k26 hk26 n
    induction n with
    | zero =>
      intro o_all v2 v3 v4 H locs ls hf
      have hf : (none : Option (Int32 × (Nat → Int32))) = some (r, out_o_all) := hf
      cases hf
    | succ n ih =>
      intro o_all v2 v3 v4 H locs ls hf hP hD hS hl
      rw [fX10_halvedNow_51.eq_2] at hf
      refine lv_iload hx hb dX10_halvedNow_51 (lv_at hl 3 rfl) ?_
      refine lv_bipush (v := (64 : Int32)) hx hb dX10_halvedNow_53 (by decide) ?_
      refine lv_icmp_ge (tgt := 83) hx hb dX10_halvedNow_55 (by decide) (fun c_7 => ?_) (fun c_7 => ?_)
      · have hf := it_t c_7 hf
        exact j83 k26 hk26 o_all v2 v3 H locs ls hf hP hD hS (lv_sub hl [0, 1, 2] rfl)
      · have hf := it_f c_7 hf
        refine lv_aload_n hx hb dX10_halvedNow_58 rfl (lv_at hl 0 rfl) ?_
        refine lv_iload hx hb dX10_halvedNow_59 (lv_at hl 3 rfl) ?_
        refine lv_aload_n hx hb dX10_halvedNow_61 rfl (lv_at hl 0 rfl) ?_
        refine lv_aload_n hx hb dX10_halvedNow_62 rfl (lv_at hl 0 rfl) ?_
        refine lv_iload hx hb dX10_halvedNow_63 (lv_at hl 3 rfl) ?_
        obtain ⟨r_8, e_9, hf⟩ := bd1_x hf
        refine call_v [.int v4] [.ref h_o, .int v4, .ref h_o] ⟨hx, hb, hml, hown, hts⟩ hK hP hD hS hA hl.1 (tX10_of l G cI cJ cZ H.size h_o h_o_all h_o_tape h_o_words h_o_told h_o_isTold h_o_toldWave h_o_isPoint h_o_quarter h_o_roots h_o_laidRe h_o_laidIm h_o_byOrder h_o_noted1 h_o_counts h_o_binBy o_tapeSize o_thrown o_fault o_faultPlace o_stop o_next o_kind o_which o_at o_pointsRead o_bank o_isImage o_undos o_runRadix o_runOrder o_runNear o_runLimit o_runHalves o_power o_notedMany o_knownTold o_drawn o_all v4 r_8 e_9) (cwV 1 hts (gv q_mX10_187 q_i_yX10_of q_s_yX10_of q_n_RX10 q_k_yX10_of) rfl rfl rfl (by decide +kernel) ⟨by decide, by decide⟩) rfl rfl (Nat.le_of_ble_eq_true rfl) dX10_halvedNow_65 ⟨Nat.zero_le _, Nat.zero_le _⟩ (ci := 10) rfl 0 rfl [0, 1] [2] [1, 2, 0] rfl rfl (ws2 := (wX10_halvedNow cI cJ cZ h_o h_o_all h_o_told h_o_tape h_o_words h_o_isTold h_o_toldWave h_o_isPoint h_o_quarter h_o_roots h_o_laidRe h_o_laidIm h_o_byOrder h_o_noted1 h_o_counts h_o_binBy o_tapeSize o_thrown o_fault o_faultPlace o_stop o_next o_kind o_which o_at o_pointsRead o_bank o_isImage o_undos o_runRadix o_runOrder o_runNear o_runLimit o_runHalves o_power o_notedMany o_knownTold o_drawn o_all o_told)) rfl (fun H locs hP hD hS => ?_)
        refine W.eq (g2 := F0 m 68 ls [.int r_8, .ref h_o, .int v4, .ref h_o]) rfl ?_
        refine lv_i2l hx hb dX10_halvedNow_68 rfl ?_
        refine lv_iconst (v := (1 : Int32)) hx hb dX10_halvedNow_69 (by decide) ?_
        obtain ⟨r_10, e_11, hf⟩ := bd1_x hf
        refine call_v [.long (Int32.toInt64 r_8), .int (1 : Int32)] [.int v4, .ref h_o] ⟨hx, hb, hml, hown, hts⟩ hK hP hD hS hA hl.1 (tX10_rounded l G cI cJ cZ H.size h_o h_o_tape h_o_words h_o_told h_o_isTold h_o_toldWave h_o_isPoint h_o_all h_o_quarter h_o_roots h_o_laidRe h_o_laidIm h_o_byOrder h_o_noted1 h_o_counts h_o_binBy o_tapeSize o_thrown o_fault o_faultPlace o_stop o_next o_kind o_which o_at o_pointsRead o_bank o_isImage o_undos o_runRadix o_runOrder o_runNear o_runLimit o_runHalves o_power o_notedMany o_knownTold o_drawn (Int32.toInt64 r_8) (1 : Int32) r_10 e_11) (cwV 2 hts (gv q_mX10_240 q_i_yX10_rounded q_s_yX10_rounded q_n_RX10 q_k_yX10_rounded) rfl rfl rfl (by decide +kernel) ⟨by decide, by decide⟩) rfl rfl (Nat.le_of_ble_eq_true rfl) dX10_halvedNow_70 ⟨Nat.zero_le _, Nat.zero_le _⟩ (ci := 10) rfl 0 rfl [0] [1, 2] [2, 0, 1] rfl rfl (ws2 := (wX10_halvedNow cI cJ cZ h_o h_o_all h_o_told h_o_tape h_o_words h_o_isTold h_o_toldWave h_o_isPoint h_o_quarter h_o_roots h_o_laidRe h_o_laidIm h_o_byOrder h_o_noted1 h_o_counts h_o_binBy o_tapeSize o_thrown o_fault o_faultPlace o_stop o_next o_kind o_which o_at o_pointsRead o_bank o_isImage o_undos o_runRadix o_runOrder o_runNear o_runLimit o_runHalves o_power o_notedMany o_knownTold o_drawn o_all o_told)) rfl (fun H locs hP hD hS => ?_)
        refine W.eq (g2 := F0 m 73 ls [.long r_10, .int v4, .ref h_o]) rfl ?_
        refine lv_l2i hx hb dX10_halvedNow_73 rfl ?_
        obtain ⟨o_all_12, e_13, hf⟩ := bd1_x hf
        refine call_v [.int v4, .int (Int64.toInt32 r_10)] [] ⟨hx, hb, hml, hown, hts⟩ hK hP hD hS hA hl.1 (tX10_lay l G cI cJ cZ H.size h_o h_o_all h_o_tape h_o_words h_o_told h_o_isTold h_o_toldWave h_o_isPoint h_o_quarter h_o_roots h_o_laidRe h_o_laidIm h_o_byOrder h_o_noted1 h_o_counts h_o_binBy o_tapeSize o_thrown o_fault o_faultPlace o_stop o_next o_kind o_which o_at o_pointsRead o_bank o_isImage o_undos o_runRadix o_runOrder o_runNear o_runLimit o_runHalves o_power o_notedMany o_knownTold o_drawn o_all v4 (Int64.toInt32 r_10) o_all_12 e_13) (cwV 2 hts (gv q_mX10_118 q_i_yX10_lay q_s_yX10_lay q_n_RX10 q_k_yX10_lay) rfl rfl rfl (by decide +kernel) ⟨by decide, by decide⟩) rfl rfl (Nat.le_of_ble_eq_true rfl) dX10_halvedNow_74 ⟨Nat.zero_le _, Nat.zero_le _⟩ (ci := 10) rfl 0 rfl [0, 1] [2] [1, 2, 0] rfl rfl (ws2 := (wX10_halvedNow cI cJ cZ h_o h_o_all h_o_told h_o_tape h_o_words h_o_isTold h_o_toldWave h_o_isPoint h_o_quarter h_o_roots h_o_laidRe h_o_laidIm h_o_byOrder h_o_noted1 h_o_counts h_o_binBy o_tapeSize o_thrown o_fault o_faultPlace o_stop o_next o_kind o_which o_at o_pointsRead o_bank o_isImage o_undos o_runRadix o_runOrder o_runNear o_runLimit o_runHalves o_power o_notedMany o_knownTold o_drawn o_all_12 o_told)) rfl (fun H locs hP hD hS => ?_)
        refine W.eq (g2 := F0 m 77 ls []) rfl ?_
        obtain ⟨v4_14, ev4_14⟩ : ∃ y : Int32, y = v4 + (1 : Int32) := ⟨_, rfl⟩
        have hf := nm_x ev4_14 hf
        refine lv_iinc (v := v4_14) (lv' := [(4, .int v4_14), (0, .ref h_o), (2, .int v2), (3, .int v3)]) hx hb dX10_halvedNow_77 hl (k := 3) rfl (by rw [ev4_14]; rfl) (by decide) rfl (fun ls hl => ?_)
        refine lv_goto (tgt := 51) hx hb dX10_halvedNow_80 (by decide) ?_
        exact ih o_all_12 v2 v3 v4_14 H locs ls hf hP hD hS (lv_sub hl [1, 2, 3, 0] rfl)
  have j26 : ∀ (n : Nat) (o_all : Nat → Int32) (v2 : Int32) (v3 : Int32) (H : Heap) (locs : List Loc) (ls : Array Slot), fX10_halvedNow_26 o_bank o_runNear o_runLimit o_runHalves o_told n o_all v2 v3 = some (r, out_o_all) → va_P G vwCl (wX10_halvedNow cI cJ cZ h_o h_o_all h_o_told h_o_tape h_o_words h_o_isTold h_o_toldWave h_o_isPoint h_o_quarter h_o_roots h_o_laidRe h_o_laidIm h_o_byOrder h_o_noted1 h_o_counts h_o_binBy o_tapeSize o_thrown o_fault o_faultPlace o_stop o_next o_kind o_which o_at o_pointsRead o_bank o_isImage o_undos o_runRadix o_runOrder o_runNear o_runLimit o_runHalves o_power o_notedMany o_knownTold o_drawn o_all o_told) H → va_D A (wX10_halvedNow cI cJ cZ h_o h_o_all h_o_told h_o_tape h_o_words h_o_isTold h_o_toldWave h_o_isPoint h_o_quarter h_o_roots h_o_laidRe h_o_laidIm h_o_byOrder h_o_noted1 h_o_counts h_o_binBy o_tapeSize o_thrown o_fault o_faultPlace o_stop o_next o_kind o_which o_at o_pointsRead o_bank o_isImage o_undos o_runRadix o_runOrder o_runNear o_runLimit o_runHalves o_power o_notedMany o_knownTold o_drawn o_all o_told) → va_S A s.heap H locs → lv_has ls 5 [(0, .ref h_o), (2, .int v2), (3, .int v3)] → W p l e ({ frames := 3, cells := 0, slots := 0, locals := 67 } : Room) s m ([.ref h_o, .int p1] : List Value).toArray below meth c H locs 0 0 Q (F0 m 26 ls []) := by
    intro n
    induction n with
    | zero =>
      intro o_all v2 v3 H locs ls hf
      have hf : (none : Option (Int32 × (Nat → Int32))) = some (r, out_o_all) := hf
      cases hf
    | succ n ih =>
      intro o_all v2 v3 H locs ls hf hP hD hS hl
      rw [fX10_halvedNow_26.eq_2] at hf
      refine lv_aload_n hx hb dX10_halvedNow_26 rfl (lv_at hl 0 rfl) ?_
      refine rd (ci := 10) (C := RX10) (T := TX10) (N := 37) hx hb hts inX10 hown hK hP 0 24 rfl rfl (by decide) (hts _ q_fX10_178) rfl dX10_halvedNow_27 ?_
      refine lv_if_eq (tgt := 89) hx hb dX10_halvedNow_30 (by decide) (fun c_3 => ?_) (fun c_3 => ?_)
      · have hf := it_t c_3 hf
        refine lv_iload_n hx hb dX10_halvedNow_89 rfl (lv_at hl 2 rfl) ?_
        cases hf
        exact hret _ _ _ _ dX10_halvedNow_90 hP hD hS
      · have hf := it_f c_3 hf
        refine lv_aload_n hx hb dX10_halvedNow_33 rfl (lv_at hl 0 rfl) ?_
        obtain ⟨r_4, e_5, hf⟩ := bd1_x hf
        refine call_v [] [] ⟨hx, hb, hml, hown, hts⟩ hK hP hD hS hA hl.1 (tX10_largestNow l G cI cJ cZ H.size h_o h_o_all h_o_told h_o_tape h_o_words h_o_isTold h_o_toldWave h_o_isPoint h_o_quarter h_o_roots h_o_laidRe h_o_laidIm h_o_byOrder h_o_noted1 h_o_counts h_o_binBy o_tapeSize o_thrown o_fault o_faultPlace o_stop o_next o_kind o_which o_at o_pointsRead o_bank o_isImage o_undos o_runRadix o_runOrder o_runNear o_runLimit o_runHalves o_power o_notedMany o_knownTold o_drawn o_all o_told r_4 e_5) (cwV 0 hts (gv q_mX10_237 q_i_yX10_largestNow q_s_yX10_largestNow q_n_RX10 q_k_yX10_largestNow) rfl rfl rfl (by decide +kernel) ⟨by decide, by decide⟩) rfl rfl (Nat.le_of_ble_eq_true rfl) dX10_halvedNow_34 ⟨Nat.zero_le _, Nat.zero_le _⟩ (ci := 10) rfl 0 rfl [0, 1, 2] [] [0, 1, 2] rfl rfl (ws2 := (wX10_halvedNow cI cJ cZ h_o h_o_all h_o_told h_o_tape h_o_words h_o_isTold h_o_toldWave h_o_isPoint h_o_quarter h_o_roots h_o_laidRe h_o_laidIm h_o_byOrder h_o_noted1 h_o_counts h_o_binBy o_tapeSize o_thrown o_fault o_faultPlace o_stop o_next o_kind o_which o_at o_pointsRead o_bank o_isImage o_undos o_runRadix o_runOrder o_runNear o_runLimit o_runHalves o_power o_notedMany o_knownTold o_drawn o_all o_told)) rfl (fun H locs hP hD hS => ?_)
        refine W.eq (g2 := F0 m 37 ls [.int r_4]) rfl ?_
        refine lv_iload_n hx hb dX10_halvedNow_37 rfl (lv_at hl 1 rfl) ?_
        refine lv_imul hx hb dX10_halvedNow_38 ?_
        refine lv_iconst (v := (2 : Int32)) hx hb dX10_halvedNow_39 (by decide) ?_
        refine lv_aload_n hx hb dX10_halvedNow_40 rfl (lv_at hl 0 rfl) ?_
        refine rd (ci := 10) (C := RX10) (T := TX10) (N := 37) hx hb hts inX10 hown hK hP 0 23 rfl rfl (by decide) (hts _ q_fX10_175) rfl dX10_halvedNow_41 ?_
        refine lv_imul hx hb dX10_halvedNow_44 ?_
        refine lv_icmp_le (tgt := 89) hx hb dX10_halvedNow_45 (by decide) (fun c_6 => ?_) (fun c_6 => ?_)
        · have hf := it_t c_6 hf
          refine lv_iload_n hx hb dX10_halvedNow_89 rfl (lv_at hl 2 rfl) ?_
          cases hf
          exact hret _ _ _ _ dX10_halvedNow_90 hP hD hS
        · have hf := it_f c_6 hf
          refine lv_iconst (v := (0 : Int32)) hx hb dX10_halvedNow_48 (by decide) ?_
          refine lv_istore (lv' := [(4, .int (0 : Int32)), (0, .ref h_o), (2, .int v2), (3, .int v3)]) hx hb dX10_halvedNow_49 hl (by decide) rfl (fun ls hl => ?_)
          exact j51 (fX10_halvedNow_26 o_bank o_runNear o_runLimit o_runHalves o_told n) ih FU o_all v2 v3 (0 : Int32) H locs ls hf hP hD hS (lv_sub hl [1, 2, 3, 0] rfl)
  have j23 : ∀ (o_all : Nat → Int32) (s0 : Int32) (H : Heap) (locs : List Loc) (ls : Array Slot), fX10_halvedNow_23 o_bank o_runNear o_runLimit o_runHalves o_told o_all s0 = some (r, out_o_all) → va_P G vwCl (wX10_halvedNow cI cJ cZ h_o h_o_all h_o_told h_o_tape h_o_words h_o_isTold h_o_toldWave h_o_isPoint h_o_quarter h_o_roots h_o_laidRe h_o_laidIm h_o_byOrder h_o_noted1 h_o_counts h_o_binBy o_tapeSize o_thrown o_fault o_faultPlace o_stop o_next o_kind o_which o_at o_pointsRead o_bank o_isImage o_undos o_runRadix o_runOrder o_runNear o_runLimit o_runHalves o_power o_notedMany o_knownTold o_drawn o_all o_told) H → va_D A (wX10_halvedNow cI cJ cZ h_o h_o_all h_o_told h_o_tape h_o_words h_o_isTold h_o_toldWave h_o_isPoint h_o_quarter h_o_roots h_o_laidRe h_o_laidIm h_o_byOrder h_o_noted1 h_o_counts h_o_binBy o_tapeSize o_thrown o_fault o_faultPlace o_stop o_next o_kind o_which o_at o_pointsRead o_bank o_isImage o_undos o_runRadix o_runOrder o_runNear o_runLimit o_runHalves o_power o_notedMany o_knownTold o_drawn o_all o_told) → va_S A s.heap H locs → lv_has ls 5 [(0, .ref h_o)] → W p l e ({ frames := 3, cells := 0, slots := 0, locals := 67 } : Room) s m ([.ref h_o, .int p1] : List Value).toArray below meth c H locs 0 0 Q (F0 m 23 ls [.int s0]) := by
    intro o_all s0 H locs ls hf hP hD hS hl
    unfold fX10_halvedNow_23 at hf
    refine lv_istore_n (lv' := [(2, .int s0), (0, .ref h_o)]) hx hb dX10_halvedNow_23 rfl hl (by decide) rfl (fun ls hl => ?_)
    refine lv_iconst (v := (0 : Int32)) hx hb dX10_halvedNow_24 (by decide) ?_
    refine lv_istore_n (lv' := [(3, .int (0 : Int32)), (2, .int s0), (0, .ref h_o)]) hx hb dX10_halvedNow_25 rfl hl (by decide) rfl (fun ls hl => ?_)
    exact j26 FU o_all s0 (0 : Int32) H locs ls hf hP hD hS (lv_sub hl [2, 1, 0] rfl)
  unfold fX10_halvedNow at hf
  obtain ⟨H, eH⟩ : ∃ H, H = s.heap := ⟨_, rfl⟩
  obtain ⟨locs, elocs⟩ : ∃ z : List Loc, z = [] := ⟨_, rfl⟩
  have hP : va_P G vwCl (wX10_halvedNow cI cJ cZ h_o h_o_all h_o_told h_o_tape h_o_words h_o_isTold h_o_toldWave h_o_isPoint h_o_quarter h_o_roots h_o_laidRe h_o_laidIm h_o_byOrder h_o_noted1 h_o_counts h_o_binBy o_tapeSize o_thrown o_fault o_faultPlace o_stop o_next o_kind o_which o_at o_pointsRead o_bank o_isImage o_undos o_runRadix o_runOrder o_runNear o_runLimit o_runHalves o_power o_notedMany o_knownTold o_drawn o_all o_told) H := by rw [eH]; exact hP
  have hS : va_S A s.heap H locs := by rw [eH, elocs]; exact hS
  suffices hgo : W p l e ({ frames := 3, cells := 0, slots := 0, locals := 67 } : Room) s m ([.ref h_o, .int p1] : List Value).toArray below meth c H locs 0 0 Q (F0 m 0 ls []) by rw [eH, elocs] at hgo; exact hgo
  clear eH elocs
  refine lv_iload_n hx hb dX10_halvedNow_0 rfl (lv_at hl 1 rfl) ?_
  refine lv_iconst (v := (4 : Int32)) hx hb dX10_halvedNow_1 (by decide) ?_
  refine lv_icmp_ne (tgt := 10) hx hb dX10_halvedNow_2 (by decide) (fun c_1 => ?_) (fun c_1 => ?_)
  · have hf := it_f c_1 hf
    refine lv_aload_n hx hb dX10_halvedNow_10 rfl (lv_at hl 0 rfl) ?_
    refine rd (ci := 10) (C := RX10) (T := TX10) (N := 37) hx hb hts inX10 hown hK hP 0 21 rfl rfl (by decide) (hts _ q_fX10_169) rfl dX10_halvedNow_11 ?_
    refine lv_if_ne (tgt := 21) hx hb dX10_halvedNow_14 (by decide) (fun c_2 => ?_) (fun c_2 => ?_)
    · have hf := it_f c_2 hf
      refine lv_bipush (v := (6 : Int32)) hx hb dX10_halvedNow_21 (by decide) ?_
      exact j23 o_all (6 : Int32) H locs ls hf hP hD hS (lv_sub hl [0] rfl)
    · have hf := it_t c_2 hf
      refine lv_iconst (v := (5 : Int32)) hx hb dX10_halvedNow_17 (by decide) ?_
      refine lv_goto (tgt := 23) hx hb dX10_halvedNow_18 (by decide) ?_
      exact j23 o_all (5 : Int32) H locs ls hf hP hD hS (lv_sub hl [0] rfl)
  · have hf := it_t c_1 hf
    refine lv_bipush (v := (12 : Int32)) hx hb dX10_halvedNow_5 (by decide) ?_
    refine lv_goto (tgt := 23) hx hb dX10_halvedNow_7 (by decide) ?_
    exact j23 o_all (12 : Int32) H locs ls hf hP hD hS (lv_sub hl [0] rfl)
def wX10_turnedRe (cI cJ cZ : ClassId) (h_o h_o_quarter h_o_told h_o_tape h_o_words h_o_isTold h_o_toldWave h_o_isPoint h_o_all h_o_roots h_o_laidRe h_o_laidIm h_o_byOrder h_o_noted1 h_o_counts h_o_binBy : Nat) (o_tapeSize : Int32) (o_thrown : Int32) (o_fault : Int32) (o_faultPlace : Int32) (o_stop : Int32) (o_next : Int32) (o_kind : Int32) (o_which : Int32) (o_at : Int32) (o_pointsRead : Int32) (o_bank : Int32) (o_isImage : Int32) (o_undos : Int32) (o_runRadix : Int32) (o_runOrder : Int32) (o_runNear : Int32) (o_runLimit : Int32) (o_runHalves : Int32) (o_power : Int32) (o_notedMany : Int32) (o_knownTold : Int32) (o_drawn : Int64) (o_quarter : Nat → Int32) (o_told : Nat → Int32) : va_W := [(h_o, .inr (10, [.ref h_o_tape, .int o_tapeSize, .int o_thrown, .ref h_o_words, .int o_fault, .int o_faultPlace, .int o_stop, .int o_next, .int o_kind, .int o_which, .int o_at, .ref h_o_told, .ref h_o_isTold, .ref h_o_toldWave, .ref h_o_isPoint, .int o_pointsRead, .ref h_o_all, .int o_bank, .int o_isImage, .int o_undos, .int o_runRadix, .int o_runOrder, .int o_runNear, .int o_runLimit, .int o_runHalves, .ref h_o_quarter, .int o_power, .ref h_o_roots, .ref h_o_laidRe, .ref h_o_laidIm, .ref h_o_byOrder, .int o_notedMany, .int o_knownTold, .ref h_o_noted1, .ref h_o_counts, .ref h_o_binBy, .long o_drawn])), (h_o_quarter, .inl (cI, 9, .inl o_quarter)), (h_o_told, .inl (cI, 12, .inl o_told))]
def fX10_turnedRe (o_runNear : Int32) (o_quarter : Nat → Int32) (o_told : Nat → Int32) (p1 : Int32) (p2 : Int32) (p3 : Int32) : Option (Int64) :=
  bd1 (fX10_cosOf o_quarter o_told p3) (fun r_1 =>
  bd1 (fX10_sinOf o_quarter o_told p3) (fun r_3 =>
  bd1 (fX10_rounded o_runNear (((Int32.toInt64 p1) * (Int32.toInt64 r_1)) + ((Int32.toInt64 p2) * (Int32.toInt64 r_3))) (14 : Int32)) (fun r_5 =>
  some r_5)))
set_option maxHeartbeats 4000000 in
set_option maxRecDepth 100000 in
theorem tX10_turnedRe (l : Launch) (G : va_G) (cI cJ cZ : ClassId) (sz : Nat) (h_o h_o_quarter h_o_told h_o_tape h_o_words h_o_isTold h_o_toldWave h_o_isPoint h_o_all h_o_roots h_o_laidRe h_o_laidIm h_o_byOrder h_o_noted1 h_o_counts h_o_binBy : Nat) (o_tapeSize : Int32) (o_thrown : Int32) (o_fault : Int32) (o_faultPlace : Int32) (o_stop : Int32) (o_next : Int32) (o_kind : Int32) (o_which : Int32) (o_at : Int32) (o_pointsRead : Int32) (o_bank : Int32) (o_isImage : Int32) (o_undos : Int32) (o_runRadix : Int32) (o_runOrder : Int32) (o_runNear : Int32) (o_runLimit : Int32) (o_runHalves : Int32) (o_power : Int32) (o_notedMany : Int32) (o_knownTold : Int32) (o_drawn : Int64) (o_quarter : Nat → Int32) (o_told : Nat → Int32) (p1 : Int32) (p2 : Int32) (p3 : Int32) (r : Int64) (hf : fX10_turnedRe o_runNear o_quarter o_told p1 p2 p3 = some r) : Met l yX10_turnedRe (Cond.code yX10_turnedRe cX10_turnedRe 4 (some .long) :: BIG) ({ frames := 2, cells := 0, slots := 0, locals := 43 } : Room) (cP G (TY3 cI cJ cZ) [.ref h_o, .int p1, .int p2, .int p3] sz (wX10_turnedRe cI cJ cZ h_o h_o_quarter h_o_told h_o_tape h_o_words h_o_isTold h_o_toldWave h_o_isPoint h_o_all h_o_roots h_o_laidRe h_o_laidIm h_o_byOrder h_o_noted1 h_o_counts h_o_binBy o_tapeSize o_thrown o_fault o_faultPlace o_stop o_next o_kind o_which o_at o_pointsRead o_bank o_isImage o_undos o_runRadix o_runOrder o_runNear o_runLimit o_runHalves o_power o_notedMany o_knownTold o_drawn o_quarter o_told)) (cQ G (TY3 cI cJ cZ) sz (wX10_turnedRe cI cJ cZ h_o h_o_quarter h_o_told h_o_tape h_o_words h_o_isTold h_o_toldWave h_o_isPoint h_o_all h_o_roots h_o_laidRe h_o_laidIm h_o_byOrder h_o_noted1 h_o_counts h_o_binBy o_tapeSize o_thrown o_fault o_faultPlace o_stop o_next o_kind o_which o_at o_pointsRead o_bank o_isImage o_undos o_runRadix o_runOrder o_runNear o_runLimit o_runHalves o_power o_notedMany o_knownTold o_drawn o_quarter o_told) (wX10_turnedRe cI cJ cZ h_o h_o_quarter h_o_told h_o_tape h_o_words h_o_isTold h_o_toldWave h_o_isPoint h_o_all h_o_roots h_o_laidRe h_o_laidIm h_o_byOrder h_o_noted1 h_o_counts h_o_binBy o_tapeSize o_thrown o_fault o_faultPlace o_stop o_next o_kind o_which o_at o_pointsRead o_bank o_isImage o_undos o_runRadix o_runOrder o_runNear o_runLimit o_runHalves o_power o_notedMany o_knownTold o_drawn o_quarter o_told) (some (.long r))) 0 0 (va_A (wX10_turnedRe cI cJ cZ h_o h_o_quarter h_o_told h_o_tape h_o_words h_o_isTold h_o_toldWave h_o_isPoint h_o_all h_o_roots h_o_laidRe h_o_laidIm h_o_byOrder h_o_noted1 h_o_counts h_o_binBy o_tapeSize o_thrown o_fault o_faultPlace o_stop o_next o_kind o_which o_at o_pointsRead o_bank o_isImage o_undos o_runRadix o_runOrder o_runNear o_runLimit o_runHalves o_power o_notedMany o_knownTold o_drawn o_quarter o_told) sz) := by
  refine met_l (cc := cX10_turnedRe) (maxL := 4) (plainFor_of_name (by decide)) (Nat.le_of_ble_eq_true rfl) (fun p e s m below meth c A ls Q hx hb hml hts hown hK hP hD hS hA hl hret => ?_)
  have hown : s.vm.findClass RX10 = some m.cls := hown
  have hl : lv_has ls 4 [(0, .ref h_o), (1, .int p1), (2, .int p2), (3, .int p3)] := hl
  unfold fX10_turnedRe at hf
  obtain ⟨H, eH⟩ : ∃ H, H = s.heap := ⟨_, rfl⟩
  obtain ⟨locs, elocs⟩ : ∃ z : List Loc, z = [] := ⟨_, rfl⟩
  have hP : va_P G vwCl (wX10_turnedRe cI cJ cZ h_o h_o_quarter h_o_told h_o_tape h_o_words h_o_isTold h_o_toldWave h_o_isPoint h_o_all h_o_roots h_o_laidRe h_o_laidIm h_o_byOrder h_o_noted1 h_o_counts h_o_binBy o_tapeSize o_thrown o_fault o_faultPlace o_stop o_next o_kind o_which o_at o_pointsRead o_bank o_isImage o_undos o_runRadix o_runOrder o_runNear o_runLimit o_runHalves o_power o_notedMany o_knownTold o_drawn o_quarter o_told) H := by rw [eH]; exact hP
  have hS : va_S A s.heap H locs := by rw [eH, elocs]; exact hS
  suffices hgo : W p l e ({ frames := 2, cells := 0, slots := 0, locals := 43 } : Room) s m ([.ref h_o, .int p1, .int p2, .int p3] : List Value).toArray below meth c H locs 0 0 Q (F0 m 0 ls []) by rw [eH, elocs] at hgo; exact hgo
  clear eH elocs
  refine lv_aload_n hx hb dX10_turnedRe_0 rfl (lv_at hl 0 rfl) ?_
  refine lv_iload_n hx hb dX10_turnedRe_1 rfl (lv_at hl 1 rfl) ?_
  refine lv_i2l hx hb dX10_turnedRe_2 rfl ?_
  refine lv_aload_n hx hb dX10_turnedRe_3 rfl (lv_at hl 0 rfl) ?_
  refine lv_iload_n hx hb dX10_turnedRe_4 rfl (lv_at hl 3 rfl) ?_
  obtain ⟨r_1, e_2, hf⟩ := bd1_x hf
  refine call_v [.int p3] [.long (Int32.toInt64 p1), .ref h_o] ⟨hx, hb, hml, hown, hts⟩ hK hP hD hS hA hl.1 (tX10_cosOf l G cI cJ cZ H.size h_o h_o_quarter h_o_told h_o_tape h_o_words h_o_isTold h_o_toldWave h_o_isPoint h_o_all h_o_roots h_o_laidRe h_o_laidIm h_o_byOrder h_o_noted1 h_o_counts h_o_binBy o_tapeSize o_thrown o_fault o_faultPlace o_stop o_next o_kind o_which o_at o_pointsRead o_bank o_isImage o_undos o_runRadix o_runOrder o_runNear o_runLimit o_runHalves o_power o_notedMany o_knownTold o_drawn o_quarter o_told p3 r_1 e_2) (cwV 1 hts (gv q_mX10_207 q_i_yX10_cosOf q_s_yX10_cosOf q_n_RX10 q_k_yX10_cosOf) rfl rfl rfl (by decide +kernel) ⟨by decide, by decide⟩) rfl rfl (Nat.le_of_ble_eq_true rfl) dX10_turnedRe_5 ⟨Nat.zero_le _, Nat.zero_le _⟩ (ci := 10) rfl 0 rfl [0, 1, 2] [] [0, 1, 2] rfl rfl (ws2 := (wX10_turnedRe cI cJ cZ h_o h_o_quarter h_o_told h_o_tape h_o_words h_o_isTold h_o_toldWave h_o_isPoint h_o_all h_o_roots h_o_laidRe h_o_laidIm h_o_byOrder h_o_noted1 h_o_counts h_o_binBy o_tapeSize o_thrown o_fault o_faultPlace o_stop o_next o_kind o_which o_at o_pointsRead o_bank o_isImage o_undos o_runRadix o_runOrder o_runNear o_runLimit o_runHalves o_power o_notedMany o_knownTold o_drawn o_quarter o_told)) rfl (fun H locs hP hD hS => ?_)
  refine W.eq (g2 := F0 m 8 ls [.int r_1, .long (Int32.toInt64 p1), .ref h_o]) rfl ?_
  refine lv_i2l hx hb dX10_turnedRe_8 rfl ?_
  refine lv_lmul hx hb dX10_turnedRe_9 ?_
  refine lv_iload_n hx hb dX10_turnedRe_10 rfl (lv_at hl 2 rfl) ?_
  refine lv_i2l hx hb dX10_turnedRe_11 rfl ?_
  refine lv_aload_n hx hb dX10_turnedRe_12 rfl (lv_at hl 0 rfl) ?_
  refine lv_iload_n hx hb dX10_turnedRe_13 rfl (lv_at hl 3 rfl) ?_
  obtain ⟨r_3, e_4, hf⟩ := bd1_x hf
  refine call_v [.int p3] [.long (Int32.toInt64 p2), .long ((Int32.toInt64 p1) * (Int32.toInt64 r_1)), .ref h_o] ⟨hx, hb, hml, hown, hts⟩ hK hP hD hS hA hl.1 (tX10_sinOf l G cI cJ cZ H.size h_o h_o_quarter h_o_told h_o_tape h_o_words h_o_isTold h_o_toldWave h_o_isPoint h_o_all h_o_roots h_o_laidRe h_o_laidIm h_o_byOrder h_o_noted1 h_o_counts h_o_binBy o_tapeSize o_thrown o_fault o_faultPlace o_stop o_next o_kind o_which o_at o_pointsRead o_bank o_isImage o_undos o_runRadix o_runOrder o_runNear o_runLimit o_runHalves o_power o_notedMany o_knownTold o_drawn o_quarter o_told p3 r_3 e_4) (cwV 1 hts (gv q_mX10_210 q_i_yX10_sinOf q_s_yX10_sinOf q_n_RX10 q_k_yX10_sinOf) rfl rfl rfl (by decide +kernel) ⟨by decide, by decide⟩) rfl rfl (Nat.le_of_ble_eq_true rfl) dX10_turnedRe_14 ⟨Nat.zero_le _, Nat.zero_le _⟩ (ci := 10) rfl 0 rfl [0, 1, 2] [] [0, 1, 2] rfl rfl (ws2 := (wX10_turnedRe cI cJ cZ h_o h_o_quarter h_o_told h_o_tape h_o_words h_o_isTold h_o_toldWave h_o_isPoint h_o_all h_o_roots h_o_laidRe h_o_laidIm h_o_byOrder h_o_noted1 h_o_counts h_o_binBy o_tapeSize o_thrown o_fault o_faultPlace o_stop o_next o_kind o_which o_at o_pointsRead o_bank o_isImage o_undos o_runRadix o_runOrder o_runNear o_runLimit o_runHalves o_power o_notedMany o_knownTold o_drawn o_quarter o_told)) rfl (fun H locs hP hD hS => ?_)
  refine W.eq (g2 := F0 m 17 ls [.int r_3, .long (Int32.toInt64 p2), .long ((Int32.toInt64 p1) * (Int32.toInt64 r_1)), .ref h_o]) rfl ?_
  refine lv_i2l hx hb dX10_turnedRe_17 rfl ?_
  refine lv_lmul hx hb dX10_turnedRe_18 ?_
  refine lv_ladd hx hb dX10_turnedRe_19 ?_
  refine lv_bipush (v := (14 : Int32)) hx hb dX10_turnedRe_20 (by decide) ?_
  obtain ⟨r_5, e_6, hf⟩ := bd1_x hf
  refine call_v [.long (((Int32.toInt64 p1) * (Int32.toInt64 r_1)) + ((Int32.toInt64 p2) * (Int32.toInt64 r_3))), .int (14 : Int32)] [] ⟨hx, hb, hml, hown, hts⟩ hK hP hD hS hA hl.1 (tX10_rounded l G cI cJ cZ H.size h_o h_o_tape h_o_words h_o_told h_o_isTold h_o_toldWave h_o_isPoint h_o_all h_o_quarter h_o_roots h_o_laidRe h_o_laidIm h_o_byOrder h_o_noted1 h_o_counts h_o_binBy o_tapeSize o_thrown o_fault o_faultPlace o_stop o_next o_kind o_which o_at o_pointsRead o_bank o_isImage o_undos o_runRadix o_runOrder o_runNear o_runLimit o_runHalves o_power o_notedMany o_knownTold o_drawn (((Int32.toInt64 p1) * (Int32.toInt64 r_1)) + ((Int32.toInt64 p2) * (Int32.toInt64 r_3))) (14 : Int32) r_5 e_6) (cwV 2 hts (gv q_mX10_240 q_i_yX10_rounded q_s_yX10_rounded q_n_RX10 q_k_yX10_rounded) rfl rfl rfl (by decide +kernel) ⟨by decide, by decide⟩) rfl rfl (Nat.le_of_ble_eq_true rfl) dX10_turnedRe_22 ⟨Nat.zero_le _, Nat.zero_le _⟩ (ci := 10) rfl 0 rfl [0] [1, 2] [2, 0, 1] rfl rfl (ws2 := (wX10_turnedRe cI cJ cZ h_o h_o_quarter h_o_told h_o_tape h_o_words h_o_isTold h_o_toldWave h_o_isPoint h_o_all h_o_roots h_o_laidRe h_o_laidIm h_o_byOrder h_o_noted1 h_o_counts h_o_binBy o_tapeSize o_thrown o_fault o_faultPlace o_stop o_next o_kind o_which o_at o_pointsRead o_bank o_isImage o_undos o_runRadix o_runOrder o_runNear o_runLimit o_runHalves o_power o_notedMany o_knownTold o_drawn o_quarter o_told)) rfl (fun H locs hP hD hS => ?_)
  refine W.eq (g2 := F0 m 25 ls [.long r_5]) rfl ?_
  cases hf
  exact hret _ _ _ _ dX10_turnedRe_25 hP hD hS
def wX10_turnedIm (cI cJ cZ : ClassId) (h_o h_o_quarter h_o_told h_o_tape h_o_words h_o_isTold h_o_toldWave h_o_isPoint h_o_all h_o_roots h_o_laidRe h_o_laidIm h_o_byOrder h_o_noted1 h_o_counts h_o_binBy : Nat) (o_tapeSize : Int32) (o_thrown : Int32) (o_fault : Int32) (o_faultPlace : Int32) (o_stop : Int32) (o_next : Int32) (o_kind : Int32) (o_which : Int32) (o_at : Int32) (o_pointsRead : Int32) (o_bank : Int32) (o_isImage : Int32) (o_undos : Int32) (o_runRadix : Int32) (o_runOrder : Int32) (o_runNear : Int32) (o_runLimit : Int32) (o_runHalves : Int32) (o_power : Int32) (o_notedMany : Int32) (o_knownTold : Int32) (o_drawn : Int64) (o_quarter : Nat → Int32) (o_told : Nat → Int32) : va_W := [(h_o, .inr (10, [.ref h_o_tape, .int o_tapeSize, .int o_thrown, .ref h_o_words, .int o_fault, .int o_faultPlace, .int o_stop, .int o_next, .int o_kind, .int o_which, .int o_at, .ref h_o_told, .ref h_o_isTold, .ref h_o_toldWave, .ref h_o_isPoint, .int o_pointsRead, .ref h_o_all, .int o_bank, .int o_isImage, .int o_undos, .int o_runRadix, .int o_runOrder, .int o_runNear, .int o_runLimit, .int o_runHalves, .ref h_o_quarter, .int o_power, .ref h_o_roots, .ref h_o_laidRe, .ref h_o_laidIm, .ref h_o_byOrder, .int o_notedMany, .int o_knownTold, .ref h_o_noted1, .ref h_o_counts, .ref h_o_binBy, .long o_drawn])), (h_o_quarter, .inl (cI, 9, .inl o_quarter)), (h_o_told, .inl (cI, 12, .inl o_told))]
def fX10_turnedIm (o_runNear : Int32) (o_quarter : Nat → Int32) (o_told : Nat → Int32) (p1 : Int32) (p2 : Int32) (p3 : Int32) : Option (Int64) :=
  bd1 (fX10_cosOf o_quarter o_told p3) (fun r_1 =>
  bd1 (fX10_sinOf o_quarter o_told p3) (fun r_3 =>
  bd1 (fX10_rounded o_runNear (((Int32.toInt64 p2) * (Int32.toInt64 r_1)) - ((Int32.toInt64 p1) * (Int32.toInt64 r_3))) (14 : Int32)) (fun r_5 =>
  some r_5)))
set_option maxHeartbeats 4000000 in
set_option maxRecDepth 100000 in
theorem tX10_turnedIm (l : Launch) (G : va_G) (cI cJ cZ : ClassId) (sz : Nat) (h_o h_o_quarter h_o_told h_o_tape h_o_words h_o_isTold h_o_toldWave h_o_isPoint h_o_all h_o_roots h_o_laidRe h_o_laidIm h_o_byOrder h_o_noted1 h_o_counts h_o_binBy : Nat) (o_tapeSize : Int32) (o_thrown : Int32) (o_fault : Int32) (o_faultPlace : Int32) (o_stop : Int32) (o_next : Int32) (o_kind : Int32) (o_which : Int32) (o_at : Int32) (o_pointsRead : Int32) (o_bank : Int32) (o_isImage : Int32) (o_undos : Int32) (o_runRadix : Int32) (o_runOrder : Int32) (o_runNear : Int32) (o_runLimit : Int32) (o_runHalves : Int32) (o_power : Int32) (o_notedMany : Int32) (o_knownTold : Int32) (o_drawn : Int64) (o_quarter : Nat → Int32) (o_told : Nat → Int32) (p1 : Int32) (p2 : Int32) (p3 : Int32) (r : Int64) (hf : fX10_turnedIm o_runNear o_quarter o_told p1 p2 p3 = some r) : Met l yX10_turnedIm (Cond.code yX10_turnedIm cX10_turnedIm 4 (some .long) :: BIG) ({ frames := 2, cells := 0, slots := 0, locals := 43 } : Room) (cP G (TY3 cI cJ cZ) [.ref h_o, .int p1, .int p2, .int p3] sz (wX10_turnedIm cI cJ cZ h_o h_o_quarter h_o_told h_o_tape h_o_words h_o_isTold h_o_toldWave h_o_isPoint h_o_all h_o_roots h_o_laidRe h_o_laidIm h_o_byOrder h_o_noted1 h_o_counts h_o_binBy o_tapeSize o_thrown o_fault o_faultPlace o_stop o_next o_kind o_which o_at o_pointsRead o_bank o_isImage o_undos o_runRadix o_runOrder o_runNear o_runLimit o_runHalves o_power o_notedMany o_knownTold o_drawn o_quarter o_told)) (cQ G (TY3 cI cJ cZ) sz (wX10_turnedIm cI cJ cZ h_o h_o_quarter h_o_told h_o_tape h_o_words h_o_isTold h_o_toldWave h_o_isPoint h_o_all h_o_roots h_o_laidRe h_o_laidIm h_o_byOrder h_o_noted1 h_o_counts h_o_binBy o_tapeSize o_thrown o_fault o_faultPlace o_stop o_next o_kind o_which o_at o_pointsRead o_bank o_isImage o_undos o_runRadix o_runOrder o_runNear o_runLimit o_runHalves o_power o_notedMany o_knownTold o_drawn o_quarter o_told) (wX10_turnedIm cI cJ cZ h_o h_o_quarter h_o_told h_o_tape h_o_words h_o_isTold h_o_toldWave h_o_isPoint h_o_all h_o_roots h_o_laidRe h_o_laidIm h_o_byOrder h_o_noted1 h_o_counts h_o_binBy o_tapeSize o_thrown o_fault o_faultPlace o_stop o_next o_kind o_which o_at o_pointsRead o_bank o_isImage o_undos o_runRadix o_runOrder o_runNear o_runLimit o_runHalves o_power o_notedMany o_knownTold o_drawn o_quarter o_told) (some (.long r))) 0 0 (va_A (wX10_turnedIm cI cJ cZ h_o h_o_quarter h_o_told h_o_tape h_o_words h_o_isTold h_o_toldWave h_o_isPoint h_o_all h_o_roots h_o_laidRe h_o_laidIm h_o_byOrder h_o_noted1 h_o_counts h_o_binBy o_tapeSize o_thrown o_fault o_faultPlace o_stop o_next o_kind o_which o_at o_pointsRead o_bank o_isImage o_undos o_runRadix o_runOrder o_runNear o_runLimit o_runHalves o_power o_notedMany o_knownTold o_drawn o_quarter o_told) sz) := by
  refine met_l (cc := cX10_turnedIm) (maxL := 4) (plainFor_of_name (by decide)) (Nat.le_of_ble_eq_true rfl) (fun p e s m below meth c A ls Q hx hb hml hts hown hK hP hD hS hA hl hret => ?_)
  have hown : s.vm.findClass RX10 = some m.cls := hown
  have hl : lv_has ls 4 [(0, .ref h_o), (1, .int p1), (2, .int p2), (3, .int p3)] := hl
  unfold fX10_turnedIm at hf
  obtain ⟨H, eH⟩ : ∃ H, H = s.heap := ⟨_, rfl⟩
  obtain ⟨locs, elocs⟩ : ∃ z : List Loc, z = [] := ⟨_, rfl⟩
  have hP : va_P G vwCl (wX10_turnedIm cI cJ cZ h_o h_o_quarter h_o_told h_o_tape h_o_words h_o_isTold h_o_toldWave h_o_isPoint h_o_all h_o_roots h_o_laidRe h_o_laidIm h_o_byOrder h_o_noted1 h_o_counts h_o_binBy o_tapeSize o_thrown o_fault o_faultPlace o_stop o_next o_kind o_which o_at o_pointsRead o_bank o_isImage o_undos o_runRadix o_runOrder o_runNear o_runLimit o_runHalves o_power o_notedMany o_knownTold o_drawn o_quarter o_told) H := by rw [eH]; exact hP
  have hS : va_S A s.heap H locs := by rw [eH, elocs]; exact hS
  suffices hgo : W p l e ({ frames := 2, cells := 0, slots := 0, locals := 43 } : Room) s m ([.ref h_o, .int p1, .int p2, .int p3] : List Value).toArray below meth c H locs 0 0 Q (F0 m 0 ls []) by rw [eH, elocs] at hgo; exact hgo
  clear eH elocs
  refine lv_aload_n hx hb dX10_turnedIm_0 rfl (lv_at hl 0 rfl) ?_
  refine lv_iload_n hx hb dX10_turnedIm_1 rfl (lv_at hl 2 rfl) ?_
  refine lv_i2l hx hb dX10_turnedIm_2 rfl ?_
  refine lv_aload_n hx hb dX10_turnedIm_3 rfl (lv_at hl 0 rfl) ?_
  refine lv_iload_n hx hb dX10_turnedIm_4 rfl (lv_at hl 3 rfl) ?_
  obtain ⟨r_1, e_2, hf⟩ := bd1_x hf
  refine call_v [.int p3] [.long (Int32.toInt64 p2), .ref h_o] ⟨hx, hb, hml, hown, hts⟩ hK hP hD hS hA hl.1 (tX10_cosOf l G cI cJ cZ H.size h_o h_o_quarter h_o_told h_o_tape h_o_words h_o_isTold h_o_toldWave h_o_isPoint h_o_all h_o_roots h_o_laidRe h_o_laidIm h_o_byOrder h_o_noted1 h_o_counts h_o_binBy o_tapeSize o_thrown o_fault o_faultPlace o_stop o_next o_kind o_which o_at o_pointsRead o_bank o_isImage o_undos o_runRadix o_runOrder o_runNear o_runLimit o_runHalves o_power o_notedMany o_knownTold o_drawn o_quarter o_told p3 r_1 e_2) (cwV 1 hts (gv q_mX10_207 q_i_yX10_cosOf q_s_yX10_cosOf q_n_RX10 q_k_yX10_cosOf) rfl rfl rfl (by decide +kernel) ⟨by decide, by decide⟩) rfl rfl (Nat.le_of_ble_eq_true rfl) dX10_turnedIm_5 ⟨Nat.zero_le _, Nat.zero_le _⟩ (ci := 10) rfl 0 rfl [0, 1, 2] [] [0, 1, 2] rfl rfl (ws2 := (wX10_turnedIm cI cJ cZ h_o h_o_quarter h_o_told h_o_tape h_o_words h_o_isTold h_o_toldWave h_o_isPoint h_o_all h_o_roots h_o_laidRe h_o_laidIm h_o_byOrder h_o_noted1 h_o_counts h_o_binBy o_tapeSize o_thrown o_fault o_faultPlace o_stop o_next o_kind o_which o_at o_pointsRead o_bank o_isImage o_undos o_runRadix o_runOrder o_runNear o_runLimit o_runHalves o_power o_notedMany o_knownTold o_drawn o_quarter o_told)) rfl (fun H locs hP hD hS => ?_)
  refine W.eq (g2 := F0 m 8 ls [.int r_1, .long (Int32.toInt64 p2), .ref h_o]) rfl ?_
  refine lv_i2l hx hb dX10_turnedIm_8 rfl ?_
  refine lv_lmul hx hb dX10_turnedIm_9 ?_
  refine lv_iload_n hx hb dX10_turnedIm_10 rfl (lv_at hl 1 rfl) ?_
  refine lv_i2l hx hb dX10_turnedIm_11 rfl ?_
  refine lv_aload_n hx hb dX10_turnedIm_12 rfl (lv_at hl 0 rfl) ?_
  refine lv_iload_n hx hb dX10_turnedIm_13 rfl (lv_at hl 3 rfl) ?_
  obtain ⟨r_3, e_4, hf⟩ := bd1_x hf
  refine call_v [.int p3] [.long (Int32.toInt64 p1), .long ((Int32.toInt64 p2) * (Int32.toInt64 r_1)), .ref h_o] ⟨hx, hb, hml, hown, hts⟩ hK hP hD hS hA hl.1 (tX10_sinOf l G cI cJ cZ H.size h_o h_o_quarter h_o_told h_o_tape h_o_words h_o_isTold h_o_toldWave h_o_isPoint h_o_all h_o_roots h_o_laidRe h_o_laidIm h_o_byOrder h_o_noted1 h_o_counts h_o_binBy o_tapeSize o_thrown o_fault o_faultPlace o_stop o_next o_kind o_which o_at o_pointsRead o_bank o_isImage o_undos o_runRadix o_runOrder o_runNear o_runLimit o_runHalves o_power o_notedMany o_knownTold o_drawn o_quarter o_told p3 r_3 e_4) (cwV 1 hts (gv q_mX10_210 q_i_yX10_sinOf q_s_yX10_sinOf q_n_RX10 q_k_yX10_sinOf) rfl rfl rfl (by decide +kernel) ⟨by decide, by decide⟩) rfl rfl (Nat.le_of_ble_eq_true rfl) dX10_turnedIm_14 ⟨Nat.zero_le _, Nat.zero_le _⟩ (ci := 10) rfl 0 rfl [0, 1, 2] [] [0, 1, 2] rfl rfl (ws2 := (wX10_turnedIm cI cJ cZ h_o h_o_quarter h_o_told h_o_tape h_o_words h_o_isTold h_o_toldWave h_o_isPoint h_o_all h_o_roots h_o_laidRe h_o_laidIm h_o_byOrder h_o_noted1 h_o_counts h_o_binBy o_tapeSize o_thrown o_fault o_faultPlace o_stop o_next o_kind o_which o_at o_pointsRead o_bank o_isImage o_undos o_runRadix o_runOrder o_runNear o_runLimit o_runHalves o_power o_notedMany o_knownTold o_drawn o_quarter o_told)) rfl (fun H locs hP hD hS => ?_)
  refine W.eq (g2 := F0 m 17 ls [.int r_3, .long (Int32.toInt64 p1), .long ((Int32.toInt64 p2) * (Int32.toInt64 r_1)), .ref h_o]) rfl ?_
  refine lv_i2l hx hb dX10_turnedIm_17 rfl ?_
  refine lv_lmul hx hb dX10_turnedIm_18 ?_
  refine lv_lsub hx hb dX10_turnedIm_19 ?_
  refine lv_bipush (v := (14 : Int32)) hx hb dX10_turnedIm_20 (by decide) ?_
  obtain ⟨r_5, e_6, hf⟩ := bd1_x hf
  refine call_v [.long (((Int32.toInt64 p2) * (Int32.toInt64 r_1)) - ((Int32.toInt64 p1) * (Int32.toInt64 r_3))), .int (14 : Int32)] [] ⟨hx, hb, hml, hown, hts⟩ hK hP hD hS hA hl.1 (tX10_rounded l G cI cJ cZ H.size h_o h_o_tape h_o_words h_o_told h_o_isTold h_o_toldWave h_o_isPoint h_o_all h_o_quarter h_o_roots h_o_laidRe h_o_laidIm h_o_byOrder h_o_noted1 h_o_counts h_o_binBy o_tapeSize o_thrown o_fault o_faultPlace o_stop o_next o_kind o_which o_at o_pointsRead o_bank o_isImage o_undos o_runRadix o_runOrder o_runNear o_runLimit o_runHalves o_power o_notedMany o_knownTold o_drawn (((Int32.toInt64 p2) * (Int32.toInt64 r_1)) - ((Int32.toInt64 p1) * (Int32.toInt64 r_3))) (14 : Int32) r_5 e_6) (cwV 2 hts (gv q_mX10_240 q_i_yX10_rounded q_s_yX10_rounded q_n_RX10 q_k_yX10_rounded) rfl rfl rfl (by decide +kernel) ⟨by decide, by decide⟩) rfl rfl (Nat.le_of_ble_eq_true rfl) dX10_turnedIm_22 ⟨Nat.zero_le _, Nat.zero_le _⟩ (ci := 10) rfl 0 rfl [0] [1, 2] [2, 0, 1] rfl rfl (ws2 := (wX10_turnedIm cI cJ cZ h_o h_o_quarter h_o_told h_o_tape h_o_words h_o_isTold h_o_toldWave h_o_isPoint h_o_all h_o_roots h_o_laidRe h_o_laidIm h_o_byOrder h_o_noted1 h_o_counts h_o_binBy o_tapeSize o_thrown o_fault o_faultPlace o_stop o_next o_kind o_which o_at o_pointsRead o_bank o_isImage o_undos o_runRadix o_runOrder o_runNear o_runLimit o_runHalves o_power o_notedMany o_knownTold o_drawn o_quarter o_told)) rfl (fun H locs hP hD hS => ?_)
  refine W.eq (g2 := F0 m 25 ls [.long r_5]) rfl ?_
  cases hf
  exact hret _ _ _ _ dX10_turnedIm_25 hP hD hS
def wX10_gathers (cI cJ cZ : ClassId) (h_o h_o_all h_o_laidIm h_o_laidRe h_o_quarter h_o_told h_o_tape h_o_words h_o_isTold h_o_toldWave h_o_isPoint h_o_roots h_o_byOrder h_o_noted1 h_o_counts h_o_binBy : Nat) (o_tapeSize : Int32) (o_thrown : Int32) (o_fault : Int32) (o_faultPlace : Int32) (o_stop : Int32) (o_next : Int32) (o_kind : Int32) (o_which : Int32) (o_at : Int32) (o_pointsRead : Int32) (o_bank : Int32) (o_isImage : Int32) (o_undos : Int32) (o_runRadix : Int32) (o_runOrder : Int32) (o_runNear : Int32) (o_runLimit : Int32) (o_runHalves : Int32) (o_power : Int32) (o_notedMany : Int32) (o_knownTold : Int32) (o_drawn : Int64) (o_all : Nat → Int32) (o_laidIm : Nat → Int32) (o_laidRe : Nat → Int32) (o_quarter : Nat → Int32) (o_told : Nat → Int32) : va_W := [(h_o, .inr (10, [.ref h_o_tape, .int o_tapeSize, .int o_thrown, .ref h_o_words, .int o_fault, .int o_faultPlace, .int o_stop, .int o_next, .int o_kind, .int o_which, .int o_at, .ref h_o_told, .ref h_o_isTold, .ref h_o_toldWave, .ref h_o_isPoint, .int o_pointsRead, .ref h_o_all, .int o_bank, .int o_isImage, .int o_undos, .int o_runRadix, .int o_runOrder, .int o_runNear, .int o_runLimit, .int o_runHalves, .ref h_o_quarter, .int o_power, .ref h_o_roots, .ref h_o_laidRe, .ref h_o_laidIm, .ref h_o_byOrder, .int o_notedMany, .int o_knownTold, .ref h_o_noted1, .ref h_o_counts, .ref h_o_binBy, .long o_drawn])), (h_o_all, .inl (cI, 3128, .inl o_all)), (h_o_laidIm, .inl (cI, 32, .inl o_laidIm)), (h_o_laidRe, .inl (cI, 32, .inl o_laidRe)), (h_o_quarter, .inl (cI, 9, .inl o_quarter)), (h_o_told, .inl (cI, 12, .inl o_told))]
def fX10_gathers_268 (o_laidIm : Nat → Int32) (o_laidRe : Nat → Int32) (s1 : Int32) (s2 : Int32) : Option ((Nat → Int32) × (Nat → Int32)) :=
  gd (inb s1 32) (
  nm (upd o_laidIm (Int32.toNatClampNeg s1) s2) (fun o_laidIm_42 =>
  some (o_laidIm_42, o_laidRe)))
def fX10_gathers_235 (o_runNear : Int32) (o_quarter : Nat → Int32) (o_told : Nat → Int32) (o_laidIm : Nat → Int32) (o_laidRe : Nat → Int32) (v1 : Int32) (v4 : Int32) (v6 : Int32) (v7 : Int32) (v8 : Int32) (v9 : Int32) (v10 : Int32) (s1 : Int32) (s2 : Int32) : Option ((Nat → Int32) × (Nat → Int32)) :=
  gd (inb s1 32) (
  nm (upd o_laidRe (Int32.toNatClampNeg s1) s2) (fun o_laidRe_37 =>
  if v10 = 0 then (
    fX10_gathers_268 o_laidIm o_laidRe_37 v1 v9
  ) else (
    bd1 (fX10_turnedIm o_runNear o_quarter o_told v8 v9 ((v6 * v7) * v4)) (fun r_39 =>
    fX10_gathers_268 o_laidIm o_laidRe_37 v1 (Int64.toInt32 r_39))
  )))
def fX10_gathers_201 (o_runNear : Int32) (o_quarter : Nat → Int32) (o_told : Nat → Int32) (o_laidIm : Nat → Int32) (o_laidRe : Nat → Int32) (v1 : Int32) (v4 : Int32) (v6 : Int32) (v7 : Int32) (v8 : Int32) (v9 : Int32) (s0 : Int32) : Option ((Nat → Int32) × (Nat → Int32)) :=
  if s0 = 0 then (
    fX10_gathers_235 o_runNear o_quarter o_told o_laidIm o_laidRe v1 v4 v6 v7 v8 v9 s0 v1 v8
  ) else (
    bd1 (fX10_turnedRe o_runNear o_quarter o_told v8 v9 ((v6 * v7) * v4)) (fun r_34 =>
    fX10_gathers_235 o_runNear o_quarter o_told o_laidIm o_laidRe v1 v4 v6 v7 v8 v9 s0 v1 (Int64.toInt32 r_34))
  )
def fX10_gathers_200 (o_runNear : Int32) (o_quarter : Nat → Int32) (o_told : Nat → Int32) (o_laidIm : Nat → Int32) (o_laidRe : Nat → Int32) (v1 : Int32) (v4 : Int32) (v6 : Int32) (v7 : Int32) (v8 : Int32) (v9 : Int32) : Option ((Nat → Int32) × (Nat → Int32)) :=
  fX10_gathers_201 o_runNear o_quarter o_told o_laidIm o_laidRe v1 v4 v6 v7 v8 v9 (0 : Int32)
def fX10_gathers_183 (o_runOrder : Int32) (o_runNear : Int32) (o_quarter : Nat → Int32) (o_told : Nat → Int32) (o_laidIm : Nat → Int32) (o_laidRe : Nat → Int32) (v1 : Int32) (v4 : Int32) (v6 : Int32) (v7 : Int32) (v8 : Int32) (v9 : Int32) : Option ((Nat → Int32) × (Nat → Int32)) :=
  if o_runOrder = (1 : Int32) then (
    if v6 ≤ 0 then (
      fX10_gathers_200 o_runNear o_quarter o_told o_laidIm o_laidRe v1 v4 v6 v7 v8 v9
    ) else (
      fX10_gathers_201 o_runNear o_quarter o_told o_laidIm o_laidRe v1 v4 v6 v7 v8 v9 (1 : Int32)
    )
  ) else (
    fX10_gathers_200 o_runNear o_quarter o_told o_laidIm o_laidRe v1 v4 v6 v7 v8 v9
  )
def fX10_gathers_163 (o_bank : Int32) (o_runOrder : Int32) (o_runNear : Int32) (o_all : Nat → Int32) (o_quarter : Nat → Int32) (o_told : Nat → Int32) (k32 : (Nat → Int32) → (Nat → Int32) → Int32 → Int32 → Int32 → Int32 → Int32 → Int32 → Int32 → Int32 → Int32 → Int32 → Option ((Nat → Int32) × (Nat → Int32))) (o_laidIm : Nat → Int32) (o_laidRe : Nat → Int32) (v1 : Int32) (v2 : Int32) (v3 : Int32) (v4 : Int32) (v5 : Int32) (v6 : Int32) (v7 : Int32) (v8 : Int32) (v9 : Int32) (v10 : Int32) (v11 : Int32) (v12 : Int32) : Option ((Nat → Int32) × (Nat → Int32)) :=
  nm (v8 + v11) (fun v8_28 =>
  nm (v9 + v12) (fun v9_29 =>
  nm (v10 + (1 : Int32)) (fun v10_30 =>
  k32 o_laidIm o_laidRe v1 v2 v3 v4 v5 v6 v7 v8_28 v9_29 v10_30)))
def fX10_gathers_128 (o_bank : Int32) (o_runOrder : Int32) (o_runNear : Int32) (o_all : Nat → Int32) (o_quarter : Nat → Int32) (o_told : Nat → Int32) (k32 : (Nat → Int32) → (Nat → Int32) → Int32 → Int32 → Int32 → Int32 → Int32 → Int32 → Int32 → Int32 → Int32 → Int32 → Option ((Nat → Int32) × (Nat → Int32))) : Nat → (Nat → Int32) → (Nat → Int32) → Int32 → Int32 → Int32 → Int32 → Int32 → Int32 → Int32 → Int32 → Int32 → Int32 → Int32 → Int32 → Int32 → Option ((Nat → Int32) × (Nat → Int32))
  | 0, _, _, _, _, _, _, _, _, _, _, _, _, _, _, _ => none
  | n + 1, o_laidIm, o_laidRe, v1, v2, v3, v4, v5, v6, v7, v8, v9, v10, v11, v12, v13 =>
    gd (nz v2) (
    if (((v6 * v10) * ((4 : Int32) / v2)) - ((v6 * v10) * ((4 : Int32) / v2)) / (4 : Int32) * (4 : Int32)) ≤ v13 then (
      fX10_gathers_163 o_bank o_runOrder o_runNear o_all o_quarter o_told k32 o_laidIm o_laidRe v1 v2 v3 v4 v5 v6 v7 v8 v9 v10 v11 v12
    ) else (
      nm (-v11) (fun v12_26 =>
      nm (v13 + (1 : Int32)) (fun v13_27 =>
      fX10_gathers_128 o_bank o_runOrder o_runNear o_all o_quarter o_told k32 n o_laidIm o_laidRe v1 v2 v3 v4 v5 v6 v7 v8 v9 v10 v12 v12_26 v13_27))
    ))
def fX10_gathers_125 (o_bank : Int32) (o_runOrder : Int32) (o_runNear : Int32) (o_all : Nat → Int32) (o_quarter : Nat → Int32) (o_told : Nat → Int32) (k32 : (Nat → Int32) → (Nat → Int32) → Int32 → Int32 → Int32 → Int32 → Int32 → Int32 → Int32 → Int32 → Int32 → Int32 → Option ((Nat → Int32) × (Nat → Int32))) (o_laidIm : Nat → Int32) (o_laidRe : Nat → Int32) (v1 : Int32) (v2 : Int32) (v3 : Int32) (v4 : Int32) (v5 : Int32) (v6 : Int32) (v7 : Int32) (v8 : Int32) (v9 : Int32) (v10 : Int32) (v11 : Int32) (v12 : Int32) : Option ((Nat → Int32) × (Nat → Int32)) :=
  fX10_gathers_128 o_bank o_runOrder o_runNear o_all o_quarter o_told k32 FU o_laidIm o_laidRe v1 v2 v3 v4 v5 v6 v7 v8 v9 v10 v11 v12 (0 : Int32)
def fX10_gathers_32 (o_bank : Int32) (o_runOrder : Int32) (o_runNear : Int32) (o_all : Nat → Int32) (o_quarter : Nat → Int32) (o_told : Nat → Int32) : Nat → (Nat → Int32) → (Nat → Int32) → Int32 → Int32 → Int32 → Int32 → Int32 → Int32 → Int32 → Int32 → Int32 → Int32 → Option ((Nat → Int32) × (Nat → Int32))
  | 0, _, _, _, _, _, _, _, _, _, _, _, _ => none
  | n + 1, o_laidIm, o_laidRe, v1, v2, v3, v4, v5, v6, v7, v8, v9, v10 =>
    if v2 ≤ v10 then (
      fX10_gathers_183 o_runOrder o_runNear o_quarter o_told o_laidIm o_laidRe v1 v4 v6 v7 v8 v9
    ) else (
      bd1 (fX10_of o_bank o_all ((v5 + v7) + (v10 * v3))) (fun r_11 =>
      bd1 (fX10_of o_bank o_all ((((32 : Int32) + v5) + v7) + (v10 * v3))) (fun r_13 =>
      if o_runOrder = 0 then (
        if v10 ≤ 0 then (
          fX10_gathers_125 o_bank o_runOrder o_runNear o_all o_quarter o_told (fX10_gathers_32 o_bank o_runOrder o_runNear o_all o_quarter o_told n) o_laidIm o_laidRe v1 v2 v3 v4 v5 v6 v7 v8 v9 v10 r_11 r_13
        ) else (
          nm ((v10 * v7) * v4) (fun v13_17 =>
          bd1 (fX10_turnedRe o_runNear o_quarter o_told r_11 r_13 v13_17) (fun r_18 =>
          nm (Int64.toInt32 r_18) (fun v14_20 =>
          bd1 (fX10_turnedIm o_runNear o_quarter o_told r_11 r_13 v13_17) (fun r_21 =>
          nm (Int64.toInt32 r_21) (fun v12_23 =>
          fX10_gathers_125 o_bank o_runOrder o_runNear o_all o_quarter o_told (fX10_gathers_32 o_bank o_runOrder o_runNear o_all o_quarter o_told n) o_laidIm o_laidRe v1 v2 v3 v4 v5 v6 v7 v8 v9 v10 v14_20 v12_23)))))
        )
      ) else (
        fX10_gathers_125 o_bank o_runOrder o_runNear o_all o_quarter o_told (fX10_gathers_32 o_bank o_runOrder o_runNear o_all o_quarter o_told n) o_laidIm o_laidRe v1 v2 v3 v4 v5 v6 v7 v8 v9 v10 r_11 r_13
      )))
    )
def fX10_gathers (o_bank : Int32) (o_runOrder : Int32) (o_runNear : Int32) (o_all : Nat → Int32) (o_laidIm : Nat → Int32) (o_laidRe : Nat → Int32) (o_quarter : Nat → Int32) (o_told : Nat → Int32) (p1 : Int32) (p2 : Int32) (p3 : Int32) (p4 : Int32) : Option ((Nat → Int32) × (Nat → Int32)) :=
  nm (p2 * p3) (fun d_1 =>
  gd (nz d_1) (
  nm (p1 - (p1 - p1 / d_1 * d_1)) (fun v5_3 =>
  nm (p2 * p3) (fun d_4 =>
  gd (nz d_4) (
  gd (nz p3) (
  nm ((p1 - p1 / d_4 * d_4) / p3) (fun v6_7 =>
  gd (nz p3) (
  nm (p1 - p1 / p3 * p3) (fun v7_9 =>
  fX10_gathers_32 o_bank o_runOrder o_runNear o_all o_quarter o_told FU o_laidIm o_laidRe p1 p2 p3 p4 v5_3 v6_7 v7_9 (0 : Int32) (0 : Int32) (0 : Int32))))))))))
set_option maxHeartbeats 4000000 in
set_option maxRecDepth 100000 in
theorem tX10_gathers (l : Launch) (G : va_G) (cI cJ cZ : ClassId) (sz : Nat) (h_o h_o_all h_o_laidIm h_o_laidRe h_o_quarter h_o_told h_o_tape h_o_words h_o_isTold h_o_toldWave h_o_isPoint h_o_roots h_o_byOrder h_o_noted1 h_o_counts h_o_binBy : Nat) (o_tapeSize : Int32) (o_thrown : Int32) (o_fault : Int32) (o_faultPlace : Int32) (o_stop : Int32) (o_next : Int32) (o_kind : Int32) (o_which : Int32) (o_at : Int32) (o_pointsRead : Int32) (o_bank : Int32) (o_isImage : Int32) (o_undos : Int32) (o_runRadix : Int32) (o_runOrder : Int32) (o_runNear : Int32) (o_runLimit : Int32) (o_runHalves : Int32) (o_power : Int32) (o_notedMany : Int32) (o_knownTold : Int32) (o_drawn : Int64) (o_all : Nat → Int32) (o_laidIm : Nat → Int32) (o_laidRe : Nat → Int32) (o_quarter : Nat → Int32) (o_told : Nat → Int32) (p1 : Int32) (p2 : Int32) (p3 : Int32) (p4 : Int32) (out_o_laidIm : Nat → Int32) (out_o_laidRe : Nat → Int32) (hf : fX10_gathers o_bank o_runOrder o_runNear o_all o_laidIm o_laidRe o_quarter o_told p1 p2 p3 p4 = some (out_o_laidIm, out_o_laidRe)) : Met l yX10_gathers (Cond.code yX10_gathers cX10_gathers 15 none :: BIG) ({ frames := 3, cells := 0, slots := 0, locals := 66 } : Room) (cP G (TY3 cI cJ cZ) [.ref h_o, .int p1, .int p2, .int p3, .int p4] sz (wX10_gathers cI cJ cZ h_o h_o_all h_o_laidIm h_o_laidRe h_o_quarter h_o_told h_o_tape h_o_words h_o_isTold h_o_toldWave h_o_isPoint h_o_roots h_o_byOrder h_o_noted1 h_o_counts h_o_binBy o_tapeSize o_thrown o_fault o_faultPlace o_stop o_next o_kind o_which o_at o_pointsRead o_bank o_isImage o_undos o_runRadix o_runOrder o_runNear o_runLimit o_runHalves o_power o_notedMany o_knownTold o_drawn o_all o_laidIm o_laidRe o_quarter o_told)) (cQ G (TY3 cI cJ cZ) sz (wX10_gathers cI cJ cZ h_o h_o_all h_o_laidIm h_o_laidRe h_o_quarter h_o_told h_o_tape h_o_words h_o_isTold h_o_toldWave h_o_isPoint h_o_roots h_o_byOrder h_o_noted1 h_o_counts h_o_binBy o_tapeSize o_thrown o_fault o_faultPlace o_stop o_next o_kind o_which o_at o_pointsRead o_bank o_isImage o_undos o_runRadix o_runOrder o_runNear o_runLimit o_runHalves o_power o_notedMany o_knownTold o_drawn o_all o_laidIm o_laidRe o_quarter o_told) (wX10_gathers cI cJ cZ h_o h_o_all h_o_laidIm h_o_laidRe h_o_quarter h_o_told h_o_tape h_o_words h_o_isTold h_o_toldWave h_o_isPoint h_o_roots h_o_byOrder h_o_noted1 h_o_counts h_o_binBy o_tapeSize o_thrown o_fault o_faultPlace o_stop o_next o_kind o_which o_at o_pointsRead o_bank o_isImage o_undos o_runRadix o_runOrder o_runNear o_runLimit o_runHalves o_power o_notedMany o_knownTold o_drawn o_all out_o_laidIm out_o_laidRe o_quarter o_told) none) 0 0 (va_A (wX10_gathers cI cJ cZ h_o h_o_all h_o_laidIm h_o_laidRe h_o_quarter h_o_told h_o_tape h_o_words h_o_isTold h_o_toldWave h_o_isPoint h_o_roots h_o_byOrder h_o_noted1 h_o_counts h_o_binBy o_tapeSize o_thrown o_fault o_faultPlace o_stop o_next o_kind o_which o_at o_pointsRead o_bank o_isImage o_undos o_runRadix o_runOrder o_runNear o_runLimit o_runHalves o_power o_notedMany o_knownTold o_drawn o_all o_laidIm o_laidRe o_quarter o_told) sz) := by
  refine met_v (cc := cX10_gathers) (maxL := 15) (plainFor_of_name (by decide)) (Nat.le_of_ble_eq_true rfl) (fun p e s m below meth c A ls Q hx hb hml hts hown hK hP hD hS hA hl hret => ?_)
  have hown : s.vm.findClass RX10 = some m.cls := hown
  have hl : lv_has ls 15 [(0, .ref h_o), (1, .int p1), (2, .int p2), (3, .int p3), (4, .int p4)] := hl
  have j268 : ∀ (o_laidIm : Nat → Int32) (o_laidRe : Nat → Int32) (s1 : Int32) (s2 : Int32) (H : Heap) (locs : List Loc) (ls : Array Slot), fX10_gathers_268 o_laidIm o_laidRe s1 s2 = some (out_o_laidIm, out_o_laidRe) → va_P G vwCl (wX10_gathers cI cJ cZ h_o h_o_all h_o_laidIm h_o_laidRe h_o_quarter h_o_told h_o_tape h_o_words h_o_isTold h_o_toldWave h_o_isPoint h_o_roots h_o_byOrder h_o_noted1 h_o_counts h_o_binBy o_tapeSize o_thrown o_fault o_faultPlace o_stop o_next o_kind o_which o_at o_pointsRead o_bank o_isImage o_undos o_runRadix o_runOrder o_runNear o_runLimit o_runHalves o_power o_notedMany o_knownTold o_drawn o_all o_laidIm o_laidRe o_quarter o_told) H → va_D A (wX10_gathers cI cJ cZ h_o h_o_all h_o_laidIm h_o_laidRe h_o_quarter h_o_told h_o_tape h_o_words h_o_isTold h_o_toldWave h_o_isPoint h_o_roots h_o_byOrder h_o_noted1 h_o_counts h_o_binBy o_tapeSize o_thrown o_fault o_faultPlace o_stop o_next o_kind o_which o_at o_pointsRead o_bank o_isImage o_undos o_runRadix o_runOrder o_runNear o_runLimit o_runHalves o_power o_notedMany o_knownTold o_drawn o_all o_laidIm o_laidRe o_quarter o_told) → va_S A s.heap H locs → lv_has ls 15 [] → W p l e ({ frames := 3, cells := 0, slots := 0, locals := 66 } : Room) s m ([.ref h_o, .int p1, .int p2, .int p3, .int p4] : List Value).toArray below meth c H locs 0 0 Q (F0 m 268 ls [.int s2, .int s1, .ref h_o_laidIm]) := by
    intro o_laidIm o_laidRe s1 s2 H locs ls hf hP hD hS hl
    unfold fX10_gathers_268 at hf
    obtain ⟨g_41, hf⟩ := gd_x hf
    obtain ⟨o_laidIm_42, eo_laidIm_42⟩ : ∃ y : Nat → Int32, y = upd o_laidIm (Int32.toNatClampNeg s1) s2 := ⟨_, rfl⟩
    have hf := nm_x eo_laidIm_42 hf
    refine ist hx hb hK hP hD hS 2 0 rfl rfl (inb_x g_41) dX10_gathers_268 eo_laidIm_42 (ws2 := (wX10_gathers cI cJ cZ h_o h_o_all h_o_laidIm h_o_laidRe h_o_quarter h_o_told h_o_tape h_o_words h_o_isTold h_o_toldWave h_o_isPoint h_o_roots h_o_byOrder h_o_noted1 h_o_counts h_o_binBy o_tapeSize o_thrown o_fault o_faultPlace o_stop o_next o_kind o_which o_at o_pointsRead o_bank o_isImage o_undos o_runRadix o_runOrder o_runNear o_runLimit o_runHalves o_power o_notedMany o_knownTold o_drawn o_all o_laidIm_42 o_laidRe o_quarter o_told)) rfl (fun H locs hP hD hS => ?_)
    cases hf
    exact hret _ _ _ _ dX10_gathers_269 hP hD hS
  have j235 : ∀ (o_laidIm : Nat → Int32) (o_laidRe : Nat → Int32) (v1 : Int32) (v4 : Int32) (v6 : Int32) (v7 : Int32) (v8 : Int32) (v9 : Int32) (v10 : Int32) (s1 : Int32) (s2 : Int32) (H : Heap) (locs : List Loc) (ls : Array Slot), fX10_gathers_235 o_runNear o_quarter o_told o_laidIm o_laidRe v1 v4 v6 v7 v8 v9 v10 s1 s2 = some (out_o_laidIm, out_o_laidRe) → va_P G vwCl (wX10_gathers cI cJ cZ h_o h_o_all h_o_laidIm h_o_laidRe h_o_quarter h_o_told h_o_tape h_o_words h_o_isTold h_o_toldWave h_o_isPoint h_o_roots h_o_byOrder h_o_noted1 h_o_counts h_o_binBy o_tapeSize o_thrown o_fault o_faultPlace o_stop o_next o_kind o_which o_at o_pointsRead o_bank o_isImage o_undos o_runRadix o_runOrder o_runNear o_runLimit o_runHalves o_power o_notedMany o_knownTold o_drawn o_all o_laidIm o_laidRe o_quarter o_told) H → va_D A (wX10_gathers cI cJ cZ h_o h_o_all h_o_laidIm h_o_laidRe h_o_quarter h_o_told h_o_tape h_o_words h_o_isTold h_o_toldWave h_o_isPoint h_o_roots h_o_byOrder h_o_noted1 h_o_counts h_o_binBy o_tapeSize o_thrown o_fault o_faultPlace o_stop o_next o_kind o_which o_at o_pointsRead o_bank o_isImage o_undos o_runRadix o_runOrder o_runNear o_runLimit o_runHalves o_power o_notedMany o_knownTold o_drawn o_all o_laidIm o_laidRe o_quarter o_told) → va_S A s.heap H locs → lv_has ls 15 [(0, .ref h_o), (1, .int v1), (4, .int v4), (6, .int v6), (7, .int v7), (8, .int v8), (9, .int v9), (10, .int v10)] → W p l e ({ frames := 3, cells := 0, slots := 0, locals := 66 } : Room) s m ([.ref h_o, .int p1, .int p2, .int p3, .int p4] : List Value).toArray below meth c H locs 0 0 Q (F0 m 235 ls [.int s2, .int s1, .ref h_o_laidRe]) := by
    intro o_laidIm o_laidRe v1 v4 v6 v7 v8 v9 v10 s1 s2 H locs ls hf hP hD hS hl
    unfold fX10_gathers_235 at hf
    obtain ⟨g_36, hf⟩ := gd_x hf
    obtain ⟨o_laidRe_37, eo_laidRe_37⟩ : ∃ y : Nat → Int32, y = upd o_laidRe (Int32.toNatClampNeg s1) s2 := ⟨_, rfl⟩
    have hf := nm_x eo_laidRe_37 hf
    refine ist hx hb hK hP hD hS 3 0 rfl rfl (inb_x g_36) dX10_gathers_235 eo_laidRe_37 (ws2 := (wX10_gathers cI cJ cZ h_o h_o_all h_o_laidIm h_o_laidRe h_o_quarter h_o_told h_o_tape h_o_words h_o_isTold h_o_toldWave h_o_isPoint h_o_roots h_o_byOrder h_o_noted1 h_o_counts h_o_binBy o_tapeSize o_thrown o_fault o_faultPlace o_stop o_next o_kind o_which o_at o_pointsRead o_bank o_isImage o_undos o_runRadix o_runOrder o_runNear o_runLimit o_runHalves o_power o_notedMany o_knownTold o_drawn o_all o_laidIm o_laidRe_37 o_quarter o_told)) rfl (fun H locs hP hD hS => ?_)
    refine lv_aload_n hx hb dX10_gathers_236 rfl (lv_at hl 0 rfl) ?_
    refine rd (ci := 10) (C := RX10) (T := TX10) (N := 37) hx hb hts inX10 hown hK hP 0 29 rfl rfl (by decide) (hts _ q_fX10_45) rfl dX10_gathers_237 ?_
    refine lv_iload_n hx hb dX10_gathers_240 rfl (lv_at hl 1 rfl) ?_
    refine lv_iload hx hb dX10_gathers_241 (lv_at hl 7 rfl) ?_
    refine lv_if_eq (tgt := 266) hx hb dX10_gathers_243 (by decide) (fun c_38 => ?_) (fun c_38 => ?_)
    · have hf := it_t c_38 hf
      refine lv_iload hx hb dX10_gathers_266 (lv_at hl 6 rfl) ?_
      exact j268 o_laidIm o_laidRe_37 v1 v9 H locs ls hf hP hD hS (lv_sub hl [] rfl)
    · have hf := it_f c_38 hf
      refine lv_aload_n hx hb dX10_gathers_246 rfl (lv_at hl 0 rfl) ?_
      refine lv_iload hx hb dX10_gathers_247 (lv_at hl 5 rfl) ?_
      refine lv_iload hx hb dX10_gathers_249 (lv_at hl 6 rfl) ?_
      refine lv_iload hx hb dX10_gathers_251 (lv_at hl 3 rfl) ?_
      refine lv_iload hx hb dX10_gathers_253 (lv_at hl 4 rfl) ?_
      refine lv_imul hx hb dX10_gathers_255 ?_
      refine lv_iload hx hb dX10_gathers_256 (lv_at hl 2 rfl) ?_
      refine lv_imul hx hb dX10_gathers_258 ?_
      obtain ⟨r_39, e_40, hf⟩ := bd1_x hf
      refine call_v [.int v8, .int v9, .int ((v6 * v7) * v4)] [.int v1, .ref h_o_laidIm] ⟨hx, hb, hml, hown, hts⟩ hK hP hD hS hA hl.1 (tX10_turnedIm l G cI cJ cZ H.size h_o h_o_quarter h_o_told h_o_tape h_o_words h_o_isTold h_o_toldWave h_o_isPoint h_o_all h_o_roots h_o_laidRe h_o_laidIm h_o_byOrder h_o_noted1 h_o_counts h_o_binBy o_tapeSize o_thrown o_fault o_faultPlace o_stop o_next o_kind o_which o_at o_pointsRead o_bank o_isImage o_undos o_runRadix o_runOrder o_runNear o_runLimit o_runHalves o_power o_notedMany o_knownTold o_drawn o_quarter o_told v8 v9 ((v6 * v7) * v4) r_39 e_40) (cwV 3 hts (gv q_mX10_248 q_i_yX10_turnedIm q_s_yX10_turnedIm q_n_RX10 q_k_yX10_turnedIm) rfl rfl rfl (by decide +kernel) ⟨by decide, by decide⟩) rfl rfl (Nat.le_of_ble_eq_true rfl) dX10_gathers_259 ⟨Nat.zero_le _, Nat.zero_le _⟩ (ci := 10) rfl 0 rfl [0, 4, 5] [1, 2, 3] [3, 0, 1, 2, 4, 5] rfl rfl (ws2 := (wX10_gathers cI cJ cZ h_o h_o_all h_o_laidIm h_o_laidRe h_o_quarter h_o_told h_o_tape h_o_words h_o_isTold h_o_toldWave h_o_isPoint h_o_roots h_o_byOrder h_o_noted1 h_o_counts h_o_binBy o_tapeSize o_thrown o_fault o_faultPlace o_stop o_next o_kind o_which o_at o_pointsRead o_bank o_isImage o_undos o_runRadix o_runOrder o_runNear o_runLimit o_runHalves o_power o_notedMany o_knownTold o_drawn o_all o_laidIm o_laidRe_37 o_quarter o_told)) rfl (fun H locs hP hD hS => ?_)
      refine W.eq (g2 := F0 m 262 ls [.long r_39, .int v1, .ref h_o_laidIm]) rfl ?_
      refine lv_l2i hx hb dX10_gathers_262 rfl ?_
      refine lv_goto (tgt := 268) hx hb dX10_gathers_263 (by decide) ?_
      exact j268 o_laidIm o_laidRe_37 v1 (Int64.toInt32 r_39) H locs ls hf hP hD hS (lv_sub hl [] rfl)
  have j201 : ∀ (o_laidIm : Nat → Int32) (o_laidRe : Nat → Int32) (v1 : Int32) (v4 : Int32) (v6 : Int32) (v7 : Int32) (v8 : Int32) (v9 : Int32) (s0 : Int32) (H : Heap) (locs : List Loc) (ls : Array Slot), fX10_gathers_201 o_runNear o_quarter o_told o_laidIm o_laidRe v1 v4 v6 v7 v8 v9 s0 = some (out_o_laidIm, out_o_laidRe) → va_P G vwCl (wX10_gathers cI cJ cZ h_o h_o_all h_o_laidIm h_o_laidRe h_o_quarter h_o_told h_o_tape h_o_words h_o_isTold h_o_toldWave h_o_isPoint h_o_roots h_o_byOrder h_o_noted1 h_o_counts h_o_binBy o_tapeSize o_thrown o_fault o_faultPlace o_stop o_next o_kind o_which o_at o_pointsRead o_bank o_isImage o_undos o_runRadix o_runOrder o_runNear o_runLimit o_runHalves o_power o_notedMany o_knownTold o_drawn o_all o_laidIm o_laidRe o_quarter o_told) H → va_D A (wX10_gathers cI cJ cZ h_o h_o_all h_o_laidIm h_o_laidRe h_o_quarter h_o_told h_o_tape h_o_words h_o_isTold h_o_toldWave h_o_isPoint h_o_roots h_o_byOrder h_o_noted1 h_o_counts h_o_binBy o_tapeSize o_thrown o_fault o_faultPlace o_stop o_next o_kind o_which o_at o_pointsRead o_bank o_isImage o_undos o_runRadix o_runOrder o_runNear o_runLimit o_runHalves o_power o_notedMany o_knownTold o_drawn o_all o_laidIm o_laidRe o_quarter o_told) → va_S A s.heap H locs → lv_has ls 15 [(0, .ref h_o), (1, .int v1), (4, .int v4), (6, .int v6), (7, .int v7), (8, .int v8), (9, .int v9)] → W p l e ({ frames := 3, cells := 0, slots := 0, locals := 66 } : Room) s m ([.ref h_o, .int p1, .int p2, .int p3, .int p4] : List Value).toArray below meth c H locs 0 0 Q (F0 m 201 ls [.int s0]) := by
    intro o_laidIm o_laidRe v1 v4 v6 v7 v8 v9 s0 H locs ls hf hP hD hS hl
    unfold fX10_gathers_201 at hf
    refine lv_istore (lv' := [(10, .int s0), (0, .ref h_o), (1, .int v1), (4, .int v4), (6, .int v6), (7, .int v7), (8, .int v8), (9, .int v9)]) hx hb dX10_gathers_201 hl (by decide) rfl (fun ls hl => ?_)
    refine lv_aload_n hx hb dX10_gathers_203 rfl (lv_at hl 1 rfl) ?_
    refine rd (ci := 10) (C := RX10) (T := TX10) (N := 37) hx hb hts inX10 hown hK hP 0 28 rfl rfl (by decide) (hts _ q_fX10_42) rfl dX10_gathers_204 ?_
    refine lv_iload_n hx hb dX10_gathers_207 rfl (lv_at hl 2 rfl) ?_
    refine lv_iload hx hb dX10_gathers_208 (lv_at hl 0 rfl) ?_
    refine lv_if_eq (tgt := 233) hx hb dX10_gathers_210 (by decide) (fun c_33 => ?_) (fun c_33 => ?_)
    · have hf := it_t c_33 hf
      refine lv_iload hx hb dX10_gathers_233 (lv_at hl 6 rfl) ?_
      exact j235 o_laidIm o_laidRe v1 v4 v6 v7 v8 v9 s0 v1 v8 H locs ls hf hP hD hS (lv_sub hl [1, 2, 3, 4, 5, 6, 7, 0] rfl)
    · have hf := it_f c_33 hf
      refine lv_aload_n hx hb dX10_gathers_213 rfl (lv_at hl 1 rfl) ?_
      refine lv_iload hx hb dX10_gathers_214 (lv_at hl 6 rfl) ?_
      refine lv_iload hx hb dX10_gathers_216 (lv_at hl 7 rfl) ?_
      refine lv_iload hx hb dX10_gathers_218 (lv_at hl 4 rfl) ?_
      refine lv_iload hx hb dX10_gathers_220 (lv_at hl 5 rfl) ?_
      refine lv_imul hx hb dX10_gathers_222 ?_
      refine lv_iload hx hb dX10_gathers_223 (lv_at hl 3 rfl) ?_
      refine lv_imul hx hb dX10_gathers_225 ?_
      obtain ⟨r_34, e_35, hf⟩ := bd1_x hf
      refine call_v [.int v8, .int v9, .int ((v6 * v7) * v4)] [.int v1, .ref h_o_laidRe] ⟨hx, hb, hml, hown, hts⟩ hK hP hD hS hA hl.1 (tX10_turnedRe l G cI cJ cZ H.size h_o h_o_quarter h_o_told h_o_tape h_o_words h_o_isTold h_o_toldWave h_o_isPoint h_o_all h_o_roots h_o_laidRe h_o_laidIm h_o_byOrder h_o_noted1 h_o_counts h_o_binBy o_tapeSize o_thrown o_fault o_faultPlace o_stop o_next o_kind o_which o_at o_pointsRead o_bank o_isImage o_undos o_runRadix o_runOrder o_runNear o_runLimit o_runHalves o_power o_notedMany o_knownTold o_drawn o_quarter o_told v8 v9 ((v6 * v7) * v4) r_34 e_35) (cwV 3 hts (gv q_mX10_244 q_i_yX10_turnedRe q_s_yX10_turnedRe q_n_RX10 q_k_yX10_turnedRe) rfl rfl rfl (by decide +kernel) ⟨by decide, by decide⟩) rfl rfl (Nat.le_of_ble_eq_true rfl) dX10_gathers_226 ⟨Nat.zero_le _, Nat.zero_le _⟩ (ci := 10) rfl 0 rfl [0, 4, 5] [1, 2, 3] [3, 0, 1, 2, 4, 5] rfl rfl (ws2 := (wX10_gathers cI cJ cZ h_o h_o_all h_o_laidIm h_o_laidRe h_o_quarter h_o_told h_o_tape h_o_words h_o_isTold h_o_toldWave h_o_isPoint h_o_roots h_o_byOrder h_o_noted1 h_o_counts h_o_binBy o_tapeSize o_thrown o_fault o_faultPlace o_stop o_next o_kind o_which o_at o_pointsRead o_bank o_isImage o_undos o_runRadix o_runOrder o_runNear o_runLimit o_runHalves o_power o_notedMany o_knownTold o_drawn o_all o_laidIm o_laidRe o_quarter o_told)) rfl (fun H locs hP hD hS => ?_)
      refine W.eq (g2 := F0 m 229 ls [.long r_34, .int v1, .ref h_o_laidRe]) rfl ?_
      refine lv_l2i hx hb dX10_gathers_229 rfl ?_
      refine lv_goto (tgt := 235) hx hb dX10_gathers_230 (by decide) ?_
      exact j235 o_laidIm o_laidRe v1 v4 v6 v7 v8 v9 s0 v1 (Int64.toInt32 r_34) H locs ls hf hP hD hS (lv_sub hl [1, 2, 3, 4, 5, 6, 7, 0] rfl)
  have j200 : ∀ (o_laidIm : Nat → Int32) (o_laidRe : Nat → Int32) (v1 : Int32) (v4 : Int32) (v6 : Int32) (v7 : Int32) (v8 : Int32) (v9 : Int32) (H : Heap) (locs : List Loc) (ls : Array Slot), fX10_gathers_200 o_runNear o_quarter o_told o_laidIm o_laidRe v1 v4 v6 v7 v8 v9 = some (out_o_laidIm, out_o_laidRe) → va_P G vwCl (wX10_gathers cI cJ cZ h_o h_o_all h_o_laidIm h_o_laidRe h_o_quarter h_o_told h_o_tape h_o_words h_o_isTold h_o_toldWave h_o_isPoint h_o_roots h_o_byOrder h_o_noted1 h_o_counts h_o_binBy o_tapeSize o_thrown o_fault o_faultPlace o_stop o_next o_kind o_which o_at o_pointsRead o_bank o_isImage o_undos o_runRadix o_runOrder o_runNear o_runLimit o_runHalves o_power o_notedMany o_knownTold o_drawn o_all o_laidIm o_laidRe o_quarter o_told) H → va_D A (wX10_gathers cI cJ cZ h_o h_o_all h_o_laidIm h_o_laidRe h_o_quarter h_o_told h_o_tape h_o_words h_o_isTold h_o_toldWave h_o_isPoint h_o_roots h_o_byOrder h_o_noted1 h_o_counts h_o_binBy o_tapeSize o_thrown o_fault o_faultPlace o_stop o_next o_kind o_which o_at o_pointsRead o_bank o_isImage o_undos o_runRadix o_runOrder o_runNear o_runLimit o_runHalves o_power o_notedMany o_knownTold o_drawn o_all o_laidIm o_laidRe o_quarter o_told) → va_S A s.heap H locs → lv_has ls 15 [(0, .ref h_o), (1, .int v1), (4, .int v4), (6, .int v6), (7, .int v7), (8, .int v8), (9, .int v9)] → W p l e ({ frames := 3, cells := 0, slots := 0, locals := 66 } : Room) s m ([.ref h_o, .int p1, .int p2, .int p3, .int p4] : List Value).toArray below meth c H locs 0 0 Q (F0 m 200 ls []) := by
    intro o_laidIm o_laidRe v1 v4 v6 v7 v8 v9 H locs ls hf hP hD hS hl
    unfold fX10_gathers_200 at hf
    refine lv_iconst (v := (0 : Int32)) hx hb dX10_gathers_200 (by decide) ?_
    exact j201 o_laidIm o_laidRe v1 v4 v6 v7 v8 v9 (0 : Int32) H locs ls hf hP hD hS (lv_sub hl [0, 1, 2, 3, 4, 5, 6] rfl)
  have j183 : ∀ (o_laidIm : Nat → Int32) (o_laidRe : Nat → Int32) (v1 : Int32) (v4 : Int32) (v6 : Int32) (v7 : Int32) (v8 : Int32) (v9 : Int32) (H : Heap) (locs : List Loc) (ls : Array Slot), fX10_gathers_183 o_runOrder o_runNear o_quarter o_told o_laidIm o_laidRe v1 v4 v6 v7 v8 v9 = some (out_o_laidIm, out_o_laidRe) → va_P G vwCl (wX10_gathers cI cJ cZ h_o h_o_all h_o_laidIm h_o_laidRe h_o_quarter h_o_told h_o_tape h_o_words h_o_isTold h_o_toldWave h_o_isPoint h_o_roots h_o_byOrder h_o_noted1 h_o_counts h_o_binBy o_tapeSize o_thrown o_fault o_faultPlace o_stop o_next o_kind o_which o_at o_pointsRead o_bank o_isImage o_undos o_runRadix o_runOrder o_runNear o_runLimit o_runHalves o_power o_notedMany o_knownTold o_drawn o_all o_laidIm o_laidRe o_quarter o_told) H → va_D A (wX10_gathers cI cJ cZ h_o h_o_all h_o_laidIm h_o_laidRe h_o_quarter h_o_told h_o_tape h_o_words h_o_isTold h_o_toldWave h_o_isPoint h_o_roots h_o_byOrder h_o_noted1 h_o_counts h_o_binBy o_tapeSize o_thrown o_fault o_faultPlace o_stop o_next o_kind o_which o_at o_pointsRead o_bank o_isImage o_undos o_runRadix o_runOrder o_runNear o_runLimit o_runHalves o_power o_notedMany o_knownTold o_drawn o_all o_laidIm o_laidRe o_quarter o_told) → va_S A s.heap H locs → lv_has ls 15 [(0, .ref h_o), (1, .int v1), (4, .int v4), (6, .int v6), (7, .int v7), (8, .int v8), (9, .int v9)] → W p l e ({ frames := 3, cells := 0, slots := 0, locals := 66 } : Room) s m ([.ref h_o, .int p1, .int p2, .int p3, .int p4] : List Value).toArray below meth c H locs 0 0 Q (F0 m 183 ls []) := by
    intro o_laidIm o_laidRe v1 v4 v6 v7 v8 v9 H locs ls hf hP hD hS hl
    unfold fX10_gathers_183 at hf
    refine lv_aload_n hx hb dX10_gathers_183 rfl (lv_at hl 0 rfl) ?_
    refine rd (ci := 10) (C := RX10) (T := TX10) (N := 37) hx hb hts inX10 hown hK hP 0 21 rfl rfl (by decide) (hts _ q_fX10_169) rfl dX10_gathers_184 ?_
    refine lv_iconst (v := (1 : Int32)) hx hb dX10_gathers_187 (by decide) ?_
    refine lv_icmp_ne (tgt := 200) hx hb dX10_gathers_188 (by decide) (fun c_31 => ?_) (fun c_31 => ?_)
    · have hf := it_f c_31 hf
      exact j200 o_laidIm o_laidRe v1 v4 v6 v7 v8 v9 H locs ls hf hP hD hS (lv_sub hl [0, 1, 2, 3, 4, 5, 6] rfl)
    · have hf := it_t c_31 hf
      refine lv_iload hx hb dX10_gathers_191 (lv_at hl 3 rfl) ?_
      refine lv_if_le (tgt := 200) hx hb dX10_gathers_193 (by decide) (fun c_32 => ?_) (fun c_32 => ?_)
      · have hf := it_t c_32 hf
        exact j200 o_laidIm o_laidRe v1 v4 v6 v7 v8 v9 H locs ls hf hP hD hS (lv_sub hl [0, 1, 2, 3, 4, 5, 6] rfl)
      · have hf := it_f c_32 hf
        refine lv_iconst (v := (1 : Int32)) hx hb dX10_gathers_196 (by decide) ?_
        refine lv_goto (tgt := 201) hx hb dX10_gathers_197 (by decide) ?_
        exact j201 o_laidIm o_laidRe v1 v4 v6 v7 v8 v9 (1 : Int32) H locs ls hf hP hD hS (lv_sub hl [0, 1, 2, 3, 4, 5, 6] rfl)
  have j163 : ∀ (k32 : (Nat → Int32) → (Nat → Int32) → Int32 → Int32 → Int32 → Int32 → Int32 → Int32 → Int32 → Int32 → Int32 → Int32 → Option ((Nat → Int32) × (Nat → Int32))), (∀ (o_laidIm : Nat → Int32) (o_laidRe : Nat → Int32) (v1 : Int32) (v2 : Int32) (v3 : Int32) (v4 : Int32) (v5 : Int32) (v6 : Int32) (v7 : Int32) (v8 : Int32) (v9 : Int32) (v10 : Int32) (H : Heap) (locs : List Loc) (ls : Array Slot), k32 o_laidIm o_laidRe v1 v2 v3 v4 v5 v6 v7 v8 v9 v10 = some (out_o_laidIm, out_o_laidRe) → va_P G vwCl (wX10_gathers cI cJ cZ h_o h_o_all h_o_laidIm h_o_laidRe h_o_quarter h_o_told h_o_tape h_o_words h_o_isTold h_o_toldWave h_o_isPoint h_o_roots h_o_byOrder h_o_noted1 h_o_counts h_o_binBy o_tapeSize o_thrown o_fault o_faultPlace o_stop o_next o_kind o_which o_at o_pointsRead o_bank o_isImage o_undos o_runRadix o_runOrder o_runNear o_runLimit o_runHalves o_power o_notedMany o_knownTold o_drawn o_all o_laidIm o_laidRe o_quarter o_told) H → va_D A (wX10_gathers cI cJ cZ h_o h_o_all h_o_laidIm h_o_laidRe h_o_quarter h_o_told h_o_tape h_o_words h_o_isTold h_o_toldWave h_o_isPoint h_o_roots h_o_byOrder h_o_noted1 h_o_counts h_o_binBy o_tapeSize o_thrown o_fault o_faultPlace o_stop o_next o_kind o_which o_at o_pointsRead o_bank o_isImage o_undos o_runRadix o_runOrder o_runNear o_runLimit o_runHalves o_power o_notedMany o_knownTold o_drawn o_all o_laidIm o_laidRe o_quarter o_told) → va_S A s.heap H locs → lv_has ls 15 [(0, .ref h_o), (1, .int v1), (2, .int v2), (3, .int v3), (4, .int v4), (5, .int v5), (6, .int v6), (7, .int v7), (8, .int v8), (9, .int v9), (10, .int v10)] → W p l e ({ frames := 3, cells := 0, slots := 0, locals := 66 } : Room) s m ([.ref h_o, .int p1, .int p2, .int p3, .int p4] : List Value).toArray below meth c H locs 0 0 Q (F0 m 32 ls [])) → ∀ (o_laidIm : Nat → Int32) (o_laidRe : Nat → Int32) (v1 : Int32) (v2 : Int32) (v3 : Int32) (v4 : Int32) (v5 : Int32) (v6 : Int32) (v7 : Int32) (v8 : Int32) (v9 : Int32) (v10 : Int32) (v11 : Int32) (v12 : Int32) (H : Heap) (locs : List Loc) (ls : Array Slot), fX10_gathers_163 o_bank o_runOrder o_runNear o_all o_quarter o_told k32 o_laidIm o_laidRe v1 v2 v3 v4 v5 v6 v7 v8 v9 v10 v11 v12 = some (out_o_laidIm, out_o_laidRe) → va_P G vwCl (wX10_gathers cI cJ cZ h_o h_o_all h_o_laidIm h_o_laidRe h_o_quarter h_o_told h_o_tape h_o_words h_o_isTold h_o_toldWave h_o_isPoint h_o_roots h_o_byOrder h_o_noted1 h_o_counts h_o_binBy o_tapeSize o_thrown o_fault o_faultPlace o_stop o_next o_kind o_which o_at o_pointsRead o_bank o_isImage o_undos o_runRadix o_runOrder o_runNear o_runLimit o_runHalves o_power o_notedMany o_knownTold o_drawn o_all o_laidIm o_laidRe o_quarter o_told) H → va_D A (wX10_gathers cI cJ cZ h_o h_o_all h_o_laidIm h_o_laidRe h_o_quarter h_o_told h_o_tape h_o_words h_o_isTold h_o_toldWave h_o_isPoint h_o_roots h_o_byOrder h_o_noted1 h_o_counts h_o_binBy o_tapeSize o_thrown o_fault o_faultPlace o_stop o_next o_kind o_which o_at o_pointsRead o_bank o_isImage o_undos o_runRadix o_runOrder o_runNear o_runLimit o_runHalves o_power o_notedMany o_knownTold o_drawn o_all o_laidIm o_laidRe o_quarter o_told) → va_S A s.heap H locs → lv_has ls 15 [(0, .ref h_o), (1, .int v1), (2, .int v2), (3, .int v3), (4, .int v4), (5, .int v5), (6, .int v6), (7, .int v7), (8, .int v8), (9, .int v9), (10, .int v10), (11, .int v11), (12, .int v12)] → W p l e ({ frames := 3, cells := 0, slots := 0, locals := 66 } : Room) s m ([.ref h_o, .int p1, .int p2, .int p3, .int p4] : List Value).toArray below meth c H locs 0 0 Q (F0 m 163 ls []) := by
    intro k32 hk32 o_laidIm o_laidRe v1 v2 v3 v4 v5 v6 v7 v8 v9 v10 v11 v12 H locs ls hf hP hD hS hl
    unfold fX10_gathers_163 at hf
    refine lv_iload hx hb dX10_gathers_163 (lv_at hl 8 rfl) ?_
    refine lv_iload hx hb dX10_gathers_165 (lv_at hl 11 rfl) ?_
    refine lv_iadd hx hb dX10_gathers_167 ?_
    refine lv_topi (fun v8_28 ev8_28 => ?_)
    have hf := nm_x ev8_28 hf
    refine lv_istore (lv' := [(8, .int v8_28), (0, .ref h_o), (1, .int v1), (2, .int v2), (3, .int v3), (4, .int v4), (5, .int v5), (6, .int v6), (7, .int v7), (9, .int v9), (10, .int v10), (11, .int v11), (12, .int v12)]) hx hb dX10_gathers_168 hl (by decide) rfl (fun ls hl => ?_)
    refine lv_iload hx hb dX10_gathers_170 (lv_at hl 9 rfl) ?_
    refine lv_iload hx hb dX10_gathers_172 (lv_at hl 12 rfl) ?_
    refine lv_iadd hx hb dX10_gathers_174 ?_
    refine lv_topi (fun v9_29 ev9_29 => ?_)
    have hf := nm_x ev9_29 hf
    refine lv_istore (lv' := [(9, .int v9_29), (8, .int v8_28), (0, .ref h_o), (1, .int v1), (2, .int v2), (3, .int v3), (4, .int v4), (5, .int v5), (6, .int v6), (7, .int v7), (10, .int v10), (11, .int v11), (12, .int v12)]) hx hb dX10_gathers_175 hl (by decide) rfl (fun ls hl => ?_)
    obtain ⟨v10_30, ev10_30⟩ : ∃ y : Int32, y = v10 + (1 : Int32) := ⟨_, rfl⟩
    have hf := nm_x ev10_30 hf
    refine lv_iinc (v := v10_30) (lv' := [(10, .int v10_30), (9, .int v9_29), (8, .int v8_28), (0, .ref h_o), (1, .int v1), (2, .int v2), (3, .int v3), (4, .int v4), (5, .int v5), (6, .int v6), (7, .int v7), (11, .int v11), (12, .int v12)]) hx hb dX10_gathers_177 hl (k := 10) rfl (by rw [ev10_30]; rfl) (by decide) rfl (fun ls hl => ?_)
    refine lv_goto (tgt := 32) hx hb dX10_gathers_180 (by decide) ?_
    exact hk32 o_laidIm o_laidRe v1 v2 v3 v4 v5 v6 v7 v8_28 v9_29 v10_30 H locs ls hf hP hD hS (lv_sub hl [3, 4, 5, 6, 7, 8, 9, 10, 2, 1, 0] rfl)
  have j128 : ∀ (k32 : (Nat → Int32) → (Nat → Int32) → Int32 → Int32 → Int32 → Int32 → Int32 → Int32 → Int32 → Int32 → Int32 → Int32 → Option ((Nat → Int32) × (Nat → Int32))), (∀ (o_laidIm : Nat → Int32) (o_laidRe : Nat → Int32) (v1 : Int32) (v2 : Int32) (v3 : Int32) (v4 : Int32) (v5 : Int32) (v6 : Int32) (v7 : Int32) (v8 : Int32) (v9 : Int32) (v10 : Int32) (H : Heap) (locs : List Loc) (ls : Array Slot), k32 o_laidIm o_laidRe v1 v2 v3 v4 v5 v6 v7 v8 v9 v10 = some (out_o_laidIm, out_o_laidRe) → va_P G vwCl (wX10_gathers cI cJ cZ h_o h_o_all h_o_laidIm h_o_laidRe h_o_quarter h_o_told h_o_tape h_o_words h_o_isTold h_o_toldWave h_o_isPoint h_o_roots h_o_byOrder h_o_noted1 h_o_counts h_o_binBy o_tapeSize o_thrown o_fault o_faultPlace o_stop o_next o_kind o_which o_at o_pointsRead o_bank o_isImage o_undos o_runRadix o_runOrder o_runNear o_runLimit o_runHalves o_power o_notedMany o_knownTold o_drawn o_all o_laidIm o_laidRe o_quarter o_told) H → va_D A (wX10_gathers cI cJ cZ h_o h_o_all h_o_laidIm h_o_laidRe h_o_quarter h_o_told h_o_tape h_o_words h_o_isTold h_o_toldWave h_o_isPoint h_o_roots h_o_byOrder h_o_noted1 h_o_counts h_o_binBy o_tapeSize o_thrown o_fault o_faultPlace o_stop o_next o_kind o_which o_at o_pointsRead o_bank o_isImage o_undos o_runRadix o_runOrder o_runNear o_runLimit o_runHalves o_power o_notedMany o_knownTold o_drawn o_all o_laidIm o_laidRe o_quarter o_told) → va_S A s.heap H locs → lv_has ls 15 [(0, .ref h_o), (1, .int v1), (2, .int v2), (3, .int v3), (4, .int v4), (5, .int v5), (6, .int v6), (7, .int v7), (8, .int v8), (9, .int v9), (10, .int v10)] → W p l e ({ frames := 3, cells := 0, slots := 0, locals := 66 } : Room) s m ([.ref h_o, .int p1, .int p2, .int p3, .int p4] : List Value).toArray below meth c H locs 0 0 Q (F0 m 32 ls [])) → ∀ (n : Nat) (o_laidIm : Nat → Int32) (o_laidRe : Nat → Int32) (v1 : Int32) (v2 : Int32) (v3 : Int32) (v4 : Int32) (v5 : Int32) (v6 : Int32) (v7 : Int32) (v8 : Int32) (v9 : Int32) (v10 : Int32) (v11 : Int32) (v12 : Int32) (v13 : Int32) (H : Heap) (locs : List Loc) (ls : Array Slot), fX10_gathers_128 o_bank o_runOrder o_runNear o_all o_quarter o_told k32 n o_laidIm o_laidRe v1 v2 v3 v4 v5 v6 v7 v8 v9 v10 v11 v12 v13 = some (out_o_laidIm, out_o_laidRe) → va_P G vwCl (wX10_gathers cI cJ cZ h_o h_o_all h_o_laidIm h_o_laidRe h_o_quarter h_o_told h_o_tape h_o_words h_o_isTold h_o_toldWave h_o_isPoint h_o_roots h_o_byOrder h_o_noted1 h_o_counts h_o_binBy o_tapeSize o_thrown o_fault o_faultPlace o_stop o_next o_kind o_which o_at o_pointsRead o_bank o_isImage o_undos o_runRadix o_runOrder o_runNear o_runLimit o_runHalves o_power o_notedMany o_knownTold o_drawn o_all o_laidIm o_laidRe o_quarter o_told) H → va_D A (wX10_gathers cI cJ cZ h_o h_o_all h_o_laidIm h_o_laidRe h_o_quarter h_o_told h_o_tape h_o_words h_o_isTold h_o_toldWave h_o_isPoint h_o_roots h_o_byOrder h_o_noted1 h_o_counts h_o_binBy o_tapeSize o_thrown o_fault o_faultPlace o_stop o_next o_kind o_which o_at o_pointsRead o_bank o_isImage o_undos o_runRadix o_runOrder o_runNear o_runLimit o_runHalves o_power o_notedMany o_knownTold o_drawn o_all o_laidIm o_laidRe o_quarter o_told) → va_S A s.heap H locs → lv_has ls 15 [(0, .ref h_o), (1, .int v1), (2, .int v2), (3, .int v3), (4, .int v4), (5, .int v5), (6, .int v6), (7, .int v7), (8, .int v8), (9, .int v9), (10, .int v10), (11, .int v11), (12, .int v12), (13, .int v13)] → W p l e ({ frames := 3, cells := 0, slots := 0, locals := 66 } : Room) s m ([.ref h_o, .int p1, .int p2, .int p3, .int p4] : List Value).toArray below meth c H locs 0 0 Q (F0 m 128 ls []) := by
    intro k32 hk32 n
    induction n with
    | zero =>
      intro o_laidIm o_laidRe v1 v2 v3 v4 v5 v6 v7 v8 v9 v10 v11 v12 v13 H locs ls hf
      have hf : (none : Option ((Nat → Int32) × (Nat → Int32))) = some (out_o_laidIm, out_o_laidRe) := hf
      cases hf
    | succ n ih =>
      intro o_laidIm o_laidRe v1 v2 v3 v4 v5 v6 v7 v8 v9 v10 v11 v12 v13 H locs ls hf hP hD hS hl
      rw [fX10_gathers_128.eq_2] at hf
      refine lv_iload hx hb dX10_gathers_128 (lv_at hl 13 rfl) ?_
      refine lv_iload hx hb dX10_gathers_130 (lv_at hl 6 rfl) ?_
      refine lv_iload hx hb dX10_gathers_132 (lv_at hl 10 rfl) ?_
      refine lv_imul hx hb dX10_gathers_134 ?_
      refine lv_iconst (v := (4 : Int32)) hx hb dX10_gathers_135 (by decide) ?_
      refine lv_iload_n hx hb dX10_gathers_136 rfl (lv_at hl 2 rfl) ?_
      obtain ⟨g_24, hf⟩ := gd_x hf
      refine lv_idiv hx hb dX10_gathers_137 (nz_x g_24) ?_
      refine lv_imul hx hb dX10_gathers_138 ?_
      refine lv_iconst (v := (4 : Int32)) hx hb dX10_gathers_139 (by decide) ?_
      refine lv_irem hx hb dX10_gathers_140 (by decide) ?_
      refine lv_icmp_ge (tgt := 163) hx hb dX10_gathers_141 (by decide) (fun c_25 => ?_) (fun c_25 => ?_)
      · have hf := it_t c_25 hf
        exact j163 k32 hk32 o_laidIm o_laidRe v1 v2 v3 v4 v5 v6 v7 v8 v9 v10 v11 v12 H locs ls hf hP hD hS (lv_sub hl [0, 1, 2, 3, 4, 5, 6, 7, 8, 9, 10, 11, 12] rfl)
      · have hf := it_f c_25 hf
        refine lv_iload hx hb dX10_gathers_144 (lv_at hl 12 rfl) ?_
        refine lv_istore (lv' := [(14, .int v12), (0, .ref h_o), (1, .int v1), (2, .int v2), (3, .int v3), (4, .int v4), (5, .int v5), (6, .int v6), (7, .int v7), (8, .int v8), (9, .int v9), (10, .int v10), (11, .int v11), (12, .int v12), (13, .int v13)]) hx hb dX10_gathers_146 hl (by decide) rfl (fun ls hl => ?_)
        refine lv_iload hx hb dX10_gathers_148 (lv_at hl 12 rfl) ?_
        refine lv_ineg hx hb dX10_gathers_150 ?_
        refine lv_topi (fun v12_26 ev12_26 => ?_)
        have hf := nm_x ev12_26 hf
        refine lv_istore (lv' := [(12, .int v12_26), (14, .int v12), (0, .ref h_o), (1, .int v1), (2, .int v2), (3, .int v3), (4, .int v4), (5, .int v5), (6, .int v6), (7, .int v7), (8, .int v8), (9, .int v9), (10, .int v10), (11, .int v11), (13, .int v13)]) hx hb dX10_gathers_151 hl (by decide) rfl (fun ls hl => ?_)
        refine lv_iload hx hb dX10_gathers_153 (lv_at hl 1 rfl) ?_
        refine lv_istore (lv' := [(11, .int v12), (12, .int v12_26), (14, .int v12), (0, .ref h_o), (1, .int v1), (2, .int v2), (3, .int v3), (4, .int v4), (5, .int v5), (6, .int v6), (7, .int v7), (8, .int v8), (9, .int v9), (10, .int v10), (13, .int v13)]) hx hb dX10_gathers_155 hl (by decide) rfl (fun ls hl => ?_)
        obtain ⟨v13_27, ev13_27⟩ : ∃ y : Int32, y = v13 + (1 : Int32) := ⟨_, rfl⟩
        have hf := nm_x ev13_27 hf
        refine lv_iinc (v := v13_27) (lv' := [(13, .int v13_27), (11, .int v12), (12, .int v12_26), (14, .int v12), (0, .ref h_o), (1, .int v1), (2, .int v2), (3, .int v3), (4, .int v4), (5, .int v5), (6, .int v6), (7, .int v7), (8, .int v8), (9, .int v9), (10, .int v10)]) hx hb dX10_gathers_157 hl (k := 14) rfl (by rw [ev13_27]; rfl) (by decide) rfl (fun ls hl => ?_)
        refine lv_goto (tgt := 128) hx hb dX10_gathers_160 (by decide) ?_
        exact ih o_laidIm o_laidRe v1 v2 v3 v4 v5 v6 v7 v8 v9 v10 v12 v12_26 v13_27 H locs ls hf hP hD hS (lv_sub hl [4, 5, 6, 7, 8, 9, 10, 11, 12, 13, 14, 1, 2, 0] rfl)
  have j125 : ∀ (k32 : (Nat → Int32) → (Nat → Int32) → Int32 → Int32 → Int32 → Int32 → Int32 → Int32 → Int32 → Int32 → Int32 → Int32 → Option ((Nat → Int32) × (Nat → Int32))), (∀ (o_laidIm : Nat → Int32) (o_laidRe : Nat → Int32) (v1 : Int32) (v2 : Int32) (v3 : Int32) (v4 : Int32) (v5 : Int32) (v6 : Int32) (v7 : Int32) (v8 : Int32) (v9 : Int32) (v10 : Int32) (H : Heap) (locs : List Loc) (ls : Array Slot), k32 o_laidIm o_laidRe v1 v2 v3 v4 v5 v6 v7 v8 v9 v10 = some (out_o_laidIm, out_o_laidRe) → va_P G vwCl (wX10_gathers cI cJ cZ h_o h_o_all h_o_laidIm h_o_laidRe h_o_quarter h_o_told h_o_tape h_o_words h_o_isTold h_o_toldWave h_o_isPoint h_o_roots h_o_byOrder h_o_noted1 h_o_counts h_o_binBy o_tapeSize o_thrown o_fault o_faultPlace o_stop o_next o_kind o_which o_at o_pointsRead o_bank o_isImage o_undos o_runRadix o_runOrder o_runNear o_runLimit o_runHalves o_power o_notedMany o_knownTold o_drawn o_all o_laidIm o_laidRe o_quarter o_told) H → va_D A (wX10_gathers cI cJ cZ h_o h_o_all h_o_laidIm h_o_laidRe h_o_quarter h_o_told h_o_tape h_o_words h_o_isTold h_o_toldWave h_o_isPoint h_o_roots h_o_byOrder h_o_noted1 h_o_counts h_o_binBy o_tapeSize o_thrown o_fault o_faultPlace o_stop o_next o_kind o_which o_at o_pointsRead o_bank o_isImage o_undos o_runRadix o_runOrder o_runNear o_runLimit o_runHalves o_power o_notedMany o_knownTold o_drawn o_all o_laidIm o_laidRe o_quarter o_told) → va_S A s.heap H locs → lv_has ls 15 [(0, .ref h_o), (1, .int v1), (2, .int v2), (3, .int v3), (4, .int v4), (5, .int v5), (6, .int v6), (7, .int v7), (8, .int v8), (9, .int v9), (10, .int v10)] → W p l e ({ frames := 3, cells := 0, slots := 0, locals := 66 } : Room) s m ([.ref h_o, .int p1, .int p2, .int p3, .int p4] : List Value).toArray below meth c H locs 0 0 Q (F0 m 32 ls [])) → ∀ (o_laidIm : Nat → Int32) (o_laidRe : Nat → Int32) (v1 : Int32) (v2 : Int32) (v3 : Int32) (v4 : Int32) (v5 : Int32) (v6 : Int32) (v7 : Int32) (v8 : Int32) (v9 : Int32) (v10 : Int32) (v11 : Int32) (v12 : Int32) (H : Heap) (locs : List Loc) (ls : Array Slot), fX10_gathers_125 o_bank o_runOrder o_runNear o_all o_quarter o_told k32 o_laidIm o_laidRe v1 v2 v3 v4 v5 v6 v7 v8 v9 v10 v11 v12 = some (out_o_laidIm, out_o_laidRe) → va_P G vwCl (wX10_gathers cI cJ cZ h_o h_o_all h_o_laidIm h_o_laidRe h_o_quarter h_o_told h_o_tape h_o_words h_o_isTold h_o_toldWave h_o_isPoint h_o_roots h_o_byOrder h_o_noted1 h_o_counts h_o_binBy o_tapeSize o_thrown o_fault o_faultPlace o_stop o_next o_kind o_which o_at o_pointsRead o_bank o_isImage o_undos o_runRadix o_runOrder o_runNear o_runLimit o_runHalves o_power o_notedMany o_knownTold o_drawn o_all o_laidIm o_laidRe o_quarter o_told) H → va_D A (wX10_gathers cI cJ cZ h_o h_o_all h_o_laidIm h_o_laidRe h_o_quarter h_o_told h_o_tape h_o_words h_o_isTold h_o_toldWave h_o_isPoint h_o_roots h_o_byOrder h_o_noted1 h_o_counts h_o_binBy o_tapeSize o_thrown o_fault o_faultPlace o_stop o_next o_kind o_which o_at o_pointsRead o_bank o_isImage o_undos o_runRadix o_runOrder o_runNear o_runLimit o_runHalves o_power o_notedMany o_knownTold o_drawn o_all o_laidIm o_laidRe o_quarter o_told) → va_S A s.heap H locs → lv_has ls 15 [(0, .ref h_o), (1, .int v1), (2, .int v2), (3, .int v3), (4, .int v4), (5, .int v5), (6, .int v6), (7, .int v7), (8, .int v8), (9, .int v9), (10, .int v10), (11, .int v11), (12, .int v12)] → W p l e ({ frames := 3, cells := 0, slots := 0, locals := 66 } : Room) s m ([.ref h_o, .int p1, .int p2, .int p3, .int p4] : List Value).toArray below meth c H locs 0 0 Q (F0 m 125 ls []) := by
    intro k32 hk32 o_laidIm o_laidRe v1 v2 v3 v4 v5 v6 v7 v8 v9 v10 v11 v12 H locs ls hf hP hD hS hl
    unfold fX10_gathers_125 at hf
    refine lv_iconst (v := (0 : Int32)) hx hb dX10_gathers_125 (by decide) ?_
    refine lv_istore (lv' := [(13, .int (0 : Int32)), (0, .ref h_o), (1, .int v1), (2, .int v2), (3, .int v3), (4, .int v4), (5, .int v5), (6, .int v6), (7, .int v7), (8, .int v8), (9, .int v9), (10, .int v10), (11, .int v11), (12, .int v12)]) hx hb dX10_gathers_126 hl (by decide) rfl (fun ls hl => ?_)
    exact j128 k32 hk32 FU o_laidIm o_laidRe v1 v2 v3 v4 v5 v6 v7 v8 v9 v10 v11 v12 (0 : Int32) H locs ls hf hP hD hS (lv_sub hl [1, 2, 3, 4, 5, 6, 7, 8, 9, 10, 11, 12, 13, 0] rfl)
  have j32 : ∀ (n : Nat) (o_laidIm : Nat → Int32) (o_laidRe : Nat → Int32) (v1 : Int32) (v2 : Int32) (v3 : Int32) (v4 : Int32) (v5 : Int32) (v6 : Int32) (v7 : Int32) (v8 : Int32) (v9 : Int32) (v10 : Int32) (H : Heap) (locs : List Loc) (ls : Array Slot), fX10_gathers_32 o_bank o_runOrder o_runNear o_all o_quarter o_told n o_laidIm o_laidRe v1 v2 v3 v4 v5 v6 v7 v8 v9 v10 = some (out_o_laidIm, out_o_laidRe) → va_P G vwCl (wX10_gathers cI cJ cZ h_o h_o_all h_o_laidIm h_o_laidRe h_o_quarter h_o_told h_o_tape h_o_words h_o_isTold h_o_toldWave h_o_isPoint h_o_roots h_o_byOrder h_o_noted1 h_o_counts h_o_binBy o_tapeSize o_thrown o_fault o_faultPlace o_stop o_next o_kind o_which o_at o_pointsRead o_bank o_isImage o_undos o_runRadix o_runOrder o_runNear o_runLimit o_runHalves o_power o_notedMany o_knownTold o_drawn o_all o_laidIm o_laidRe o_quarter o_told) H → va_D A (wX10_gathers cI cJ cZ h_o h_o_all h_o_laidIm h_o_laidRe h_o_quarter h_o_told h_o_tape h_o_words h_o_isTold h_o_toldWave h_o_isPoint h_o_roots h_o_byOrder h_o_noted1 h_o_counts h_o_binBy o_tapeSize o_thrown o_fault o_faultPlace o_stop o_next o_kind o_which o_at o_pointsRead o_bank o_isImage o_undos o_runRadix o_runOrder o_runNear o_runLimit o_runHalves o_power o_notedMany o_knownTold o_drawn o_all o_laidIm o_laidRe o_quarter o_told) → va_S A s.heap H locs → lv_has ls 15 [(0, .ref h_o), (1, .int v1), (2, .int v2), (3, .int v3), (4, .int v4), (5, .int v5), (6, .int v6), (7, .int v7), (8, .int v8), (9, .int v9), (10, .int v10)] → W p l e ({ frames := 3, cells := 0, slots := 0, locals := 66 } : Room) s m ([.ref h_o, .int p1, .int p2, .int p3, .int p4] : List Value).toArray below meth c H locs 0 0 Q (F0 m 32 ls []) := by
    intro n
    induction n with
    | zero =>
      intro o_laidIm o_laidRe v1 v2 v3 v4 v5 v6 v7 v8 v9 v10 H locs ls hf
      have hf : (none : Option ((Nat → Int32) × (Nat → Int32))) = some (out_o_laidIm, out_o_laidRe) := hf
      cases hf
    | succ n ih =>
      intro o_laidIm o_laidRe v1 v2 v3 v4 v5 v6 v7 v8 v9 v10 H locs ls hf hP hD hS hl
      rw [fX10_gathers_32.eq_2] at hf
      refine lv_iload hx hb dX10_gathers_32 (lv_at hl 10 rfl) ?_
      refine lv_iload_n hx hb dX10_gathers_34 rfl (lv_at hl 2 rfl) ?_
      refine lv_icmp_ge (tgt := 183) hx hb dX10_gathers_35 (by decide) (fun c_10 => ?_) (fun c_10 => ?_)
      · have hf := it_t c_10 hf
        exact j183 o_laidIm o_laidRe v1 v4 v6 v7 v8 v9 H locs ls hf hP hD hS (lv_sub hl [0, 1, 4, 6, 7, 8, 9] rfl)
      · have hf := it_f c_10 hf
        refine lv_aload_n hx hb dX10_gathers_38 rfl (lv_at hl 0 rfl) ?_
        refine lv_iload hx hb dX10_gathers_39 (lv_at hl 5 rfl) ?_
        refine lv_iload hx hb dX10_gathers_41 (lv_at hl 7 rfl) ?_
        refine lv_iadd hx hb dX10_gathers_43 ?_
        refine lv_iload hx hb dX10_gathers_44 (lv_at hl 10 rfl) ?_
        refine lv_iload_n hx hb dX10_gathers_46 rfl (lv_at hl 3 rfl) ?_
        refine lv_imul hx hb dX10_gathers_47 ?_
        refine lv_iadd hx hb dX10_gathers_48 ?_
        obtain ⟨r_11, e_12, hf⟩ := bd1_x hf
        refine call_v [.int ((v5 + v7) + (v10 * v3))] [] ⟨hx, hb, hml, hown, hts⟩ hK hP hD hS hA hl.1 (tX10_of l G cI cJ cZ H.size h_o h_o_all h_o_tape h_o_words h_o_told h_o_isTold h_o_toldWave h_o_isPoint h_o_quarter h_o_roots h_o_laidRe h_o_laidIm h_o_byOrder h_o_noted1 h_o_counts h_o_binBy o_tapeSize o_thrown o_fault o_faultPlace o_stop o_next o_kind o_which o_at o_pointsRead o_bank o_isImage o_undos o_runRadix o_runOrder o_runNear o_runLimit o_runHalves o_power o_notedMany o_knownTold o_drawn o_all ((v5 + v7) + (v10 * v3)) r_11 e_12) (cwV 1 hts (gv q_mX10_187 q_i_yX10_of q_s_yX10_of q_n_RX10 q_k_yX10_of) rfl rfl rfl (by decide +kernel) ⟨by decide, by decide⟩) rfl rfl (Nat.le_of_ble_eq_true rfl) dX10_gathers_49 ⟨Nat.zero_le _, Nat.zero_le _⟩ (ci := 10) rfl 0 rfl [0, 1] [2, 3, 4, 5] [4, 5, 0, 1, 2, 3] rfl rfl (ws2 := (wX10_gathers cI cJ cZ h_o h_o_all h_o_laidIm h_o_laidRe h_o_quarter h_o_told h_o_tape h_o_words h_o_isTold h_o_toldWave h_o_isPoint h_o_roots h_o_byOrder h_o_noted1 h_o_counts h_o_binBy o_tapeSize o_thrown o_fault o_faultPlace o_stop o_next o_kind o_which o_at o_pointsRead o_bank o_isImage o_undos o_runRadix o_runOrder o_runNear o_runLimit o_runHalves o_power o_notedMany o_knownTold o_drawn o_all o_laidIm o_laidRe o_quarter o_told)) rfl (fun H locs hP hD hS => ?_)
        refine W.eq (g2 := F0 m 52 ls [.int r_11]) rfl ?_
        refine lv_istore (lv' := [(11, .int r_11), (0, .ref h_o), (1, .int v1), (2, .int v2), (3, .int v3), (4, .int v4), (5, .int v5), (6, .int v6), (7, .int v7), (8, .int v8), (9, .int v9), (10, .int v10)]) hx hb dX10_gathers_52 hl (by decide) rfl (fun ls hl => ?_)
        refine lv_aload_n hx hb dX10_gathers_54 rfl (lv_at hl 1 rfl) ?_
        refine lv_bipush (v := (32 : Int32)) hx hb dX10_gathers_55 (by decide) ?_
        refine lv_iload hx hb dX10_gathers_57 (lv_at hl 6 rfl) ?_
        refine lv_iadd hx hb dX10_gathers_59 ?_
        refine lv_iload hx hb dX10_gathers_60 (lv_at hl 8 rfl) ?_
        refine lv_iadd hx hb dX10_gathers_62 ?_
        refine lv_iload hx hb dX10_gathers_63 (lv_at hl 11 rfl) ?_
        refine lv_iload_n hx hb dX10_gathers_65 rfl (lv_at hl 4 rfl) ?_
        refine lv_imul hx hb dX10_gathers_66 ?_
        refine lv_iadd hx hb dX10_gathers_67 ?_
        obtain ⟨r_13, e_14, hf⟩ := bd1_x hf
        refine call_v [.int ((((32 : Int32) + v5) + v7) + (v10 * v3))] [] ⟨hx, hb, hml, hown, hts⟩ hK hP hD hS hA hl.1 (tX10_of l G cI cJ cZ H.size h_o h_o_all h_o_tape h_o_words h_o_told h_o_isTold h_o_toldWave h_o_isPoint h_o_quarter h_o_roots h_o_laidRe h_o_laidIm h_o_byOrder h_o_noted1 h_o_counts h_o_binBy o_tapeSize o_thrown o_fault o_faultPlace o_stop o_next o_kind o_which o_at o_pointsRead o_bank o_isImage o_undos o_runRadix o_runOrder o_runNear o_runLimit o_runHalves o_power o_notedMany o_knownTold o_drawn o_all ((((32 : Int32) + v5) + v7) + (v10 * v3)) r_13 e_14) (cwV 1 hts (gv q_mX10_187 q_i_yX10_of q_s_yX10_of q_n_RX10 q_k_yX10_of) rfl rfl rfl (by decide +kernel) ⟨by decide, by decide⟩) rfl rfl (Nat.le_of_ble_eq_true rfl) dX10_gathers_68 ⟨Nat.zero_le _, Nat.zero_le _⟩ (ci := 10) rfl 0 rfl [0, 1] [2, 3, 4, 5] [4, 5, 0, 1, 2, 3] rfl rfl (ws2 := (wX10_gathers cI cJ cZ h_o h_o_all h_o_laidIm h_o_laidRe h_o_quarter h_o_told h_o_tape h_o_words h_o_isTold h_o_toldWave h_o_isPoint h_o_roots h_o_byOrder h_o_noted1 h_o_counts h_o_binBy o_tapeSize o_thrown o_fault o_faultPlace o_stop o_next o_kind o_which o_at o_pointsRead o_bank o_isImage o_undos o_runRadix o_runOrder o_runNear o_runLimit o_runHalves o_power o_notedMany o_knownTold o_drawn o_all o_laidIm o_laidRe o_quarter o_told)) rfl (fun H locs hP hD hS => ?_)
        refine W.eq (g2 := F0 m 71 ls [.int r_13]) rfl ?_
        refine lv_istore (lv' := [(12, .int r_13), (11, .int r_11), (0, .ref h_o), (1, .int v1), (2, .int v2), (3, .int v3), (4, .int v4), (5, .int v5), (6, .int v6), (7, .int v7), (8, .int v8), (9, .int v9), (10, .int v10)]) hx hb dX10_gathers_71 hl (by decide) rfl (fun ls hl => ?_)
        refine lv_aload_n hx hb dX10_gathers_73 rfl (lv_at hl 2 rfl) ?_
        refine rd (ci := 10) (C := RX10) (T := TX10) (N := 37) hx hb hts inX10 hown hK hP 0 21 rfl rfl (by decide) (hts _ q_fX10_169) rfl dX10_gathers_74 ?_
        refine lv_if_ne (tgt := 125) hx hb dX10_gathers_77 (by decide) (fun c_15 => ?_) (fun c_15 => ?_)
        · have hf := it_f c_15 hf
          exact j125 (fX10_gathers_32 o_bank o_runOrder o_runNear o_all o_quarter o_told n) ih o_laidIm o_laidRe v1 v2 v3 v4 v5 v6 v7 v8 v9 v10 r_11 r_13 H locs ls hf hP hD hS (lv_sub hl [2, 3, 4, 5, 6, 7, 8, 9, 10, 11, 12, 1, 0] rfl)
        · have hf := it_t c_15 hf
          refine lv_iload hx hb dX10_gathers_80 (lv_at hl 12 rfl) ?_
          refine lv_if_le (tgt := 125) hx hb dX10_gathers_82 (by decide) (fun c_16 => ?_) (fun c_16 => ?_)
          · have hf := it_t c_16 hf
            exact j125 (fX10_gathers_32 o_bank o_runOrder o_runNear o_all o_quarter o_told n) ih o_laidIm o_laidRe v1 v2 v3 v4 v5 v6 v7 v8 v9 v10 r_11 r_13 H locs ls hf hP hD hS (lv_sub hl [2, 3, 4, 5, 6, 7, 8, 9, 10, 11, 12, 1, 0] rfl)
          · have hf := it_f c_16 hf
            refine lv_iload hx hb dX10_gathers_85 (lv_at hl 12 rfl) ?_
            refine lv_iload hx hb dX10_gathers_87 (lv_at hl 9 rfl) ?_
            refine lv_imul hx hb dX10_gathers_89 ?_
            refine lv_iload hx hb dX10_gathers_90 (lv_at hl 6 rfl) ?_
            refine lv_imul hx hb dX10_gathers_92 ?_
            refine lv_topi (fun v13_17 ev13_17 => ?_)
            have hf := nm_x ev13_17 hf
            refine lv_istore (lv' := [(13, .int v13_17), (12, .int r_13), (11, .int r_11), (0, .ref h_o), (1, .int v1), (2, .int v2), (3, .int v3), (4, .int v4), (5, .int v5), (6, .int v6), (7, .int v7), (8, .int v8), (9, .int v9), (10, .int v10)]) hx hb dX10_gathers_93 hl (by decide) rfl (fun ls hl => ?_)
            refine lv_aload_n hx hb dX10_gathers_95 rfl (lv_at hl 3 rfl) ?_
            refine lv_iload hx hb dX10_gathers_96 (lv_at hl 2 rfl) ?_
            refine lv_iload hx hb dX10_gathers_98 (lv_at hl 1 rfl) ?_
            refine lv_iload hx hb dX10_gathers_100 (lv_at hl 0 rfl) ?_
            obtain ⟨r_18, e_19, hf⟩ := bd1_x hf
            refine call_v [.int r_11, .int r_13, .int v13_17] [] ⟨hx, hb, hml, hown, hts⟩ hK hP hD hS hA hl.1 (tX10_turnedRe l G cI cJ cZ H.size h_o h_o_quarter h_o_told h_o_tape h_o_words h_o_isTold h_o_toldWave h_o_isPoint h_o_all h_o_roots h_o_laidRe h_o_laidIm h_o_byOrder h_o_noted1 h_o_counts h_o_binBy o_tapeSize o_thrown o_fault o_faultPlace o_stop o_next o_kind o_which o_at o_pointsRead o_bank o_isImage o_undos o_runRadix o_runOrder o_runNear o_runLimit o_runHalves o_power o_notedMany o_knownTold o_drawn o_quarter o_told r_11 r_13 v13_17 r_18 e_19) (cwV 3 hts (gv q_mX10_244 q_i_yX10_turnedRe q_s_yX10_turnedRe q_n_RX10 q_k_yX10_turnedRe) rfl rfl rfl (by decide +kernel) ⟨by decide, by decide⟩) rfl rfl (Nat.le_of_ble_eq_true rfl) dX10_gathers_102 ⟨Nat.zero_le _, Nat.zero_le _⟩ (ci := 10) rfl 0 rfl [0, 4, 5] [1, 2, 3] [3, 0, 1, 2, 4, 5] rfl rfl (ws2 := (wX10_gathers cI cJ cZ h_o h_o_all h_o_laidIm h_o_laidRe h_o_quarter h_o_told h_o_tape h_o_words h_o_isTold h_o_toldWave h_o_isPoint h_o_roots h_o_byOrder h_o_noted1 h_o_counts h_o_binBy o_tapeSize o_thrown o_fault o_faultPlace o_stop o_next o_kind o_which o_at o_pointsRead o_bank o_isImage o_undos o_runRadix o_runOrder o_runNear o_runLimit o_runHalves o_power o_notedMany o_knownTold o_drawn o_all o_laidIm o_laidRe o_quarter o_told)) rfl (fun H locs hP hD hS => ?_)
            refine W.eq (g2 := F0 m 105 ls [.long r_18]) rfl ?_
            refine lv_l2i hx hb dX10_gathers_105 rfl ?_
            refine lv_topi (fun v14_20 ev14_20 => ?_)
            have hf := nm_x ev14_20 hf
            refine lv_istore (lv' := [(14, .int v14_20), (13, .int v13_17), (12, .int r_13), (11, .int r_11), (0, .ref h_o), (1, .int v1), (2, .int v2), (3, .int v3), (4, .int v4), (5, .int v5), (6, .int v6), (7, .int v7), (8, .int v8), (9, .int v9), (10, .int v10)]) hx hb dX10_gathers_106 hl (by decide) rfl (fun ls hl => ?_)
            refine lv_aload_n hx hb dX10_gathers_108 rfl (lv_at hl 4 rfl) ?_
            refine lv_iload hx hb dX10_gathers_109 (lv_at hl 3 rfl) ?_
            refine lv_iload hx hb dX10_gathers_111 (lv_at hl 2 rfl) ?_
            refine lv_iload hx hb dX10_gathers_113 (lv_at hl 1 rfl) ?_
            obtain ⟨r_21, e_22, hf⟩ := bd1_x hf
            refine call_v [.int r_11, .int r_13, .int v13_17] [] ⟨hx, hb, hml, hown, hts⟩ hK hP hD hS hA hl.1 (tX10_turnedIm l G cI cJ cZ H.size h_o h_o_quarter h_o_told h_o_tape h_o_words h_o_isTold h_o_toldWave h_o_isPoint h_o_all h_o_roots h_o_laidRe h_o_laidIm h_o_byOrder h_o_noted1 h_o_counts h_o_binBy o_tapeSize o_thrown o_fault o_faultPlace o_stop o_next o_kind o_which o_at o_pointsRead o_bank o_isImage o_undos o_runRadix o_runOrder o_runNear o_runLimit o_runHalves o_power o_notedMany o_knownTold o_drawn o_quarter o_told r_11 r_13 v13_17 r_21 e_22) (cwV 3 hts (gv q_mX10_248 q_i_yX10_turnedIm q_s_yX10_turnedIm q_n_RX10 q_k_yX10_turnedIm) rfl rfl rfl (by decide +kernel) ⟨by decide, by decide⟩) rfl rfl (Nat.le_of_ble_eq_true rfl) dX10_gathers_115 ⟨Nat.zero_le _, Nat.zero_le _⟩ (ci := 10) rfl 0 rfl [0, 4, 5] [1, 2, 3] [3, 0, 1, 2, 4, 5] rfl rfl (ws2 := (wX10_gathers cI cJ cZ h_o h_o_all h_o_laidIm h_o_laidRe h_o_quarter h_o_told h_o_tape h_o_words h_o_isTold h_o_toldWave h_o_isPoint h_o_roots h_o_byOrder h_o_noted1 h_o_counts h_o_binBy o_tapeSize o_thrown o_fault o_faultPlace o_stop o_next o_kind o_which o_at o_pointsRead o_bank o_isImage o_undos o_runRadix o_runOrder o_runNear o_runLimit o_runHalves o_power o_notedMany o_knownTold o_drawn o_all o_laidIm o_laidRe o_quarter o_told)) rfl (fun H locs hP hD hS => ?_)
            refine W.eq (g2 := F0 m 118 ls [.long r_21]) rfl ?_
            refine lv_l2i hx hb dX10_gathers_118 rfl ?_
            refine lv_topi (fun v12_23 ev12_23 => ?_)
            have hf := nm_x ev12_23 hf
            refine lv_istore (lv' := [(12, .int v12_23), (14, .int v14_20), (13, .int v13_17), (11, .int r_11), (0, .ref h_o), (1, .int v1), (2, .int v2), (3, .int v3), (4, .int v4), (5, .int v5), (6, .int v6), (7, .int v7), (8, .int v8), (9, .int v9), (10, .int v10)]) hx hb dX10_gathers_119 hl (by decide) rfl (fun ls hl => ?_)
            refine lv_iload hx hb dX10_gathers_121 (lv_at hl 1 rfl) ?_
            refine lv_istore (lv' := [(11, .int v14_20), (12, .int v12_23), (14, .int v14_20), (13, .int v13_17), (0, .ref h_o), (1, .int v1), (2, .int v2), (3, .int v3), (4, .int v4), (5, .int v5), (6, .int v6), (7, .int v7), (8, .int v8), (9, .int v9), (10, .int v10)]) hx hb dX10_gathers_123 hl (by decide) rfl (fun ls hl => ?_)
            exact j125 (fX10_gathers_32 o_bank o_runOrder o_runNear o_all o_quarter o_told n) ih o_laidIm o_laidRe v1 v2 v3 v4 v5 v6 v7 v8 v9 v10 v14_20 v12_23 H locs ls hf hP hD hS (lv_sub hl [4, 5, 6, 7, 8, 9, 10, 11, 12, 13, 14, 0, 1] rfl)
  unfold fX10_gathers at hf
  obtain ⟨H, eH⟩ : ∃ H, H = s.heap := ⟨_, rfl⟩
  obtain ⟨locs, elocs⟩ : ∃ z : List Loc, z = [] := ⟨_, rfl⟩
  have hP : va_P G vwCl (wX10_gathers cI cJ cZ h_o h_o_all h_o_laidIm h_o_laidRe h_o_quarter h_o_told h_o_tape h_o_words h_o_isTold h_o_toldWave h_o_isPoint h_o_roots h_o_byOrder h_o_noted1 h_o_counts h_o_binBy o_tapeSize o_thrown o_fault o_faultPlace o_stop o_next o_kind o_which o_at o_pointsRead o_bank o_isImage o_undos o_runRadix o_runOrder o_runNear o_runLimit o_runHalves o_power o_notedMany o_knownTold o_drawn o_all o_laidIm o_laidRe o_quarter o_told) H := by rw [eH]; exact hP
  have hS : va_S A s.heap H locs := by rw [eH, elocs]; exact hS
  suffices hgo : W p l e ({ frames := 3, cells := 0, slots := 0, locals := 66 } : Room) s m ([.ref h_o, .int p1, .int p2, .int p3, .int p4] : List Value).toArray below meth c H locs 0 0 Q (F0 m 0 ls []) by rw [eH, elocs] at hgo; exact hgo
  clear eH elocs
  refine lv_iload_n hx hb dX10_gathers_0 rfl (lv_at hl 1 rfl) ?_
  refine lv_iload_n hx hb dX10_gathers_1 rfl (lv_at hl 1 rfl) ?_
  refine lv_iload_n hx hb dX10_gathers_2 rfl (lv_at hl 2 rfl) ?_
  refine lv_iload_n hx hb dX10_gathers_3 rfl (lv_at hl 3 rfl) ?_
  refine lv_imul hx hb dX10_gathers_4 ?_
  refine lv_topi (fun d_1 ed_1 => ?_)
  have hf := nm_x ed_1 hf
  obtain ⟨g_2, hf⟩ := gd_x hf
  refine lv_irem hx hb dX10_gathers_5 (nz_x g_2) ?_
  refine lv_isub hx hb dX10_gathers_6 ?_
  refine lv_topi (fun v5_3 ev5_3 => ?_)
  have hf := nm_x ev5_3 hf
  refine lv_istore (lv' := [(5, .int v5_3), (0, .ref h_o), (1, .int p1), (2, .int p2), (3, .int p3), (4, .int p4)]) hx hb dX10_gathers_7 hl (by decide) rfl (fun ls hl => ?_)
  refine lv_iload_n hx hb dX10_gathers_9 rfl (lv_at hl 2 rfl) ?_
  refine lv_iload_n hx hb dX10_gathers_10 rfl (lv_at hl 3 rfl) ?_
  refine lv_iload_n hx hb dX10_gathers_11 rfl (lv_at hl 4 rfl) ?_
  refine lv_imul hx hb dX10_gathers_12 ?_
  refine lv_topi (fun d_4 ed_4 => ?_)
  have hf := nm_x ed_4 hf
  obtain ⟨g_5, hf⟩ := gd_x hf
  refine lv_irem hx hb dX10_gathers_13 (nz_x g_5) ?_
  refine lv_iload_n hx hb dX10_gathers_14 rfl (lv_at hl 4 rfl) ?_
  obtain ⟨g_6, hf⟩ := gd_x hf
  refine lv_idiv hx hb dX10_gathers_15 (nz_x g_6) ?_
  refine lv_topi (fun v6_7 ev6_7 => ?_)
  have hf := nm_x ev6_7 hf
  refine lv_istore (lv' := [(6, .int v6_7), (5, .int v5_3), (0, .ref h_o), (1, .int p1), (2, .int p2), (3, .int p3), (4, .int p4)]) hx hb dX10_gathers_16 hl (by decide) rfl (fun ls hl => ?_)
  refine lv_iload_n hx hb dX10_gathers_18 rfl (lv_at hl 3 rfl) ?_
  refine lv_iload_n hx hb dX10_gathers_19 rfl (lv_at hl 5 rfl) ?_
  obtain ⟨g_8, hf⟩ := gd_x hf
  refine lv_irem hx hb dX10_gathers_20 (nz_x g_8) ?_
  refine lv_topi (fun v7_9 ev7_9 => ?_)
  have hf := nm_x ev7_9 hf
  refine lv_istore (lv' := [(7, .int v7_9), (6, .int v6_7), (5, .int v5_3), (0, .ref h_o), (1, .int p1), (2, .int p2), (3, .int p3), (4, .int p4)]) hx hb dX10_gathers_21 hl (by decide) rfl (fun ls hl => ?_)
  refine lv_iconst (v := (0 : Int32)) hx hb dX10_gathers_23 (by decide) ?_
  refine lv_istore (lv' := [(8, .int (0 : Int32)), (7, .int v7_9), (6, .int v6_7), (5, .int v5_3), (0, .ref h_o), (1, .int p1), (2, .int p2), (3, .int p3), (4, .int p4)]) hx hb dX10_gathers_24 hl (by decide) rfl (fun ls hl => ?_)
  refine lv_iconst (v := (0 : Int32)) hx hb dX10_gathers_26 (by decide) ?_
  refine lv_istore (lv' := [(9, .int (0 : Int32)), (8, .int (0 : Int32)), (7, .int v7_9), (6, .int v6_7), (5, .int v5_3), (0, .ref h_o), (1, .int p1), (2, .int p2), (3, .int p3), (4, .int p4)]) hx hb dX10_gathers_27 hl (by decide) rfl (fun ls hl => ?_)
  refine lv_iconst (v := (0 : Int32)) hx hb dX10_gathers_29 (by decide) ?_
  refine lv_istore (lv' := [(10, .int (0 : Int32)), (9, .int (0 : Int32)), (8, .int (0 : Int32)), (7, .int v7_9), (6, .int v6_7), (5, .int v5_3), (0, .ref h_o), (1, .int p1), (2, .int p2), (3, .int p3), (4, .int p4)]) hx hb dX10_gathers_30 hl (by decide) rfl (fun ls hl => ?_)
  exact j32 FU o_laidIm o_laidRe p1 p2 p3 p4 v5_3 v6_7 v7_9 (0 : Int32) (0 : Int32) (0 : Int32) H locs ls hf hP hD hS (lv_sub hl [6, 7, 8, 9, 10, 5, 4, 3, 2, 1, 0] rfl)
def wX10_wings (cI cJ cZ : ClassId) (h_o h_o_all h_o_laidIm h_o_laidRe h_o_quarter h_o_told h_o_tape h_o_words h_o_isTold h_o_toldWave h_o_isPoint h_o_roots h_o_byOrder h_o_noted1 h_o_counts h_o_binBy : Nat) (o_tapeSize : Int32) (o_thrown : Int32) (o_fault : Int32) (o_faultPlace : Int32) (o_stop : Int32) (o_next : Int32) (o_kind : Int32) (o_which : Int32) (o_at : Int32) (o_pointsRead : Int32) (o_bank : Int32) (o_isImage : Int32) (o_undos : Int32) (o_runRadix : Int32) (o_runOrder : Int32) (o_runNear : Int32) (o_runLimit : Int32) (o_runHalves : Int32) (o_power : Int32) (o_notedMany : Int32) (o_knownTold : Int32) (o_drawn : Int64) (o_all : Nat → Int32) (o_laidIm : Nat → Int32) (o_laidRe : Nat → Int32) (o_quarter : Nat → Int32) (o_told : Nat → Int32) : va_W := [(h_o, .inr (10, [.ref h_o_tape, .int o_tapeSize, .int o_thrown, .ref h_o_words, .int o_fault, .int o_faultPlace, .int o_stop, .int o_next, .int o_kind, .int o_which, .int o_at, .ref h_o_told, .ref h_o_isTold, .ref h_o_toldWave, .ref h_o_isPoint, .int o_pointsRead, .ref h_o_all, .int o_bank, .int o_isImage, .int o_undos, .int o_runRadix, .int o_runOrder, .int o_runNear, .int o_runLimit, .int o_runHalves, .ref h_o_quarter, .int o_power, .ref h_o_roots, .ref h_o_laidRe, .ref h_o_laidIm, .ref h_o_byOrder, .int o_notedMany, .int o_knownTold, .ref h_o_noted1, .ref h_o_counts, .ref h_o_binBy, .long o_drawn])), (h_o_all, .inl (cI, 3128, .inl o_all)), (h_o_laidIm, .inl (cI, 32, .inl o_laidIm)), (h_o_laidRe, .inl (cI, 32, .inl o_laidRe)), (h_o_quarter, .inl (cI, 9, .inl o_quarter)), (h_o_told, .inl (cI, 12, .inl o_told))]
def fX10_wings_83 (o_bank : Int32) (o_told : Nat → Int32) (o_all : Nat → Int32) (o_laidIm : Nat → Int32) (o_laidRe : Nat → Int32) : Option ((Nat → Int32) × (Nat → Int32) × (Nat → Int32)) :=
  bd1 (fX10_laid o_bank o_all o_laidIm o_laidRe o_told) (fun o_all_25 =>
  some (o_all_25, o_laidIm, o_laidRe))
def fX10_wings_52 (o_bank : Int32) (o_runOrder : Int32) (o_runNear : Int32) (o_quarter : Nat → Int32) (o_told : Nat → Int32) : Nat → (Nat → Int32) → (Nat → Int32) → (Nat → Int32) → Int32 → Int32 → Int32 → Option ((Nat → Int32) × (Nat → Int32) × (Nat → Int32))
  | 0, _, _, _, _, _, _ => none
  | n + 1, o_all, o_laidIm, o_laidRe, v2, v3, v4 =>
    bd1 (fX10_size o_told) (fun r_14 =>
    if r_14 ≤ v4 then (
      fX10_wings_83 o_bank o_told o_all o_laidIm o_laidRe
    ) else (
      bd1 (fX10_size o_told) (fun r_17 =>
      nm (v2 * v3) (fun d_19 =>
      gd (nz d_19) (
      bd2 (fX10_gathers o_bank o_runOrder o_runNear o_all o_laidIm o_laidRe o_quarter o_told v4 v2 v3 (r_17 / d_19)) (fun o_laidIm_21 o_laidRe_22 =>
      nm (v4 + (1 : Int32)) (fun v4_24 =>
      fX10_wings_52 o_bank o_runOrder o_runNear o_quarter o_told n o_all o_laidIm_21 o_laidRe_22 v2 v3 v4_24)))))
    ))
def fX10_wings_49 (o_bank : Int32) (o_runOrder : Int32) (o_runNear : Int32) (o_quarter : Nat → Int32) (o_told : Nat → Int32) (o_all : Nat → Int32) (o_laidIm : Nat → Int32) (o_laidRe : Nat → Int32) (v2 : Int32) (v3 : Int32) : Option ((Nat → Int32) × (Nat → Int32) × (Nat → Int32)) :=
  fX10_wings_52 o_bank o_runOrder o_runNear o_quarter o_told FU o_all o_laidIm o_laidRe v2 v3 (0 : Int32)
def fX10_wings_32 (o_bank : Int32) (o_runOrder : Int32) (o_runNear : Int32) (o_quarter : Nat → Int32) (o_told : Nat → Int32) (o_all : Nat → Int32) (o_laidIm : Nat → Int32) (o_laidRe : Nat → Int32) (v2 : Int32) (v3 : Int32) : Option ((Nat → Int32) × (Nat → Int32) × (Nat → Int32)) :=
  if o_runOrder = (1 : Int32) then (
    bd1 (fX10_size o_told) (fun r_9 =>
    nm (v3 * v2) (fun d_11 =>
    gd (nz d_11) (
    nm (r_9 / d_11) (fun v3_13 =>
    fX10_wings_49 o_bank o_runOrder o_runNear o_quarter o_told o_all o_laidIm o_laidRe v2 v3_13))))
  ) else (
    fX10_wings_49 o_bank o_runOrder o_runNear o_quarter o_told o_all o_laidIm o_laidRe v2 v3
  )
def fX10_wings_11 (o_bank : Int32) (o_runRadix : Int32) (o_runOrder : Int32) (o_runNear : Int32) (o_power : Int32) (o_quarter : Nat → Int32) (o_told : Nat → Int32) : Nat → (Nat → Int32) → (Nat → Int32) → (Nat → Int32) → Int32 → Int32 → Int32 → Int32 → Option ((Nat → Int32) × (Nat → Int32) × (Nat → Int32))
  | 0, _, _, _, _, _, _, _ => none
  | n + 1, o_all, o_laidIm, o_laidRe, v1, v2, v3, v4 =>
    if v1 ≤ v4 then (
      fX10_wings_32 o_bank o_runOrder o_runNear o_quarter o_told o_all o_laidIm o_laidRe v2 v3
    ) else (
      bd1 (fX10_radixAt o_runRadix o_runOrder o_power v4) (fun r_4 =>
      nm (v3 * r_4) (fun v3_6 =>
      nm (v4 + (1 : Int32)) (fun v4_7 =>
      fX10_wings_11 o_bank o_runRadix o_runOrder o_runNear o_power o_quarter o_told n o_all o_laidIm o_laidRe v1 v2 v3_6 v4_7)))
    )
def fX10_wings (o_bank : Int32) (o_runRadix : Int32) (o_runOrder : Int32) (o_runNear : Int32) (o_power : Int32) (o_all : Nat → Int32) (o_laidIm : Nat → Int32) (o_laidRe : Nat → Int32) (o_quarter : Nat → Int32) (o_told : Nat → Int32) (p1 : Int32) : Option ((Nat → Int32) × (Nat → Int32) × (Nat → Int32)) :=
  bd1 (fX10_radixAt o_runRadix o_runOrder o_power p1) (fun r_1 =>
  fX10_wings_11 o_bank o_runRadix o_runOrder o_runNear o_power o_quarter o_told FU o_all o_laidIm o_laidRe p1 r_1 (1 : Int32) (0 : Int32))
set_option maxHeartbeats 4000000 in
set_option maxRecDepth 100000 in
theorem tX10_wings (l : Launch) (G : va_G) (cI cJ cZ : ClassId) (sz : Nat) (h_o h_o_all h_o_laidIm h_o_laidRe h_o_quarter h_o_told h_o_tape h_o_words h_o_isTold h_o_toldWave h_o_isPoint h_o_roots h_o_byOrder h_o_noted1 h_o_counts h_o_binBy : Nat) (o_tapeSize : Int32) (o_thrown : Int32) (o_fault : Int32) (o_faultPlace : Int32) (o_stop : Int32) (o_next : Int32) (o_kind : Int32) (o_which : Int32) (o_at : Int32) (o_pointsRead : Int32) (o_bank : Int32) (o_isImage : Int32) (o_undos : Int32) (o_runRadix : Int32) (o_runOrder : Int32) (o_runNear : Int32) (o_runLimit : Int32) (o_runHalves : Int32) (o_power : Int32) (o_notedMany : Int32) (o_knownTold : Int32) (o_drawn : Int64) (o_all : Nat → Int32) (o_laidIm : Nat → Int32) (o_laidRe : Nat → Int32) (o_quarter : Nat → Int32) (o_told : Nat → Int32) (p1 : Int32) (out_o_all : Nat → Int32) (out_o_laidIm : Nat → Int32) (out_o_laidRe : Nat → Int32) (hf : fX10_wings o_bank o_runRadix o_runOrder o_runNear o_power o_all o_laidIm o_laidRe o_quarter o_told p1 = some (out_o_all, out_o_laidIm, out_o_laidRe)) : Met l yX10_wings (Cond.code yX10_wings cX10_wings 5 none :: BIG) ({ frames := 4, cells := 0, slots := 0, locals := 100 } : Room) (cP G (TY3 cI cJ cZ) [.ref h_o, .int p1] sz (wX10_wings cI cJ cZ h_o h_o_all h_o_laidIm h_o_laidRe h_o_quarter h_o_told h_o_tape h_o_words h_o_isTold h_o_toldWave h_o_isPoint h_o_roots h_o_byOrder h_o_noted1 h_o_counts h_o_binBy o_tapeSize o_thrown o_fault o_faultPlace o_stop o_next o_kind o_which o_at o_pointsRead o_bank o_isImage o_undos o_runRadix o_runOrder o_runNear o_runLimit o_runHalves o_power o_notedMany o_knownTold o_drawn o_all o_laidIm o_laidRe o_quarter o_told)) (cQ G (TY3 cI cJ cZ) sz (wX10_wings cI cJ cZ h_o h_o_all h_o_laidIm h_o_laidRe h_o_quarter h_o_told h_o_tape h_o_words h_o_isTold h_o_toldWave h_o_isPoint h_o_roots h_o_byOrder h_o_noted1 h_o_counts h_o_binBy o_tapeSize o_thrown o_fault o_faultPlace o_stop o_next o_kind o_which o_at o_pointsRead o_bank o_isImage o_undos o_runRadix o_runOrder o_runNear o_runLimit o_runHalves o_power o_notedMany o_knownTold o_drawn o_all o_laidIm o_laidRe o_quarter o_told) (wX10_wings cI cJ cZ h_o h_o_all h_o_laidIm h_o_laidRe h_o_quarter h_o_told h_o_tape h_o_words h_o_isTold h_o_toldWave h_o_isPoint h_o_roots h_o_byOrder h_o_noted1 h_o_counts h_o_binBy o_tapeSize o_thrown o_fault o_faultPlace o_stop o_next o_kind o_which o_at o_pointsRead o_bank o_isImage o_undos o_runRadix o_runOrder o_runNear o_runLimit o_runHalves o_power o_notedMany o_knownTold o_drawn out_o_all out_o_laidIm out_o_laidRe o_quarter o_told) none) 0 0 (va_A (wX10_wings cI cJ cZ h_o h_o_all h_o_laidIm h_o_laidRe h_o_quarter h_o_told h_o_tape h_o_words h_o_isTold h_o_toldWave h_o_isPoint h_o_roots h_o_byOrder h_o_noted1 h_o_counts h_o_binBy o_tapeSize o_thrown o_fault o_faultPlace o_stop o_next o_kind o_which o_at o_pointsRead o_bank o_isImage o_undos o_runRadix o_runOrder o_runNear o_runLimit o_runHalves o_power o_notedMany o_knownTold o_drawn o_all o_laidIm o_laidRe o_quarter o_told) sz) := by
  refine met_v (cc := cX10_wings) (maxL := 5) (plainFor_of_name (by decide)) (Nat.le_of_ble_eq_true rfl) (fun p e s m below meth c A ls Q hx hb hml hts hown hK hP hD hS hA hl hret => ?_)
  have hown : s.vm.findClass RX10 = some m.cls := hown
  have hl : lv_has ls 5 [(0, .ref h_o), (1, .int p1)] := hl
  have j83 : ∀ (o_all : Nat → Int32) (o_laidIm : Nat → Int32) (o_laidRe : Nat → Int32) (H : Heap) (locs : List Loc) (ls : Array Slot), fX10_wings_83 o_bank o_told o_all o_laidIm o_laidRe = some (out_o_all, out_o_laidIm, out_o_laidRe) → va_P G vwCl (wX10_wings cI cJ cZ h_o h_o_all h_o_laidIm h_o_laidRe h_o_quarter h_o_told h_o_tape h_o_words h_o_isTold h_o_toldWave h_o_isPoint h_o_roots h_o_byOrder h_o_noted1 h_o_counts h_o_binBy o_tapeSize o_thrown o_fault o_faultPlace o_stop o_next o_kind o_which o_at o_pointsRead o_bank o_isImage o_undos o_runRadix o_runOrder o_runNear o_runLimit o_runHalves o_power o_notedMany o_knownTold o_drawn o_all o_laidIm o_laidRe o_quarter o_told) H → va_D A (wX10_wings cI cJ cZ h_o h_o_all h_o_laidIm h_o_laidRe h_o_quarter h_o_told h_o_tape h_o_words h_o_isTold h_o_toldWave h_o_isPoint h_o_roots h_o_byOrder h_o_noted1 h_o_counts h_o_binBy o_tapeSize o_thrown o_fault o_faultPlace o_stop o_next o_kind o_which o_at o_pointsRead o_bank o_isImage o_undos o_runRadix o_runOrder o_runNear o_runLimit o_runHalves o_power o_notedMany o_knownTold o_drawn o_all o_laidIm o_laidRe o_quarter o_told) → va_S A s.heap H locs → lv_has ls 5 [(0, .ref h_o)] → W p l e ({ frames := 4, cells := 0, slots := 0, locals := 100 } : Room) s m ([.ref h_o, .int p1] : List Value).toArray below meth c H locs 0 0 Q (F0 m 83 ls []) := by
    intro o_all o_laidIm o_laidRe H locs ls hf hP hD hS hl
    unfold fX10_wings_83 at hf
    refine lv_aload_n hx hb dX10_wings_83 rfl (lv_at hl 0 rfl) ?_
    obtain ⟨o_all_25, e_26, hf⟩ := bd1_x hf
    refine call_v [] [] ⟨hx, hb, hml, hown, hts⟩ hK hP hD hS hA hl.1 (tX10_laid l G cI cJ cZ H.size h_o h_o_all h_o_laidIm h_o_laidRe h_o_told h_o_tape h_o_words h_o_isTold h_o_toldWave h_o_isPoint h_o_quarter h_o_roots h_o_byOrder h_o_noted1 h_o_counts h_o_binBy o_tapeSize o_thrown o_fault o_faultPlace o_stop o_next o_kind o_which o_at o_pointsRead o_bank o_isImage o_undos o_runRadix o_runOrder o_runNear o_runLimit o_runHalves o_power o_notedMany o_knownTold o_drawn o_all o_laidIm o_laidRe o_told o_all_25 e_26) (cwV 0 hts (gv q_mX10_234 q_i_yX10_laid q_s_yX10_laid q_n_RX10 q_k_yX10_laid) rfl rfl rfl (by decide +kernel) ⟨by decide, by decide⟩) rfl rfl (Nat.le_of_ble_eq_true rfl) dX10_wings_84 ⟨Nat.zero_le _, Nat.zero_le _⟩ (ci := 10) rfl 0 rfl [0, 1, 2, 3, 5] [4] [1, 2, 3, 4, 0, 5] rfl rfl (ws2 := (wX10_wings cI cJ cZ h_o h_o_all h_o_laidIm h_o_laidRe h_o_quarter h_o_told h_o_tape h_o_words h_o_isTold h_o_toldWave h_o_isPoint h_o_roots h_o_byOrder h_o_noted1 h_o_counts h_o_binBy o_tapeSize o_thrown o_fault o_faultPlace o_stop o_next o_kind o_which o_at o_pointsRead o_bank o_isImage o_undos o_runRadix o_runOrder o_runNear o_runLimit o_runHalves o_power o_notedMany o_knownTold o_drawn o_all_25 o_laidIm o_laidRe o_quarter o_told)) rfl (fun H locs hP hD hS => ?_)
    refine W.eq (g2 := F0 m 87 ls []) rfl ?_
    cases hf
    exact hret _ _ _ _ dX10_wings_87 hP hD hS
  have j52 : ∀ (n : Nat) (o_all : Nat → Int32) (o_laidIm : Nat → Int32) (o_laidRe : Nat → Int32) (v2 : Int32) (v3 : Int32) (v4 : Int32) (H : Heap) (locs : List Loc) (ls : Array Slot), fX10_wings_52 o_bank o_runOrder o_runNear o_quarter o_told n o_all o_laidIm o_laidRe v2 v3 v4 = some (out_o_all, out_o_laidIm, out_o_laidRe) → va_P G vwCl (wX10_wings cI cJ cZ h_o h_o_all h_o_laidIm h_o_laidRe h_o_quarter h_o_told h_o_tape h_o_words h_o_isTold h_o_toldWave h_o_isPoint h_o_roots h_o_byOrder h_o_noted1 h_o_counts h_o_binBy o_tapeSize o_thrown o_fault o_faultPlace o_stop o_next o_kind o_which o_at o_pointsRead o_bank o_isImage o_undos o_runRadix o_runOrder o_runNear o_runLimit o_runHalves o_power o_notedMany o_knownTold o_drawn o_all o_laidIm o_laidRe o_quarter o_told) H → va_D A (wX10_wings cI cJ cZ h_o h_o_all h_o_laidIm h_o_laidRe h_o_quarter h_o_told h_o_tape h_o_words h_o_isTold h_o_toldWave h_o_isPoint h_o_roots h_o_byOrder h_o_noted1 h_o_counts h_o_binBy o_tapeSize o_thrown o_fault o_faultPlace o_stop o_next o_kind o_which o_at o_pointsRead o_bank o_isImage o_undos o_runRadix o_runOrder o_runNear o_runLimit o_runHalves o_power o_notedMany o_knownTold o_drawn o_all o_laidIm o_laidRe o_quarter o_told) → va_S A s.heap H locs → lv_has ls 5 [(0, .ref h_o), (2, .int v2), (3, .int v3), (4, .int v4)] → W p l e ({ frames := 4, cells := 0, slots := 0, locals := 100 } : Room) s m ([.ref h_o, .int p1] : List Value).toArray below meth c H locs 0 0 Q (F0 m 52 ls []) := by
    intro n
    induction n with
    | zero =>
      intro o_all o_laidIm o_laidRe v2 v3 v4 H locs ls hf
      have hf : (none : Option ((Nat → Int32) × (Nat → Int32) × (Nat → Int32))) = some (out_o_all, out_o_laidIm, out_o_laidRe) := hf
      cases hf
    | succ n ih =>
      intro o_all o_laidIm o_laidRe v2 v3 v4 H locs ls hf hP hD hS hl
      rw [fX10_wings_52.eq_2] at hf
      refine lv_iload hx hb dX10_wings_52 (lv_at hl 3 rfl) ?_
      refine lv_aload_n hx hb dX10_wings_54 rfl (lv_at hl 0 rfl) ?_
      obtain ⟨r_14, e_15, hf⟩ := bd1_x hf
      refine call_v [] [.int v4] ⟨hx, hb, hml, hown, hts⟩ hK hP hD hS hA hl.1 (tX10_size l G cI cJ cZ H.size h_o h_o_told h_o_tape h_o_words h_o_isTold h_o_toldWave h_o_isPoint h_o_all h_o_quarter h_o_roots h_o_laidRe h_o_laidIm h_o_byOrder h_o_noted1 h_o_counts h_o_binBy o_tapeSize o_thrown o_fault o_faultPlace o_stop o_next o_kind o_which o_at o_pointsRead o_bank o_isImage o_undos o_runRadix o_runOrder o_runNear o_runLimit o_runHalves o_power o_notedMany o_knownTold o_drawn o_told r_14 e_15) (cwV 0 hts (gv q_mX10_196 q_i_yX10_size q_s_yX10_size q_n_RX10 q_k_yX10_size) rfl rfl rfl (by decide +kernel) ⟨by decide, by decide⟩) rfl rfl (Nat.le_of_ble_eq_true rfl) dX10_wings_55 ⟨Nat.zero_le _, Nat.zero_le _⟩ (ci := 10) rfl 0 rfl [0, 5] [1, 2, 3, 4] [4, 0, 1, 2, 3, 5] rfl rfl (ws2 := (wX10_wings cI cJ cZ h_o h_o_all h_o_laidIm h_o_laidRe h_o_quarter h_o_told h_o_tape h_o_words h_o_isTold h_o_toldWave h_o_isPoint h_o_roots h_o_byOrder h_o_noted1 h_o_counts h_o_binBy o_tapeSize o_thrown o_fault o_faultPlace o_stop o_next o_kind o_which o_at o_pointsRead o_bank o_isImage o_undos o_runRadix o_runOrder o_runNear o_runLimit o_runHalves o_power o_notedMany o_knownTold o_drawn o_all o_laidIm o_laidRe o_quarter o_told)) rfl (fun H locs hP hD hS => ?_)
      refine W.eq (g2 := F0 m 58 ls [.int r_14, .int v4]) rfl ?_
      refine lv_icmp_ge (tgt := 83) hx hb dX10_wings_58 (by decide) (fun c_16 => ?_) (fun c_16 => ?_)
      · have hf := it_t c_16 hf
        exact j83 o_all o_laidIm o_laidRe H locs ls hf hP hD hS (lv_sub hl [0] rfl)
      · have hf := it_f c_16 hf
        refine lv_aload_n hx hb dX10_wings_61 rfl (lv_at hl 0 rfl) ?_
        refine lv_iload hx hb dX10_wings_62 (lv_at hl 3 rfl) ?_
        refine lv_iload_n hx hb dX10_wings_64 rfl (lv_at hl 1 rfl) ?_
        refine lv_iload_n hx hb dX10_wings_65 rfl (lv_at hl 2 rfl) ?_
        refine lv_aload_n hx hb dX10_wings_66 rfl (lv_at hl 0 rfl) ?_
        obtain ⟨r_17, e_18, hf⟩ := bd1_x hf
        refine call_v [] [.int v3, .int v2, .int v4, .ref h_o] ⟨hx, hb, hml, hown, hts⟩ hK hP hD hS hA hl.1 (tX10_size l G cI cJ cZ H.size h_o h_o_told h_o_tape h_o_words h_o_isTold h_o_toldWave h_o_isPoint h_o_all h_o_quarter h_o_roots h_o_laidRe h_o_laidIm h_o_byOrder h_o_noted1 h_o_counts h_o_binBy o_tapeSize o_thrown o_fault o_faultPlace o_stop o_next o_kind o_which o_at o_pointsRead o_bank o_isImage o_undos o_runRadix o_runOrder o_runNear o_runLimit o_runHalves o_power o_notedMany o_knownTold o_drawn o_told r_17 e_18) (cwV 0 hts (gv q_mX10_196 q_i_yX10_size q_s_yX10_size q_n_RX10 q_k_yX10_size) rfl rfl rfl (by decide +kernel) ⟨by decide, by decide⟩) rfl rfl (Nat.le_of_ble_eq_true rfl) dX10_wings_67 ⟨Nat.zero_le _, Nat.zero_le _⟩ (ci := 10) rfl 0 rfl [0, 5] [1, 2, 3, 4] [4, 0, 1, 2, 3, 5] rfl rfl (ws2 := (wX10_wings cI cJ cZ h_o h_o_all h_o_laidIm h_o_laidRe h_o_quarter h_o_told h_o_tape h_o_words h_o_isTold h_o_toldWave h_o_isPoint h_o_roots h_o_byOrder h_o_noted1 h_o_counts h_o_binBy o_tapeSize o_thrown o_fault o_faultPlace o_stop o_next o_kind o_which o_at o_pointsRead o_bank o_isImage o_undos o_runRadix o_runOrder o_runNear o_runLimit o_runHalves o_power o_notedMany o_knownTold o_drawn o_all o_laidIm o_laidRe o_quarter o_told)) rfl (fun H locs hP hD hS => ?_)
        refine W.eq (g2 := F0 m 70 ls [.int r_17, .int v3, .int v2, .int v4, .ref h_o]) rfl ?_
        refine lv_iload_n hx hb dX10_wings_70 rfl (lv_at hl 1 rfl) ?_
        refine lv_iload_n hx hb dX10_wings_71 rfl (lv_at hl 2 rfl) ?_
        refine lv_imul hx hb dX10_wings_72 ?_
        refine lv_topi (fun d_19 ed_19 => ?_)
        have hf := nm_x ed_19 hf
        obtain ⟨g_20, hf⟩ := gd_x hf
        refine lv_idiv hx hb dX10_wings_73 (nz_x g_20) ?_
        obtain ⟨o_laidIm_21, o_laidRe_22, e_23, hf⟩ := bd2_x hf
        refine call_v [.int v4, .int v2, .int v3, .int (r_17 / d_19)] [] ⟨hx, hb, hml, hown, hts⟩ hK hP hD hS hA hl.1 (tX10_gathers l G cI cJ cZ H.size h_o h_o_all h_o_laidIm h_o_laidRe h_o_quarter h_o_told h_o_tape h_o_words h_o_isTold h_o_toldWave h_o_isPoint h_o_roots h_o_byOrder h_o_noted1 h_o_counts h_o_binBy o_tapeSize o_thrown o_fault o_faultPlace o_stop o_next o_kind o_which o_at o_pointsRead o_bank o_isImage o_undos o_runRadix o_runOrder o_runNear o_runLimit o_runHalves o_power o_notedMany o_knownTold o_drawn o_all o_laidIm o_laidRe o_quarter o_told v4 v2 v3 (r_17 / d_19) o_laidIm_21 o_laidRe_22 e_23) (cwV 4 hts (gv q_mX10_251 q_i_yX10_gathers q_s_yX10_gathers q_n_RX10 q_k_yX10_gathers) rfl rfl rfl (by decide +kernel) ⟨by decide, by decide⟩) rfl rfl (Nat.le_of_ble_eq_true rfl) dX10_wings_74 ⟨Nat.zero_le _, Nat.zero_le _⟩ (ci := 10) rfl 0 rfl [0, 1, 2, 3, 4, 5] [] [0, 1, 2, 3, 4, 5] rfl rfl (ws2 := (wX10_wings cI cJ cZ h_o h_o_all h_o_laidIm h_o_laidRe h_o_quarter h_o_told h_o_tape h_o_words h_o_isTold h_o_toldWave h_o_isPoint h_o_roots h_o_byOrder h_o_noted1 h_o_counts h_o_binBy o_tapeSize o_thrown o_fault o_faultPlace o_stop o_next o_kind o_which o_at o_pointsRead o_bank o_isImage o_undos o_runRadix o_runOrder o_runNear o_runLimit o_runHalves o_power o_notedMany o_knownTold o_drawn o_all o_laidIm_21 o_laidRe_22 o_quarter o_told)) rfl (fun H locs hP hD hS => ?_)
        refine W.eq (g2 := F0 m 77 ls []) rfl ?_
        obtain ⟨v4_24, ev4_24⟩ : ∃ y : Int32, y = v4 + (1 : Int32) := ⟨_, rfl⟩
        have hf := nm_x ev4_24 hf
        refine lv_iinc (v := v4_24) (lv' := [(4, .int v4_24), (0, .ref h_o), (2, .int v2), (3, .int v3)]) hx hb dX10_wings_77 hl (k := 3) rfl (by rw [ev4_24]; rfl) (by decide) rfl (fun ls hl => ?_)
        refine lv_goto (tgt := 52) hx hb dX10_wings_80 (by decide) ?_
        exact ih o_all o_laidIm_21 o_laidRe_22 v2 v3 v4_24 H locs ls hf hP hD hS (lv_sub hl [1, 2, 3, 0] rfl)
  have j49 : ∀ (o_all : Nat → Int32) (o_laidIm : Nat → Int32) (o_laidRe : Nat → Int32) (v2 : Int32) (v3 : Int32) (H : Heap) (locs : List Loc) (ls : Array Slot), fX10_wings_49 o_bank o_runOrder o_runNear o_quarter o_told o_all o_laidIm o_laidRe v2 v3 = some (out_o_all, out_o_laidIm, out_o_laidRe) → va_P G vwCl (wX10_wings cI cJ cZ h_o h_o_all h_o_laidIm h_o_laidRe h_o_quarter h_o_told h_o_tape h_o_words h_o_isTold h_o_toldWave h_o_isPoint h_o_roots h_o_byOrder h_o_noted1 h_o_counts h_o_binBy o_tapeSize o_thrown o_fault o_faultPlace o_stop o_next o_kind o_which o_at o_pointsRead o_bank o_isImage o_undos o_runRadix o_runOrder o_runNear o_runLimit o_runHalves o_power o_notedMany o_knownTold o_drawn o_all o_laidIm o_laidRe o_quarter o_told) H → va_D A (wX10_wings cI cJ cZ h_o h_o_all h_o_laidIm h_o_laidRe h_o_quarter h_o_told h_o_tape h_o_words h_o_isTold h_o_toldWave h_o_isPoint h_o_roots h_o_byOrder h_o_noted1 h_o_counts h_o_binBy o_tapeSize o_thrown o_fault o_faultPlace o_stop o_next o_kind o_which o_at o_pointsRead o_bank o_isImage o_undos o_runRadix o_runOrder o_runNear o_runLimit o_runHalves o_power o_notedMany o_knownTold o_drawn o_all o_laidIm o_laidRe o_quarter o_told) → va_S A s.heap H locs → lv_has ls 5 [(0, .ref h_o), (2, .int v2), (3, .int v3)] → W p l e ({ frames := 4, cells := 0, slots := 0, locals := 100 } : Room) s m ([.ref h_o, .int p1] : List Value).toArray below meth c H locs 0 0 Q (F0 m 49 ls []) := by
    intro o_all o_laidIm o_laidRe v2 v3 H locs ls hf hP hD hS hl
    unfold fX10_wings_49 at hf
    refine lv_iconst (v := (0 : Int32)) hx hb dX10_wings_49 (by decide) ?_
    refine lv_istore (lv' := [(4, .int (0 : Int32)), (0, .ref h_o), (2, .int v2), (3, .int v3)]) hx hb dX10_wings_50 hl (by decide) rfl (fun ls hl => ?_)
    exact j52 FU o_all o_laidIm o_laidRe v2 v3 (0 : Int32) H locs ls hf hP hD hS (lv_sub hl [1, 2, 3, 0] rfl)
  have j32 : ∀ (o_all : Nat → Int32) (o_laidIm : Nat → Int32) (o_laidRe : Nat → Int32) (v2 : Int32) (v3 : Int32) (H : Heap) (locs : List Loc) (ls : Array Slot), fX10_wings_32 o_bank o_runOrder o_runNear o_quarter o_told o_all o_laidIm o_laidRe v2 v3 = some (out_o_all, out_o_laidIm, out_o_laidRe) → va_P G vwCl (wX10_wings cI cJ cZ h_o h_o_all h_o_laidIm h_o_laidRe h_o_quarter h_o_told h_o_tape h_o_words h_o_isTold h_o_toldWave h_o_isPoint h_o_roots h_o_byOrder h_o_noted1 h_o_counts h_o_binBy o_tapeSize o_thrown o_fault o_faultPlace o_stop o_next o_kind o_which o_at o_pointsRead o_bank o_isImage o_undos o_runRadix o_runOrder o_runNear o_runLimit o_runHalves o_power o_notedMany o_knownTold o_drawn o_all o_laidIm o_laidRe o_quarter o_told) H → va_D A (wX10_wings cI cJ cZ h_o h_o_all h_o_laidIm h_o_laidRe h_o_quarter h_o_told h_o_tape h_o_words h_o_isTold h_o_toldWave h_o_isPoint h_o_roots h_o_byOrder h_o_noted1 h_o_counts h_o_binBy o_tapeSize o_thrown o_fault o_faultPlace o_stop o_next o_kind o_which o_at o_pointsRead o_bank o_isImage o_undos o_runRadix o_runOrder o_runNear o_runLimit o_runHalves o_power o_notedMany o_knownTold o_drawn o_all o_laidIm o_laidRe o_quarter o_told) → va_S A s.heap H locs → lv_has ls 5 [(0, .ref h_o), (2, .int v2), (3, .int v3)] → W p l e ({ frames := 4, cells := 0, slots := 0, locals := 100 } : Room) s m ([.ref h_o, .int p1] : List Value).toArray below meth c H locs 0 0 Q (F0 m 32 ls []) := by
    intro o_all o_laidIm o_laidRe v2 v3 H locs ls hf hP hD hS hl
    unfold fX10_wings_32 at hf
    refine lv_aload_n hx hb dX10_wings_32 rfl (lv_at hl 0 rfl) ?_
    refine rd (ci := 10) (C := RX10) (T := TX10) (N := 37) hx hb hts inX10 hown hK hP 0 21 rfl rfl (by decide) (hts _ q_fX10_169) rfl dX10_wings_33 ?_
    refine lv_iconst (v := (1 : Int32)) hx hb dX10_wings_36 (by decide) ?_
    refine lv_icmp_ne (tgt := 49) hx hb dX10_wings_37 (by decide) (fun c_8 => ?_) (fun c_8 => ?_)
    · have hf := it_f c_8 hf
      exact j49 o_all o_laidIm o_laidRe v2 v3 H locs ls hf hP hD hS (lv_sub hl [0, 1, 2] rfl)
    · have hf := it_t c_8 hf
      refine lv_aload_n hx hb dX10_wings_40 rfl (lv_at hl 0 rfl) ?_
      obtain ⟨r_9, e_10, hf⟩ := bd1_x hf
      refine call_v [] [] ⟨hx, hb, hml, hown, hts⟩ hK hP hD hS hA hl.1 (tX10_size l G cI cJ cZ H.size h_o h_o_told h_o_tape h_o_words h_o_isTold h_o_toldWave h_o_isPoint h_o_all h_o_quarter h_o_roots h_o_laidRe h_o_laidIm h_o_byOrder h_o_noted1 h_o_counts h_o_binBy o_tapeSize o_thrown o_fault o_faultPlace o_stop o_next o_kind o_which o_at o_pointsRead o_bank o_isImage o_undos o_runRadix o_runOrder o_runNear o_runLimit o_runHalves o_power o_notedMany o_knownTold o_drawn o_told r_9 e_10) (cwV 0 hts (gv q_mX10_196 q_i_yX10_size q_s_yX10_size q_n_RX10 q_k_yX10_size) rfl rfl rfl (by decide +kernel) ⟨by decide, by decide⟩) rfl rfl (Nat.le_of_ble_eq_true rfl) dX10_wings_41 ⟨Nat.zero_le _, Nat.zero_le _⟩ (ci := 10) rfl 0 rfl [0, 5] [1, 2, 3, 4] [4, 0, 1, 2, 3, 5] rfl rfl (ws2 := (wX10_wings cI cJ cZ h_o h_o_all h_o_laidIm h_o_laidRe h_o_quarter h_o_told h_o_tape h_o_words h_o_isTold h_o_toldWave h_o_isPoint h_o_roots h_o_byOrder h_o_noted1 h_o_counts h_o_binBy o_tapeSize o_thrown o_fault o_faultPlace o_stop o_next o_kind o_which o_at o_pointsRead o_bank o_isImage o_undos o_runRadix o_runOrder o_runNear o_runLimit o_runHalves o_power o_notedMany o_knownTold o_drawn o_all o_laidIm o_laidRe o_quarter o_told)) rfl (fun H locs hP hD hS => ?_)
      refine W.eq (g2 := F0 m 44 ls [.int r_9]) rfl ?_
      refine lv_iload_n hx hb dX10_wings_44 rfl (lv_at hl 2 rfl) ?_
      refine lv_iload_n hx hb dX10_wings_45 rfl (lv_at hl 1 rfl) ?_
      refine lv_imul hx hb dX10_wings_46 ?_
      refine lv_topi (fun d_11 ed_11 => ?_)
      have hf := nm_x ed_11 hf
      obtain ⟨g_12, hf⟩ := gd_x hf
      refine lv_idiv hx hb dX10_wings_47 (nz_x g_12) ?_
      refine lv_topi (fun v3_13 ev3_13 => ?_)
      have hf := nm_x ev3_13 hf
      refine lv_istore_n (lv' := [(3, .int v3_13), (0, .ref h_o), (2, .int v2)]) hx hb dX10_wings_48 rfl hl (by decide) rfl (fun ls hl => ?_)
      exact j49 o_all o_laidIm o_laidRe v2 v3_13 H locs ls hf hP hD hS (lv_sub hl [1, 2, 0] rfl)
  have j11 : ∀ (n : Nat) (o_all : Nat → Int32) (o_laidIm : Nat → Int32) (o_laidRe : Nat → Int32) (v1 : Int32) (v2 : Int32) (v3 : Int32) (v4 : Int32) (H : Heap) (locs : List Loc) (ls : Array Slot), fX10_wings_11 o_bank o_runRadix o_runOrder o_runNear o_power o_quarter o_told n o_all o_laidIm o_laidRe v1 v2 v3 v4 = some (out_o_all, out_o_laidIm, out_o_laidRe) → va_P G vwCl (wX10_wings cI cJ cZ h_o h_o_all h_o_laidIm h_o_laidRe h_o_quarter h_o_told h_o_tape h_o_words h_o_isTold h_o_toldWave h_o_isPoint h_o_roots h_o_byOrder h_o_noted1 h_o_counts h_o_binBy o_tapeSize o_thrown o_fault o_faultPlace o_stop o_next o_kind o_which o_at o_pointsRead o_bank o_isImage o_undos o_runRadix o_runOrder o_runNear o_runLimit o_runHalves o_power o_notedMany o_knownTold o_drawn o_all o_laidIm o_laidRe o_quarter o_told) H → va_D A (wX10_wings cI cJ cZ h_o h_o_all h_o_laidIm h_o_laidRe h_o_quarter h_o_told h_o_tape h_o_words h_o_isTold h_o_toldWave h_o_isPoint h_o_roots h_o_byOrder h_o_noted1 h_o_counts h_o_binBy o_tapeSize o_thrown o_fault o_faultPlace o_stop o_next o_kind o_which o_at o_pointsRead o_bank o_isImage o_undos o_runRadix o_runOrder o_runNear o_runLimit o_runHalves o_power o_notedMany o_knownTold o_drawn o_all o_laidIm o_laidRe o_quarter o_told) → va_S A s.heap H locs → lv_has ls 5 [(0, .ref h_o), (1, .int v1), (2, .int v2), (3, .int v3), (4, .int v4)] → W p l e ({ frames := 4, cells := 0, slots := 0, locals := 100 } : Room) s m ([.ref h_o, .int p1] : List Value).toArray below meth c H locs 0 0 Q (F0 m 11 ls []) := by
    intro n
    induction n with
    | zero =>
      intro o_all o_laidIm o_laidRe v1 v2 v3 v4 H locs ls hf
      have hf : (none : Option ((Nat → Int32) × (Nat → Int32) × (Nat → Int32))) = some (out_o_all, out_o_laidIm, out_o_laidRe) := hf
      cases hf
    | succ n ih =>
      intro o_all o_laidIm o_laidRe v1 v2 v3 v4 H locs ls hf hP hD hS hl
      rw [fX10_wings_11.eq_2] at hf
      refine lv_iload hx hb dX10_wings_11 (lv_at hl 4 rfl) ?_
      refine lv_iload_n hx hb dX10_wings_13 rfl (lv_at hl 1 rfl) ?_
      refine lv_icmp_ge (tgt := 32) hx hb dX10_wings_14 (by decide) (fun c_3 => ?_) (fun c_3 => ?_)
      · have hf := it_t c_3 hf
        exact j32 o_all o_laidIm o_laidRe v2 v3 H locs ls hf hP hD hS (lv_sub hl [0, 2, 3] rfl)
      · have hf := it_f c_3 hf
        refine lv_iload_n hx hb dX10_wings_17 rfl (lv_at hl 3 rfl) ?_
        refine lv_aload_n hx hb dX10_wings_18 rfl (lv_at hl 0 rfl) ?_
        refine lv_iload hx hb dX10_wings_19 (lv_at hl 4 rfl) ?_
        obtain ⟨r_4, e_5, hf⟩ := bd1_x hf
        refine call_v [.int v4] [.int v3] ⟨hx, hb, hml, hown, hts⟩ hK hP hD hS hA hl.1 (tX10_radixAt l G cI cJ cZ H.size h_o h_o_tape h_o_words h_o_told h_o_isTold h_o_toldWave h_o_isPoint h_o_all h_o_quarter h_o_roots h_o_laidRe h_o_laidIm h_o_byOrder h_o_noted1 h_o_counts h_o_binBy o_tapeSize o_thrown o_fault o_faultPlace o_stop o_next o_kind o_which o_at o_pointsRead o_bank o_isImage o_undos o_runRadix o_runOrder o_runNear o_runLimit o_runHalves o_power o_notedMany o_knownTold o_drawn v4 r_4 e_5) (cwV 1 hts (gv q_mX10_219 q_i_yX10_radixAt q_s_yX10_radixAt q_n_RX10 q_k_yX10_radixAt) rfl rfl rfl (by decide +kernel) ⟨by decide, by decide⟩) rfl rfl (Nat.le_of_ble_eq_true rfl) dX10_wings_21 ⟨Nat.zero_le _, Nat.zero_le _⟩ (ci := 10) rfl 0 rfl [0] [1, 2, 3, 4, 5] [5, 0, 1, 2, 3, 4] rfl rfl (ws2 := (wX10_wings cI cJ cZ h_o h_o_all h_o_laidIm h_o_laidRe h_o_quarter h_o_told h_o_tape h_o_words h_o_isTold h_o_toldWave h_o_isPoint h_o_roots h_o_byOrder h_o_noted1 h_o_counts h_o_binBy o_tapeSize o_thrown o_fault o_faultPlace o_stop o_next o_kind o_which o_at o_pointsRead o_bank o_isImage o_undos o_runRadix o_runOrder o_runNear o_runLimit o_runHalves o_power o_notedMany o_knownTold o_drawn o_all o_laidIm o_laidRe o_quarter o_told)) rfl (fun H locs hP hD hS => ?_)
        refine W.eq (g2 := F0 m 24 ls [.int r_4, .int v3]) rfl ?_
        refine lv_imul hx hb dX10_wings_24 ?_
        refine lv_topi (fun v3_6 ev3_6 => ?_)
        have hf := nm_x ev3_6 hf
        refine lv_istore_n (lv' := [(3, .int v3_6), (0, .ref h_o), (1, .int v1), (2, .int v2), (4, .int v4)]) hx hb dX10_wings_25 rfl hl (by decide) rfl (fun ls hl => ?_)
        obtain ⟨v4_7, ev4_7⟩ : ∃ y : Int32, y = v4 + (1 : Int32) := ⟨_, rfl⟩
        have hf := nm_x ev4_7 hf
        refine lv_iinc (v := v4_7) (lv' := [(4, .int v4_7), (3, .int v3_6), (0, .ref h_o), (1, .int v1), (2, .int v2)]) hx hb dX10_wings_26 hl (k := 4) rfl (by rw [ev4_7]; rfl) (by decide) rfl (fun ls hl => ?_)
        refine lv_goto (tgt := 11) hx hb dX10_wings_29 (by decide) ?_
        exact ih o_all o_laidIm o_laidRe v1 v2 v3_6 v4_7 H locs ls hf hP hD hS (lv_sub hl [2, 3, 4, 1, 0] rfl)
  unfold fX10_wings at hf
  obtain ⟨H, eH⟩ : ∃ H, H = s.heap := ⟨_, rfl⟩
  obtain ⟨locs, elocs⟩ : ∃ z : List Loc, z = [] := ⟨_, rfl⟩
  have hP : va_P G vwCl (wX10_wings cI cJ cZ h_o h_o_all h_o_laidIm h_o_laidRe h_o_quarter h_o_told h_o_tape h_o_words h_o_isTold h_o_toldWave h_o_isPoint h_o_roots h_o_byOrder h_o_noted1 h_o_counts h_o_binBy o_tapeSize o_thrown o_fault o_faultPlace o_stop o_next o_kind o_which o_at o_pointsRead o_bank o_isImage o_undos o_runRadix o_runOrder o_runNear o_runLimit o_runHalves o_power o_notedMany o_knownTold o_drawn o_all o_laidIm o_laidRe o_quarter o_told) H := by rw [eH]; exact hP
  have hS : va_S A s.heap H locs := by rw [eH, elocs]; exact hS
  suffices hgo : W p l e ({ frames := 4, cells := 0, slots := 0, locals := 100 } : Room) s m ([.ref h_o, .int p1] : List Value).toArray below meth c H locs 0 0 Q (F0 m 0 ls []) by rw [eH, elocs] at hgo; exact hgo
  clear eH elocs
  refine lv_aload_n hx hb dX10_wings_0 rfl (lv_at hl 0 rfl) ?_
  refine lv_iload_n hx hb dX10_wings_1 rfl (lv_at hl 1 rfl) ?_
  obtain ⟨r_1, e_2, hf⟩ := bd1_x hf
  refine call_v [.int p1] [] ⟨hx, hb, hml, hown, hts⟩ hK hP hD hS hA hl.1 (tX10_radixAt l G cI cJ cZ H.size h_o h_o_tape h_o_words h_o_told h_o_isTold h_o_toldWave h_o_isPoint h_o_all h_o_quarter h_o_roots h_o_laidRe h_o_laidIm h_o_byOrder h_o_noted1 h_o_counts h_o_binBy o_tapeSize o_thrown o_fault o_faultPlace o_stop o_next o_kind o_which o_at o_pointsRead o_bank o_isImage o_undos o_runRadix o_runOrder o_runNear o_runLimit o_runHalves o_power o_notedMany o_knownTold o_drawn p1 r_1 e_2) (cwV 1 hts (gv q_mX10_219 q_i_yX10_radixAt q_s_yX10_radixAt q_n_RX10 q_k_yX10_radixAt) rfl rfl rfl (by decide +kernel) ⟨by decide, by decide⟩) rfl rfl (Nat.le_of_ble_eq_true rfl) dX10_wings_2 ⟨Nat.zero_le _, Nat.zero_le _⟩ (ci := 10) rfl 0 rfl [0] [1, 2, 3, 4, 5] [5, 0, 1, 2, 3, 4] rfl rfl (ws2 := (wX10_wings cI cJ cZ h_o h_o_all h_o_laidIm h_o_laidRe h_o_quarter h_o_told h_o_tape h_o_words h_o_isTold h_o_toldWave h_o_isPoint h_o_roots h_o_byOrder h_o_noted1 h_o_counts h_o_binBy o_tapeSize o_thrown o_fault o_faultPlace o_stop o_next o_kind o_which o_at o_pointsRead o_bank o_isImage o_undos o_runRadix o_runOrder o_runNear o_runLimit o_runHalves o_power o_notedMany o_knownTold o_drawn o_all o_laidIm o_laidRe o_quarter o_told)) rfl (fun H locs hP hD hS => ?_)
  refine W.eq (g2 := F0 m 5 ls [.int r_1]) rfl ?_
  refine lv_istore_n (lv' := [(2, .int r_1), (0, .ref h_o), (1, .int p1)]) hx hb dX10_wings_5 rfl hl (by decide) rfl (fun ls hl => ?_)
  refine lv_iconst (v := (1 : Int32)) hx hb dX10_wings_6 (by decide) ?_
  refine lv_istore_n (lv' := [(3, .int (1 : Int32)), (2, .int r_1), (0, .ref h_o), (1, .int p1)]) hx hb dX10_wings_7 rfl hl (by decide) rfl (fun ls hl => ?_)
  refine lv_iconst (v := (0 : Int32)) hx hb dX10_wings_8 (by decide) ?_
  refine lv_istore (lv' := [(4, .int (0 : Int32)), (3, .int (1 : Int32)), (2, .int r_1), (0, .ref h_o), (1, .int p1)]) hx hb dX10_wings_9 hl (by decide) rfl (fun ls hl => ?_)
  exact j11 FU o_all o_laidIm o_laidRe p1 r_1 (1 : Int32) (0 : Int32) H locs ls hf hP hD hS (lv_sub hl [3, 4, 2, 1, 0] rfl)
def wX10_turnsOver (cI cJ cZ : ClassId) (h_o h_o_all h_o_tape h_o_words h_o_told h_o_isTold h_o_toldWave h_o_isPoint h_o_quarter h_o_roots h_o_laidRe h_o_laidIm h_o_byOrder h_o_noted1 h_o_counts h_o_binBy : Nat) (o_tapeSize : Int32) (o_thrown : Int32) (o_fault : Int32) (o_faultPlace : Int32) (o_stop : Int32) (o_next : Int32) (o_kind : Int32) (o_which : Int32) (o_at : Int32) (o_pointsRead : Int32) (o_bank : Int32) (o_isImage : Int32) (o_undos : Int32) (o_runRadix : Int32) (o_runOrder : Int32) (o_runNear : Int32) (o_runLimit : Int32) (o_runHalves : Int32) (o_power : Int32) (o_notedMany : Int32) (o_knownTold : Int32) (o_drawn : Int64) (o_all : Nat → Int32) : va_W := [(h_o, .inr (10, [.ref h_o_tape, .int o_tapeSize, .int o_thrown, .ref h_o_words, .int o_fault, .int o_faultPlace, .int o_stop, .int o_next, .int o_kind, .int o_which, .int o_at, .ref h_o_told, .ref h_o_isTold, .ref h_o_toldWave, .ref h_o_isPoint, .int o_pointsRead, .ref h_o_all, .int o_bank, .int o_isImage, .int o_undos, .int o_runRadix, .int o_runOrder, .int o_runNear, .int o_runLimit, .int o_runHalves, .ref h_o_quarter, .int o_power, .ref h_o_roots, .ref h_o_laidRe, .ref h_o_laidIm, .ref h_o_byOrder, .int o_notedMany, .int o_knownTold, .ref h_o_noted1, .ref h_o_counts, .ref h_o_binBy, .long o_drawn])), (h_o_all, .inl (cI, 3128, .inl o_all))]
def fX10_turnsOver_2 (o_bank : Int32) : Nat → (Nat → Int32) → Int32 → Option ((Nat → Int32))
  | 0, _, _ => none
  | n + 1, o_all, v1 =>
    if (32 : Int32) ≤ v1 then (
      some o_all
    ) else (
      bd1 (fX10_of o_bank o_all ((32 : Int32) + v1)) (fun r_2 =>
      bd1 (fX10_lay o_bank o_all ((32 : Int32) + v1) (-r_2)) (fun o_all_4 =>
      nm (v1 + (1 : Int32)) (fun v1_6 =>
      fX10_turnsOver_2 o_bank n o_all_4 v1_6)))
    )
def fX10_turnsOver (o_bank : Int32) (o_all : Nat → Int32) : Option ((Nat → Int32)) :=
  fX10_turnsOver_2 o_bank FU o_all (0 : Int32)
set_option maxHeartbeats 4000000 in
set_option maxRecDepth 100000 in
theorem tX10_turnsOver (l : Launch) (G : va_G) (cI cJ cZ : ClassId) (sz : Nat) (h_o h_o_all h_o_tape h_o_words h_o_told h_o_isTold h_o_toldWave h_o_isPoint h_o_quarter h_o_roots h_o_laidRe h_o_laidIm h_o_byOrder h_o_noted1 h_o_counts h_o_binBy : Nat) (o_tapeSize : Int32) (o_thrown : Int32) (o_fault : Int32) (o_faultPlace : Int32) (o_stop : Int32) (o_next : Int32) (o_kind : Int32) (o_which : Int32) (o_at : Int32) (o_pointsRead : Int32) (o_bank : Int32) (o_isImage : Int32) (o_undos : Int32) (o_runRadix : Int32) (o_runOrder : Int32) (o_runNear : Int32) (o_runLimit : Int32) (o_runHalves : Int32) (o_power : Int32) (o_notedMany : Int32) (o_knownTold : Int32) (o_drawn : Int64) (o_all : Nat → Int32) (out_o_all : Nat → Int32) (hf : fX10_turnsOver o_bank o_all = some out_o_all) : Met l yX10_turnsOver (Cond.code yX10_turnsOver cX10_turnsOver 2 none :: BIG) ({ frames := 1, cells := 0, slots := 0, locals := 22 } : Room) (cP G (TY3 cI cJ cZ) [.ref h_o] sz (wX10_turnsOver cI cJ cZ h_o h_o_all h_o_tape h_o_words h_o_told h_o_isTold h_o_toldWave h_o_isPoint h_o_quarter h_o_roots h_o_laidRe h_o_laidIm h_o_byOrder h_o_noted1 h_o_counts h_o_binBy o_tapeSize o_thrown o_fault o_faultPlace o_stop o_next o_kind o_which o_at o_pointsRead o_bank o_isImage o_undos o_runRadix o_runOrder o_runNear o_runLimit o_runHalves o_power o_notedMany o_knownTold o_drawn o_all)) (cQ G (TY3 cI cJ cZ) sz (wX10_turnsOver cI cJ cZ h_o h_o_all h_o_tape h_o_words h_o_told h_o_isTold h_o_toldWave h_o_isPoint h_o_quarter h_o_roots h_o_laidRe h_o_laidIm h_o_byOrder h_o_noted1 h_o_counts h_o_binBy o_tapeSize o_thrown o_fault o_faultPlace o_stop o_next o_kind o_which o_at o_pointsRead o_bank o_isImage o_undos o_runRadix o_runOrder o_runNear o_runLimit o_runHalves o_power o_notedMany o_knownTold o_drawn o_all) (wX10_turnsOver cI cJ cZ h_o h_o_all h_o_tape h_o_words h_o_told h_o_isTold h_o_toldWave h_o_isPoint h_o_quarter h_o_roots h_o_laidRe h_o_laidIm h_o_byOrder h_o_noted1 h_o_counts h_o_binBy o_tapeSize o_thrown o_fault o_faultPlace o_stop o_next o_kind o_which o_at o_pointsRead o_bank o_isImage o_undos o_runRadix o_runOrder o_runNear o_runLimit o_runHalves o_power o_notedMany o_knownTold o_drawn out_o_all) none) 0 0 (va_A (wX10_turnsOver cI cJ cZ h_o h_o_all h_o_tape h_o_words h_o_told h_o_isTold h_o_toldWave h_o_isPoint h_o_quarter h_o_roots h_o_laidRe h_o_laidIm h_o_byOrder h_o_noted1 h_o_counts h_o_binBy o_tapeSize o_thrown o_fault o_faultPlace o_stop o_next o_kind o_which o_at o_pointsRead o_bank o_isImage o_undos o_runRadix o_runOrder o_runNear o_runLimit o_runHalves o_power o_notedMany o_knownTold o_drawn o_all) sz) := by
  refine met_v (cc := cX10_turnsOver) (maxL := 2) (plainFor_of_name (by decide)) (Nat.le_of_ble_eq_true rfl) (fun p e s m below meth c A ls Q hx hb hml hts hown hK hP hD hS hA hl hret => ?_)
  have hown : s.vm.findClass RX10 = some m.cls := hown
  have hl : lv_has ls 2 [(0, .ref h_o)] := hl
  have j2 : ∀ (n : Nat) (o_all : Nat → Int32) (v1 : Int32) (H : Heap) (locs : List Loc) (ls : Array Slot), fX10_turnsOver_2 o_bank n o_all v1 = some out_o_all → va_P G vwCl (wX10_turnsOver cI cJ cZ h_o h_o_all h_o_tape h_o_words h_o_told h_o_isTold h_o_toldWave h_o_isPoint h_o_quarter h_o_roots h_o_laidRe h_o_laidIm h_o_byOrder h_o_noted1 h_o_counts h_o_binBy o_tapeSize o_thrown o_fault o_faultPlace o_stop o_next o_kind o_which o_at o_pointsRead o_bank o_isImage o_undos o_runRadix o_runOrder o_runNear o_runLimit o_runHalves o_power o_notedMany o_knownTold o_drawn o_all) H → va_D A (wX10_turnsOver cI cJ cZ h_o h_o_all h_o_tape h_o_words h_o_told h_o_isTold h_o_toldWave h_o_isPoint h_o_quarter h_o_roots h_o_laidRe h_o_laidIm h_o_byOrder h_o_noted1 h_o_counts h_o_binBy o_tapeSize o_thrown o_fault o_faultPlace o_stop o_next o_kind o_which o_at o_pointsRead o_bank o_isImage o_undos o_runRadix o_runOrder o_runNear o_runLimit o_runHalves o_power o_notedMany o_knownTold o_drawn o_all) → va_S A s.heap H locs → lv_has ls 2 [(0, .ref h_o), (1, .int v1)] → W p l e ({ frames := 1, cells := 0, slots := 0, locals := 22 } : Room) s m ([.ref h_o] : List Value).toArray below meth c H locs 0 0 Q (F0 m 2 ls []) := by
    intro n
    induction n with
    | zero =>
      intro o_all v1 H locs ls hf
      have hf : (none : Option ((Nat → Int32))) = some out_o_all := hf
      cases hf
    | succ n ih =>
      intro o_all v1 H locs ls hf hP hD hS hl
      rw [fX10_turnsOver_2.eq_2] at hf
      refine lv_iload_n hx hb dX10_turnsOver_2 rfl (lv_at hl 1 rfl) ?_
      refine lv_bipush (v := (32 : Int32)) hx hb dX10_turnsOver_3 (by decide) ?_
      refine lv_icmp_ge (tgt := 31) hx hb dX10_turnsOver_5 (by decide) (fun c_1 => ?_) (fun c_1 => ?_)
      · have hf := it_t c_1 hf
        cases hf
        exact hret _ _ _ _ dX10_turnsOver_31 hP hD hS
      · have hf := it_f c_1 hf
        refine lv_aload_n hx hb dX10_turnsOver_8 rfl (lv_at hl 0 rfl) ?_
        refine lv_bipush (v := (32 : Int32)) hx hb dX10_turnsOver_9 (by decide) ?_
        refine lv_iload_n hx hb dX10_turnsOver_11 rfl (lv_at hl 1 rfl) ?_
        refine lv_iadd hx hb dX10_turnsOver_12 ?_
        refine lv_aload_n hx hb dX10_turnsOver_13 rfl (lv_at hl 0 rfl) ?_
        refine lv_bipush (v := (32 : Int32)) hx hb dX10_turnsOver_14 (by decide) ?_
        refine lv_iload_n hx hb dX10_turnsOver_16 rfl (lv_at hl 1 rfl) ?_
        refine lv_iadd hx hb dX10_turnsOver_17 ?_
        obtain ⟨r_2, e_3, hf⟩ := bd1_x hf
        refine call_v [.int ((32 : Int32) + v1)] [.int ((32 : Int32) + v1), .ref h_o] ⟨hx, hb, hml, hown, hts⟩ hK hP hD hS hA hl.1 (tX10_of l G cI cJ cZ H.size h_o h_o_all h_o_tape h_o_words h_o_told h_o_isTold h_o_toldWave h_o_isPoint h_o_quarter h_o_roots h_o_laidRe h_o_laidIm h_o_byOrder h_o_noted1 h_o_counts h_o_binBy o_tapeSize o_thrown o_fault o_faultPlace o_stop o_next o_kind o_which o_at o_pointsRead o_bank o_isImage o_undos o_runRadix o_runOrder o_runNear o_runLimit o_runHalves o_power o_notedMany o_knownTold o_drawn o_all ((32 : Int32) + v1) r_2 e_3) (cwV 1 hts (gv q_mX10_187 q_i_yX10_of q_s_yX10_of q_n_RX10 q_k_yX10_of) rfl rfl rfl (by decide +kernel) ⟨by decide, by decide⟩) rfl rfl (Nat.le_of_ble_eq_true rfl) dX10_turnsOver_18 ⟨Nat.zero_le _, Nat.zero_le _⟩ (ci := 10) rfl 0 rfl [0, 1] [] [0, 1] rfl rfl (ws2 := (wX10_turnsOver cI cJ cZ h_o h_o_all h_o_tape h_o_words h_o_told h_o_isTold h_o_toldWave h_o_isPoint h_o_quarter h_o_roots h_o_laidRe h_o_laidIm h_o_byOrder h_o_noted1 h_o_counts h_o_binBy o_tapeSize o_thrown o_fault o_faultPlace o_stop o_next o_kind o_which o_at o_pointsRead o_bank o_isImage o_undos o_runRadix o_runOrder o_runNear o_runLimit o_runHalves o_power o_notedMany o_knownTold o_drawn o_all)) rfl (fun H locs hP hD hS => ?_)
        refine W.eq (g2 := F0 m 21 ls [.int r_2, .int ((32 : Int32) + v1), .ref h_o]) rfl ?_
        refine lv_ineg hx hb dX10_turnsOver_21 ?_
        obtain ⟨o_all_4, e_5, hf⟩ := bd1_x hf
        refine call_v [.int ((32 : Int32) + v1), .int (-r_2)] [] ⟨hx, hb, hml, hown, hts⟩ hK hP hD hS hA hl.1 (tX10_lay l G cI cJ cZ H.size h_o h_o_all h_o_tape h_o_words h_o_told h_o_isTold h_o_toldWave h_o_isPoint h_o_quarter h_o_roots h_o_laidRe h_o_laidIm h_o_byOrder h_o_noted1 h_o_counts h_o_binBy o_tapeSize o_thrown o_fault o_faultPlace o_stop o_next o_kind o_which o_at o_pointsRead o_bank o_isImage o_undos o_runRadix o_runOrder o_runNear o_runLimit o_runHalves o_power o_notedMany o_knownTold o_drawn o_all ((32 : Int32) + v1) (-r_2) o_all_4 e_5) (cwV 2 hts (gv q_mX10_118 q_i_yX10_lay q_s_yX10_lay q_n_RX10 q_k_yX10_lay) rfl rfl rfl (by decide +kernel) ⟨by decide, by decide⟩) rfl rfl (Nat.le_of_ble_eq_true rfl) dX10_turnsOver_22 ⟨Nat.zero_le _, Nat.zero_le _⟩ (ci := 10) rfl 0 rfl [0, 1] [] [0, 1] rfl rfl (ws2 := (wX10_turnsOver cI cJ cZ h_o h_o_all h_o_tape h_o_words h_o_told h_o_isTold h_o_toldWave h_o_isPoint h_o_quarter h_o_roots h_o_laidRe h_o_laidIm h_o_byOrder h_o_noted1 h_o_counts h_o_binBy o_tapeSize o_thrown o_fault o_faultPlace o_stop o_next o_kind o_which o_at o_pointsRead o_bank o_isImage o_undos o_runRadix o_runOrder o_runNear o_runLimit o_runHalves o_power o_notedMany o_knownTold o_drawn o_all_4)) rfl (fun H locs hP hD hS => ?_)
        refine W.eq (g2 := F0 m 25 ls []) rfl ?_
        obtain ⟨v1_6, ev1_6⟩ : ∃ y : Int32, y = v1 + (1 : Int32) := ⟨_, rfl⟩
        have hf := nm_x ev1_6 hf
        refine lv_iinc (v := v1_6) (lv' := [(1, .int v1_6), (0, .ref h_o)]) hx hb dX10_turnsOver_25 hl (k := 1) rfl (by rw [ev1_6]; rfl) (by decide) rfl (fun ls hl => ?_)
        refine lv_goto (tgt := 2) hx hb dX10_turnsOver_28 (by decide) ?_
        exact ih o_all_4 v1_6 H locs ls hf hP hD hS (lv_sub hl [1, 0] rfl)
  unfold fX10_turnsOver at hf
  obtain ⟨H, eH⟩ : ∃ H, H = s.heap := ⟨_, rfl⟩
  obtain ⟨locs, elocs⟩ : ∃ z : List Loc, z = [] := ⟨_, rfl⟩
  have hP : va_P G vwCl (wX10_turnsOver cI cJ cZ h_o h_o_all h_o_tape h_o_words h_o_told h_o_isTold h_o_toldWave h_o_isPoint h_o_quarter h_o_roots h_o_laidRe h_o_laidIm h_o_byOrder h_o_noted1 h_o_counts h_o_binBy o_tapeSize o_thrown o_fault o_faultPlace o_stop o_next o_kind o_which o_at o_pointsRead o_bank o_isImage o_undos o_runRadix o_runOrder o_runNear o_runLimit o_runHalves o_power o_notedMany o_knownTold o_drawn o_all) H := by rw [eH]; exact hP
  have hS : va_S A s.heap H locs := by rw [eH, elocs]; exact hS
  suffices hgo : W p l e ({ frames := 1, cells := 0, slots := 0, locals := 22 } : Room) s m ([.ref h_o] : List Value).toArray below meth c H locs 0 0 Q (F0 m 0 ls []) by rw [eH, elocs] at hgo; exact hgo
  clear eH elocs
  refine lv_iconst (v := (0 : Int32)) hx hb dX10_turnsOver_0 (by decide) ?_
  refine lv_istore_n (lv' := [(1, .int (0 : Int32)), (0, .ref h_o)]) hx hb dX10_turnsOver_1 rfl hl (by decide) rfl (fun ls hl => ?_)
  exact j2 FU o_all (0 : Int32) H locs ls hf hP hD hS (lv_sub hl [1, 0] rfl)
def wX10_beats (cI cJ cZ : ClassId) (h_o h_o_all h_o_laidIm h_o_laidRe h_o_quarter h_o_told h_o_tape h_o_words h_o_isTold h_o_toldWave h_o_isPoint h_o_roots h_o_byOrder h_o_noted1 h_o_counts h_o_binBy : Nat) (o_tapeSize : Int32) (o_thrown : Int32) (o_fault : Int32) (o_faultPlace : Int32) (o_stop : Int32) (o_next : Int32) (o_kind : Int32) (o_which : Int32) (o_at : Int32) (o_pointsRead : Int32) (o_bank : Int32) (o_isImage : Int32) (o_undos : Int32) (o_runRadix : Int32) (o_runOrder : Int32) (o_runNear : Int32) (o_runLimit : Int32) (o_runHalves : Int32) (o_power : Int32) (o_notedMany : Int32) (o_knownTold : Int32) (o_drawn : Int64) (o_all : Nat → Int32) (o_laidIm : Nat → Int32) (o_laidRe : Nat → Int32) (o_quarter : Nat → Int32) (o_told : Nat → Int32) : va_W := [(h_o, .inr (10, [.ref h_o_tape, .int o_tapeSize, .int o_thrown, .ref h_o_words, .int o_fault, .int o_faultPlace, .int o_stop, .int o_next, .int o_kind, .int o_which, .int o_at, .ref h_o_told, .ref h_o_isTold, .ref h_o_toldWave, .ref h_o_isPoint, .int o_pointsRead, .ref h_o_all, .int o_bank, .int o_isImage, .int o_undos, .int o_runRadix, .int o_runOrder, .int o_runNear, .int o_runLimit, .int o_runHalves, .ref h_o_quarter, .int o_power, .ref h_o_roots, .ref h_o_laidRe, .ref h_o_laidIm, .ref h_o_byOrder, .int o_notedMany, .int o_knownTold, .ref h_o_noted1, .ref h_o_counts, .ref h_o_binBy, .long o_drawn])), (h_o_all, .inl (cI, 3128, .inl o_all)), (h_o_laidIm, .inl (cI, 32, .inl o_laidIm)), (h_o_laidRe, .inl (cI, 32, .inl o_laidRe)), (h_o_quarter, .inl (cI, 9, .inl o_quarter)), (h_o_told, .inl (cI, 12, .inl o_told))]
def fX10_beats_70 (o_bank : Int32) (o_power : Int32) (o_all : Nat → Int32) (o_laidIm : Nat → Int32) (o_laidRe : Nat → Int32) (v1 : Int32) (v2 : Int32) (v3 : Int32) : Option (Int32 × (Nat → Int32) × (Nat → Int32) × (Nat → Int32)) :=
  bd1 (fX10_lay o_bank o_all ((131 : Int32) + v1) v2) (fun o_all_27 =>
  bd1 (fX10_of o_bank o_all_27 (128 : Int32)) (fun r_29 =>
  bd1 (fX10_lay o_bank o_all_27 (128 : Int32) (r_29 + v2)) (fun o_all_31 =>
  bd1 (fX10_lay o_bank o_all_31 (129 : Int32) (v1 + (1 : Int32))) (fun o_all_33 =>
  if v3 = 0 then (
    some (v2, o_all_33, o_laidIm, o_laidRe)
  ) else (
    bd1 (fX10_of o_bank o_all_33 (130 : Int32)) (fun r_36 =>
    if r_36 = (1 : Int32) then (
      bd1 (fX10_turnsOver o_bank o_all_33) (fun o_all_39 =>
      bd1 (fX10_of o_bank o_all_39 (128 : Int32)) (fun r_41 =>
      bd1 (fX10_powerOf o_power) (fun r_43 =>
      bd1 (fX10_lay o_bank o_all_39 (128 : Int32) (r_41 - r_43)) (fun o_all_45 =>
      some (v2, o_all_45, o_laidIm, o_laidRe)))))
    ) else (
      some (v2, o_all_33, o_laidIm, o_laidRe)
    ))
  )))))
def fX10_beats_53 (o_bank : Int32) (o_runRadix : Int32) (o_runOrder : Int32) (o_power : Int32) (o_told : Nat → Int32) (o_all : Nat → Int32) (o_laidIm : Nat → Int32) (o_laidRe : Nat → Int32) (v1 : Int32) (v2 : Int32) (s0 : Int32) : Option (Int32 × (Nat → Int32) × (Nat → Int32) × (Nat → Int32)) :=
  if o_runOrder = (1 : Int32) then (
    if s0 = 0 then (
      fX10_beats_70 o_bank o_power o_all o_laidIm o_laidRe v1 v2 s0
    ) else (
      bd3 (fX10_reverses o_bank o_runRadix o_runOrder o_power o_all o_laidIm o_laidRe o_told) (fun o_all_23 o_laidIm_24 o_laidRe_25 =>
      fX10_beats_70 o_bank o_power o_all_23 o_laidIm_24 o_laidRe_25 v1 v2 s0)
    )
  ) else (
    fX10_beats_70 o_bank o_power o_all o_laidIm o_laidRe v1 v2 s0
  )
def fX10_beats_23 (o_bank : Int32) (o_runRadix : Int32) (o_runOrder : Int32) (o_runNear : Int32) (o_runLimit : Int32) (o_runHalves : Int32) (o_power : Int32) (o_quarter : Nat → Int32) (o_told : Nat → Int32) (o_all : Nat → Int32) (o_laidIm : Nat → Int32) (o_laidRe : Nat → Int32) (v1 : Int32) : Option (Int32 × (Nat → Int32) × (Nat → Int32) × (Nat → Int32)) :=
  bd1 (fX10_radixAt o_runRadix o_runOrder o_power v1) (fun r_9 =>
  bd2 (fX10_halvedNow o_bank o_runOrder o_runNear o_runLimit o_runHalves o_all o_told r_9) (fun r_11 o_all_12 =>
  bd3 (fX10_wings o_bank o_runRadix o_runOrder o_runNear o_power o_all_12 o_laidIm o_laidRe o_quarter o_told v1) (fun o_all_14 o_laidIm_15 o_laidRe_16 =>
  bd1 (fX10_stagesMany o_runRadix o_power) (fun r_18 =>
  if v1 = (r_18 - (1 : Int32)) then (
    fX10_beats_53 o_bank o_runRadix o_runOrder o_power o_told o_all_14 o_laidIm_15 o_laidRe_16 v1 r_11 (1 : Int32)
  ) else (
    fX10_beats_53 o_bank o_runRadix o_runOrder o_power o_told o_all_14 o_laidIm_15 o_laidRe_16 v1 r_11 (0 : Int32)
  )))))
def fX10_beats (o_bank : Int32) (o_runRadix : Int32) (o_runOrder : Int32) (o_runNear : Int32) (o_runLimit : Int32) (o_runHalves : Int32) (o_power : Int32) (o_all : Nat → Int32) (o_laidIm : Nat → Int32) (o_laidRe : Nat → Int32) (o_quarter : Nat → Int32) (o_told : Nat → Int32) : Option (Int32 × (Nat → Int32) × (Nat → Int32) × (Nat → Int32)) :=
  bd1 (fX10_of o_bank o_all (129 : Int32)) (fun r_1 =>
  if o_runOrder = 0 then (
    if r_1 = 0 then (
      bd3 (fX10_reverses o_bank o_runRadix o_runOrder o_power o_all o_laidIm o_laidRe o_told) (fun o_all_5 o_laidIm_6 o_laidRe_7 =>
      fX10_beats_23 o_bank o_runRadix o_runOrder o_runNear o_runLimit o_runHalves o_power o_quarter o_told o_all_5 o_laidIm_6 o_laidRe_7 r_1)
    ) else (
      fX10_beats_23 o_bank o_runRadix o_runOrder o_runNear o_runLimit o_runHalves o_power o_quarter o_told o_all o_laidIm o_laidRe r_1
    )
  ) else (
    fX10_beats_23 o_bank o_runRadix o_runOrder o_runNear o_runLimit o_runHalves o_power o_quarter o_told o_all o_laidIm o_laidRe r_1
  ))
set_option maxHeartbeats 4000000 in
set_option maxRecDepth 100000 in
theorem tX10_beats (l : Launch) (G : va_G) (cI cJ cZ : ClassId) (sz : Nat) (h_o h_o_all h_o_laidIm h_o_laidRe h_o_quarter h_o_told h_o_tape h_o_words h_o_isTold h_o_toldWave h_o_isPoint h_o_roots h_o_byOrder h_o_noted1 h_o_counts h_o_binBy : Nat) (o_tapeSize : Int32) (o_thrown : Int32) (o_fault : Int32) (o_faultPlace : Int32) (o_stop : Int32) (o_next : Int32) (o_kind : Int32) (o_which : Int32) (o_at : Int32) (o_pointsRead : Int32) (o_bank : Int32) (o_isImage : Int32) (o_undos : Int32) (o_runRadix : Int32) (o_runOrder : Int32) (o_runNear : Int32) (o_runLimit : Int32) (o_runHalves : Int32) (o_power : Int32) (o_notedMany : Int32) (o_knownTold : Int32) (o_drawn : Int64) (o_all : Nat → Int32) (o_laidIm : Nat → Int32) (o_laidRe : Nat → Int32) (o_quarter : Nat → Int32) (o_told : Nat → Int32) (r : Int32) (out_o_all : Nat → Int32) (out_o_laidIm : Nat → Int32) (out_o_laidRe : Nat → Int32) (hf : fX10_beats o_bank o_runRadix o_runOrder o_runNear o_runLimit o_runHalves o_power o_all o_laidIm o_laidRe o_quarter o_told = some (r, out_o_all, out_o_laidIm, out_o_laidRe)) : Met l yX10_beats (Cond.code yX10_beats cX10_beats 4 (some .int) :: BIG) ({ frames := 5, cells := 0, slots := 0, locals := 124 } : Room) (cP G (TY3 cI cJ cZ) [.ref h_o] sz (wX10_beats cI cJ cZ h_o h_o_all h_o_laidIm h_o_laidRe h_o_quarter h_o_told h_o_tape h_o_words h_o_isTold h_o_toldWave h_o_isPoint h_o_roots h_o_byOrder h_o_noted1 h_o_counts h_o_binBy o_tapeSize o_thrown o_fault o_faultPlace o_stop o_next o_kind o_which o_at o_pointsRead o_bank o_isImage o_undos o_runRadix o_runOrder o_runNear o_runLimit o_runHalves o_power o_notedMany o_knownTold o_drawn o_all o_laidIm o_laidRe o_quarter o_told)) (cQ G (TY3 cI cJ cZ) sz (wX10_beats cI cJ cZ h_o h_o_all h_o_laidIm h_o_laidRe h_o_quarter h_o_told h_o_tape h_o_words h_o_isTold h_o_toldWave h_o_isPoint h_o_roots h_o_byOrder h_o_noted1 h_o_counts h_o_binBy o_tapeSize o_thrown o_fault o_faultPlace o_stop o_next o_kind o_which o_at o_pointsRead o_bank o_isImage o_undos o_runRadix o_runOrder o_runNear o_runLimit o_runHalves o_power o_notedMany o_knownTold o_drawn o_all o_laidIm o_laidRe o_quarter o_told) (wX10_beats cI cJ cZ h_o h_o_all h_o_laidIm h_o_laidRe h_o_quarter h_o_told h_o_tape h_o_words h_o_isTold h_o_toldWave h_o_isPoint h_o_roots h_o_byOrder h_o_noted1 h_o_counts h_o_binBy o_tapeSize o_thrown o_fault o_faultPlace o_stop o_next o_kind o_which o_at o_pointsRead o_bank o_isImage o_undos o_runRadix o_runOrder o_runNear o_runLimit o_runHalves o_power o_notedMany o_knownTold o_drawn out_o_all out_o_laidIm out_o_laidRe o_quarter o_told) (some (.int r))) 0 0 (va_A (wX10_beats cI cJ cZ h_o h_o_all h_o_laidIm h_o_laidRe h_o_quarter h_o_told h_o_tape h_o_words h_o_isTold h_o_toldWave h_o_isPoint h_o_roots h_o_byOrder h_o_noted1 h_o_counts h_o_binBy o_tapeSize o_thrown o_fault o_faultPlace o_stop o_next o_kind o_which o_at o_pointsRead o_bank o_isImage o_undos o_runRadix o_runOrder o_runNear o_runLimit o_runHalves o_power o_notedMany o_knownTold o_drawn o_all o_laidIm o_laidRe o_quarter o_told) sz) := by
  refine met_i (cc := cX10_beats) (maxL := 4) (plainFor_of_name (by decide)) (Nat.le_of_ble_eq_true rfl) (fun p e s m below meth c A ls Q hx hb hml hts hown hK hP hD hS hA hl hret => ?_)
  have hown : s.vm.findClass RX10 = some m.cls := hown
  have hl : lv_has ls 4 [(0, .ref h_o)] := hl
  have j70 : ∀ (o_all : Nat → Int32) (o_laidIm : Nat → Int32) (o_laidRe : Nat → Int32) (v1 : Int32) (v2 : Int32) (v3 : Int32) (H : Heap) (locs : List Loc) (ls : Array Slot), fX10_beats_70 o_bank o_power o_all o_laidIm o_laidRe v1 v2 v3 = some (r, out_o_all, out_o_laidIm, out_o_laidRe) → va_P G vwCl (wX10_beats cI cJ cZ h_o h_o_all h_o_laidIm h_o_laidRe h_o_quarter h_o_told h_o_tape h_o_words h_o_isTold h_o_toldWave h_o_isPoint h_o_roots h_o_byOrder h_o_noted1 h_o_counts h_o_binBy o_tapeSize o_thrown o_fault o_faultPlace o_stop o_next o_kind o_which o_at o_pointsRead o_bank o_isImage o_undos o_runRadix o_runOrder o_runNear o_runLimit o_runHalves o_power o_notedMany o_knownTold o_drawn o_all o_laidIm o_laidRe o_quarter o_told) H → va_D A (wX10_beats cI cJ cZ h_o h_o_all h_o_laidIm h_o_laidRe h_o_quarter h_o_told h_o_tape h_o_words h_o_isTold h_o_toldWave h_o_isPoint h_o_roots h_o_byOrder h_o_noted1 h_o_counts h_o_binBy o_tapeSize o_thrown o_fault o_faultPlace o_stop o_next o_kind o_which o_at o_pointsRead o_bank o_isImage o_undos o_runRadix o_runOrder o_runNear o_runLimit o_runHalves o_power o_notedMany o_knownTold o_drawn o_all o_laidIm o_laidRe o_quarter o_told) → va_S A s.heap H locs → lv_has ls 4 [(0, .ref h_o), (1, .int v1), (2, .int v2), (3, .int v3)] → W p l e ({ frames := 5, cells := 0, slots := 0, locals := 124 } : Room) s m ([.ref h_o] : List Value).toArray below meth c H locs 0 0 Q (F0 m 70 ls []) := by
    intro o_all o_laidIm o_laidRe v1 v2 v3 H locs ls hf hP hD hS hl
    unfold fX10_beats_70 at hf
    refine lv_aload_n hx hb dX10_beats_70 rfl (lv_at hl 0 rfl) ?_
    refine lv_sipush (v := (131 : Int32)) hx hb dX10_beats_71 (by decide) ?_
    refine lv_iload_n hx hb dX10_beats_74 rfl (lv_at hl 1 rfl) ?_
    refine lv_iadd hx hb dX10_beats_75 ?_
    refine lv_iload_n hx hb dX10_beats_76 rfl (lv_at hl 2 rfl) ?_
    obtain ⟨o_all_27, e_28, hf⟩ := bd1_x hf
    refine call_v [.int ((131 : Int32) + v1), .int v2] [] ⟨hx, hb, hml, hown, hts⟩ hK hP hD hS hA hl.1 (tX10_lay l G cI cJ cZ H.size h_o h_o_all h_o_tape h_o_words h_o_told h_o_isTold h_o_toldWave h_o_isPoint h_o_quarter h_o_roots h_o_laidRe h_o_laidIm h_o_byOrder h_o_noted1 h_o_counts h_o_binBy o_tapeSize o_thrown o_fault o_faultPlace o_stop o_next o_kind o_which o_at o_pointsRead o_bank o_isImage o_undos o_runRadix o_runOrder o_runNear o_runLimit o_runHalves o_power o_notedMany o_knownTold o_drawn o_all ((131 : Int32) + v1) v2 o_all_27 e_28) (cwV 2 hts (gv q_mX10_118 q_i_yX10_lay q_s_yX10_lay q_n_RX10 q_k_yX10_lay) rfl rfl rfl (by decide +kernel) ⟨by decide, by decide⟩) rfl rfl (Nat.le_of_ble_eq_true rfl) dX10_beats_77 ⟨Nat.zero_le _, Nat.zero_le _⟩ (ci := 10) rfl 0 rfl [0, 1] [2, 3, 4, 5] [4, 5, 0, 1, 2, 3] rfl rfl (ws2 := (wX10_beats cI cJ cZ h_o h_o_all h_o_laidIm h_o_laidRe h_o_quarter h_o_told h_o_tape h_o_words h_o_isTold h_o_toldWave h_o_isPoint h_o_roots h_o_byOrder h_o_noted1 h_o_counts h_o_binBy o_tapeSize o_thrown o_fault o_faultPlace o_stop o_next o_kind o_which o_at o_pointsRead o_bank o_isImage o_undos o_runRadix o_runOrder o_runNear o_runLimit o_runHalves o_power o_notedMany o_knownTold o_drawn o_all_27 o_laidIm o_laidRe o_quarter o_told)) rfl (fun H locs hP hD hS => ?_)
    refine W.eq (g2 := F0 m 80 ls []) rfl ?_
    refine lv_aload_n hx hb dX10_beats_80 rfl (lv_at hl 0 rfl) ?_
    refine lv_sipush (v := (128 : Int32)) hx hb dX10_beats_81 (by decide) ?_
    refine lv_aload_n hx hb dX10_beats_84 rfl (lv_at hl 0 rfl) ?_
    refine lv_sipush (v := (128 : Int32)) hx hb dX10_beats_85 (by decide) ?_
    obtain ⟨r_29, e_30, hf⟩ := bd1_x hf
    refine call_v [.int (128 : Int32)] [.int (128 : Int32), .ref h_o] ⟨hx, hb, hml, hown, hts⟩ hK hP hD hS hA hl.1 (tX10_of l G cI cJ cZ H.size h_o h_o_all h_o_tape h_o_words h_o_told h_o_isTold h_o_toldWave h_o_isPoint h_o_quarter h_o_roots h_o_laidRe h_o_laidIm h_o_byOrder h_o_noted1 h_o_counts h_o_binBy o_tapeSize o_thrown o_fault o_faultPlace o_stop o_next o_kind o_which o_at o_pointsRead o_bank o_isImage o_undos o_runRadix o_runOrder o_runNear o_runLimit o_runHalves o_power o_notedMany o_knownTold o_drawn o_all_27 (128 : Int32) r_29 e_30) (cwV 1 hts (gv q_mX10_187 q_i_yX10_of q_s_yX10_of q_n_RX10 q_k_yX10_of) rfl rfl rfl (by decide +kernel) ⟨by decide, by decide⟩) rfl rfl (Nat.le_of_ble_eq_true rfl) dX10_beats_88 ⟨Nat.zero_le _, Nat.zero_le _⟩ (ci := 10) rfl 0 rfl [0, 1] [2, 3, 4, 5] [4, 5, 0, 1, 2, 3] rfl rfl (ws2 := (wX10_beats cI cJ cZ h_o h_o_all h_o_laidIm h_o_laidRe h_o_quarter h_o_told h_o_tape h_o_words h_o_isTold h_o_toldWave h_o_isPoint h_o_roots h_o_byOrder h_o_noted1 h_o_counts h_o_binBy o_tapeSize o_thrown o_fault o_faultPlace o_stop o_next o_kind o_which o_at o_pointsRead o_bank o_isImage o_undos o_runRadix o_runOrder o_runNear o_runLimit o_runHalves o_power o_notedMany o_knownTold o_drawn o_all_27 o_laidIm o_laidRe o_quarter o_told)) rfl (fun H locs hP hD hS => ?_)
    refine W.eq (g2 := F0 m 91 ls [.int r_29, .int (128 : Int32), .ref h_o]) rfl ?_
    refine lv_iload_n hx hb dX10_beats_91 rfl (lv_at hl 2 rfl) ?_
    refine lv_iadd hx hb dX10_beats_92 ?_
    obtain ⟨o_all_31, e_32, hf⟩ := bd1_x hf
    refine call_v [.int (128 : Int32), .int (r_29 + v2)] [] ⟨hx, hb, hml, hown, hts⟩ hK hP hD hS hA hl.1 (tX10_lay l G cI cJ cZ H.size h_o h_o_all h_o_tape h_o_words h_o_told h_o_isTold h_o_toldWave h_o_isPoint h_o_quarter h_o_roots h_o_laidRe h_o_laidIm h_o_byOrder h_o_noted1 h_o_counts h_o_binBy o_tapeSize o_thrown o_fault o_faultPlace o_stop o_next o_kind o_which o_at o_pointsRead o_bank o_isImage o_undos o_runRadix o_runOrder o_runNear o_runLimit o_runHalves o_power o_notedMany o_knownTold o_drawn o_all_27 (128 : Int32) (r_29 + v2) o_all_31 e_32) (cwV 2 hts (gv q_mX10_118 q_i_yX10_lay q_s_yX10_lay q_n_RX10 q_k_yX10_lay) rfl rfl rfl (by decide +kernel) ⟨by decide, by decide⟩) rfl rfl (Nat.le_of_ble_eq_true rfl) dX10_beats_93 ⟨Nat.zero_le _, Nat.zero_le _⟩ (ci := 10) rfl 0 rfl [0, 1] [2, 3, 4, 5] [4, 5, 0, 1, 2, 3] rfl rfl (ws2 := (wX10_beats cI cJ cZ h_o h_o_all h_o_laidIm h_o_laidRe h_o_quarter h_o_told h_o_tape h_o_words h_o_isTold h_o_toldWave h_o_isPoint h_o_roots h_o_byOrder h_o_noted1 h_o_counts h_o_binBy o_tapeSize o_thrown o_fault o_faultPlace o_stop o_next o_kind o_which o_at o_pointsRead o_bank o_isImage o_undos o_runRadix o_runOrder o_runNear o_runLimit o_runHalves o_power o_notedMany o_knownTold o_drawn o_all_31 o_laidIm o_laidRe o_quarter o_told)) rfl (fun H locs hP hD hS => ?_)
    refine W.eq (g2 := F0 m 96 ls []) rfl ?_
    refine lv_aload_n hx hb dX10_beats_96 rfl (lv_at hl 0 rfl) ?_
    refine lv_sipush (v := (129 : Int32)) hx hb dX10_beats_97 (by decide) ?_
    refine lv_iload_n hx hb dX10_beats_100 rfl (lv_at hl 1 rfl) ?_
    refine lv_iconst (v := (1 : Int32)) hx hb dX10_beats_101 (by decide) ?_
    refine lv_iadd hx hb dX10_beats_102 ?_
    obtain ⟨o_all_33, e_34, hf⟩ := bd1_x hf
    refine call_v [.int (129 : Int32), .int (v1 + (1 : Int32))] [] ⟨hx, hb, hml, hown, hts⟩ hK hP hD hS hA hl.1 (tX10_lay l G cI cJ cZ H.size h_o h_o_all h_o_tape h_o_words h_o_told h_o_isTold h_o_toldWave h_o_isPoint h_o_quarter h_o_roots h_o_laidRe h_o_laidIm h_o_byOrder h_o_noted1 h_o_counts h_o_binBy o_tapeSize o_thrown o_fault o_faultPlace o_stop o_next o_kind o_which o_at o_pointsRead o_bank o_isImage o_undos o_runRadix o_runOrder o_runNear o_runLimit o_runHalves o_power o_notedMany o_knownTold o_drawn o_all_31 (129 : Int32) (v1 + (1 : Int32)) o_all_33 e_34) (cwV 2 hts (gv q_mX10_118 q_i_yX10_lay q_s_yX10_lay q_n_RX10 q_k_yX10_lay) rfl rfl rfl (by decide +kernel) ⟨by decide, by decide⟩) rfl rfl (Nat.le_of_ble_eq_true rfl) dX10_beats_103 ⟨Nat.zero_le _, Nat.zero_le _⟩ (ci := 10) rfl 0 rfl [0, 1] [2, 3, 4, 5] [4, 5, 0, 1, 2, 3] rfl rfl (ws2 := (wX10_beats cI cJ cZ h_o h_o_all h_o_laidIm h_o_laidRe h_o_quarter h_o_told h_o_tape h_o_words h_o_isTold h_o_toldWave h_o_isPoint h_o_roots h_o_byOrder h_o_noted1 h_o_counts h_o_binBy o_tapeSize o_thrown o_fault o_faultPlace o_stop o_next o_kind o_which o_at o_pointsRead o_bank o_isImage o_undos o_runRadix o_runOrder o_runNear o_runLimit o_runHalves o_power o_notedMany o_knownTold o_drawn o_all_33 o_laidIm o_laidRe o_quarter o_told)) rfl (fun H locs hP hD hS => ?_)
    refine W.eq (g2 := F0 m 106 ls []) rfl ?_
    refine lv_iload_n hx hb dX10_beats_106 rfl (lv_at hl 3 rfl) ?_
    refine lv_if_eq (tgt := 144) hx hb dX10_beats_107 (by decide) (fun c_35 => ?_) (fun c_35 => ?_)
    · have hf := it_t c_35 hf
      refine lv_iload_n hx hb dX10_beats_144 rfl (lv_at hl 2 rfl) ?_
      cases hf
      exact hret _ _ _ _ dX10_beats_145 hP hD hS
    · have hf := it_f c_35 hf
      refine lv_aload_n hx hb dX10_beats_110 rfl (lv_at hl 0 rfl) ?_
      refine lv_sipush (v := (130 : Int32)) hx hb dX10_beats_111 (by decide) ?_
      obtain ⟨r_36, e_37, hf⟩ := bd1_x hf
      refine call_v [.int (130 : Int32)] [] ⟨hx, hb, hml, hown, hts⟩ hK hP hD hS hA hl.1 (tX10_of l G cI cJ cZ H.size h_o h_o_all h_o_tape h_o_words h_o_told h_o_isTold h_o_toldWave h_o_isPoint h_o_quarter h_o_roots h_o_laidRe h_o_laidIm h_o_byOrder h_o_noted1 h_o_counts h_o_binBy o_tapeSize o_thrown o_fault o_faultPlace o_stop o_next o_kind o_which o_at o_pointsRead o_bank o_isImage o_undos o_runRadix o_runOrder o_runNear o_runLimit o_runHalves o_power o_notedMany o_knownTold o_drawn o_all_33 (130 : Int32) r_36 e_37) (cwV 1 hts (gv q_mX10_187 q_i_yX10_of q_s_yX10_of q_n_RX10 q_k_yX10_of) rfl rfl rfl (by decide +kernel) ⟨by decide, by decide⟩) rfl rfl (Nat.le_of_ble_eq_true rfl) dX10_beats_114 ⟨Nat.zero_le _, Nat.zero_le _⟩ (ci := 10) rfl 0 rfl [0, 1] [2, 3, 4, 5] [4, 5, 0, 1, 2, 3] rfl rfl (ws2 := (wX10_beats cI cJ cZ h_o h_o_all h_o_laidIm h_o_laidRe h_o_quarter h_o_told h_o_tape h_o_words h_o_isTold h_o_toldWave h_o_isPoint h_o_roots h_o_byOrder h_o_noted1 h_o_counts h_o_binBy o_tapeSize o_thrown o_fault o_faultPlace o_stop o_next o_kind o_which o_at o_pointsRead o_bank o_isImage o_undos o_runRadix o_runOrder o_runNear o_runLimit o_runHalves o_power o_notedMany o_knownTold o_drawn o_all_33 o_laidIm o_laidRe o_quarter o_told)) rfl (fun H locs hP hD hS => ?_)
      refine W.eq (g2 := F0 m 117 ls [.int r_36]) rfl ?_
      refine lv_iconst (v := (1 : Int32)) hx hb dX10_beats_117 (by decide) ?_
      refine lv_icmp_ne (tgt := 144) hx hb dX10_beats_118 (by decide) (fun c_38 => ?_) (fun c_38 => ?_)
      · have hf := it_f c_38 hf
        refine lv_iload_n hx hb dX10_beats_144 rfl (lv_at hl 2 rfl) ?_
        cases hf
        exact hret _ _ _ _ dX10_beats_145 hP hD hS
      · have hf := it_t c_38 hf
        refine lv_aload_n hx hb dX10_beats_121 rfl (lv_at hl 0 rfl) ?_
        obtain ⟨o_all_39, e_40, hf⟩ := bd1_x hf
        refine call_v [] [] ⟨hx, hb, hml, hown, hts⟩ hK hP hD hS hA hl.1 (tX10_turnsOver l G cI cJ cZ H.size h_o h_o_all h_o_tape h_o_words h_o_told h_o_isTold h_o_toldWave h_o_isPoint h_o_quarter h_o_roots h_o_laidRe h_o_laidIm h_o_byOrder h_o_noted1 h_o_counts h_o_binBy o_tapeSize o_thrown o_fault o_faultPlace o_stop o_next o_kind o_which o_at o_pointsRead o_bank o_isImage o_undos o_runRadix o_runOrder o_runNear o_runLimit o_runHalves o_power o_notedMany o_knownTold o_drawn o_all_33 o_all_39 e_40) (cwV 0 hts (gv q_mX10_265 q_i_yX10_turnsOver q_s_yX10_turnsOver q_n_RX10 q_k_yX10_turnsOver) rfl rfl rfl (by decide +kernel) ⟨by decide, by decide⟩) rfl rfl (Nat.le_of_ble_eq_true rfl) dX10_beats_122 ⟨Nat.zero_le _, Nat.zero_le _⟩ (ci := 10) rfl 0 rfl [0, 1] [2, 3, 4, 5] [4, 5, 0, 1, 2, 3] rfl rfl (ws2 := (wX10_beats cI cJ cZ h_o h_o_all h_o_laidIm h_o_laidRe h_o_quarter h_o_told h_o_tape h_o_words h_o_isTold h_o_toldWave h_o_isPoint h_o_roots h_o_byOrder h_o_noted1 h_o_counts h_o_binBy o_tapeSize o_thrown o_fault o_faultPlace o_stop o_next o_kind o_which o_at o_pointsRead o_bank o_isImage o_undos o_runRadix o_runOrder o_runNear o_runLimit o_runHalves o_power o_notedMany o_knownTold o_drawn o_all_39 o_laidIm o_laidRe o_quarter o_told)) rfl (fun H locs hP hD hS => ?_)
        refine W.eq (g2 := F0 m 125 ls []) rfl ?_
        refine lv_aload_n hx hb dX10_beats_125 rfl (lv_at hl 0 rfl) ?_
        refine lv_sipush (v := (128 : Int32)) hx hb dX10_beats_126 (by decide) ?_
        refine lv_aload_n hx hb dX10_beats_129 rfl (lv_at hl 0 rfl) ?_
        refine lv_sipush (v := (128 : Int32)) hx hb dX10_beats_130 (by decide) ?_
        obtain ⟨r_41, e_42, hf⟩ := bd1_x hf
        refine call_v [.int (128 : Int32)] [.int (128 : Int32), .ref h_o] ⟨hx, hb, hml, hown, hts⟩ hK hP hD hS hA hl.1 (tX10_of l G cI cJ cZ H.size h_o h_o_all h_o_tape h_o_words h_o_told h_o_isTold h_o_toldWave h_o_isPoint h_o_quarter h_o_roots h_o_laidRe h_o_laidIm h_o_byOrder h_o_noted1 h_o_counts h_o_binBy o_tapeSize o_thrown o_fault o_faultPlace o_stop o_next o_kind o_which o_at o_pointsRead o_bank o_isImage o_undos o_runRadix o_runOrder o_runNear o_runLimit o_runHalves o_power o_notedMany o_knownTold o_drawn o_all_39 (128 : Int32) r_41 e_42) (cwV 1 hts (gv q_mX10_187 q_i_yX10_of q_s_yX10_of q_n_RX10 q_k_yX10_of) rfl rfl rfl (by decide +kernel) ⟨by decide, by decide⟩) rfl rfl (Nat.le_of_ble_eq_true rfl) dX10_beats_133 ⟨Nat.zero_le _, Nat.zero_le _⟩ (ci := 10) rfl 0 rfl [0, 1] [2, 3, 4, 5] [4, 5, 0, 1, 2, 3] rfl rfl (ws2 := (wX10_beats cI cJ cZ h_o h_o_all h_o_laidIm h_o_laidRe h_o_quarter h_o_told h_o_tape h_o_words h_o_isTold h_o_toldWave h_o_isPoint h_o_roots h_o_byOrder h_o_noted1 h_o_counts h_o_binBy o_tapeSize o_thrown o_fault o_faultPlace o_stop o_next o_kind o_which o_at o_pointsRead o_bank o_isImage o_undos o_runRadix o_runOrder o_runNear o_runLimit o_runHalves o_power o_notedMany o_knownTold o_drawn o_all_39 o_laidIm o_laidRe o_quarter o_told)) rfl (fun H locs hP hD hS => ?_)
        refine W.eq (g2 := F0 m 136 ls [.int r_41, .int (128 : Int32), .ref h_o]) rfl ?_
        refine lv_aload_n hx hb dX10_beats_136 rfl (lv_at hl 0 rfl) ?_
        obtain ⟨r_43, e_44, hf⟩ := bd1_x hf
        refine call_v [] [.int r_41, .int (128 : Int32), .ref h_o] ⟨hx, hb, hml, hown, hts⟩ hK hP hD hS hA hl.1 (tX10_powerOf l G cI cJ cZ H.size h_o h_o_tape h_o_words h_o_told h_o_isTold h_o_toldWave h_o_isPoint h_o_all h_o_quarter h_o_roots h_o_laidRe h_o_laidIm h_o_byOrder h_o_noted1 h_o_counts h_o_binBy o_tapeSize o_thrown o_fault o_faultPlace o_stop o_next o_kind o_which o_at o_pointsRead o_bank o_isImage o_undos o_runRadix o_runOrder o_runNear o_runLimit o_runHalves o_power o_notedMany o_knownTold o_drawn r_43 e_44) (cwV 0 hts (gv q_mX10_213 q_i_yX10_powerOf q_s_yX10_powerOf q_n_RX10 q_k_yX10_powerOf) rfl rfl rfl (by decide +kernel) ⟨by decide, by decide⟩) rfl rfl (Nat.le_of_ble_eq_true rfl) dX10_beats_137 ⟨Nat.zero_le _, Nat.zero_le _⟩ (ci := 10) rfl 0 rfl [0] [1, 2, 3, 4, 5] [5, 0, 1, 2, 3, 4] rfl rfl (ws2 := (wX10_beats cI cJ cZ h_o h_o_all h_o_laidIm h_o_laidRe h_o_quarter h_o_told h_o_tape h_o_words h_o_isTold h_o_toldWave h_o_isPoint h_o_roots h_o_byOrder h_o_noted1 h_o_counts h_o_binBy o_tapeSize o_thrown o_fault o_faultPlace o_stop o_next o_kind o_which o_at o_pointsRead o_bank o_isImage o_undos o_runRadix o_runOrder o_runNear o_runLimit o_runHalves o_power o_notedMany o_knownTold o_drawn o_all_39 o_laidIm o_laidRe o_quarter o_told)) rfl (fun H locs hP hD hS => ?_)
        refine W.eq (g2 := F0 m 140 ls [.int r_43, .int r_41, .int (128 : Int32), .ref h_o]) rfl ?_
        refine lv_isub hx hb dX10_beats_140 ?_
        obtain ⟨o_all_45, e_46, hf⟩ := bd1_x hf
        refine call_v [.int (128 : Int32), .int (r_41 - r_43)] [] ⟨hx, hb, hml, hown, hts⟩ hK hP hD hS hA hl.1 (tX10_lay l G cI cJ cZ H.size h_o h_o_all h_o_tape h_o_words h_o_told h_o_isTold h_o_toldWave h_o_isPoint h_o_quarter h_o_roots h_o_laidRe h_o_laidIm h_o_byOrder h_o_noted1 h_o_counts h_o_binBy o_tapeSize o_thrown o_fault o_faultPlace o_stop o_next o_kind o_which o_at o_pointsRead o_bank o_isImage o_undos o_runRadix o_runOrder o_runNear o_runLimit o_runHalves o_power o_notedMany o_knownTold o_drawn o_all_39 (128 : Int32) (r_41 - r_43) o_all_45 e_46) (cwV 2 hts (gv q_mX10_118 q_i_yX10_lay q_s_yX10_lay q_n_RX10 q_k_yX10_lay) rfl rfl rfl (by decide +kernel) ⟨by decide, by decide⟩) rfl rfl (Nat.le_of_ble_eq_true rfl) dX10_beats_141 ⟨Nat.zero_le _, Nat.zero_le _⟩ (ci := 10) rfl 0 rfl [0, 1] [2, 3, 4, 5] [4, 5, 0, 1, 2, 3] rfl rfl (ws2 := (wX10_beats cI cJ cZ h_o h_o_all h_o_laidIm h_o_laidRe h_o_quarter h_o_told h_o_tape h_o_words h_o_isTold h_o_toldWave h_o_isPoint h_o_roots h_o_byOrder h_o_noted1 h_o_counts h_o_binBy o_tapeSize o_thrown o_fault o_faultPlace o_stop o_next o_kind o_which o_at o_pointsRead o_bank o_isImage o_undos o_runRadix o_runOrder o_runNear o_runLimit o_runHalves o_power o_notedMany o_knownTold o_drawn o_all_45 o_laidIm o_laidRe o_quarter o_told)) rfl (fun H locs hP hD hS => ?_)
        refine W.eq (g2 := F0 m 144 ls []) rfl ?_
        refine lv_iload_n hx hb dX10_beats_144 rfl (lv_at hl 2 rfl) ?_
        cases hf
        exact hret _ _ _ _ dX10_beats_145 hP hD hS
  have j53 : ∀ (o_all : Nat → Int32) (o_laidIm : Nat → Int32) (o_laidRe : Nat → Int32) (v1 : Int32) (v2 : Int32) (s0 : Int32) (H : Heap) (locs : List Loc) (ls : Array Slot), fX10_beats_53 o_bank o_runRadix o_runOrder o_power o_told o_all o_laidIm o_laidRe v1 v2 s0 = some (r, out_o_all, out_o_laidIm, out_o_laidRe) → va_P G vwCl (wX10_beats cI cJ cZ h_o h_o_all h_o_laidIm h_o_laidRe h_o_quarter h_o_told h_o_tape h_o_words h_o_isTold h_o_toldWave h_o_isPoint h_o_roots h_o_byOrder h_o_noted1 h_o_counts h_o_binBy o_tapeSize o_thrown o_fault o_faultPlace o_stop o_next o_kind o_which o_at o_pointsRead o_bank o_isImage o_undos o_runRadix o_runOrder o_runNear o_runLimit o_runHalves o_power o_notedMany o_knownTold o_drawn o_all o_laidIm o_laidRe o_quarter o_told) H → va_D A (wX10_beats cI cJ cZ h_o h_o_all h_o_laidIm h_o_laidRe h_o_quarter h_o_told h_o_tape h_o_words h_o_isTold h_o_toldWave h_o_isPoint h_o_roots h_o_byOrder h_o_noted1 h_o_counts h_o_binBy o_tapeSize o_thrown o_fault o_faultPlace o_stop o_next o_kind o_which o_at o_pointsRead o_bank o_isImage o_undos o_runRadix o_runOrder o_runNear o_runLimit o_runHalves o_power o_notedMany o_knownTold o_drawn o_all o_laidIm o_laidRe o_quarter o_told) → va_S A s.heap H locs → lv_has ls 4 [(0, .ref h_o), (1, .int v1), (2, .int v2)] → W p l e ({ frames := 5, cells := 0, slots := 0, locals := 124 } : Room) s m ([.ref h_o] : List Value).toArray below meth c H locs 0 0 Q (F0 m 53 ls [.int s0]) := by
    intro o_all o_laidIm o_laidRe v1 v2 s0 H locs ls hf hP hD hS hl
    unfold fX10_beats_53 at hf
    refine lv_istore_n (lv' := [(3, .int s0), (0, .ref h_o), (1, .int v1), (2, .int v2)]) hx hb dX10_beats_53 rfl hl (by decide) rfl (fun ls hl => ?_)
    refine lv_aload_n hx hb dX10_beats_54 rfl (lv_at hl 1 rfl) ?_
    refine rd (ci := 10) (C := RX10) (T := TX10) (N := 37) hx hb hts inX10 hown hK hP 0 21 rfl rfl (by decide) (hts _ q_fX10_169) rfl dX10_beats_55 ?_
    refine lv_iconst (v := (1 : Int32)) hx hb dX10_beats_58 (by decide) ?_
    refine lv_icmp_ne (tgt := 70) hx hb dX10_beats_59 (by decide) (fun c_21 => ?_) (fun c_21 => ?_)
    · have hf := it_f c_21 hf
      exact j70 o_all o_laidIm o_laidRe v1 v2 s0 H locs ls hf hP hD hS (lv_sub hl [1, 2, 3, 0] rfl)
    · have hf := it_t c_21 hf
      refine lv_iload_n hx hb dX10_beats_62 rfl (lv_at hl 0 rfl) ?_
      refine lv_if_eq (tgt := 70) hx hb dX10_beats_63 (by decide) (fun c_22 => ?_) (fun c_22 => ?_)
      · have hf := it_t c_22 hf
        exact j70 o_all o_laidIm o_laidRe v1 v2 s0 H locs ls hf hP hD hS (lv_sub hl [1, 2, 3, 0] rfl)
      · have hf := it_f c_22 hf
        refine lv_aload_n hx hb dX10_beats_66 rfl (lv_at hl 1 rfl) ?_
        obtain ⟨o_all_23, o_laidIm_24, o_laidRe_25, e_26, hf⟩ := bd3_x hf
        refine call_v [] [] ⟨hx, hb, hml, hown, hts⟩ hK hP hD hS hA hl.1 (tX10_reverses l G cI cJ cZ H.size h_o h_o_all h_o_laidIm h_o_laidRe h_o_told h_o_tape h_o_words h_o_isTold h_o_toldWave h_o_isPoint h_o_quarter h_o_roots h_o_byOrder h_o_noted1 h_o_counts h_o_binBy o_tapeSize o_thrown o_fault o_faultPlace o_stop o_next o_kind o_which o_at o_pointsRead o_bank o_isImage o_undos o_runRadix o_runOrder o_runNear o_runLimit o_runHalves o_power o_notedMany o_knownTold o_drawn o_all o_laidIm o_laidRe o_told o_all_23 o_laidIm_24 o_laidRe_25 e_26) (cwV 0 hts (gv q_mX10_255 q_i_yX10_reverses q_s_yX10_reverses q_n_RX10 q_k_yX10_reverses) rfl rfl rfl (by decide +kernel) ⟨by decide, by decide⟩) rfl rfl (Nat.le_of_ble_eq_true rfl) dX10_beats_67 ⟨Nat.zero_le _, Nat.zero_le _⟩ (ci := 10) rfl 0 rfl [0, 1, 2, 3, 5] [4] [1, 2, 3, 4, 0, 5] rfl rfl (ws2 := (wX10_beats cI cJ cZ h_o h_o_all h_o_laidIm h_o_laidRe h_o_quarter h_o_told h_o_tape h_o_words h_o_isTold h_o_toldWave h_o_isPoint h_o_roots h_o_byOrder h_o_noted1 h_o_counts h_o_binBy o_tapeSize o_thrown o_fault o_faultPlace o_stop o_next o_kind o_which o_at o_pointsRead o_bank o_isImage o_undos o_runRadix o_runOrder o_runNear o_runLimit o_runHalves o_power o_notedMany o_knownTold o_drawn o_all_23 o_laidIm_24 o_laidRe_25 o_quarter o_told)) rfl (fun H locs hP hD hS => ?_)
        refine W.eq (g2 := F0 m 70 ls []) rfl ?_
        exact j70 o_all_23 o_laidIm_24 o_laidRe_25 v1 v2 s0 H locs ls hf hP hD hS (lv_sub hl [1, 2, 3, 0] rfl)
  have j23 : ∀ (o_all : Nat → Int32) (o_laidIm : Nat → Int32) (o_laidRe : Nat → Int32) (v1 : Int32) (H : Heap) (locs : List Loc) (ls : Array Slot), fX10_beats_23 o_bank o_runRadix o_runOrder o_runNear o_runLimit o_runHalves o_power o_quarter o_told o_all o_laidIm o_laidRe v1 = some (r, out_o_all, out_o_laidIm, out_o_laidRe) → va_P G vwCl (wX10_beats cI cJ cZ h_o h_o_all h_o_laidIm h_o_laidRe h_o_quarter h_o_told h_o_tape h_o_words h_o_isTold h_o_toldWave h_o_isPoint h_o_roots h_o_byOrder h_o_noted1 h_o_counts h_o_binBy o_tapeSize o_thrown o_fault o_faultPlace o_stop o_next o_kind o_which o_at o_pointsRead o_bank o_isImage o_undos o_runRadix o_runOrder o_runNear o_runLimit o_runHalves o_power o_notedMany o_knownTold o_drawn o_all o_laidIm o_laidRe o_quarter o_told) H → va_D A (wX10_beats cI cJ cZ h_o h_o_all h_o_laidIm h_o_laidRe h_o_quarter h_o_told h_o_tape h_o_words h_o_isTold h_o_toldWave h_o_isPoint h_o_roots h_o_byOrder h_o_noted1 h_o_counts h_o_binBy o_tapeSize o_thrown o_fault o_faultPlace o_stop o_next o_kind o_which o_at o_pointsRead o_bank o_isImage o_undos o_runRadix o_runOrder o_runNear o_runLimit o_runHalves o_power o_notedMany o_knownTold o_drawn o_all o_laidIm o_laidRe o_quarter o_told) → va_S A s.heap H locs → lv_has ls 4 [(0, .ref h_o), (1, .int v1)] → W p l e ({ frames := 5, cells := 0, slots := 0, locals := 124 } : Room) s m ([.ref h_o] : List Value).toArray below meth c H locs 0 0 Q (F0 m 23 ls []) := by
    intro o_all o_laidIm o_laidRe v1 H locs ls hf hP hD hS hl
    unfold fX10_beats_23 at hf
    refine lv_aload_n hx hb dX10_beats_23 rfl (lv_at hl 0 rfl) ?_
    refine lv_aload_n hx hb dX10_beats_24 rfl (lv_at hl 0 rfl) ?_
    refine lv_iload_n hx hb dX10_beats_25 rfl (lv_at hl 1 rfl) ?_
    obtain ⟨r_9, e_10, hf⟩ := bd1_x hf
    refine call_v [.int v1] [.ref h_o] ⟨hx, hb, hml, hown, hts⟩ hK hP hD hS hA hl.1 (tX10_radixAt l G cI cJ cZ H.size h_o h_o_tape h_o_words h_o_told h_o_isTold h_o_toldWave h_o_isPoint h_o_all h_o_quarter h_o_roots h_o_laidRe h_o_laidIm h_o_byOrder h_o_noted1 h_o_counts h_o_binBy o_tapeSize o_thrown o_fault o_faultPlace o_stop o_next o_kind o_which o_at o_pointsRead o_bank o_isImage o_undos o_runRadix o_runOrder o_runNear o_runLimit o_runHalves o_power o_notedMany o_knownTold o_drawn v1 r_9 e_10) (cwV 1 hts (gv q_mX10_219 q_i_yX10_radixAt q_s_yX10_radixAt q_n_RX10 q_k_yX10_radixAt) rfl rfl rfl (by decide +kernel) ⟨by decide, by decide⟩) rfl rfl (Nat.le_of_ble_eq_true rfl) dX10_beats_26 ⟨Nat.zero_le _, Nat.zero_le _⟩ (ci := 10) rfl 0 rfl [0] [1, 2, 3, 4, 5] [5, 0, 1, 2, 3, 4] rfl rfl (ws2 := (wX10_beats cI cJ cZ h_o h_o_all h_o_laidIm h_o_laidRe h_o_quarter h_o_told h_o_tape h_o_words h_o_isTold h_o_toldWave h_o_isPoint h_o_roots h_o_byOrder h_o_noted1 h_o_counts h_o_binBy o_tapeSize o_thrown o_fault o_faultPlace o_stop o_next o_kind o_which o_at o_pointsRead o_bank o_isImage o_undos o_runRadix o_runOrder o_runNear o_runLimit o_runHalves o_power o_notedMany o_knownTold o_drawn o_all o_laidIm o_laidRe o_quarter o_told)) rfl (fun H locs hP hD hS => ?_)
    refine W.eq (g2 := F0 m 29 ls [.int r_9, .ref h_o]) rfl ?_
    obtain ⟨r_11, o_all_12, e_13, hf⟩ := bd2_x hf
    refine call_v [.int r_9] [] ⟨hx, hb, hml, hown, hts⟩ hK hP hD hS hA hl.1 (tX10_halvedNow l G cI cJ cZ H.size h_o h_o_all h_o_told h_o_tape h_o_words h_o_isTold h_o_toldWave h_o_isPoint h_o_quarter h_o_roots h_o_laidRe h_o_laidIm h_o_byOrder h_o_noted1 h_o_counts h_o_binBy o_tapeSize o_thrown o_fault o_faultPlace o_stop o_next o_kind o_which o_at o_pointsRead o_bank o_isImage o_undos o_runRadix o_runOrder o_runNear o_runLimit o_runHalves o_power o_notedMany o_knownTold o_drawn o_all o_told r_9 r_11 o_all_12 e_13) (cwV 1 hts (gv q_mX10_258 q_i_yX10_halvedNow q_s_yX10_halvedNow q_n_RX10 q_k_yX10_halvedNow) rfl rfl rfl (by decide +kernel) ⟨by decide, by decide⟩) rfl rfl (Nat.le_of_ble_eq_true rfl) dX10_beats_29 ⟨Nat.zero_le _, Nat.zero_le _⟩ (ci := 10) rfl 0 rfl [0, 1, 5] [2, 3, 4] [3, 4, 0, 1, 2, 5] rfl rfl (ws2 := (wX10_beats cI cJ cZ h_o h_o_all h_o_laidIm h_o_laidRe h_o_quarter h_o_told h_o_tape h_o_words h_o_isTold h_o_toldWave h_o_isPoint h_o_roots h_o_byOrder h_o_noted1 h_o_counts h_o_binBy o_tapeSize o_thrown o_fault o_faultPlace o_stop o_next o_kind o_which o_at o_pointsRead o_bank o_isImage o_undos o_runRadix o_runOrder o_runNear o_runLimit o_runHalves o_power o_notedMany o_knownTold o_drawn o_all_12 o_laidIm o_laidRe o_quarter o_told)) rfl (fun H locs hP hD hS => ?_)
    refine W.eq (g2 := F0 m 32 ls [.int r_11]) rfl ?_
    refine lv_istore_n (lv' := [(2, .int r_11), (0, .ref h_o), (1, .int v1)]) hx hb dX10_beats_32 rfl hl (by decide) rfl (fun ls hl => ?_)
    refine lv_aload_n hx hb dX10_beats_33 rfl (lv_at hl 1 rfl) ?_
    refine lv_iload_n hx hb dX10_beats_34 rfl (lv_at hl 2 rfl) ?_
    obtain ⟨o_all_14, o_laidIm_15, o_laidRe_16, e_17, hf⟩ := bd3_x hf
    refine call_v [.int v1] [] ⟨hx, hb, hml, hown, hts⟩ hK hP hD hS hA hl.1 (tX10_wings l G cI cJ cZ H.size h_o h_o_all h_o_laidIm h_o_laidRe h_o_quarter h_o_told h_o_tape h_o_words h_o_isTold h_o_toldWave h_o_isPoint h_o_roots h_o_byOrder h_o_noted1 h_o_counts h_o_binBy o_tapeSize o_thrown o_fault o_faultPlace o_stop o_next o_kind o_which o_at o_pointsRead o_bank o_isImage o_undos o_runRadix o_runOrder o_runNear o_runLimit o_runHalves o_power o_notedMany o_knownTold o_drawn o_all_12 o_laidIm o_laidRe o_quarter o_told v1 o_all_14 o_laidIm_15 o_laidRe_16 e_17) (cwV 1 hts (gv q_mX10_261 q_i_yX10_wings q_s_yX10_wings q_n_RX10 q_k_yX10_wings) rfl rfl rfl (by decide +kernel) ⟨by decide, by decide⟩) rfl rfl (Nat.le_of_ble_eq_true rfl) dX10_beats_35 ⟨Nat.zero_le _, Nat.zero_le _⟩ (ci := 10) rfl 0 rfl [0, 1, 2, 3, 4, 5] [] [0, 1, 2, 3, 4, 5] rfl rfl (ws2 := (wX10_beats cI cJ cZ h_o h_o_all h_o_laidIm h_o_laidRe h_o_quarter h_o_told h_o_tape h_o_words h_o_isTold h_o_toldWave h_o_isPoint h_o_roots h_o_byOrder h_o_noted1 h_o_counts h_o_binBy o_tapeSize o_thrown o_fault o_faultPlace o_stop o_next o_kind o_which o_at o_pointsRead o_bank o_isImage o_undos o_runRadix o_runOrder o_runNear o_runLimit o_runHalves o_power o_notedMany o_knownTold o_drawn o_all_14 o_laidIm_15 o_laidRe_16 o_quarter o_told)) rfl (fun H locs hP hD hS => ?_)
    refine W.eq (g2 := F0 m 38 ls []) rfl ?_
    refine lv_iload_n hx hb dX10_beats_38 rfl (lv_at hl 2 rfl) ?_
    refine lv_aload_n hx hb dX10_beats_39 rfl (lv_at hl 1 rfl) ?_
    obtain ⟨r_18, e_19, hf⟩ := bd1_x hf
    refine call_v [] [.int v1] ⟨hx, hb, hml, hown, hts⟩ hK hP hD hS hA hl.1 (tX10_stagesMany l G cI cJ cZ H.size h_o h_o_tape h_o_words h_o_told h_o_isTold h_o_toldWave h_o_isPoint h_o_all h_o_quarter h_o_roots h_o_laidRe h_o_laidIm h_o_byOrder h_o_noted1 h_o_counts h_o_binBy o_tapeSize o_thrown o_fault o_faultPlace o_stop o_next o_kind o_which o_at o_pointsRead o_bank o_isImage o_undos o_runRadix o_runOrder o_runNear o_runLimit o_runHalves o_power o_notedMany o_knownTold o_drawn r_18 e_19) (cwV 0 hts (gv q_mX10_216 q_i_yX10_stagesMany q_s_yX10_stagesMany q_n_RX10 q_k_yX10_stagesMany) rfl rfl rfl (by decide +kernel) ⟨by decide, by decide⟩) rfl rfl (Nat.le_of_ble_eq_true rfl) dX10_beats_40 ⟨Nat.zero_le _, Nat.zero_le _⟩ (ci := 10) rfl 0 rfl [0] [1, 2, 3, 4, 5] [5, 0, 1, 2, 3, 4] rfl rfl (ws2 := (wX10_beats cI cJ cZ h_o h_o_all h_o_laidIm h_o_laidRe h_o_quarter h_o_told h_o_tape h_o_words h_o_isTold h_o_toldWave h_o_isPoint h_o_roots h_o_byOrder h_o_noted1 h_o_counts h_o_binBy o_tapeSize o_thrown o_fault o_faultPlace o_stop o_next o_kind o_which o_at o_pointsRead o_bank o_isImage o_undos o_runRadix o_runOrder o_runNear o_runLimit o_runHalves o_power o_notedMany o_knownTold o_drawn o_all_14 o_laidIm_15 o_laidRe_16 o_quarter o_told)) rfl (fun H locs hP hD hS => ?_)
    refine W.eq (g2 := F0 m 43 ls [.int r_18, .int v1]) rfl ?_
    refine lv_iconst (v := (1 : Int32)) hx hb dX10_beats_43 (by decide) ?_
    refine lv_isub hx hb dX10_beats_44 ?_
    refine lv_icmp_ne (tgt := 52) hx hb dX10_beats_45 (by decide) (fun c_20 => ?_) (fun c_20 => ?_)
    · have hf := it_f c_20 hf
      refine lv_iconst (v := (0 : Int32)) hx hb dX10_beats_52 (by decide) ?_
      exact j53 o_all_14 o_laidIm_15 o_laidRe_16 v1 r_11 (0 : Int32) H locs ls hf hP hD hS (lv_sub hl [1, 2, 0] rfl)
    · have hf := it_t c_20 hf
      refine lv_iconst (v := (1 : Int32)) hx hb dX10_beats_48 (by decide) ?_
      refine lv_goto (tgt := 53) hx hb dX10_beats_49 (by decide) ?_
      exact j53 o_all_14 o_laidIm_15 o_laidRe_16 v1 r_11 (1 : Int32) H locs ls hf hP hD hS (lv_sub hl [1, 2, 0] rfl)
  unfold fX10_beats at hf
  obtain ⟨H, eH⟩ : ∃ H, H = s.heap := ⟨_, rfl⟩
  obtain ⟨locs, elocs⟩ : ∃ z : List Loc, z = [] := ⟨_, rfl⟩
  have hP : va_P G vwCl (wX10_beats cI cJ cZ h_o h_o_all h_o_laidIm h_o_laidRe h_o_quarter h_o_told h_o_tape h_o_words h_o_isTold h_o_toldWave h_o_isPoint h_o_roots h_o_byOrder h_o_noted1 h_o_counts h_o_binBy o_tapeSize o_thrown o_fault o_faultPlace o_stop o_next o_kind o_which o_at o_pointsRead o_bank o_isImage o_undos o_runRadix o_runOrder o_runNear o_runLimit o_runHalves o_power o_notedMany o_knownTold o_drawn o_all o_laidIm o_laidRe o_quarter o_told) H := by rw [eH]; exact hP
  have hS : va_S A s.heap H locs := by rw [eH, elocs]; exact hS
  suffices hgo : W p l e ({ frames := 5, cells := 0, slots := 0, locals := 124 } : Room) s m ([.ref h_o] : List Value).toArray below meth c H locs 0 0 Q (F0 m 0 ls []) by rw [eH, elocs] at hgo; exact hgo
  clear eH elocs
  refine lv_aload_n hx hb dX10_beats_0 rfl (lv_at hl 0 rfl) ?_
  refine lv_sipush (v := (129 : Int32)) hx hb dX10_beats_1 (by decide) ?_
  obtain ⟨r_1, e_2, hf⟩ := bd1_x hf
  refine call_v [.int (129 : Int32)] [] ⟨hx, hb, hml, hown, hts⟩ hK hP hD hS hA hl.1 (tX10_of l G cI cJ cZ H.size h_o h_o_all h_o_tape h_o_words h_o_told h_o_isTold h_o_toldWave h_o_isPoint h_o_quarter h_o_roots h_o_laidRe h_o_laidIm h_o_byOrder h_o_noted1 h_o_counts h_o_binBy o_tapeSize o_thrown o_fault o_faultPlace o_stop o_next o_kind o_which o_at o_pointsRead o_bank o_isImage o_undos o_runRadix o_runOrder o_runNear o_runLimit o_runHalves o_power o_notedMany o_knownTold o_drawn o_all (129 : Int32) r_1 e_2) (cwV 1 hts (gv q_mX10_187 q_i_yX10_of q_s_yX10_of q_n_RX10 q_k_yX10_of) rfl rfl rfl (by decide +kernel) ⟨by decide, by decide⟩) rfl rfl (Nat.le_of_ble_eq_true rfl) dX10_beats_4 ⟨Nat.zero_le _, Nat.zero_le _⟩ (ci := 10) rfl 0 rfl [0, 1] [2, 3, 4, 5] [4, 5, 0, 1, 2, 3] rfl rfl (ws2 := (wX10_beats cI cJ cZ h_o h_o_all h_o_laidIm h_o_laidRe h_o_quarter h_o_told h_o_tape h_o_words h_o_isTold h_o_toldWave h_o_isPoint h_o_roots h_o_byOrder h_o_noted1 h_o_counts h_o_binBy o_tapeSize o_thrown o_fault o_faultPlace o_stop o_next o_kind o_which o_at o_pointsRead o_bank o_isImage o_undos o_runRadix o_runOrder o_runNear o_runLimit o_runHalves o_power o_notedMany o_knownTold o_drawn o_all o_laidIm o_laidRe o_quarter o_told)) rfl (fun H locs hP hD hS => ?_)
  refine W.eq (g2 := F0 m 7 ls [.int r_1]) rfl ?_
  refine lv_istore_n (lv' := [(1, .int r_1), (0, .ref h_o)]) hx hb dX10_beats_7 rfl hl (by decide) rfl (fun ls hl => ?_)
  refine lv_aload_n hx hb dX10_beats_8 rfl (lv_at hl 1 rfl) ?_
  refine rd (ci := 10) (C := RX10) (T := TX10) (N := 37) hx hb hts inX10 hown hK hP 0 21 rfl rfl (by decide) (hts _ q_fX10_169) rfl dX10_beats_9 ?_
  refine lv_if_ne (tgt := 23) hx hb dX10_beats_12 (by decide) (fun c_3 => ?_) (fun c_3 => ?_)
  · have hf := it_f c_3 hf
    exact j23 o_all o_laidIm o_laidRe r_1 H locs ls hf hP hD hS (lv_sub hl [1, 0] rfl)
  · have hf := it_t c_3 hf
    refine lv_iload_n hx hb dX10_beats_15 rfl (lv_at hl 0 rfl) ?_
    refine lv_if_ne (tgt := 23) hx hb dX10_beats_16 (by decide) (fun c_4 => ?_) (fun c_4 => ?_)
    · have hf := it_f c_4 hf
      exact j23 o_all o_laidIm o_laidRe r_1 H locs ls hf hP hD hS (lv_sub hl [1, 0] rfl)
    · have hf := it_t c_4 hf
      refine lv_aload_n hx hb dX10_beats_19 rfl (lv_at hl 1 rfl) ?_
      obtain ⟨o_all_5, o_laidIm_6, o_laidRe_7, e_8, hf⟩ := bd3_x hf
      refine call_v [] [] ⟨hx, hb, hml, hown, hts⟩ hK hP hD hS hA hl.1 (tX10_reverses l G cI cJ cZ H.size h_o h_o_all h_o_laidIm h_o_laidRe h_o_told h_o_tape h_o_words h_o_isTold h_o_toldWave h_o_isPoint h_o_quarter h_o_roots h_o_byOrder h_o_noted1 h_o_counts h_o_binBy o_tapeSize o_thrown o_fault o_faultPlace o_stop o_next o_kind o_which o_at o_pointsRead o_bank o_isImage o_undos o_runRadix o_runOrder o_runNear o_runLimit o_runHalves o_power o_notedMany o_knownTold o_drawn o_all o_laidIm o_laidRe o_told o_all_5 o_laidIm_6 o_laidRe_7 e_8) (cwV 0 hts (gv q_mX10_255 q_i_yX10_reverses q_s_yX10_reverses q_n_RX10 q_k_yX10_reverses) rfl rfl rfl (by decide +kernel) ⟨by decide, by decide⟩) rfl rfl (Nat.le_of_ble_eq_true rfl) dX10_beats_20 ⟨Nat.zero_le _, Nat.zero_le _⟩ (ci := 10) rfl 0 rfl [0, 1, 2, 3, 5] [4] [1, 2, 3, 4, 0, 5] rfl rfl (ws2 := (wX10_beats cI cJ cZ h_o h_o_all h_o_laidIm h_o_laidRe h_o_quarter h_o_told h_o_tape h_o_words h_o_isTold h_o_toldWave h_o_isPoint h_o_roots h_o_byOrder h_o_noted1 h_o_counts h_o_binBy o_tapeSize o_thrown o_fault o_faultPlace o_stop o_next o_kind o_which o_at o_pointsRead o_bank o_isImage o_undos o_runRadix o_runOrder o_runNear o_runLimit o_runHalves o_power o_notedMany o_knownTold o_drawn o_all_5 o_laidIm_6 o_laidRe_7 o_quarter o_told)) rfl (fun H locs hP hD hS => ?_)
      refine W.eq (g2 := F0 m 23 ls []) rfl ?_
      exact j23 o_all_5 o_laidIm_6 o_laidRe_7 r_1 H locs ls hf hP hD hS (lv_sub hl [1, 0] rfl)
def wX10_isDone (cI cJ cZ : ClassId) (h_o h_o_all h_o_tape h_o_words h_o_told h_o_isTold h_o_toldWave h_o_isPoint h_o_quarter h_o_roots h_o_laidRe h_o_laidIm h_o_byOrder h_o_noted1 h_o_counts h_o_binBy : Nat) (o_tapeSize : Int32) (o_thrown : Int32) (o_fault : Int32) (o_faultPlace : Int32) (o_stop : Int32) (o_next : Int32) (o_kind : Int32) (o_which : Int32) (o_at : Int32) (o_pointsRead : Int32) (o_bank : Int32) (o_isImage : Int32) (o_undos : Int32) (o_runRadix : Int32) (o_runOrder : Int32) (o_runNear : Int32) (o_runLimit : Int32) (o_runHalves : Int32) (o_power : Int32) (o_notedMany : Int32) (o_knownTold : Int32) (o_drawn : Int64) (o_all : Nat → Int32) : va_W := [(h_o, .inr (10, [.ref h_o_tape, .int o_tapeSize, .int o_thrown, .ref h_o_words, .int o_fault, .int o_faultPlace, .int o_stop, .int o_next, .int o_kind, .int o_which, .int o_at, .ref h_o_told, .ref h_o_isTold, .ref h_o_toldWave, .ref h_o_isPoint, .int o_pointsRead, .ref h_o_all, .int o_bank, .int o_isImage, .int o_undos, .int o_runRadix, .int o_runOrder, .int o_runNear, .int o_runLimit, .int o_runHalves, .ref h_o_quarter, .int o_power, .ref h_o_roots, .ref h_o_laidRe, .ref h_o_laidIm, .ref h_o_byOrder, .int o_notedMany, .int o_knownTold, .ref h_o_noted1, .ref h_o_counts, .ref h_o_binBy, .long o_drawn])), (h_o_all, .inl (cI, 3128, .inl o_all))]
def fX10_isDone (o_bank : Int32) (o_runRadix : Int32) (o_power : Int32) (o_all : Nat → Int32) : Option (Int32) :=
  bd1 (fX10_of o_bank o_all (129 : Int32)) (fun r_1 =>
  bd1 (fX10_stagesMany o_runRadix o_power) (fun r_3 =>
  if r_1 = r_3 then (
    some (1 : Int32)
  ) else (
    some (0 : Int32)
  )))
set_option maxHeartbeats 4000000 in
set_option maxRecDepth 100000 in
theorem tX10_isDone (l : Launch) (G : va_G) (cI cJ cZ : ClassId) (sz : Nat) (h_o h_o_all h_o_tape h_o_words h_o_told h_o_isTold h_o_toldWave h_o_isPoint h_o_quarter h_o_roots h_o_laidRe h_o_laidIm h_o_byOrder h_o_noted1 h_o_counts h_o_binBy : Nat) (o_tapeSize : Int32) (o_thrown : Int32) (o_fault : Int32) (o_faultPlace : Int32) (o_stop : Int32) (o_next : Int32) (o_kind : Int32) (o_which : Int32) (o_at : Int32) (o_pointsRead : Int32) (o_bank : Int32) (o_isImage : Int32) (o_undos : Int32) (o_runRadix : Int32) (o_runOrder : Int32) (o_runNear : Int32) (o_runLimit : Int32) (o_runHalves : Int32) (o_power : Int32) (o_notedMany : Int32) (o_knownTold : Int32) (o_drawn : Int64) (o_all : Nat → Int32) (r : Int32) (hf : fX10_isDone o_bank o_runRadix o_power o_all = some r) : Met l yX10_isDone (Cond.code yX10_isDone cX10_isDone 1 (some .boolean) :: BIG) ({ frames := 2, cells := 0, slots := 0, locals := 40 } : Room) (cP G (TY3 cI cJ cZ) [.ref h_o] sz (wX10_isDone cI cJ cZ h_o h_o_all h_o_tape h_o_words h_o_told h_o_isTold h_o_toldWave h_o_isPoint h_o_quarter h_o_roots h_o_laidRe h_o_laidIm h_o_byOrder h_o_noted1 h_o_counts h_o_binBy o_tapeSize o_thrown o_fault o_faultPlace o_stop o_next o_kind o_which o_at o_pointsRead o_bank o_isImage o_undos o_runRadix o_runOrder o_runNear o_runLimit o_runHalves o_power o_notedMany o_knownTold o_drawn o_all)) (cQ G (TY3 cI cJ cZ) sz (wX10_isDone cI cJ cZ h_o h_o_all h_o_tape h_o_words h_o_told h_o_isTold h_o_toldWave h_o_isPoint h_o_quarter h_o_roots h_o_laidRe h_o_laidIm h_o_byOrder h_o_noted1 h_o_counts h_o_binBy o_tapeSize o_thrown o_fault o_faultPlace o_stop o_next o_kind o_which o_at o_pointsRead o_bank o_isImage o_undos o_runRadix o_runOrder o_runNear o_runLimit o_runHalves o_power o_notedMany o_knownTold o_drawn o_all) (wX10_isDone cI cJ cZ h_o h_o_all h_o_tape h_o_words h_o_told h_o_isTold h_o_toldWave h_o_isPoint h_o_quarter h_o_roots h_o_laidRe h_o_laidIm h_o_byOrder h_o_noted1 h_o_counts h_o_binBy o_tapeSize o_thrown o_fault o_faultPlace o_stop o_next o_kind o_which o_at o_pointsRead o_bank o_isImage o_undos o_runRadix o_runOrder o_runNear o_runLimit o_runHalves o_power o_notedMany o_knownTold o_drawn o_all) (some (.int r))) 0 0 (va_A (wX10_isDone cI cJ cZ h_o h_o_all h_o_tape h_o_words h_o_told h_o_isTold h_o_toldWave h_o_isPoint h_o_quarter h_o_roots h_o_laidRe h_o_laidIm h_o_byOrder h_o_noted1 h_o_counts h_o_binBy o_tapeSize o_thrown o_fault o_faultPlace o_stop o_next o_kind o_which o_at o_pointsRead o_bank o_isImage o_undos o_runRadix o_runOrder o_runNear o_runLimit o_runHalves o_power o_notedMany o_knownTold o_drawn o_all) sz) := by
  refine met_z (cc := cX10_isDone) (maxL := 1) (plainFor_of_name (by decide)) (Nat.le_of_ble_eq_true rfl) (fun p e s m below meth c A ls Q hx hb hml hts hown hK hP hD hS hA hl hret => ?_)
  have hown : s.vm.findClass RX10 = some m.cls := hown
  have hl : lv_has ls 1 [(0, .ref h_o)] := hl
  unfold fX10_isDone at hf
  obtain ⟨H, eH⟩ : ∃ H, H = s.heap := ⟨_, rfl⟩
  obtain ⟨locs, elocs⟩ : ∃ z : List Loc, z = [] := ⟨_, rfl⟩
  have hP : va_P G vwCl (wX10_isDone cI cJ cZ h_o h_o_all h_o_tape h_o_words h_o_told h_o_isTold h_o_toldWave h_o_isPoint h_o_quarter h_o_roots h_o_laidRe h_o_laidIm h_o_byOrder h_o_noted1 h_o_counts h_o_binBy o_tapeSize o_thrown o_fault o_faultPlace o_stop o_next o_kind o_which o_at o_pointsRead o_bank o_isImage o_undos o_runRadix o_runOrder o_runNear o_runLimit o_runHalves o_power o_notedMany o_knownTold o_drawn o_all) H := by rw [eH]; exact hP
  have hS : va_S A s.heap H locs := by rw [eH, elocs]; exact hS
  suffices hgo : W p l e ({ frames := 2, cells := 0, slots := 0, locals := 40 } : Room) s m ([.ref h_o] : List Value).toArray below meth c H locs 0 0 Q (F0 m 0 ls []) by rw [eH, elocs] at hgo; exact hgo
  clear eH elocs
  refine lv_aload_n hx hb dX10_isDone_0 rfl (lv_at hl 0 rfl) ?_
  refine lv_sipush (v := (129 : Int32)) hx hb dX10_isDone_1 (by decide) ?_
  obtain ⟨r_1, e_2, hf⟩ := bd1_x hf
  refine call_v [.int (129 : Int32)] [] ⟨hx, hb, hml, hown, hts⟩ hK hP hD hS hA hl.1 (tX10_of l G cI cJ cZ H.size h_o h_o_all h_o_tape h_o_words h_o_told h_o_isTold h_o_toldWave h_o_isPoint h_o_quarter h_o_roots h_o_laidRe h_o_laidIm h_o_byOrder h_o_noted1 h_o_counts h_o_binBy o_tapeSize o_thrown o_fault o_faultPlace o_stop o_next o_kind o_which o_at o_pointsRead o_bank o_isImage o_undos o_runRadix o_runOrder o_runNear o_runLimit o_runHalves o_power o_notedMany o_knownTold o_drawn o_all (129 : Int32) r_1 e_2) (cwV 1 hts (gv q_mX10_187 q_i_yX10_of q_s_yX10_of q_n_RX10 q_k_yX10_of) rfl rfl rfl (by decide +kernel) ⟨by decide, by decide⟩) rfl rfl (Nat.le_of_ble_eq_true rfl) dX10_isDone_4 ⟨Nat.zero_le _, Nat.zero_le _⟩ (ci := 10) rfl 0 rfl [0, 1] [] [0, 1] rfl rfl (ws2 := (wX10_isDone cI cJ cZ h_o h_o_all h_o_tape h_o_words h_o_told h_o_isTold h_o_toldWave h_o_isPoint h_o_quarter h_o_roots h_o_laidRe h_o_laidIm h_o_byOrder h_o_noted1 h_o_counts h_o_binBy o_tapeSize o_thrown o_fault o_faultPlace o_stop o_next o_kind o_which o_at o_pointsRead o_bank o_isImage o_undos o_runRadix o_runOrder o_runNear o_runLimit o_runHalves o_power o_notedMany o_knownTold o_drawn o_all)) rfl (fun H locs hP hD hS => ?_)
  refine W.eq (g2 := F0 m 7 ls [.int r_1]) rfl ?_
  refine lv_aload_n hx hb dX10_isDone_7 rfl (lv_at hl 0 rfl) ?_
  obtain ⟨r_3, e_4, hf⟩ := bd1_x hf
  refine call_v [] [.int r_1] ⟨hx, hb, hml, hown, hts⟩ hK hP hD hS hA hl.1 (tX10_stagesMany l G cI cJ cZ H.size h_o h_o_tape h_o_words h_o_told h_o_isTold h_o_toldWave h_o_isPoint h_o_all h_o_quarter h_o_roots h_o_laidRe h_o_laidIm h_o_byOrder h_o_noted1 h_o_counts h_o_binBy o_tapeSize o_thrown o_fault o_faultPlace o_stop o_next o_kind o_which o_at o_pointsRead o_bank o_isImage o_undos o_runRadix o_runOrder o_runNear o_runLimit o_runHalves o_power o_notedMany o_knownTold o_drawn r_3 e_4) (cwV 0 hts (gv q_mX10_216 q_i_yX10_stagesMany q_s_yX10_stagesMany q_n_RX10 q_k_yX10_stagesMany) rfl rfl rfl (by decide +kernel) ⟨by decide, by decide⟩) rfl rfl (Nat.le_of_ble_eq_true rfl) dX10_isDone_8 ⟨Nat.zero_le _, Nat.zero_le _⟩ (ci := 10) rfl 0 rfl [0] [1] [1, 0] rfl rfl (ws2 := (wX10_isDone cI cJ cZ h_o h_o_all h_o_tape h_o_words h_o_told h_o_isTold h_o_toldWave h_o_isPoint h_o_quarter h_o_roots h_o_laidRe h_o_laidIm h_o_byOrder h_o_noted1 h_o_counts h_o_binBy o_tapeSize o_thrown o_fault o_faultPlace o_stop o_next o_kind o_which o_at o_pointsRead o_bank o_isImage o_undos o_runRadix o_runOrder o_runNear o_runLimit o_runHalves o_power o_notedMany o_knownTold o_drawn o_all)) rfl (fun H locs hP hD hS => ?_)
  refine W.eq (g2 := F0 m 11 ls [.int r_3, .int r_1]) rfl ?_
  refine lv_icmp_ne (tgt := 18) hx hb dX10_isDone_11 (by decide) (fun c_5 => ?_) (fun c_5 => ?_)
  · have hf := it_f c_5 hf
    refine lv_iconst (v := (0 : Int32)) hx hb dX10_isDone_18 (by decide) ?_
    cases hf
    exact hret _ _ _ _ dX10_isDone_19 rfl hP hD hS
  · have hf := it_t c_5 hf
    refine lv_iconst (v := (1 : Int32)) hx hb dX10_isDone_14 (by decide) ?_
    refine lv_goto (tgt := 19) hx hb dX10_isDone_15 (by decide) ?_
    cases hf
    exact hret _ _ _ _ dX10_isDone_19 rfl hP hD hS
def wX10_isForward (cI cJ cZ : ClassId) (h_o h_o_all h_o_tape h_o_words h_o_told h_o_isTold h_o_toldWave h_o_isPoint h_o_quarter h_o_roots h_o_laidRe h_o_laidIm h_o_byOrder h_o_noted1 h_o_counts h_o_binBy : Nat) (o_tapeSize : Int32) (o_thrown : Int32) (o_fault : Int32) (o_faultPlace : Int32) (o_stop : Int32) (o_next : Int32) (o_kind : Int32) (o_which : Int32) (o_at : Int32) (o_pointsRead : Int32) (o_bank : Int32) (o_isImage : Int32) (o_undos : Int32) (o_runRadix : Int32) (o_runOrder : Int32) (o_runNear : Int32) (o_runLimit : Int32) (o_runHalves : Int32) (o_power : Int32) (o_notedMany : Int32) (o_knownTold : Int32) (o_drawn : Int64) (o_all : Nat → Int32) : va_W := [(h_o, .inr (10, [.ref h_o_tape, .int o_tapeSize, .int o_thrown, .ref h_o_words, .int o_fault, .int o_faultPlace, .int o_stop, .int o_next, .int o_kind, .int o_which, .int o_at, .ref h_o_told, .ref h_o_isTold, .ref h_o_toldWave, .ref h_o_isPoint, .int o_pointsRead, .ref h_o_all, .int o_bank, .int o_isImage, .int o_undos, .int o_runRadix, .int o_runOrder, .int o_runNear, .int o_runLimit, .int o_runHalves, .ref h_o_quarter, .int o_power, .ref h_o_roots, .ref h_o_laidRe, .ref h_o_laidIm, .ref h_o_byOrder, .int o_notedMany, .int o_knownTold, .ref h_o_noted1, .ref h_o_counts, .ref h_o_binBy, .long o_drawn])), (h_o_all, .inl (cI, 3128, .inl o_all))]
def fX10_isForward (o_bank : Int32) (o_runRadix : Int32) (o_power : Int32) (o_all : Nat → Int32) : Option (Int32) :=
  bd1 (fX10_isDone o_bank o_runRadix o_power o_all) (fun r_1 =>
  if r_1 = 0 then (
    some (0 : Int32)
  ) else (
    bd1 (fX10_of o_bank o_all (130 : Int32)) (fun r_4 =>
    if r_4 = 0 then (
      some (1 : Int32)
    ) else (
      some (0 : Int32)
    ))
  ))
set_option maxHeartbeats 4000000 in
set_option maxRecDepth 100000 in
theorem tX10_isForward (l : Launch) (G : va_G) (cI cJ cZ : ClassId) (sz : Nat) (h_o h_o_all h_o_tape h_o_words h_o_told h_o_isTold h_o_toldWave h_o_isPoint h_o_quarter h_o_roots h_o_laidRe h_o_laidIm h_o_byOrder h_o_noted1 h_o_counts h_o_binBy : Nat) (o_tapeSize : Int32) (o_thrown : Int32) (o_fault : Int32) (o_faultPlace : Int32) (o_stop : Int32) (o_next : Int32) (o_kind : Int32) (o_which : Int32) (o_at : Int32) (o_pointsRead : Int32) (o_bank : Int32) (o_isImage : Int32) (o_undos : Int32) (o_runRadix : Int32) (o_runOrder : Int32) (o_runNear : Int32) (o_runLimit : Int32) (o_runHalves : Int32) (o_power : Int32) (o_notedMany : Int32) (o_knownTold : Int32) (o_drawn : Int64) (o_all : Nat → Int32) (r : Int32) (hf : fX10_isForward o_bank o_runRadix o_power o_all = some r) : Met l yX10_isForward (Cond.code yX10_isForward cX10_isForward 1 (some .boolean) :: BIG) ({ frames := 3, cells := 0, slots := 0, locals := 60 } : Room) (cP G (TY3 cI cJ cZ) [.ref h_o] sz (wX10_isForward cI cJ cZ h_o h_o_all h_o_tape h_o_words h_o_told h_o_isTold h_o_toldWave h_o_isPoint h_o_quarter h_o_roots h_o_laidRe h_o_laidIm h_o_byOrder h_o_noted1 h_o_counts h_o_binBy o_tapeSize o_thrown o_fault o_faultPlace o_stop o_next o_kind o_which o_at o_pointsRead o_bank o_isImage o_undos o_runRadix o_runOrder o_runNear o_runLimit o_runHalves o_power o_notedMany o_knownTold o_drawn o_all)) (cQ G (TY3 cI cJ cZ) sz (wX10_isForward cI cJ cZ h_o h_o_all h_o_tape h_o_words h_o_told h_o_isTold h_o_toldWave h_o_isPoint h_o_quarter h_o_roots h_o_laidRe h_o_laidIm h_o_byOrder h_o_noted1 h_o_counts h_o_binBy o_tapeSize o_thrown o_fault o_faultPlace o_stop o_next o_kind o_which o_at o_pointsRead o_bank o_isImage o_undos o_runRadix o_runOrder o_runNear o_runLimit o_runHalves o_power o_notedMany o_knownTold o_drawn o_all) (wX10_isForward cI cJ cZ h_o h_o_all h_o_tape h_o_words h_o_told h_o_isTold h_o_toldWave h_o_isPoint h_o_quarter h_o_roots h_o_laidRe h_o_laidIm h_o_byOrder h_o_noted1 h_o_counts h_o_binBy o_tapeSize o_thrown o_fault o_faultPlace o_stop o_next o_kind o_which o_at o_pointsRead o_bank o_isImage o_undos o_runRadix o_runOrder o_runNear o_runLimit o_runHalves o_power o_notedMany o_knownTold o_drawn o_all) (some (.int r))) 0 0 (va_A (wX10_isForward cI cJ cZ h_o h_o_all h_o_tape h_o_words h_o_told h_o_isTold h_o_toldWave h_o_isPoint h_o_quarter h_o_roots h_o_laidRe h_o_laidIm h_o_byOrder h_o_noted1 h_o_counts h_o_binBy o_tapeSize o_thrown o_fault o_faultPlace o_stop o_next o_kind o_which o_at o_pointsRead o_bank o_isImage o_undos o_runRadix o_runOrder o_runNear o_runLimit o_runHalves o_power o_notedMany o_knownTold o_drawn o_all) sz) := by
  refine met_z (cc := cX10_isForward) (maxL := 1) (plainFor_of_name (by decide)) (Nat.le_of_ble_eq_true rfl) (fun p e s m below meth c A ls Q hx hb hml hts hown hK hP hD hS hA hl hret => ?_)
  have hown : s.vm.findClass RX10 = some m.cls := hown
  have hl : lv_has ls 1 [(0, .ref h_o)] := hl
  unfold fX10_isForward at hf
  obtain ⟨H, eH⟩ : ∃ H, H = s.heap := ⟨_, rfl⟩
  obtain ⟨locs, elocs⟩ : ∃ z : List Loc, z = [] := ⟨_, rfl⟩
  have hP : va_P G vwCl (wX10_isForward cI cJ cZ h_o h_o_all h_o_tape h_o_words h_o_told h_o_isTold h_o_toldWave h_o_isPoint h_o_quarter h_o_roots h_o_laidRe h_o_laidIm h_o_byOrder h_o_noted1 h_o_counts h_o_binBy o_tapeSize o_thrown o_fault o_faultPlace o_stop o_next o_kind o_which o_at o_pointsRead o_bank o_isImage o_undos o_runRadix o_runOrder o_runNear o_runLimit o_runHalves o_power o_notedMany o_knownTold o_drawn o_all) H := by rw [eH]; exact hP
  have hS : va_S A s.heap H locs := by rw [eH, elocs]; exact hS
  suffices hgo : W p l e ({ frames := 3, cells := 0, slots := 0, locals := 60 } : Room) s m ([.ref h_o] : List Value).toArray below meth c H locs 0 0 Q (F0 m 0 ls []) by rw [eH, elocs] at hgo; exact hgo
  clear eH elocs
  refine lv_aload_n hx hb dX10_isForward_0 rfl (lv_at hl 0 rfl) ?_
  obtain ⟨r_1, e_2, hf⟩ := bd1_x hf
  refine call_v [] [] ⟨hx, hb, hml, hown, hts⟩ hK hP hD hS hA hl.1 (tX10_isDone l G cI cJ cZ H.size h_o h_o_all h_o_tape h_o_words h_o_told h_o_isTold h_o_toldWave h_o_isPoint h_o_quarter h_o_roots h_o_laidRe h_o_laidIm h_o_byOrder h_o_noted1 h_o_counts h_o_binBy o_tapeSize o_thrown o_fault o_faultPlace o_stop o_next o_kind o_which o_at o_pointsRead o_bank o_isImage o_undos o_runRadix o_runOrder o_runNear o_runLimit o_runHalves o_power o_notedMany o_knownTold o_drawn o_all r_1 e_2) (cwV 0 hts (gv q_mX10_268 q_i_yX10_isDone q_s_yX10_isDone q_n_RX10 q_k_yX10_isDone) rfl rfl rfl (by decide +kernel) ⟨by decide, by decide⟩) rfl rfl (Nat.le_of_ble_eq_true rfl) dX10_isForward_1 ⟨Nat.zero_le _, Nat.zero_le _⟩ (ci := 10) rfl 0 rfl [0, 1] [] [0, 1] rfl rfl (ws2 := (wX10_isForward cI cJ cZ h_o h_o_all h_o_tape h_o_words h_o_told h_o_isTold h_o_toldWave h_o_isPoint h_o_quarter h_o_roots h_o_laidRe h_o_laidIm h_o_byOrder h_o_noted1 h_o_counts h_o_binBy o_tapeSize o_thrown o_fault o_faultPlace o_stop o_next o_kind o_which o_at o_pointsRead o_bank o_isImage o_undos o_runRadix o_runOrder o_runNear o_runLimit o_runHalves o_power o_notedMany o_knownTold o_drawn o_all)) rfl (fun H locs hP hD hS => ?_)
  refine W.eq (g2 := F0 m 4 ls [.int r_1]) rfl ?_
  refine lv_if_eq (tgt := 21) hx hb dX10_isForward_4 (by decide) (fun c_3 => ?_) (fun c_3 => ?_)
  · have hf := it_t c_3 hf
    refine lv_iconst (v := (0 : Int32)) hx hb dX10_isForward_21 (by decide) ?_
    cases hf
    exact hret _ _ _ _ dX10_isForward_22 rfl hP hD hS
  · have hf := it_f c_3 hf
    refine lv_aload_n hx hb dX10_isForward_7 rfl (lv_at hl 0 rfl) ?_
    refine lv_sipush (v := (130 : Int32)) hx hb dX10_isForward_8 (by decide) ?_
    obtain ⟨r_4, e_5, hf⟩ := bd1_x hf
    refine call_v [.int (130 : Int32)] [] ⟨hx, hb, hml, hown, hts⟩ hK hP hD hS hA hl.1 (tX10_of l G cI cJ cZ H.size h_o h_o_all h_o_tape h_o_words h_o_told h_o_isTold h_o_toldWave h_o_isPoint h_o_quarter h_o_roots h_o_laidRe h_o_laidIm h_o_byOrder h_o_noted1 h_o_counts h_o_binBy o_tapeSize o_thrown o_fault o_faultPlace o_stop o_next o_kind o_which o_at o_pointsRead o_bank o_isImage o_undos o_runRadix o_runOrder o_runNear o_runLimit o_runHalves o_power o_notedMany o_knownTold o_drawn o_all (130 : Int32) r_4 e_5) (cwV 1 hts (gv q_mX10_187 q_i_yX10_of q_s_yX10_of q_n_RX10 q_k_yX10_of) rfl rfl rfl (by decide +kernel) ⟨by decide, by decide⟩) rfl rfl (Nat.le_of_ble_eq_true rfl) dX10_isForward_11 ⟨Nat.zero_le _, Nat.zero_le _⟩ (ci := 10) rfl 0 rfl [0, 1] [] [0, 1] rfl rfl (ws2 := (wX10_isForward cI cJ cZ h_o h_o_all h_o_tape h_o_words h_o_told h_o_isTold h_o_toldWave h_o_isPoint h_o_quarter h_o_roots h_o_laidRe h_o_laidIm h_o_byOrder h_o_noted1 h_o_counts h_o_binBy o_tapeSize o_thrown o_fault o_faultPlace o_stop o_next o_kind o_which o_at o_pointsRead o_bank o_isImage o_undos o_runRadix o_runOrder o_runNear o_runLimit o_runHalves o_power o_notedMany o_knownTold o_drawn o_all)) rfl (fun H locs hP hD hS => ?_)
    refine W.eq (g2 := F0 m 14 ls [.int r_4]) rfl ?_
    refine lv_if_ne (tgt := 21) hx hb dX10_isForward_14 (by decide) (fun c_6 => ?_) (fun c_6 => ?_)
    · have hf := it_f c_6 hf
      refine lv_iconst (v := (0 : Int32)) hx hb dX10_isForward_21 (by decide) ?_
      cases hf
      exact hret _ _ _ _ dX10_isForward_22 rfl hP hD hS
    · have hf := it_t c_6 hf
      refine lv_iconst (v := (1 : Int32)) hx hb dX10_isForward_17 (by decide) ?_
      refine lv_goto (tgt := 22) hx hb dX10_isForward_18 (by decide) ?_
      cases hf
      exact hret _ _ _ _ dX10_isForward_22 rfl hP hD hS
def wX10_isFresh (cI cJ cZ : ClassId) (h_o h_o_all h_o_tape h_o_words h_o_told h_o_isTold h_o_toldWave h_o_isPoint h_o_quarter h_o_roots h_o_laidRe h_o_laidIm h_o_byOrder h_o_noted1 h_o_counts h_o_binBy : Nat) (o_tapeSize : Int32) (o_thrown : Int32) (o_fault : Int32) (o_faultPlace : Int32) (o_stop : Int32) (o_next : Int32) (o_kind : Int32) (o_which : Int32) (o_at : Int32) (o_pointsRead : Int32) (o_bank : Int32) (o_isImage : Int32) (o_undos : Int32) (o_runRadix : Int32) (o_runOrder : Int32) (o_runNear : Int32) (o_runLimit : Int32) (o_runHalves : Int32) (o_power : Int32) (o_notedMany : Int32) (o_knownTold : Int32) (o_drawn : Int64) (o_all : Nat → Int32) : va_W := [(h_o, .inr (10, [.ref h_o_tape, .int o_tapeSize, .int o_thrown, .ref h_o_words, .int o_fault, .int o_faultPlace, .int o_stop, .int o_next, .int o_kind, .int o_which, .int o_at, .ref h_o_told, .ref h_o_isTold, .ref h_o_toldWave, .ref h_o_isPoint, .int o_pointsRead, .ref h_o_all, .int o_bank, .int o_isImage, .int o_undos, .int o_runRadix, .int o_runOrder, .int o_runNear, .int o_runLimit, .int o_runHalves, .ref h_o_quarter, .int o_power, .ref h_o_roots, .ref h_o_laidRe, .ref h_o_laidIm, .ref h_o_byOrder, .int o_notedMany, .int o_knownTold, .ref h_o_noted1, .ref h_o_counts, .ref h_o_binBy, .long o_drawn])), (h_o_all, .inl (cI, 3128, .inl o_all))]
def fX10_isFresh (o_bank : Int32) (o_all : Nat → Int32) : Option (Int32) :=
  bd1 (fX10_of o_bank o_all (129 : Int32)) (fun r_1 =>
  if r_1 = 0 then (
    bd1 (fX10_of o_bank o_all (130 : Int32)) (fun r_4 =>
    if r_4 = 0 then (
      some (1 : Int32)
    ) else (
      some (0 : Int32)
    ))
  ) else (
    some (0 : Int32)
  ))
set_option maxHeartbeats 4000000 in
set_option maxRecDepth 100000 in
theorem tX10_isFresh (l : Launch) (G : va_G) (cI cJ cZ : ClassId) (sz : Nat) (h_o h_o_all h_o_tape h_o_words h_o_told h_o_isTold h_o_toldWave h_o_isPoint h_o_quarter h_o_roots h_o_laidRe h_o_laidIm h_o_byOrder h_o_noted1 h_o_counts h_o_binBy : Nat) (o_tapeSize : Int32) (o_thrown : Int32) (o_fault : Int32) (o_faultPlace : Int32) (o_stop : Int32) (o_next : Int32) (o_kind : Int32) (o_which : Int32) (o_at : Int32) (o_pointsRead : Int32) (o_bank : Int32) (o_isImage : Int32) (o_undos : Int32) (o_runRadix : Int32) (o_runOrder : Int32) (o_runNear : Int32) (o_runLimit : Int32) (o_runHalves : Int32) (o_power : Int32) (o_notedMany : Int32) (o_knownTold : Int32) (o_drawn : Int64) (o_all : Nat → Int32) (r : Int32) (hf : fX10_isFresh o_bank o_all = some r) : Met l yX10_isFresh (Cond.code yX10_isFresh cX10_isFresh 1 (some .boolean) :: BIG) ({ frames := 1, cells := 0, slots := 0, locals := 21 } : Room) (cP G (TY3 cI cJ cZ) [.ref h_o] sz (wX10_isFresh cI cJ cZ h_o h_o_all h_o_tape h_o_words h_o_told h_o_isTold h_o_toldWave h_o_isPoint h_o_quarter h_o_roots h_o_laidRe h_o_laidIm h_o_byOrder h_o_noted1 h_o_counts h_o_binBy o_tapeSize o_thrown o_fault o_faultPlace o_stop o_next o_kind o_which o_at o_pointsRead o_bank o_isImage o_undos o_runRadix o_runOrder o_runNear o_runLimit o_runHalves o_power o_notedMany o_knownTold o_drawn o_all)) (cQ G (TY3 cI cJ cZ) sz (wX10_isFresh cI cJ cZ h_o h_o_all h_o_tape h_o_words h_o_told h_o_isTold h_o_toldWave h_o_isPoint h_o_quarter h_o_roots h_o_laidRe h_o_laidIm h_o_byOrder h_o_noted1 h_o_counts h_o_binBy o_tapeSize o_thrown o_fault o_faultPlace o_stop o_next o_kind o_which o_at o_pointsRead o_bank o_isImage o_undos o_runRadix o_runOrder o_runNear o_runLimit o_runHalves o_power o_notedMany o_knownTold o_drawn o_all) (wX10_isFresh cI cJ cZ h_o h_o_all h_o_tape h_o_words h_o_told h_o_isTold h_o_toldWave h_o_isPoint h_o_quarter h_o_roots h_o_laidRe h_o_laidIm h_o_byOrder h_o_noted1 h_o_counts h_o_binBy o_tapeSize o_thrown o_fault o_faultPlace o_stop o_next o_kind o_which o_at o_pointsRead o_bank o_isImage o_undos o_runRadix o_runOrder o_runNear o_runLimit o_runHalves o_power o_notedMany o_knownTold o_drawn o_all) (some (.int r))) 0 0 (va_A (wX10_isFresh cI cJ cZ h_o h_o_all h_o_tape h_o_words h_o_told h_o_isTold h_o_toldWave h_o_isPoint h_o_quarter h_o_roots h_o_laidRe h_o_laidIm h_o_byOrder h_o_noted1 h_o_counts h_o_binBy o_tapeSize o_thrown o_fault o_faultPlace o_stop o_next o_kind o_which o_at o_pointsRead o_bank o_isImage o_undos o_runRadix o_runOrder o_runNear o_runLimit o_runHalves o_power o_notedMany o_knownTold o_drawn o_all) sz) := by
  refine met_z (cc := cX10_isFresh) (maxL := 1) (plainFor_of_name (by decide)) (Nat.le_of_ble_eq_true rfl) (fun p e s m below meth c A ls Q hx hb hml hts hown hK hP hD hS hA hl hret => ?_)
  have hown : s.vm.findClass RX10 = some m.cls := hown
  have hl : lv_has ls 1 [(0, .ref h_o)] := hl
  unfold fX10_isFresh at hf
  obtain ⟨H, eH⟩ : ∃ H, H = s.heap := ⟨_, rfl⟩
  obtain ⟨locs, elocs⟩ : ∃ z : List Loc, z = [] := ⟨_, rfl⟩
  have hP : va_P G vwCl (wX10_isFresh cI cJ cZ h_o h_o_all h_o_tape h_o_words h_o_told h_o_isTold h_o_toldWave h_o_isPoint h_o_quarter h_o_roots h_o_laidRe h_o_laidIm h_o_byOrder h_o_noted1 h_o_counts h_o_binBy o_tapeSize o_thrown o_fault o_faultPlace o_stop o_next o_kind o_which o_at o_pointsRead o_bank o_isImage o_undos o_runRadix o_runOrder o_runNear o_runLimit o_runHalves o_power o_notedMany o_knownTold o_drawn o_all) H := by rw [eH]; exact hP
  have hS : va_S A s.heap H locs := by rw [eH, elocs]; exact hS
  suffices hgo : W p l e ({ frames := 1, cells := 0, slots := 0, locals := 21 } : Room) s m ([.ref h_o] : List Value).toArray below meth c H locs 0 0 Q (F0 m 0 ls []) by rw [eH, elocs] at hgo; exact hgo
  clear eH elocs
  refine lv_aload_n hx hb dX10_isFresh_0 rfl (lv_at hl 0 rfl) ?_
  refine lv_sipush (v := (129 : Int32)) hx hb dX10_isFresh_1 (by decide) ?_
  obtain ⟨r_1, e_2, hf⟩ := bd1_x hf
  refine call_v [.int (129 : Int32)] [] ⟨hx, hb, hml, hown, hts⟩ hK hP hD hS hA hl.1 (tX10_of l G cI cJ cZ H.size h_o h_o_all h_o_tape h_o_words h_o_told h_o_isTold h_o_toldWave h_o_isPoint h_o_quarter h_o_roots h_o_laidRe h_o_laidIm h_o_byOrder h_o_noted1 h_o_counts h_o_binBy o_tapeSize o_thrown o_fault o_faultPlace o_stop o_next o_kind o_which o_at o_pointsRead o_bank o_isImage o_undos o_runRadix o_runOrder o_runNear o_runLimit o_runHalves o_power o_notedMany o_knownTold o_drawn o_all (129 : Int32) r_1 e_2) (cwV 1 hts (gv q_mX10_187 q_i_yX10_of q_s_yX10_of q_n_RX10 q_k_yX10_of) rfl rfl rfl (by decide +kernel) ⟨by decide, by decide⟩) rfl rfl (Nat.le_of_ble_eq_true rfl) dX10_isFresh_4 ⟨Nat.zero_le _, Nat.zero_le _⟩ (ci := 10) rfl 0 rfl [0, 1] [] [0, 1] rfl rfl (ws2 := (wX10_isFresh cI cJ cZ h_o h_o_all h_o_tape h_o_words h_o_told h_o_isTold h_o_toldWave h_o_isPoint h_o_quarter h_o_roots h_o_laidRe h_o_laidIm h_o_byOrder h_o_noted1 h_o_counts h_o_binBy o_tapeSize o_thrown o_fault o_faultPlace o_stop o_next o_kind o_which o_at o_pointsRead o_bank o_isImage o_undos o_runRadix o_runOrder o_runNear o_runLimit o_runHalves o_power o_notedMany o_knownTold o_drawn o_all)) rfl (fun H locs hP hD hS => ?_)
  refine W.eq (g2 := F0 m 7 ls [.int r_1]) rfl ?_
  refine lv_if_ne (tgt := 24) hx hb dX10_isFresh_7 (by decide) (fun c_3 => ?_) (fun c_3 => ?_)
  · have hf := it_f c_3 hf
    refine lv_iconst (v := (0 : Int32)) hx hb dX10_isFresh_24 (by decide) ?_
    cases hf
    exact hret _ _ _ _ dX10_isFresh_25 rfl hP hD hS
  · have hf := it_t c_3 hf
    refine lv_aload_n hx hb dX10_isFresh_10 rfl (lv_at hl 0 rfl) ?_
    refine lv_sipush (v := (130 : Int32)) hx hb dX10_isFresh_11 (by decide) ?_
    obtain ⟨r_4, e_5, hf⟩ := bd1_x hf
    refine call_v [.int (130 : Int32)] [] ⟨hx, hb, hml, hown, hts⟩ hK hP hD hS hA hl.1 (tX10_of l G cI cJ cZ H.size h_o h_o_all h_o_tape h_o_words h_o_told h_o_isTold h_o_toldWave h_o_isPoint h_o_quarter h_o_roots h_o_laidRe h_o_laidIm h_o_byOrder h_o_noted1 h_o_counts h_o_binBy o_tapeSize o_thrown o_fault o_faultPlace o_stop o_next o_kind o_which o_at o_pointsRead o_bank o_isImage o_undos o_runRadix o_runOrder o_runNear o_runLimit o_runHalves o_power o_notedMany o_knownTold o_drawn o_all (130 : Int32) r_4 e_5) (cwV 1 hts (gv q_mX10_187 q_i_yX10_of q_s_yX10_of q_n_RX10 q_k_yX10_of) rfl rfl rfl (by decide +kernel) ⟨by decide, by decide⟩) rfl rfl (Nat.le_of_ble_eq_true rfl) dX10_isFresh_14 ⟨Nat.zero_le _, Nat.zero_le _⟩ (ci := 10) rfl 0 rfl [0, 1] [] [0, 1] rfl rfl (ws2 := (wX10_isFresh cI cJ cZ h_o h_o_all h_o_tape h_o_words h_o_told h_o_isTold h_o_toldWave h_o_isPoint h_o_quarter h_o_roots h_o_laidRe h_o_laidIm h_o_byOrder h_o_noted1 h_o_counts h_o_binBy o_tapeSize o_thrown o_fault o_faultPlace o_stop o_next o_kind o_which o_at o_pointsRead o_bank o_isImage o_undos o_runRadix o_runOrder o_runNear o_runLimit o_runHalves o_power o_notedMany o_knownTold o_drawn o_all)) rfl (fun H locs hP hD hS => ?_)
    refine W.eq (g2 := F0 m 17 ls [.int r_4]) rfl ?_
    refine lv_if_ne (tgt := 24) hx hb dX10_isFresh_17 (by decide) (fun c_6 => ?_) (fun c_6 => ?_)
    · have hf := it_f c_6 hf
      refine lv_iconst (v := (0 : Int32)) hx hb dX10_isFresh_24 (by decide) ?_
      cases hf
      exact hret _ _ _ _ dX10_isFresh_25 rfl hP hD hS
    · have hf := it_t c_6 hf
      refine lv_iconst (v := (1 : Int32)) hx hb dX10_isFresh_20 (by decide) ?_
      refine lv_goto (tgt := 25) hx hb dX10_isFresh_21 (by decide) ?_
      cases hf
      exact hret _ _ _ _ dX10_isFresh_25 rfl hP hD hS
def wX10_beatsAll (cI cJ cZ : ClassId) (h_o h_o_all h_o_laidIm h_o_laidRe h_o_quarter h_o_told h_o_tape h_o_words h_o_isTold h_o_toldWave h_o_isPoint h_o_roots h_o_byOrder h_o_noted1 h_o_counts h_o_binBy : Nat) (o_tapeSize : Int32) (o_thrown : Int32) (o_fault : Int32) (o_faultPlace : Int32) (o_stop : Int32) (o_next : Int32) (o_kind : Int32) (o_which : Int32) (o_at : Int32) (o_pointsRead : Int32) (o_bank : Int32) (o_isImage : Int32) (o_undos : Int32) (o_runRadix : Int32) (o_runOrder : Int32) (o_runNear : Int32) (o_runLimit : Int32) (o_runHalves : Int32) (o_power : Int32) (o_notedMany : Int32) (o_knownTold : Int32) (o_drawn : Int64) (o_all : Nat → Int32) (o_laidIm : Nat → Int32) (o_laidRe : Nat → Int32) (o_quarter : Nat → Int32) (o_told : Nat → Int32) : va_W := [(h_o, .inr (10, [.ref h_o_tape, .int o_tapeSize, .int o_thrown, .ref h_o_words, .int o_fault, .int o_faultPlace, .int o_stop, .int o_next, .int o_kind, .int o_which, .int o_at, .ref h_o_told, .ref h_o_isTold, .ref h_o_toldWave, .ref h_o_isPoint, .int o_pointsRead, .ref h_o_all, .int o_bank, .int o_isImage, .int o_undos, .int o_runRadix, .int o_runOrder, .int o_runNear, .int o_runLimit, .int o_runHalves, .ref h_o_quarter, .int o_power, .ref h_o_roots, .ref h_o_laidRe, .ref h_o_laidIm, .ref h_o_byOrder, .int o_notedMany, .int o_knownTold, .ref h_o_noted1, .ref h_o_counts, .ref h_o_binBy, .long o_drawn])), (h_o_all, .inl (cI, 3128, .inl o_all)), (h_o_laidIm, .inl (cI, 32, .inl o_laidIm)), (h_o_laidRe, .inl (cI, 32, .inl o_laidRe)), (h_o_quarter, .inl (cI, 9, .inl o_quarter)), (h_o_told, .inl (cI, 12, .inl o_told))]
def fX10_beatsAll_0 (o_bank : Int32) (o_runRadix : Int32) (o_runOrder : Int32) (o_runNear : Int32) (o_runLimit : Int32) (o_runHalves : Int32) (o_power : Int32) (o_quarter : Nat → Int32) (o_told : Nat → Int32) : Nat → (Nat → Int32) → (Nat → Int32) → (Nat → Int32) → Option ((Nat → Int32) × (Nat → Int32) × (Nat → Int32))
  | 0, _, _, _ => none
  | n + 1, o_all, o_laidIm, o_laidRe =>
    bd1 (fX10_isDone o_bank o_runRadix o_power o_all) (fun r_1 =>
    if r_1 = 0 then (
      bd4 (fX10_beats o_bank o_runRadix o_runOrder o_runNear o_runLimit o_runHalves o_power o_all o_laidIm o_laidRe o_quarter o_told) (fun r_4 o_all_5 o_laidIm_6 o_laidRe_7 =>
      fX10_beatsAll_0 o_bank o_runRadix o_runOrder o_runNear o_runLimit o_runHalves o_power o_quarter o_told n o_all_5 o_laidIm_6 o_laidRe_7)
    ) else (
      some (o_all, o_laidIm, o_laidRe)
    ))
def fX10_beatsAll (o_bank : Int32) (o_runRadix : Int32) (o_runOrder : Int32) (o_runNear : Int32) (o_runLimit : Int32) (o_runHalves : Int32) (o_power : Int32) (o_all : Nat → Int32) (o_laidIm : Nat → Int32) (o_laidRe : Nat → Int32) (o_quarter : Nat → Int32) (o_told : Nat → Int32) : Option ((Nat → Int32) × (Nat → Int32) × (Nat → Int32)) :=
  fX10_beatsAll_0 o_bank o_runRadix o_runOrder o_runNear o_runLimit o_runHalves o_power o_quarter o_told FU o_all o_laidIm o_laidRe
set_option maxHeartbeats 4000000 in
set_option maxRecDepth 100000 in
theorem tX10_beatsAll (l : Launch) (G : va_G) (cI cJ cZ : ClassId) (sz : Nat) (h_o h_o_all h_o_laidIm h_o_laidRe h_o_quarter h_o_told h_o_tape h_o_words h_o_isTold h_o_toldWave h_o_isPoint h_o_roots h_o_byOrder h_o_noted1 h_o_counts h_o_binBy : Nat) (o_tapeSize : Int32) (o_thrown : Int32) (o_fault : Int32) (o_faultPlace : Int32) (o_stop : Int32) (o_next : Int32) (o_kind : Int32) (o_which : Int32) (o_at : Int32) (o_pointsRead : Int32) (o_bank : Int32) (o_isImage : Int32) (o_undos : Int32) (o_runRadix : Int32) (o_runOrder : Int32) (o_runNear : Int32) (o_runLimit : Int32) (o_runHalves : Int32) (o_power : Int32) (o_notedMany : Int32) (o_knownTold : Int32) (o_drawn : Int64) (o_all : Nat → Int32) (o_laidIm : Nat → Int32) (o_laidRe : Nat → Int32) (o_quarter : Nat → Int32) (o_told : Nat → Int32) (out_o_all : Nat → Int32) (out_o_laidIm : Nat → Int32) (out_o_laidRe : Nat → Int32) (hf : fX10_beatsAll o_bank o_runRadix o_runOrder o_runNear o_runLimit o_runHalves o_power o_all o_laidIm o_laidRe o_quarter o_told = some (out_o_all, out_o_laidIm, out_o_laidRe)) : Met l yX10_beatsAll (Cond.code yX10_beatsAll cX10_beatsAll 1 none :: BIG) ({ frames := 6, cells := 0, slots := 0, locals := 147 } : Room) (cP G (TY3 cI cJ cZ) [.ref h_o] sz (wX10_beatsAll cI cJ cZ h_o h_o_all h_o_laidIm h_o_laidRe h_o_quarter h_o_told h_o_tape h_o_words h_o_isTold h_o_toldWave h_o_isPoint h_o_roots h_o_byOrder h_o_noted1 h_o_counts h_o_binBy o_tapeSize o_thrown o_fault o_faultPlace o_stop o_next o_kind o_which o_at o_pointsRead o_bank o_isImage o_undos o_runRadix o_runOrder o_runNear o_runLimit o_runHalves o_power o_notedMany o_knownTold o_drawn o_all o_laidIm o_laidRe o_quarter o_told)) (cQ G (TY3 cI cJ cZ) sz (wX10_beatsAll cI cJ cZ h_o h_o_all h_o_laidIm h_o_laidRe h_o_quarter h_o_told h_o_tape h_o_words h_o_isTold h_o_toldWave h_o_isPoint h_o_roots h_o_byOrder h_o_noted1 h_o_counts h_o_binBy o_tapeSize o_thrown o_fault o_faultPlace o_stop o_next o_kind o_which o_at o_pointsRead o_bank o_isImage o_undos o_runRadix o_runOrder o_runNear o_runLimit o_runHalves o_power o_notedMany o_knownTold o_drawn o_all o_laidIm o_laidRe o_quarter o_told) (wX10_beatsAll cI cJ cZ h_o h_o_all h_o_laidIm h_o_laidRe h_o_quarter h_o_told h_o_tape h_o_words h_o_isTold h_o_toldWave h_o_isPoint h_o_roots h_o_byOrder h_o_noted1 h_o_counts h_o_binBy o_tapeSize o_thrown o_fault o_faultPlace o_stop o_next o_kind o_which o_at o_pointsRead o_bank o_isImage o_undos o_runRadix o_runOrder o_runNear o_runLimit o_runHalves o_power o_notedMany o_knownTold o_drawn out_o_all out_o_laidIm out_o_laidRe o_quarter o_told) none) 0 0 (va_A (wX10_beatsAll cI cJ cZ h_o h_o_all h_o_laidIm h_o_laidRe h_o_quarter h_o_told h_o_tape h_o_words h_o_isTold h_o_toldWave h_o_isPoint h_o_roots h_o_byOrder h_o_noted1 h_o_counts h_o_binBy o_tapeSize o_thrown o_fault o_faultPlace o_stop o_next o_kind o_which o_at o_pointsRead o_bank o_isImage o_undos o_runRadix o_runOrder o_runNear o_runLimit o_runHalves o_power o_notedMany o_knownTold o_drawn o_all o_laidIm o_laidRe o_quarter o_told) sz) := by
  refine met_v (cc := cX10_beatsAll) (maxL := 1) (plainFor_of_name (by decide)) (Nat.le_of_ble_eq_true rfl) (fun p e s m below meth c A ls Q hx hb hml hts hown hK hP hD hS hA hl hret => ?_)
  have hown : s.vm.findClass RX10 = some m.cls := hown
  have hl : lv_has ls 1 [(0, .ref h_o)] := hl
  have j0 : ∀ (n : Nat) (o_all : Nat → Int32) (o_laidIm : Nat → Int32) (o_laidRe : Nat → Int32) (H : Heap) (locs : List Loc) (ls : Array Slot), fX10_beatsAll_0 o_bank o_runRadix o_runOrder o_runNear o_runLimit o_runHalves o_power o_quarter o_told n o_all o_laidIm o_laidRe = some (out_o_all, out_o_laidIm, out_o_laidRe) → va_P G vwCl (wX10_beatsAll cI cJ cZ h_o h_o_all h_o_laidIm h_o_laidRe h_o_quarter h_o_told h_o_tape h_o_words h_o_isTold h_o_toldWave h_o_isPoint h_o_roots h_o_byOrder h_o_noted1 h_o_counts h_o_binBy o_tapeSize o_thrown o_fault o_faultPlace o_stop o_next o_kind o_which o_at o_pointsRead o_bank o_isImage o_undos o_runRadix o_runOrder o_runNear o_runLimit o_runHalves o_power o_notedMany o_knownTold o_drawn o_all o_laidIm o_laidRe o_quarter o_told) H → va_D A (wX10_beatsAll cI cJ cZ h_o h_o_all h_o_laidIm h_o_laidRe h_o_quarter h_o_told h_o_tape h_o_words h_o_isTold h_o_toldWave h_o_isPoint h_o_roots h_o_byOrder h_o_noted1 h_o_counts h_o_binBy o_tapeSize o_thrown o_fault o_faultPlace o_stop o_next o_kind o_which o_at o_pointsRead o_bank o_isImage o_undos o_runRadix o_runOrder o_runNear o_runLimit o_runHalves o_power o_notedMany o_knownTold o_drawn o_all o_laidIm o_laidRe o_quarter o_told) → va_S A s.heap H locs → lv_has ls 1 [(0, .ref h_o)] → W p l e ({ frames := 6, cells := 0, slots := 0, locals := 147 } : Room) s m ([.ref h_o] : List Value).toArray below meth c H locs 0 0 Q (F0 m 0 ls []) := by
    intro n
    induction n with
    | zero =>
      intro o_all o_laidIm o_laidRe H locs ls hf
      have hf : (none : Option ((Nat → Int32) × (Nat → Int32) × (Nat → Int32))) = some (out_o_all, out_o_laidIm, out_o_laidRe) := hf
      cases hf
    | succ n ih =>
      intro o_all o_laidIm o_laidRe H locs ls hf hP hD hS hl
      rw [fX10_beatsAll_0.eq_2] at hf
      refine lv_aload_n hx hb dX10_beatsAll_0 rfl (lv_at hl 0 rfl) ?_
      obtain ⟨r_1, e_2, hf⟩ := bd1_x hf
      refine call_v [] [] ⟨hx, hb, hml, hown, hts⟩ hK hP hD hS hA hl.1 (tX10_isDone l G cI cJ cZ H.size h_o h_o_all h_o_tape h_o_words h_o_told h_o_isTold h_o_toldWave h_o_isPoint h_o_quarter h_o_roots h_o_laidRe h_o_laidIm h_o_byOrder h_o_noted1 h_o_counts h_o_binBy o_tapeSize o_thrown o_fault o_faultPlace o_stop o_next o_kind o_which o_at o_pointsRead o_bank o_isImage o_undos o_runRadix o_runOrder o_runNear o_runLimit o_runHalves o_power o_notedMany o_knownTold o_drawn o_all r_1 e_2) (cwV 0 hts (gv q_mX10_268 q_i_yX10_isDone q_s_yX10_isDone q_n_RX10 q_k_yX10_isDone) rfl rfl rfl (by decide +kernel) ⟨by decide, by decide⟩) rfl rfl (Nat.le_of_ble_eq_true rfl) dX10_beatsAll_1 ⟨Nat.zero_le _, Nat.zero_le _⟩ (ci := 10) rfl 0 rfl [0, 1] [2, 3, 4, 5] [4, 5, 0, 1, 2, 3] rfl rfl (ws2 := (wX10_beatsAll cI cJ cZ h_o h_o_all h_o_laidIm h_o_laidRe h_o_quarter h_o_told h_o_tape h_o_words h_o_isTold h_o_toldWave h_o_isPoint h_o_roots h_o_byOrder h_o_noted1 h_o_counts h_o_binBy o_tapeSize o_thrown o_fault o_faultPlace o_stop o_next o_kind o_which o_at o_pointsRead o_bank o_isImage o_undos o_runRadix o_runOrder o_runNear o_runLimit o_runHalves o_power o_notedMany o_knownTold o_drawn o_all o_laidIm o_laidRe o_quarter o_told)) rfl (fun H locs hP hD hS => ?_)
      refine W.eq (g2 := F0 m 4 ls [.int r_1]) rfl ?_
      refine lv_if_ne (tgt := 15) hx hb dX10_beatsAll_4 (by decide) (fun c_3 => ?_) (fun c_3 => ?_)
      · have hf := it_f c_3 hf
        cases hf
        exact hret _ _ _ _ dX10_beatsAll_15 hP hD hS
      · have hf := it_t c_3 hf
        refine lv_aload_n hx hb dX10_beatsAll_7 rfl (lv_at hl 0 rfl) ?_
        obtain ⟨r_4, o_all_5, o_laidIm_6, o_laidRe_7, e_8, hf⟩ := bd4_x hf
        refine call_v [] [] ⟨hx, hb, hml, hown, hts⟩ hK hP hD hS hA hl.1 (tX10_beats l G cI cJ cZ H.size h_o h_o_all h_o_laidIm h_o_laidRe h_o_quarter h_o_told h_o_tape h_o_words h_o_isTold h_o_toldWave h_o_isPoint h_o_roots h_o_byOrder h_o_noted1 h_o_counts h_o_binBy o_tapeSize o_thrown o_fault o_faultPlace o_stop o_next o_kind o_which o_at o_pointsRead o_bank o_isImage o_undos o_runRadix o_runOrder o_runNear o_runLimit o_runHalves o_power o_notedMany o_knownTold o_drawn o_all o_laidIm o_laidRe o_quarter o_told r_4 o_all_5 o_laidIm_6 o_laidRe_7 e_8) (cwV 0 hts (gv q_mX10_271 q_i_yX10_beats q_s_yX10_beats q_n_RX10 q_k_yX10_beats) rfl rfl rfl (by decide +kernel) ⟨by decide, by decide⟩) rfl rfl (Nat.le_of_ble_eq_true rfl) dX10_beatsAll_8 ⟨Nat.zero_le _, Nat.zero_le _⟩ (ci := 10) rfl 0 rfl [0, 1, 2, 3, 4, 5] [] [0, 1, 2, 3, 4, 5] rfl rfl (ws2 := (wX10_beatsAll cI cJ cZ h_o h_o_all h_o_laidIm h_o_laidRe h_o_quarter h_o_told h_o_tape h_o_words h_o_isTold h_o_toldWave h_o_isPoint h_o_roots h_o_byOrder h_o_noted1 h_o_counts h_o_binBy o_tapeSize o_thrown o_fault o_faultPlace o_stop o_next o_kind o_which o_at o_pointsRead o_bank o_isImage o_undos o_runRadix o_runOrder o_runNear o_runLimit o_runHalves o_power o_notedMany o_knownTold o_drawn o_all_5 o_laidIm_6 o_laidRe_7 o_quarter o_told)) rfl (fun H locs hP hD hS => ?_)
        refine W.eq (g2 := F0 m 11 ls [.int r_4]) rfl ?_
        refine lv_pop hx hb dX10_beatsAll_11 rfl ?_
        refine lv_goto (tgt := 0) hx hb dX10_beatsAll_12 (by decide) ?_
        exact ih o_all_5 o_laidIm_6 o_laidRe_7 H locs ls hf hP hD hS (lv_sub hl [0] rfl)
  unfold fX10_beatsAll at hf
  obtain ⟨H, eH⟩ : ∃ H, H = s.heap := ⟨_, rfl⟩
  obtain ⟨locs, elocs⟩ : ∃ z : List Loc, z = [] := ⟨_, rfl⟩
  have hP : va_P G vwCl (wX10_beatsAll cI cJ cZ h_o h_o_all h_o_laidIm h_o_laidRe h_o_quarter h_o_told h_o_tape h_o_words h_o_isTold h_o_toldWave h_o_isPoint h_o_roots h_o_byOrder h_o_noted1 h_o_counts h_o_binBy o_tapeSize o_thrown o_fault o_faultPlace o_stop o_next o_kind o_which o_at o_pointsRead o_bank o_isImage o_undos o_runRadix o_runOrder o_runNear o_runLimit o_runHalves o_power o_notedMany o_knownTold o_drawn o_all o_laidIm o_laidRe o_quarter o_told) H := by rw [eH]; exact hP
  have hS : va_S A s.heap H locs := by rw [eH, elocs]; exact hS
  suffices hgo : W p l e ({ frames := 6, cells := 0, slots := 0, locals := 147 } : Room) s m ([.ref h_o] : List Value).toArray below meth c H locs 0 0 Q (F0 m 0 ls []) by rw [eH, elocs] at hgo; exact hgo
  clear eH elocs
  exact j0 FU o_all o_laidIm o_laidRe H locs ls hf hP hD hS (lv_sub hl [0] rfl)
