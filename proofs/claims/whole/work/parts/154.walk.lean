def wX10_notes1 (cI cJ cZ : ClassId) (h_o h_o_noted1 h_o_tape h_o_words h_o_told h_o_isTold h_o_toldWave h_o_isPoint h_o_all h_o_quarter h_o_roots h_o_laidRe h_o_laidIm h_o_byOrder h_o_counts h_o_binBy : Nat) (o_tapeSize : Int32) (o_thrown : Int32) (o_fault : Int32) (o_faultPlace : Int32) (o_stop : Int32) (o_next : Int32) (o_kind : Int32) (o_which : Int32) (o_at : Int32) (o_pointsRead : Int32) (o_bank : Int32) (o_isImage : Int32) (o_undos : Int32) (o_runRadix : Int32) (o_runOrder : Int32) (o_runNear : Int32) (o_runLimit : Int32) (o_runHalves : Int32) (o_power : Int32) (o_notedMany : Int32) (o_knownTold : Int32) (o_drawn : Int64) (o_noted1 : Nat → Int32) : va_W := [(h_o, .inr (10, [.ref h_o_tape, .int o_tapeSize, .int o_thrown, .ref h_o_words, .int o_fault, .int o_faultPlace, .int o_stop, .int o_next, .int o_kind, .int o_which, .int o_at, .ref h_o_told, .ref h_o_isTold, .ref h_o_toldWave, .ref h_o_isPoint, .int o_pointsRead, .ref h_o_all, .int o_bank, .int o_isImage, .int o_undos, .int o_runRadix, .int o_runOrder, .int o_runNear, .int o_runLimit, .int o_runHalves, .ref h_o_quarter, .int o_power, .ref h_o_roots, .ref h_o_laidRe, .ref h_o_laidIm, .ref h_o_byOrder, .int o_notedMany, .int o_knownTold, .ref h_o_noted1, .ref h_o_counts, .ref h_o_binBy, .long o_drawn])), (h_o_noted1, .inl (cI, 72, .inl o_noted1))]
def fX10_notes1 (o_notedMany : Int32) (o_noted1 : Nat → Int32) (p1 : Int32) (p2 : Int32) (p3 : Int32) : Option (Int32 × Int32 × (Nat → Int32)) :=
  if o_notedMany = (24 : Int32) then (
    some ((-1 : Int32), o_notedMany, o_noted1)
  ) else (
    nm ((3 : Int32) * o_notedMany) (fun v4_2 =>
    gd (inb v4_2 72) (
    nm (upd o_noted1 (Int32.toNatClampNeg v4_2) p1) (fun o_noted1_4 =>
    gd (inb (v4_2 + (1 : Int32)) 72) (
    nm (upd o_noted1_4 (Int32.toNatClampNeg (v4_2 + (1 : Int32))) p2) (fun o_noted1_6 =>
    gd (inb (v4_2 + (2 : Int32)) 72) (
    nm (upd o_noted1_6 (Int32.toNatClampNeg (v4_2 + (2 : Int32))) p3) (fun o_noted1_8 =>
    nm (o_notedMany + (1 : Int32)) (fun u_9 =>
    some (u_9 - (1 : Int32), u_9, o_noted1_8)))))))))
  )
set_option maxHeartbeats 4000000 in
set_option maxRecDepth 100000 in
theorem tX10_notes1 (l : Launch) (G : va_G) (cI cJ cZ : ClassId) (sz : Nat) (h_o h_o_noted1 h_o_tape h_o_words h_o_told h_o_isTold h_o_toldWave h_o_isPoint h_o_all h_o_quarter h_o_roots h_o_laidRe h_o_laidIm h_o_byOrder h_o_counts h_o_binBy : Nat) (o_tapeSize : Int32) (o_thrown : Int32) (o_fault : Int32) (o_faultPlace : Int32) (o_stop : Int32) (o_next : Int32) (o_kind : Int32) (o_which : Int32) (o_at : Int32) (o_pointsRead : Int32) (o_bank : Int32) (o_isImage : Int32) (o_undos : Int32) (o_runRadix : Int32) (o_runOrder : Int32) (o_runNear : Int32) (o_runLimit : Int32) (o_runHalves : Int32) (o_power : Int32) (o_notedMany : Int32) (o_knownTold : Int32) (o_drawn : Int64) (o_noted1 : Nat → Int32) (p1 : Int32) (p2 : Int32) (p3 : Int32) (r : Int32) (out_o_notedMany : Int32) (out_o_noted1 : Nat → Int32) (hf : fX10_notes1 o_notedMany o_noted1 p1 p2 p3 = some (r, out_o_notedMany, out_o_noted1)) : Met l yX10_notes1 (Cond.code yX10_notes1 cX10_notes1 5 (some .int) :: BIG) ({ frames := 0, cells := 0, slots := 0, locals := 0 } : Room) (cP G (TY3 cI cJ cZ) [.ref h_o, .int p1, .int p2, .int p3] sz (wX10_notes1 cI cJ cZ h_o h_o_noted1 h_o_tape h_o_words h_o_told h_o_isTold h_o_toldWave h_o_isPoint h_o_all h_o_quarter h_o_roots h_o_laidRe h_o_laidIm h_o_byOrder h_o_counts h_o_binBy o_tapeSize o_thrown o_fault o_faultPlace o_stop o_next o_kind o_which o_at o_pointsRead o_bank o_isImage o_undos o_runRadix o_runOrder o_runNear o_runLimit o_runHalves o_power o_notedMany o_knownTold o_drawn o_noted1)) (cQ G (TY3 cI cJ cZ) sz (wX10_notes1 cI cJ cZ h_o h_o_noted1 h_o_tape h_o_words h_o_told h_o_isTold h_o_toldWave h_o_isPoint h_o_all h_o_quarter h_o_roots h_o_laidRe h_o_laidIm h_o_byOrder h_o_counts h_o_binBy o_tapeSize o_thrown o_fault o_faultPlace o_stop o_next o_kind o_which o_at o_pointsRead o_bank o_isImage o_undos o_runRadix o_runOrder o_runNear o_runLimit o_runHalves o_power o_notedMany o_knownTold o_drawn o_noted1) (wX10_notes1 cI cJ cZ h_o h_o_noted1 h_o_tape h_o_words h_o_told h_o_isTold h_o_toldWave h_o_isPoint h_o_all h_o_quarter h_o_roots h_o_laidRe h_o_laidIm h_o_byOrder h_o_counts h_o_binBy o_tapeSize o_thrown o_fault o_faultPlace o_stop o_next o_kind o_which o_at o_pointsRead o_bank o_isImage o_undos o_runRadix o_runOrder o_runNear o_runLimit o_runHalves o_power out_o_notedMany o_knownTold o_drawn out_o_noted1) (some (.int r))) 0 0 (va_A (wX10_notes1 cI cJ cZ h_o h_o_noted1 h_o_tape h_o_words h_o_told h_o_isTold h_o_toldWave h_o_isPoint h_o_all h_o_quarter h_o_roots h_o_laidRe h_o_laidIm h_o_byOrder h_o_counts h_o_binBy o_tapeSize o_thrown o_fault o_faultPlace o_stop o_next o_kind o_which o_at o_pointsRead o_bank o_isImage o_undos o_runRadix o_runOrder o_runNear o_runLimit o_runHalves o_power o_notedMany o_knownTold o_drawn o_noted1) sz) := by
  refine met_i (cc := cX10_notes1) (maxL := 5) (plainFor_of_name (by decide)) (Nat.le_of_ble_eq_true rfl) (fun p e s m below meth c A ls Q hx hb hml hts hown hK hP hD hS hA hl hret => ?_)
  have hown : s.vm.findClass RX10 = some m.cls := hown
  have hl : lv_has ls 5 [(0, .ref h_o), (1, .int p1), (2, .int p2), (3, .int p3)] := hl
  unfold fX10_notes1 at hf
  obtain ⟨H, eH⟩ : ∃ H, H = s.heap := ⟨_, rfl⟩
  obtain ⟨locs, elocs⟩ : ∃ z : List Loc, z = [] := ⟨_, rfl⟩
  have hP : va_P G vwCl (wX10_notes1 cI cJ cZ h_o h_o_noted1 h_o_tape h_o_words h_o_told h_o_isTold h_o_toldWave h_o_isPoint h_o_all h_o_quarter h_o_roots h_o_laidRe h_o_laidIm h_o_byOrder h_o_counts h_o_binBy o_tapeSize o_thrown o_fault o_faultPlace o_stop o_next o_kind o_which o_at o_pointsRead o_bank o_isImage o_undos o_runRadix o_runOrder o_runNear o_runLimit o_runHalves o_power o_notedMany o_knownTold o_drawn o_noted1) H := by rw [eH]; exact hP
  have hS : va_S A s.heap H locs := by rw [eH, elocs]; exact hS
  suffices hgo : W p l e ({ frames := 0, cells := 0, slots := 0, locals := 0 } : Room) s m ([.ref h_o, .int p1, .int p2, .int p3] : List Value).toArray below meth c H locs 0 0 Q (F0 m 0 ls []) by rw [eH, elocs] at hgo; exact hgo
  clear eH elocs
  refine lv_aload_n hx hb dX10_notes1_0 rfl (lv_at hl 0 rfl) ?_
  refine rd (ci := 10) (C := RX10) (T := TX10) (N := 37) hx hb hts inX10 hown hK hP 0 31 rfl rfl (by decide) (hts _ q_fX10_132) rfl dX10_notes1_1 ?_
  refine lv_bipush (v := (24 : Int32)) hx hb dX10_notes1_4 (by decide) ?_
  refine lv_icmp_ne (tgt := 11) hx hb dX10_notes1_6 (by decide) (fun c_1 => ?_) (fun c_1 => ?_)
  · have hf := it_f c_1 hf
    refine lv_iconst (v := (3 : Int32)) hx hb dX10_notes1_11 (by decide) ?_
    refine lv_aload_n hx hb dX10_notes1_12 rfl (lv_at hl 0 rfl) ?_
    refine rd (ci := 10) (C := RX10) (T := TX10) (N := 37) hx hb hts inX10 hown hK hP 0 31 rfl rfl (by decide) (hts _ q_fX10_132) rfl dX10_notes1_13 ?_
    refine lv_imul hx hb dX10_notes1_16 ?_
    refine lv_topi (fun v4_2 ev4_2 => ?_)
    have hf := nm_x ev4_2 hf
    refine lv_istore (lv' := [(4, .int v4_2), (0, .ref h_o), (1, .int p1), (2, .int p2), (3, .int p3)]) hx hb dX10_notes1_17 hl (by decide) rfl (fun ls hl => ?_)
    refine lv_aload_n hx hb dX10_notes1_19 rfl (lv_at hl 1 rfl) ?_
    refine rd (ci := 10) (C := RX10) (T := TX10) (N := 37) hx hb hts inX10 hown hK hP 0 33 rfl rfl (by decide) (hts _ q_fX10_55) rfl dX10_notes1_20 ?_
    refine lv_iload hx hb dX10_notes1_23 (lv_at hl 0 rfl) ?_
    refine lv_iload_n hx hb dX10_notes1_25 rfl (lv_at hl 2 rfl) ?_
    obtain ⟨g_3, hf⟩ := gd_x hf
    obtain ⟨o_noted1_4, eo_noted1_4⟩ : ∃ y : Nat → Int32, y = upd o_noted1 (Int32.toNatClampNeg v4_2) p1 := ⟨_, rfl⟩
    have hf := nm_x eo_noted1_4 hf
    refine ist hx hb hK hP hD hS 1 0 rfl rfl (inb_x g_3) dX10_notes1_26 eo_noted1_4 (ws2 := (wX10_notes1 cI cJ cZ h_o h_o_noted1 h_o_tape h_o_words h_o_told h_o_isTold h_o_toldWave h_o_isPoint h_o_all h_o_quarter h_o_roots h_o_laidRe h_o_laidIm h_o_byOrder h_o_counts h_o_binBy o_tapeSize o_thrown o_fault o_faultPlace o_stop o_next o_kind o_which o_at o_pointsRead o_bank o_isImage o_undos o_runRadix o_runOrder o_runNear o_runLimit o_runHalves o_power o_notedMany o_knownTold o_drawn o_noted1_4)) rfl (fun H locs hP hD hS => ?_)
    refine lv_aload_n hx hb dX10_notes1_27 rfl (lv_at hl 1 rfl) ?_
    refine rd (ci := 10) (C := RX10) (T := TX10) (N := 37) hx hb hts inX10 hown hK hP 0 33 rfl rfl (by decide) (hts _ q_fX10_55) rfl dX10_notes1_28 ?_
    refine lv_iload hx hb dX10_notes1_31 (lv_at hl 0 rfl) ?_
    refine lv_iconst (v := (1 : Int32)) hx hb dX10_notes1_33 (by decide) ?_
    refine lv_iadd hx hb dX10_notes1_34 ?_
    refine lv_iload_n hx hb dX10_notes1_35 rfl (lv_at hl 3 rfl) ?_
    obtain ⟨g_5, hf⟩ := gd_x hf
    obtain ⟨o_noted1_6, eo_noted1_6⟩ : ∃ y : Nat → Int32, y = upd o_noted1_4 (Int32.toNatClampNeg (v4_2 + (1 : Int32))) p2 := ⟨_, rfl⟩
    have hf := nm_x eo_noted1_6 hf
    refine ist hx hb hK hP hD hS 1 0 rfl rfl (inb_x g_5) dX10_notes1_36 eo_noted1_6 (ws2 := (wX10_notes1 cI cJ cZ h_o h_o_noted1 h_o_tape h_o_words h_o_told h_o_isTold h_o_toldWave h_o_isPoint h_o_all h_o_quarter h_o_roots h_o_laidRe h_o_laidIm h_o_byOrder h_o_counts h_o_binBy o_tapeSize o_thrown o_fault o_faultPlace o_stop o_next o_kind o_which o_at o_pointsRead o_bank o_isImage o_undos o_runRadix o_runOrder o_runNear o_runLimit o_runHalves o_power o_notedMany o_knownTold o_drawn o_noted1_6)) rfl (fun H locs hP hD hS => ?_)
    refine lv_aload_n hx hb dX10_notes1_37 rfl (lv_at hl 1 rfl) ?_
    refine rd (ci := 10) (C := RX10) (T := TX10) (N := 37) hx hb hts inX10 hown hK hP 0 33 rfl rfl (by decide) (hts _ q_fX10_55) rfl dX10_notes1_38 ?_
    refine lv_iload hx hb dX10_notes1_41 (lv_at hl 0 rfl) ?_
    refine lv_iconst (v := (2 : Int32)) hx hb dX10_notes1_43 (by decide) ?_
    refine lv_iadd hx hb dX10_notes1_44 ?_
    refine lv_iload_n hx hb dX10_notes1_45 rfl (lv_at hl 4 rfl) ?_
    obtain ⟨g_7, hf⟩ := gd_x hf
    obtain ⟨o_noted1_8, eo_noted1_8⟩ : ∃ y : Nat → Int32, y = upd o_noted1_6 (Int32.toNatClampNeg (v4_2 + (2 : Int32))) p3 := ⟨_, rfl⟩
    have hf := nm_x eo_noted1_8 hf
    refine ist hx hb hK hP hD hS 1 0 rfl rfl (inb_x g_7) dX10_notes1_46 eo_noted1_8 (ws2 := (wX10_notes1 cI cJ cZ h_o h_o_noted1 h_o_tape h_o_words h_o_told h_o_isTold h_o_toldWave h_o_isPoint h_o_all h_o_quarter h_o_roots h_o_laidRe h_o_laidIm h_o_byOrder h_o_counts h_o_binBy o_tapeSize o_thrown o_fault o_faultPlace o_stop o_next o_kind o_which o_at o_pointsRead o_bank o_isImage o_undos o_runRadix o_runOrder o_runNear o_runLimit o_runHalves o_power o_notedMany o_knownTold o_drawn o_noted1_8)) rfl (fun H locs hP hD hS => ?_)
    refine lv_aload_n hx hb dX10_notes1_47 rfl (lv_at hl 1 rfl) ?_
    refine lv_dup hx hb dX10_notes1_48 rfl ?_
    refine rd (ci := 10) (C := RX10) (T := TX10) (N := 37) hx hb hts inX10 hown hK hP 0 31 rfl rfl (by decide) (hts _ q_fX10_132) rfl dX10_notes1_49 ?_
    refine lv_iconst (v := (1 : Int32)) hx hb dX10_notes1_52 (by decide) ?_
    refine lv_iadd hx hb dX10_notes1_53 ?_
    refine lv_topi (fun u_9 eu_9 => ?_)
    have hf := nm_x eu_9 hf
    refine wr (ci := 10) (C := RX10) (T := TX10) (N := 37) hx hb hts inX10 tyX10 tyX10_ok nmX10 hown hK hP hD hS 0 31 rfl rfl (by decide) (hts _ q_fX10_132) rfl rfl rfl (Nat.le_of_ble_eq_true rfl) dX10_notes1_54 (ws2 := (wX10_notes1 cI cJ cZ h_o h_o_noted1 h_o_tape h_o_words h_o_told h_o_isTold h_o_toldWave h_o_isPoint h_o_all h_o_quarter h_o_roots h_o_laidRe h_o_laidIm h_o_byOrder h_o_counts h_o_binBy o_tapeSize o_thrown o_fault o_faultPlace o_stop o_next o_kind o_which o_at o_pointsRead o_bank o_isImage o_undos o_runRadix o_runOrder o_runNear o_runLimit o_runHalves o_power u_9 o_knownTold o_drawn o_noted1_8)) rfl (fun H locs hP hD hS => ?_)
    refine lv_aload_n hx hb dX10_notes1_57 rfl (lv_at hl 1 rfl) ?_
    refine rd (ci := 10) (C := RX10) (T := TX10) (N := 37) hx hb hts inX10 hown hK hP 0 31 rfl rfl (by decide) (hts _ q_fX10_132) rfl dX10_notes1_58 ?_
    refine lv_iconst (v := (1 : Int32)) hx hb dX10_notes1_61 (by decide) ?_
    refine lv_isub hx hb dX10_notes1_62 ?_
    cases hf
    exact hret _ _ _ _ dX10_notes1_63 hP hD hS
  · have hf := it_t c_1 hf
    refine lv_iconst (v := (-1 : Int32)) hx hb dX10_notes1_9 (by decide) ?_
    cases hf
    exact hret _ _ _ _ dX10_notes1_10 hP hD hS
def wX10_note (cI cJ cZ : ClassId) (h_o h_o_noted1 h_o_told h_o_tape h_o_words h_o_isTold h_o_toldWave h_o_isPoint h_o_all h_o_quarter h_o_roots h_o_laidRe h_o_laidIm h_o_byOrder h_o_counts h_o_binBy : Nat) (o_tapeSize : Int32) (o_thrown : Int32) (o_fault : Int32) (o_faultPlace : Int32) (o_stop : Int32) (o_next : Int32) (o_kind : Int32) (o_which : Int32) (o_at : Int32) (o_pointsRead : Int32) (o_bank : Int32) (o_isImage : Int32) (o_undos : Int32) (o_runRadix : Int32) (o_runOrder : Int32) (o_runNear : Int32) (o_runLimit : Int32) (o_runHalves : Int32) (o_power : Int32) (o_notedMany : Int32) (o_knownTold : Int32) (o_drawn : Int64) (o_noted1 : Nat → Int32) (o_told : Nat → Int32) : va_W := [(h_o, .inr (10, [.ref h_o_tape, .int o_tapeSize, .int o_thrown, .ref h_o_words, .int o_fault, .int o_faultPlace, .int o_stop, .int o_next, .int o_kind, .int o_which, .int o_at, .ref h_o_told, .ref h_o_isTold, .ref h_o_toldWave, .ref h_o_isPoint, .int o_pointsRead, .ref h_o_all, .int o_bank, .int o_isImage, .int o_undos, .int o_runRadix, .int o_runOrder, .int o_runNear, .int o_runLimit, .int o_runHalves, .ref h_o_quarter, .int o_power, .ref h_o_roots, .ref h_o_laidRe, .ref h_o_laidIm, .ref h_o_byOrder, .int o_notedMany, .int o_knownTold, .ref h_o_noted1, .ref h_o_counts, .ref h_o_binBy, .long o_drawn])), (h_o_noted1, .inl (cI, 72, .inl o_noted1)), (h_o_told, .inl (cI, 12, .inl o_told))]
def fX10_note_35 (o_thrown : Int32) (o_notedMany : Int32) (o_noted1 : Nat → Int32) (s1 : Int32) (s2 : Int32) (s3 : Int32) : Option (Int32 × Int32 × Int32 × (Nat → Int32)) :=
  bd3 (fX10_notes1 o_notedMany o_noted1 s1 s2 s3) (fun r_8 o_notedMany_9 o_noted1_10 =>
  some (r_8, o_thrown, o_notedMany_9, o_noted1_10))
def fX10_note (o_thrown : Int32) (o_notedMany : Int32) (o_noted1 : Nat → Int32) (o_told : Nat → Int32) (p1 : Int32) (p2 : Int32) (p3 : Int32) : Option (Int32 × Int32 × Int32 × (Nat → Int32)) :=
  bd1 (fX10_isPlace o_told p1) (fun r_1 =>
  if r_1 = 0 then (
    some ((-1 : Int32), (0 : Int32), o_notedMany, o_noted1)
  ) else (
    bd1 (fX10_isIn p2 (0 : Int32) (96 : Int32)) (fun r_4 =>
    if r_4 = 0 then (
      some ((-1 : Int32), (0 : Int32), o_notedMany, o_noted1)
    ) else (
      if p3 = 0 then (
        fX10_note_35 (0 : Int32) o_notedMany o_noted1 p1 p2 (0 : Int32)
      ) else (
        fX10_note_35 (0 : Int32) o_notedMany o_noted1 p1 p2 (1 : Int32)
      )
    ))
  ))
set_option maxHeartbeats 4000000 in
set_option maxRecDepth 100000 in
theorem tX10_note (l : Launch) (G : va_G) (cI cJ cZ : ClassId) (sz : Nat) (h_o h_o_noted1 h_o_told h_o_tape h_o_words h_o_isTold h_o_toldWave h_o_isPoint h_o_all h_o_quarter h_o_roots h_o_laidRe h_o_laidIm h_o_byOrder h_o_counts h_o_binBy : Nat) (o_tapeSize : Int32) (o_thrown : Int32) (o_fault : Int32) (o_faultPlace : Int32) (o_stop : Int32) (o_next : Int32) (o_kind : Int32) (o_which : Int32) (o_at : Int32) (o_pointsRead : Int32) (o_bank : Int32) (o_isImage : Int32) (o_undos : Int32) (o_runRadix : Int32) (o_runOrder : Int32) (o_runNear : Int32) (o_runLimit : Int32) (o_runHalves : Int32) (o_power : Int32) (o_notedMany : Int32) (o_knownTold : Int32) (o_drawn : Int64) (o_noted1 : Nat → Int32) (o_told : Nat → Int32) (p1 : Int32) (p2 : Int32) (p3 : Int32) (r : Int32) (out_o_thrown : Int32) (out_o_notedMany : Int32) (out_o_noted1 : Nat → Int32) (hf : fX10_note o_thrown o_notedMany o_noted1 o_told p1 p2 p3 = some (r, out_o_thrown, out_o_notedMany, out_o_noted1)) : Met l yX10_note (Cond.code yX10_note cX10_note 4 (some .int) :: BIG) ({ frames := 2, cells := 0, slots := 0, locals := 41 } : Room) (cP G (TY3 cI cJ cZ) [.ref h_o, .int p1, .int p2, .int p3] sz (wX10_note cI cJ cZ h_o h_o_noted1 h_o_told h_o_tape h_o_words h_o_isTold h_o_toldWave h_o_isPoint h_o_all h_o_quarter h_o_roots h_o_laidRe h_o_laidIm h_o_byOrder h_o_counts h_o_binBy o_tapeSize o_thrown o_fault o_faultPlace o_stop o_next o_kind o_which o_at o_pointsRead o_bank o_isImage o_undos o_runRadix o_runOrder o_runNear o_runLimit o_runHalves o_power o_notedMany o_knownTold o_drawn o_noted1 o_told)) (cQ G (TY3 cI cJ cZ) sz (wX10_note cI cJ cZ h_o h_o_noted1 h_o_told h_o_tape h_o_words h_o_isTold h_o_toldWave h_o_isPoint h_o_all h_o_quarter h_o_roots h_o_laidRe h_o_laidIm h_o_byOrder h_o_counts h_o_binBy o_tapeSize o_thrown o_fault o_faultPlace o_stop o_next o_kind o_which o_at o_pointsRead o_bank o_isImage o_undos o_runRadix o_runOrder o_runNear o_runLimit o_runHalves o_power o_notedMany o_knownTold o_drawn o_noted1 o_told) (wX10_note cI cJ cZ h_o h_o_noted1 h_o_told h_o_tape h_o_words h_o_isTold h_o_toldWave h_o_isPoint h_o_all h_o_quarter h_o_roots h_o_laidRe h_o_laidIm h_o_byOrder h_o_counts h_o_binBy o_tapeSize out_o_thrown o_fault o_faultPlace o_stop o_next o_kind o_which o_at o_pointsRead o_bank o_isImage o_undos o_runRadix o_runOrder o_runNear o_runLimit o_runHalves o_power out_o_notedMany o_knownTold o_drawn out_o_noted1 o_told) (some (.int r))) 0 0 (va_A (wX10_note cI cJ cZ h_o h_o_noted1 h_o_told h_o_tape h_o_words h_o_isTold h_o_toldWave h_o_isPoint h_o_all h_o_quarter h_o_roots h_o_laidRe h_o_laidIm h_o_byOrder h_o_counts h_o_binBy o_tapeSize o_thrown o_fault o_faultPlace o_stop o_next o_kind o_which o_at o_pointsRead o_bank o_isImage o_undos o_runRadix o_runOrder o_runNear o_runLimit o_runHalves o_power o_notedMany o_knownTold o_drawn o_noted1 o_told) sz) := by
  refine met_i (cc := cX10_note) (maxL := 4) (plainFor_of_name (by decide)) (Nat.le_of_ble_eq_true rfl) (fun p e s m below meth c A ls Q hx hb hml hts hown hK hP hD hS hA hl hret => ?_)
  have hown : s.vm.findClass RX10 = some m.cls := hown
  have hl : lv_has ls 4 [(0, .ref h_o), (1, .int p1), (2, .int p2), (3, .int p3)] := hl
  have j35 : ∀ (o_thrown : Int32) (o_notedMany : Int32) (o_noted1 : Nat → Int32) (s1 : Int32) (s2 : Int32) (s3 : Int32) (H : Heap) (locs : List Loc) (ls : Array Slot), fX10_note_35 o_thrown o_notedMany o_noted1 s1 s2 s3 = some (r, out_o_thrown, out_o_notedMany, out_o_noted1) → va_P G vwCl (wX10_note cI cJ cZ h_o h_o_noted1 h_o_told h_o_tape h_o_words h_o_isTold h_o_toldWave h_o_isPoint h_o_all h_o_quarter h_o_roots h_o_laidRe h_o_laidIm h_o_byOrder h_o_counts h_o_binBy o_tapeSize o_thrown o_fault o_faultPlace o_stop o_next o_kind o_which o_at o_pointsRead o_bank o_isImage o_undos o_runRadix o_runOrder o_runNear o_runLimit o_runHalves o_power o_notedMany o_knownTold o_drawn o_noted1 o_told) H → va_D A (wX10_note cI cJ cZ h_o h_o_noted1 h_o_told h_o_tape h_o_words h_o_isTold h_o_toldWave h_o_isPoint h_o_all h_o_quarter h_o_roots h_o_laidRe h_o_laidIm h_o_byOrder h_o_counts h_o_binBy o_tapeSize o_thrown o_fault o_faultPlace o_stop o_next o_kind o_which o_at o_pointsRead o_bank o_isImage o_undos o_runRadix o_runOrder o_runNear o_runLimit o_runHalves o_power o_notedMany o_knownTold o_drawn o_noted1 o_told) → va_S A s.heap H locs → lv_has ls 4 [] → W p l e ({ frames := 2, cells := 0, slots := 0, locals := 41 } : Room) s m ([.ref h_o, .int p1, .int p2, .int p3] : List Value).toArray below meth c H locs 0 0 Q (F0 m 35 ls [.int s3, .int s2, .int s1, .ref h_o]) := by
    intro o_thrown o_notedMany o_noted1 s1 s2 s3 H locs ls hf hP hD hS hl
    unfold fX10_note_35 at hf
    obtain ⟨r_8, o_notedMany_9, o_noted1_10, e_11, hf⟩ := bd3_x hf
    refine call_v [.int s1, .int s2, .int s3] [] ⟨hx, hb, hml, hown, hts⟩ hK hP hD hS hA hl.1 (tX10_notes1 l G cI cJ cZ H.size h_o h_o_noted1 h_o_tape h_o_words h_o_told h_o_isTold h_o_toldWave h_o_isPoint h_o_all h_o_quarter h_o_roots h_o_laidRe h_o_laidIm h_o_byOrder h_o_counts h_o_binBy o_tapeSize o_thrown o_fault o_faultPlace o_stop o_next o_kind o_which o_at o_pointsRead o_bank o_isImage o_undos o_runRadix o_runOrder o_runNear o_runLimit o_runHalves o_power o_notedMany o_knownTold o_drawn o_noted1 s1 s2 s3 r_8 o_notedMany_9 o_noted1_10 e_11) (cwV 3 hts (gv q_mX10_372 q_i_yX10_notes1 q_s_yX10_notes1 q_n_RX10 q_k_yX10_notes1) rfl rfl rfl (by decide +kernel) ⟨by decide, by decide⟩) rfl rfl (Nat.le_of_ble_eq_true rfl) dX10_note_35 ⟨Nat.zero_le _, Nat.zero_le _⟩ (ci := 10) rfl 0 rfl [0, 1] [2] [1, 2, 0] rfl rfl (ws2 := (wX10_note cI cJ cZ h_o h_o_noted1 h_o_told h_o_tape h_o_words h_o_isTold h_o_toldWave h_o_isPoint h_o_all h_o_quarter h_o_roots h_o_laidRe h_o_laidIm h_o_byOrder h_o_counts h_o_binBy o_tapeSize o_thrown o_fault o_faultPlace o_stop o_next o_kind o_which o_at o_pointsRead o_bank o_isImage o_undos o_runRadix o_runOrder o_runNear o_runLimit o_runHalves o_power o_notedMany_9 o_knownTold o_drawn o_noted1_10 o_told)) rfl (fun H locs hP hD hS => ?_)
    refine W.eq (g2 := F0 m 38 ls [.int r_8]) rfl ?_
    refine lv_goto (tgt := 42) hx hb dX10_note_38 (by decide) ?_
    cases hf
    exact hret _ _ _ _ dX10_note_42 hP hD hS
  unfold fX10_note at hf
  obtain ⟨H, eH⟩ : ∃ H, H = s.heap := ⟨_, rfl⟩
  obtain ⟨locs, elocs⟩ : ∃ z : List Loc, z = [] := ⟨_, rfl⟩
  have hP : va_P G vwCl (wX10_note cI cJ cZ h_o h_o_noted1 h_o_told h_o_tape h_o_words h_o_isTold h_o_toldWave h_o_isPoint h_o_all h_o_quarter h_o_roots h_o_laidRe h_o_laidIm h_o_byOrder h_o_counts h_o_binBy o_tapeSize o_thrown o_fault o_faultPlace o_stop o_next o_kind o_which o_at o_pointsRead o_bank o_isImage o_undos o_runRadix o_runOrder o_runNear o_runLimit o_runHalves o_power o_notedMany o_knownTold o_drawn o_noted1 o_told) H := by rw [eH]; exact hP
  have hS : va_S A s.heap H locs := by rw [eH, elocs]; exact hS
  suffices hgo : W p l e ({ frames := 2, cells := 0, slots := 0, locals := 41 } : Room) s m ([.ref h_o, .int p1, .int p2, .int p3] : List Value).toArray below meth c H locs 0 0 Q (F0 m 0 ls []) by rw [eH, elocs] at hgo; exact hgo
  clear eH elocs
  refine lv_aload_n hx hb dX10_note_0 rfl (lv_at hl 0 rfl) ?_
  refine lv_iconst (v := (0 : Int32)) hx hb dX10_note_1 (by decide) ?_
  refine wr (ci := 10) (C := RX10) (T := TX10) (N := 37) hx hb hts inX10 tyX10 tyX10_ok nmX10 hown hK hP hD hS 0 2 rfl rfl (by decide) (hts _ q_fX10_70) rfl rfl rfl (Nat.le_of_ble_eq_true rfl) dX10_note_2 (ws2 := (wX10_note cI cJ cZ h_o h_o_noted1 h_o_told h_o_tape h_o_words h_o_isTold h_o_toldWave h_o_isPoint h_o_all h_o_quarter h_o_roots h_o_laidRe h_o_laidIm h_o_byOrder h_o_counts h_o_binBy o_tapeSize (0 : Int32) o_fault o_faultPlace o_stop o_next o_kind o_which o_at o_pointsRead o_bank o_isImage o_undos o_runRadix o_runOrder o_runNear o_runLimit o_runHalves o_power o_notedMany o_knownTold o_drawn o_noted1 o_told)) rfl (fun H locs hP hD hS => ?_)
  refine lv_aload_n hx hb dX10_note_5 rfl (lv_at hl 0 rfl) ?_
  refine lv_iload_n hx hb dX10_note_6 rfl (lv_at hl 1 rfl) ?_
  obtain ⟨r_1, e_2, hf⟩ := bd1_x hf
  refine call_v [.int p1] [] ⟨hx, hb, hml, hown, hts⟩ hK hP hD hS hA hl.1 (tX10_isPlace l G cI cJ cZ H.size h_o h_o_told h_o_tape h_o_words h_o_isTold h_o_toldWave h_o_isPoint h_o_all h_o_quarter h_o_roots h_o_laidRe h_o_laidIm h_o_byOrder h_o_noted1 h_o_counts h_o_binBy o_tapeSize (0 : Int32) o_fault o_faultPlace o_stop o_next o_kind o_which o_at o_pointsRead o_bank o_isImage o_undos o_runRadix o_runOrder o_runNear o_runLimit o_runHalves o_power o_notedMany o_knownTold o_drawn o_told p1 r_1 e_2) (cwV 1 hts (gv q_mX10_203 q_i_yX10_isPlace q_s_yX10_isPlace q_n_RX10 q_k_yX10_isPlace) rfl rfl rfl (by decide +kernel) ⟨by decide, by decide⟩) rfl rfl (Nat.le_of_ble_eq_true rfl) dX10_note_7 ⟨Nat.zero_le _, Nat.zero_le _⟩ (ci := 10) rfl 0 rfl [0, 2] [1] [1, 0, 2] rfl rfl (ws2 := (wX10_note cI cJ cZ h_o h_o_noted1 h_o_told h_o_tape h_o_words h_o_isTold h_o_toldWave h_o_isPoint h_o_all h_o_quarter h_o_roots h_o_laidRe h_o_laidIm h_o_byOrder h_o_counts h_o_binBy o_tapeSize (0 : Int32) o_fault o_faultPlace o_stop o_next o_kind o_which o_at o_pointsRead o_bank o_isImage o_undos o_runRadix o_runOrder o_runNear o_runLimit o_runHalves o_power o_notedMany o_knownTold o_drawn o_noted1 o_told)) rfl (fun H locs hP hD hS => ?_)
  refine W.eq (g2 := F0 m 10 ls [.int r_1]) rfl ?_
  refine lv_if_eq (tgt := 41) hx hb dX10_note_10 (by decide) (fun c_3 => ?_) (fun c_3 => ?_)
  · have hf := it_t c_3 hf
    refine lv_iconst (v := (-1 : Int32)) hx hb dX10_note_41 (by decide) ?_
    cases hf
    exact hret _ _ _ _ dX10_note_42 hP hD hS
  · have hf := it_f c_3 hf
    refine lv_iload_n hx hb dX10_note_13 rfl (lv_at hl 2 rfl) ?_
    refine lv_iconst (v := (0 : Int32)) hx hb dX10_note_14 (by decide) ?_
    refine lv_bipush (v := (96 : Int32)) hx hb dX10_note_15 (by decide) ?_
    obtain ⟨r_4, e_5, hf⟩ := bd1_x hf
    refine call_s [.int p2, .int (0 : Int32), .int (96 : Int32)] [] ⟨hx, hb, hml, hown, hts⟩ hK hP hD hS hA hl.1 (tX10_isIn l G cI cJ cZ H.size p2 (0 : Int32) (96 : Int32) r_4 e_5) (va_cwS 3 hts (gs q_mX10_138 q_s_yX10_isIn q_n_RX10 q_k_yX10_isIn) rfl rfl rfl (by decide +kernel) ⟨by decide, by decide⟩) rfl rfl (Nat.le_of_ble_eq_true rfl) dX10_note_17 ⟨Nat.zero_le _, Nat.zero_le _⟩ [] [0, 1, 2] [0, 1, 2] rfl rfl (ws2 := (wX10_note cI cJ cZ h_o h_o_noted1 h_o_told h_o_tape h_o_words h_o_isTold h_o_toldWave h_o_isPoint h_o_all h_o_quarter h_o_roots h_o_laidRe h_o_laidIm h_o_byOrder h_o_counts h_o_binBy o_tapeSize (0 : Int32) o_fault o_faultPlace o_stop o_next o_kind o_which o_at o_pointsRead o_bank o_isImage o_undos o_runRadix o_runOrder o_runNear o_runLimit o_runHalves o_power o_notedMany o_knownTold o_drawn o_noted1 o_told)) rfl (fun H locs hP hD hS => ?_)
    refine W.eq (g2 := F0 m 20 ls [.int r_4]) rfl ?_
    refine lv_if_eq (tgt := 41) hx hb dX10_note_20 (by decide) (fun c_6 => ?_) (fun c_6 => ?_)
    · have hf := it_t c_6 hf
      refine lv_iconst (v := (-1 : Int32)) hx hb dX10_note_41 (by decide) ?_
      cases hf
      exact hret _ _ _ _ dX10_note_42 hP hD hS
    · have hf := it_f c_6 hf
      refine lv_aload_n hx hb dX10_note_23 rfl (lv_at hl 0 rfl) ?_
      refine lv_iload_n hx hb dX10_note_24 rfl (lv_at hl 1 rfl) ?_
      refine lv_iload_n hx hb dX10_note_25 rfl (lv_at hl 2 rfl) ?_
      refine lv_iload_n hx hb dX10_note_26 rfl (lv_at hl 3 rfl) ?_
      refine lv_if_eq (tgt := 34) hx hb dX10_note_27 (by decide) (fun c_7 => ?_) (fun c_7 => ?_)
      · have hf := it_t c_7 hf
        refine lv_iconst (v := (0 : Int32)) hx hb dX10_note_34 (by decide) ?_
        exact j35 (0 : Int32) o_notedMany o_noted1 p1 p2 (0 : Int32) H locs ls hf hP hD hS (lv_sub hl [] rfl)
      · have hf := it_f c_7 hf
        refine lv_iconst (v := (1 : Int32)) hx hb dX10_note_30 (by decide) ?_
        refine lv_goto (tgt := 35) hx hb dX10_note_31 (by decide) ?_
        exact j35 (0 : Int32) o_notedMany o_noted1 p1 p2 (1 : Int32) H locs ls hf hP hD hS (lv_sub hl [] rfl)
def wX10_strike (cI cJ cZ : ClassId) (h_o h_o_noted1 h_o_tape h_o_words h_o_told h_o_isTold h_o_toldWave h_o_isPoint h_o_all h_o_quarter h_o_roots h_o_laidRe h_o_laidIm h_o_byOrder h_o_counts h_o_binBy : Nat) (o_tapeSize : Int32) (o_thrown : Int32) (o_fault : Int32) (o_faultPlace : Int32) (o_stop : Int32) (o_next : Int32) (o_kind : Int32) (o_which : Int32) (o_at : Int32) (o_pointsRead : Int32) (o_bank : Int32) (o_isImage : Int32) (o_undos : Int32) (o_runRadix : Int32) (o_runOrder : Int32) (o_runNear : Int32) (o_runLimit : Int32) (o_runHalves : Int32) (o_power : Int32) (o_notedMany : Int32) (o_knownTold : Int32) (o_drawn : Int64) (o_noted1 : Nat → Int32) : va_W := [(h_o, .inr (10, [.ref h_o_tape, .int o_tapeSize, .int o_thrown, .ref h_o_words, .int o_fault, .int o_faultPlace, .int o_stop, .int o_next, .int o_kind, .int o_which, .int o_at, .ref h_o_told, .ref h_o_isTold, .ref h_o_toldWave, .ref h_o_isPoint, .int o_pointsRead, .ref h_o_all, .int o_bank, .int o_isImage, .int o_undos, .int o_runRadix, .int o_runOrder, .int o_runNear, .int o_runLimit, .int o_runHalves, .ref h_o_quarter, .int o_power, .ref h_o_roots, .ref h_o_laidRe, .ref h_o_laidIm, .ref h_o_byOrder, .int o_notedMany, .int o_knownTold, .ref h_o_noted1, .ref h_o_counts, .ref h_o_binBy, .long o_drawn])), (h_o_noted1, .inl (cI, 72, .inl o_noted1))]
def fX10_strike (o_thrown : Int32) (o_notedMany : Int32) (o_noted1 : Nat → Int32) (p1 : Int32) : Option (Int32 × Int32 × Int32 × (Nat → Int32)) :=
  if p1 < 0 then (
    some ((-1 : Int32), (0 : Int32), o_notedMany, o_noted1)
  ) else (
    if p1 < o_notedMany then (
      bd3 (fX10_notes1 o_notedMany o_noted1 (-1 : Int32) p1 (0 : Int32)) (fun r_3 o_notedMany_4 o_noted1_5 =>
      some (r_3, (0 : Int32), o_notedMany_4, o_noted1_5))
    ) else (
      some ((-1 : Int32), (0 : Int32), o_notedMany, o_noted1)
    )
  )
set_option maxHeartbeats 4000000 in
set_option maxRecDepth 100000 in
theorem tX10_strike (l : Launch) (G : va_G) (cI cJ cZ : ClassId) (sz : Nat) (h_o h_o_noted1 h_o_tape h_o_words h_o_told h_o_isTold h_o_toldWave h_o_isPoint h_o_all h_o_quarter h_o_roots h_o_laidRe h_o_laidIm h_o_byOrder h_o_counts h_o_binBy : Nat) (o_tapeSize : Int32) (o_thrown : Int32) (o_fault : Int32) (o_faultPlace : Int32) (o_stop : Int32) (o_next : Int32) (o_kind : Int32) (o_which : Int32) (o_at : Int32) (o_pointsRead : Int32) (o_bank : Int32) (o_isImage : Int32) (o_undos : Int32) (o_runRadix : Int32) (o_runOrder : Int32) (o_runNear : Int32) (o_runLimit : Int32) (o_runHalves : Int32) (o_power : Int32) (o_notedMany : Int32) (o_knownTold : Int32) (o_drawn : Int64) (o_noted1 : Nat → Int32) (p1 : Int32) (r : Int32) (out_o_thrown : Int32) (out_o_notedMany : Int32) (out_o_noted1 : Nat → Int32) (hf : fX10_strike o_thrown o_notedMany o_noted1 p1 = some (r, out_o_thrown, out_o_notedMany, out_o_noted1)) : Met l yX10_strike (Cond.code yX10_strike cX10_strike 2 (some .int) :: BIG) ({ frames := 1, cells := 0, slots := 0, locals := 24 } : Room) (cP G (TY3 cI cJ cZ) [.ref h_o, .int p1] sz (wX10_strike cI cJ cZ h_o h_o_noted1 h_o_tape h_o_words h_o_told h_o_isTold h_o_toldWave h_o_isPoint h_o_all h_o_quarter h_o_roots h_o_laidRe h_o_laidIm h_o_byOrder h_o_counts h_o_binBy o_tapeSize o_thrown o_fault o_faultPlace o_stop o_next o_kind o_which o_at o_pointsRead o_bank o_isImage o_undos o_runRadix o_runOrder o_runNear o_runLimit o_runHalves o_power o_notedMany o_knownTold o_drawn o_noted1)) (cQ G (TY3 cI cJ cZ) sz (wX10_strike cI cJ cZ h_o h_o_noted1 h_o_tape h_o_words h_o_told h_o_isTold h_o_toldWave h_o_isPoint h_o_all h_o_quarter h_o_roots h_o_laidRe h_o_laidIm h_o_byOrder h_o_counts h_o_binBy o_tapeSize o_thrown o_fault o_faultPlace o_stop o_next o_kind o_which o_at o_pointsRead o_bank o_isImage o_undos o_runRadix o_runOrder o_runNear o_runLimit o_runHalves o_power o_notedMany o_knownTold o_drawn o_noted1) (wX10_strike cI cJ cZ h_o h_o_noted1 h_o_tape h_o_words h_o_told h_o_isTold h_o_toldWave h_o_isPoint h_o_all h_o_quarter h_o_roots h_o_laidRe h_o_laidIm h_o_byOrder h_o_counts h_o_binBy o_tapeSize out_o_thrown o_fault o_faultPlace o_stop o_next o_kind o_which o_at o_pointsRead o_bank o_isImage o_undos o_runRadix o_runOrder o_runNear o_runLimit o_runHalves o_power out_o_notedMany o_knownTold o_drawn out_o_noted1) (some (.int r))) 0 0 (va_A (wX10_strike cI cJ cZ h_o h_o_noted1 h_o_tape h_o_words h_o_told h_o_isTold h_o_toldWave h_o_isPoint h_o_all h_o_quarter h_o_roots h_o_laidRe h_o_laidIm h_o_byOrder h_o_counts h_o_binBy o_tapeSize o_thrown o_fault o_faultPlace o_stop o_next o_kind o_which o_at o_pointsRead o_bank o_isImage o_undos o_runRadix o_runOrder o_runNear o_runLimit o_runHalves o_power o_notedMany o_knownTold o_drawn o_noted1) sz) := by
  refine met_i (cc := cX10_strike) (maxL := 2) (plainFor_of_name (by decide)) (Nat.le_of_ble_eq_true rfl) (fun p e s m below meth c A ls Q hx hb hml hts hown hK hP hD hS hA hl hret => ?_)
  have hown : s.vm.findClass RX10 = some m.cls := hown
  have hl : lv_has ls 2 [(0, .ref h_o), (1, .int p1)] := hl
  unfold fX10_strike at hf
  obtain ⟨H, eH⟩ : ∃ H, H = s.heap := ⟨_, rfl⟩
  obtain ⟨locs, elocs⟩ : ∃ z : List Loc, z = [] := ⟨_, rfl⟩
  have hP : va_P G vwCl (wX10_strike cI cJ cZ h_o h_o_noted1 h_o_tape h_o_words h_o_told h_o_isTold h_o_toldWave h_o_isPoint h_o_all h_o_quarter h_o_roots h_o_laidRe h_o_laidIm h_o_byOrder h_o_counts h_o_binBy o_tapeSize o_thrown o_fault o_faultPlace o_stop o_next o_kind o_which o_at o_pointsRead o_bank o_isImage o_undos o_runRadix o_runOrder o_runNear o_runLimit o_runHalves o_power o_notedMany o_knownTold o_drawn o_noted1) H := by rw [eH]; exact hP
  have hS : va_S A s.heap H locs := by rw [eH, elocs]; exact hS
  suffices hgo : W p l e ({ frames := 1, cells := 0, slots := 0, locals := 24 } : Room) s m ([.ref h_o, .int p1] : List Value).toArray below meth c H locs 0 0 Q (F0 m 0 ls []) by rw [eH, elocs] at hgo; exact hgo
  clear eH elocs
  refine lv_aload_n hx hb dX10_strike_0 rfl (lv_at hl 0 rfl) ?_
  refine lv_iconst (v := (0 : Int32)) hx hb dX10_strike_1 (by decide) ?_
  refine wr (ci := 10) (C := RX10) (T := TX10) (N := 37) hx hb hts inX10 tyX10 tyX10_ok nmX10 hown hK hP hD hS 0 2 rfl rfl (by decide) (hts _ q_fX10_70) rfl rfl rfl (Nat.le_of_ble_eq_true rfl) dX10_strike_2 (ws2 := (wX10_strike cI cJ cZ h_o h_o_noted1 h_o_tape h_o_words h_o_told h_o_isTold h_o_toldWave h_o_isPoint h_o_all h_o_quarter h_o_roots h_o_laidRe h_o_laidIm h_o_byOrder h_o_counts h_o_binBy o_tapeSize (0 : Int32) o_fault o_faultPlace o_stop o_next o_kind o_which o_at o_pointsRead o_bank o_isImage o_undos o_runRadix o_runOrder o_runNear o_runLimit o_runHalves o_power o_notedMany o_knownTold o_drawn o_noted1)) rfl (fun H locs hP hD hS => ?_)
  refine lv_iload_n hx hb dX10_strike_5 rfl (lv_at hl 1 rfl) ?_
  refine lv_if_lt (tgt := 17) hx hb dX10_strike_6 (by decide) (fun c_1 => ?_) (fun c_1 => ?_)
  · have hf := it_t c_1 hf
    refine lv_iconst (v := (-1 : Int32)) hx hb dX10_strike_17 (by decide) ?_
    refine lv_goto (tgt := 28) hx hb dX10_strike_18 (by decide) ?_
    cases hf
    exact hret _ _ _ _ dX10_strike_28 hP hD hS
  · have hf := it_f c_1 hf
    refine lv_iload_n hx hb dX10_strike_9 rfl (lv_at hl 1 rfl) ?_
    refine lv_aload_n hx hb dX10_strike_10 rfl (lv_at hl 0 rfl) ?_
    refine rd (ci := 10) (C := RX10) (T := TX10) (N := 37) hx hb hts inX10 hown hK hP 0 31 rfl rfl (by decide) (hts _ q_fX10_132) rfl dX10_strike_11 ?_
    refine lv_icmp_lt (tgt := 21) hx hb dX10_strike_14 (by decide) (fun c_2 => ?_) (fun c_2 => ?_)
    · have hf := it_t c_2 hf
      refine lv_aload_n hx hb dX10_strike_21 rfl (lv_at hl 0 rfl) ?_
      refine lv_iconst (v := (-1 : Int32)) hx hb dX10_strike_22 (by decide) ?_
      refine lv_iload_n hx hb dX10_strike_23 rfl (lv_at hl 1 rfl) ?_
      refine lv_iconst (v := (0 : Int32)) hx hb dX10_strike_24 (by decide) ?_
      obtain ⟨r_3, o_notedMany_4, o_noted1_5, e_6, hf⟩ := bd3_x hf
      refine call_v [.int (-1 : Int32), .int p1, .int (0 : Int32)] [] ⟨hx, hb, hml, hown, hts⟩ hK hP hD hS hA hl.1 (tX10_notes1 l G cI cJ cZ H.size h_o h_o_noted1 h_o_tape h_o_words h_o_told h_o_isTold h_o_toldWave h_o_isPoint h_o_all h_o_quarter h_o_roots h_o_laidRe h_o_laidIm h_o_byOrder h_o_counts h_o_binBy o_tapeSize (0 : Int32) o_fault o_faultPlace o_stop o_next o_kind o_which o_at o_pointsRead o_bank o_isImage o_undos o_runRadix o_runOrder o_runNear o_runLimit o_runHalves o_power o_notedMany o_knownTold o_drawn o_noted1 (-1 : Int32) p1 (0 : Int32) r_3 o_notedMany_4 o_noted1_5 e_6) (cwV 3 hts (gv q_mX10_372 q_i_yX10_notes1 q_s_yX10_notes1 q_n_RX10 q_k_yX10_notes1) rfl rfl rfl (by decide +kernel) ⟨by decide, by decide⟩) rfl rfl (Nat.le_of_ble_eq_true rfl) dX10_strike_25 ⟨Nat.zero_le _, Nat.zero_le _⟩ (ci := 10) rfl 0 rfl [0, 1] [] [0, 1] rfl rfl (ws2 := (wX10_strike cI cJ cZ h_o h_o_noted1 h_o_tape h_o_words h_o_told h_o_isTold h_o_toldWave h_o_isPoint h_o_all h_o_quarter h_o_roots h_o_laidRe h_o_laidIm h_o_byOrder h_o_counts h_o_binBy o_tapeSize (0 : Int32) o_fault o_faultPlace o_stop o_next o_kind o_which o_at o_pointsRead o_bank o_isImage o_undos o_runRadix o_runOrder o_runNear o_runLimit o_runHalves o_power o_notedMany_4 o_knownTold o_drawn o_noted1_5)) rfl (fun H locs hP hD hS => ?_)
      refine W.eq (g2 := F0 m 28 ls [.int r_3]) rfl ?_
      cases hf
      exact hret _ _ _ _ dX10_strike_28 hP hD hS
    · have hf := it_f c_2 hf
      refine lv_iconst (v := (-1 : Int32)) hx hb dX10_strike_17 (by decide) ?_
      refine lv_goto (tgt := 28) hx hb dX10_strike_18 (by decide) ?_
      cases hf
      exact hret _ _ _ _ dX10_strike_28 hP hD hS
def wX10_known (cI cJ cZ : ClassId) (h_o h_o_tape h_o_words h_o_told h_o_isTold h_o_toldWave h_o_isPoint h_o_all h_o_quarter h_o_roots h_o_laidRe h_o_laidIm h_o_byOrder h_o_noted1 h_o_counts h_o_binBy : Nat) (o_tapeSize : Int32) (o_thrown : Int32) (o_fault : Int32) (o_faultPlace : Int32) (o_stop : Int32) (o_next : Int32) (o_kind : Int32) (o_which : Int32) (o_at : Int32) (o_pointsRead : Int32) (o_bank : Int32) (o_isImage : Int32) (o_undos : Int32) (o_runRadix : Int32) (o_runOrder : Int32) (o_runNear : Int32) (o_runLimit : Int32) (o_runHalves : Int32) (o_power : Int32) (o_notedMany : Int32) (o_knownTold : Int32) (o_drawn : Int64) : va_W := [(h_o, .inr (10, [.ref h_o_tape, .int o_tapeSize, .int o_thrown, .ref h_o_words, .int o_fault, .int o_faultPlace, .int o_stop, .int o_next, .int o_kind, .int o_which, .int o_at, .ref h_o_told, .ref h_o_isTold, .ref h_o_toldWave, .ref h_o_isPoint, .int o_pointsRead, .ref h_o_all, .int o_bank, .int o_isImage, .int o_undos, .int o_runRadix, .int o_runOrder, .int o_runNear, .int o_runLimit, .int o_runHalves, .ref h_o_quarter, .int o_power, .ref h_o_roots, .ref h_o_laidRe, .ref h_o_laidIm, .ref h_o_byOrder, .int o_notedMany, .int o_knownTold, .ref h_o_noted1, .ref h_o_counts, .ref h_o_binBy, .long o_drawn]))]
def fX10_known (o_thrown : Int32) (o_notedMany : Int32) (o_knownTold : Int32) (p1 : Int32) : Option (Int32 × Int32 × Int32) :=
  bd1 (fX10_isIn p1 (-1 : Int32) o_notedMany) (fun r_1 =>
  if r_1 = 0 then (
    some ((0 : Int32), (0 : Int32), o_knownTold)
  ) else (
    some ((1 : Int32), (0 : Int32), p1)
  ))
set_option maxHeartbeats 4000000 in
set_option maxRecDepth 100000 in
theorem tX10_known (l : Launch) (G : va_G) (cI cJ cZ : ClassId) (sz : Nat) (h_o h_o_tape h_o_words h_o_told h_o_isTold h_o_toldWave h_o_isPoint h_o_all h_o_quarter h_o_roots h_o_laidRe h_o_laidIm h_o_byOrder h_o_noted1 h_o_counts h_o_binBy : Nat) (o_tapeSize : Int32) (o_thrown : Int32) (o_fault : Int32) (o_faultPlace : Int32) (o_stop : Int32) (o_next : Int32) (o_kind : Int32) (o_which : Int32) (o_at : Int32) (o_pointsRead : Int32) (o_bank : Int32) (o_isImage : Int32) (o_undos : Int32) (o_runRadix : Int32) (o_runOrder : Int32) (o_runNear : Int32) (o_runLimit : Int32) (o_runHalves : Int32) (o_power : Int32) (o_notedMany : Int32) (o_knownTold : Int32) (o_drawn : Int64) (p1 : Int32) (r : Int32) (out_o_thrown : Int32) (out_o_knownTold : Int32) (hf : fX10_known o_thrown o_notedMany o_knownTold p1 = some (r, out_o_thrown, out_o_knownTold)) : Met l yX10_known (Cond.code yX10_known cX10_known 2 (some .boolean) :: BIG) ({ frames := 1, cells := 0, slots := 0, locals := 22 } : Room) (cP G (TY3 cI cJ cZ) [.ref h_o, .int p1] sz (wX10_known cI cJ cZ h_o h_o_tape h_o_words h_o_told h_o_isTold h_o_toldWave h_o_isPoint h_o_all h_o_quarter h_o_roots h_o_laidRe h_o_laidIm h_o_byOrder h_o_noted1 h_o_counts h_o_binBy o_tapeSize o_thrown o_fault o_faultPlace o_stop o_next o_kind o_which o_at o_pointsRead o_bank o_isImage o_undos o_runRadix o_runOrder o_runNear o_runLimit o_runHalves o_power o_notedMany o_knownTold o_drawn)) (cQ G (TY3 cI cJ cZ) sz (wX10_known cI cJ cZ h_o h_o_tape h_o_words h_o_told h_o_isTold h_o_toldWave h_o_isPoint h_o_all h_o_quarter h_o_roots h_o_laidRe h_o_laidIm h_o_byOrder h_o_noted1 h_o_counts h_o_binBy o_tapeSize o_thrown o_fault o_faultPlace o_stop o_next o_kind o_which o_at o_pointsRead o_bank o_isImage o_undos o_runRadix o_runOrder o_runNear o_runLimit o_runHalves o_power o_notedMany o_knownTold o_drawn) (wX10_known cI cJ cZ h_o h_o_tape h_o_words h_o_told h_o_isTold h_o_toldWave h_o_isPoint h_o_all h_o_quarter h_o_roots h_o_laidRe h_o_laidIm h_o_byOrder h_o_noted1 h_o_counts h_o_binBy o_tapeSize out_o_thrown o_fault o_faultPlace o_stop o_next o_kind o_which o_at o_pointsRead o_bank o_isImage o_undos o_runRadix o_runOrder o_runNear o_runLimit o_runHalves o_power o_notedMany out_o_knownTold o_drawn) (some (.int r))) 0 0 (va_A (wX10_known cI cJ cZ h_o h_o_tape h_o_words h_o_told h_o_isTold h_o_toldWave h_o_isPoint h_o_all h_o_quarter h_o_roots h_o_laidRe h_o_laidIm h_o_byOrder h_o_noted1 h_o_counts h_o_binBy o_tapeSize o_thrown o_fault o_faultPlace o_stop o_next o_kind o_which o_at o_pointsRead o_bank o_isImage o_undos o_runRadix o_runOrder o_runNear o_runLimit o_runHalves o_power o_notedMany o_knownTold o_drawn) sz) := by
  refine met_z (cc := cX10_known) (maxL := 2) (plainFor_of_name (by decide)) (Nat.le_of_ble_eq_true rfl) (fun p e s m below meth c A ls Q hx hb hml hts hown hK hP hD hS hA hl hret => ?_)
  have hown : s.vm.findClass RX10 = some m.cls := hown
  have hl : lv_has ls 2 [(0, .ref h_o), (1, .int p1)] := hl
  unfold fX10_known at hf
  obtain ⟨H, eH⟩ : ∃ H, H = s.heap := ⟨_, rfl⟩
  obtain ⟨locs, elocs⟩ : ∃ z : List Loc, z = [] := ⟨_, rfl⟩
  have hP : va_P G vwCl (wX10_known cI cJ cZ h_o h_o_tape h_o_words h_o_told h_o_isTold h_o_toldWave h_o_isPoint h_o_all h_o_quarter h_o_roots h_o_laidRe h_o_laidIm h_o_byOrder h_o_noted1 h_o_counts h_o_binBy o_tapeSize o_thrown o_fault o_faultPlace o_stop o_next o_kind o_which o_at o_pointsRead o_bank o_isImage o_undos o_runRadix o_runOrder o_runNear o_runLimit o_runHalves o_power o_notedMany o_knownTold o_drawn) H := by rw [eH]; exact hP
  have hS : va_S A s.heap H locs := by rw [eH, elocs]; exact hS
  suffices hgo : W p l e ({ frames := 1, cells := 0, slots := 0, locals := 22 } : Room) s m ([.ref h_o, .int p1] : List Value).toArray below meth c H locs 0 0 Q (F0 m 0 ls []) by rw [eH, elocs] at hgo; exact hgo
  clear eH elocs
  refine lv_aload_n hx hb dX10_known_0 rfl (lv_at hl 0 rfl) ?_
  refine lv_iconst (v := (0 : Int32)) hx hb dX10_known_1 (by decide) ?_
  refine wr (ci := 10) (C := RX10) (T := TX10) (N := 37) hx hb hts inX10 tyX10 tyX10_ok nmX10 hown hK hP hD hS 0 2 rfl rfl (by decide) (hts _ q_fX10_70) rfl rfl rfl (Nat.le_of_ble_eq_true rfl) dX10_known_2 (ws2 := (wX10_known cI cJ cZ h_o h_o_tape h_o_words h_o_told h_o_isTold h_o_toldWave h_o_isPoint h_o_all h_o_quarter h_o_roots h_o_laidRe h_o_laidIm h_o_byOrder h_o_noted1 h_o_counts h_o_binBy o_tapeSize (0 : Int32) o_fault o_faultPlace o_stop o_next o_kind o_which o_at o_pointsRead o_bank o_isImage o_undos o_runRadix o_runOrder o_runNear o_runLimit o_runHalves o_power o_notedMany o_knownTold o_drawn)) rfl (fun H locs hP hD hS => ?_)
  refine lv_iload_n hx hb dX10_known_5 rfl (lv_at hl 1 rfl) ?_
  refine lv_iconst (v := (-1 : Int32)) hx hb dX10_known_6 (by decide) ?_
  refine lv_aload_n hx hb dX10_known_7 rfl (lv_at hl 0 rfl) ?_
  refine rd (ci := 10) (C := RX10) (T := TX10) (N := 37) hx hb hts inX10 hown hK hP 0 31 rfl rfl (by decide) (hts _ q_fX10_132) rfl dX10_known_8 ?_
  obtain ⟨r_1, e_2, hf⟩ := bd1_x hf
  refine call_s [.int p1, .int (-1 : Int32), .int o_notedMany] [] ⟨hx, hb, hml, hown, hts⟩ hK hP hD hS hA hl.1 (tX10_isIn l G cI cJ cZ H.size p1 (-1 : Int32) o_notedMany r_1 e_2) (va_cwS 3 hts (gs q_mX10_138 q_s_yX10_isIn q_n_RX10 q_k_yX10_isIn) rfl rfl rfl (by decide +kernel) ⟨by decide, by decide⟩) rfl rfl (Nat.le_of_ble_eq_true rfl) dX10_known_11 ⟨Nat.zero_le _, Nat.zero_le _⟩ [] [0] [0] rfl rfl (ws2 := (wX10_known cI cJ cZ h_o h_o_tape h_o_words h_o_told h_o_isTold h_o_toldWave h_o_isPoint h_o_all h_o_quarter h_o_roots h_o_laidRe h_o_laidIm h_o_byOrder h_o_noted1 h_o_counts h_o_binBy o_tapeSize (0 : Int32) o_fault o_faultPlace o_stop o_next o_kind o_which o_at o_pointsRead o_bank o_isImage o_undos o_runRadix o_runOrder o_runNear o_runLimit o_runHalves o_power o_notedMany o_knownTold o_drawn)) rfl (fun H locs hP hD hS => ?_)
  refine W.eq (g2 := F0 m 14 ls [.int r_1]) rfl ?_
  refine lv_if_ne (tgt := 19) hx hb dX10_known_14 (by decide) (fun c_3 => ?_) (fun c_3 => ?_)
  · have hf := it_f c_3 hf
    refine lv_aload_n hx hb dX10_known_19 rfl (lv_at hl 0 rfl) ?_
    refine lv_iload_n hx hb dX10_known_20 rfl (lv_at hl 1 rfl) ?_
    refine wr (ci := 10) (C := RX10) (T := TX10) (N := 37) hx hb hts inX10 tyX10 tyX10_ok nmX10 hown hK hP hD hS 0 32 rfl rfl (by decide) (hts _ q_fX10_52) rfl rfl rfl (Nat.le_of_ble_eq_true rfl) dX10_known_21 (ws2 := (wX10_known cI cJ cZ h_o h_o_tape h_o_words h_o_told h_o_isTold h_o_toldWave h_o_isPoint h_o_all h_o_quarter h_o_roots h_o_laidRe h_o_laidIm h_o_byOrder h_o_noted1 h_o_counts h_o_binBy o_tapeSize (0 : Int32) o_fault o_faultPlace o_stop o_next o_kind o_which o_at o_pointsRead o_bank o_isImage o_undos o_runRadix o_runOrder o_runNear o_runLimit o_runHalves o_power o_notedMany p1 o_drawn)) rfl (fun H locs hP hD hS => ?_)
    refine lv_iconst (v := (1 : Int32)) hx hb dX10_known_24 (by decide) ?_
    cases hf
    exact hret _ _ _ _ dX10_known_25 rfl hP hD hS
  · have hf := it_t c_3 hf
    refine lv_iconst (v := (0 : Int32)) hx hb dX10_known_17 (by decide) ?_
    cases hf
    exact hret _ _ _ _ dX10_known_18 rfl hP hD hS
def wX10_knownBy (cI cJ cZ : ClassId) (h_o h_o_tape h_o_words h_o_told h_o_isTold h_o_toldWave h_o_isPoint h_o_all h_o_quarter h_o_roots h_o_laidRe h_o_laidIm h_o_byOrder h_o_noted1 h_o_counts h_o_binBy : Nat) (o_tapeSize : Int32) (o_thrown : Int32) (o_fault : Int32) (o_faultPlace : Int32) (o_stop : Int32) (o_next : Int32) (o_kind : Int32) (o_which : Int32) (o_at : Int32) (o_pointsRead : Int32) (o_bank : Int32) (o_isImage : Int32) (o_undos : Int32) (o_runRadix : Int32) (o_runOrder : Int32) (o_runNear : Int32) (o_runLimit : Int32) (o_runHalves : Int32) (o_power : Int32) (o_notedMany : Int32) (o_knownTold : Int32) (o_drawn : Int64) : va_W := [(h_o, .inr (10, [.ref h_o_tape, .int o_tapeSize, .int o_thrown, .ref h_o_words, .int o_fault, .int o_faultPlace, .int o_stop, .int o_next, .int o_kind, .int o_which, .int o_at, .ref h_o_told, .ref h_o_isTold, .ref h_o_toldWave, .ref h_o_isPoint, .int o_pointsRead, .ref h_o_all, .int o_bank, .int o_isImage, .int o_undos, .int o_runRadix, .int o_runOrder, .int o_runNear, .int o_runLimit, .int o_runHalves, .ref h_o_quarter, .int o_power, .ref h_o_roots, .ref h_o_laidRe, .ref h_o_laidIm, .ref h_o_byOrder, .int o_notedMany, .int o_knownTold, .ref h_o_noted1, .ref h_o_counts, .ref h_o_binBy, .long o_drawn]))]
def fX10_knownBy (o_notedMany : Int32) (o_knownTold : Int32) : Option (Int32) :=
  if 0 ≤ o_knownTold then (
    some o_knownTold
  ) else (
    some o_notedMany
  )
set_option maxHeartbeats 4000000 in
set_option maxRecDepth 100000 in
theorem tX10_knownBy (l : Launch) (G : va_G) (cI cJ cZ : ClassId) (sz : Nat) (h_o h_o_tape h_o_words h_o_told h_o_isTold h_o_toldWave h_o_isPoint h_o_all h_o_quarter h_o_roots h_o_laidRe h_o_laidIm h_o_byOrder h_o_noted1 h_o_counts h_o_binBy : Nat) (o_tapeSize : Int32) (o_thrown : Int32) (o_fault : Int32) (o_faultPlace : Int32) (o_stop : Int32) (o_next : Int32) (o_kind : Int32) (o_which : Int32) (o_at : Int32) (o_pointsRead : Int32) (o_bank : Int32) (o_isImage : Int32) (o_undos : Int32) (o_runRadix : Int32) (o_runOrder : Int32) (o_runNear : Int32) (o_runLimit : Int32) (o_runHalves : Int32) (o_power : Int32) (o_notedMany : Int32) (o_knownTold : Int32) (o_drawn : Int64) (r : Int32) (hf : fX10_knownBy o_notedMany o_knownTold = some r) : Met l yX10_knownBy (Cond.code yX10_knownBy cX10_knownBy 1 (some .int) :: BIG) ({ frames := 0, cells := 0, slots := 0, locals := 0 } : Room) (cP G (TY3 cI cJ cZ) [.ref h_o] sz (wX10_knownBy cI cJ cZ h_o h_o_tape h_o_words h_o_told h_o_isTold h_o_toldWave h_o_isPoint h_o_all h_o_quarter h_o_roots h_o_laidRe h_o_laidIm h_o_byOrder h_o_noted1 h_o_counts h_o_binBy o_tapeSize o_thrown o_fault o_faultPlace o_stop o_next o_kind o_which o_at o_pointsRead o_bank o_isImage o_undos o_runRadix o_runOrder o_runNear o_runLimit o_runHalves o_power o_notedMany o_knownTold o_drawn)) (cQ G (TY3 cI cJ cZ) sz (wX10_knownBy cI cJ cZ h_o h_o_tape h_o_words h_o_told h_o_isTold h_o_toldWave h_o_isPoint h_o_all h_o_quarter h_o_roots h_o_laidRe h_o_laidIm h_o_byOrder h_o_noted1 h_o_counts h_o_binBy o_tapeSize o_thrown o_fault o_faultPlace o_stop o_next o_kind o_which o_at o_pointsRead o_bank o_isImage o_undos o_runRadix o_runOrder o_runNear o_runLimit o_runHalves o_power o_notedMany o_knownTold o_drawn) (wX10_knownBy cI cJ cZ h_o h_o_tape h_o_words h_o_told h_o_isTold h_o_toldWave h_o_isPoint h_o_all h_o_quarter h_o_roots h_o_laidRe h_o_laidIm h_o_byOrder h_o_noted1 h_o_counts h_o_binBy o_tapeSize o_thrown o_fault o_faultPlace o_stop o_next o_kind o_which o_at o_pointsRead o_bank o_isImage o_undos o_runRadix o_runOrder o_runNear o_runLimit o_runHalves o_power o_notedMany o_knownTold o_drawn) (some (.int r))) 0 0 (va_A (wX10_knownBy cI cJ cZ h_o h_o_tape h_o_words h_o_told h_o_isTold h_o_toldWave h_o_isPoint h_o_all h_o_quarter h_o_roots h_o_laidRe h_o_laidIm h_o_byOrder h_o_noted1 h_o_counts h_o_binBy o_tapeSize o_thrown o_fault o_faultPlace o_stop o_next o_kind o_which o_at o_pointsRead o_bank o_isImage o_undos o_runRadix o_runOrder o_runNear o_runLimit o_runHalves o_power o_notedMany o_knownTold o_drawn) sz) := by
  refine met_i (cc := cX10_knownBy) (maxL := 1) (plainFor_of_name (by decide)) (Nat.le_of_ble_eq_true rfl) (fun p e s m below meth c A ls Q hx hb hml hts hown hK hP hD hS hA hl hret => ?_)
  have hown : s.vm.findClass RX10 = some m.cls := hown
  have hl : lv_has ls 1 [(0, .ref h_o)] := hl
  unfold fX10_knownBy at hf
  obtain ⟨H, eH⟩ : ∃ H, H = s.heap := ⟨_, rfl⟩
  obtain ⟨locs, elocs⟩ : ∃ z : List Loc, z = [] := ⟨_, rfl⟩
  have hP : va_P G vwCl (wX10_knownBy cI cJ cZ h_o h_o_tape h_o_words h_o_told h_o_isTold h_o_toldWave h_o_isPoint h_o_all h_o_quarter h_o_roots h_o_laidRe h_o_laidIm h_o_byOrder h_o_noted1 h_o_counts h_o_binBy o_tapeSize o_thrown o_fault o_faultPlace o_stop o_next o_kind o_which o_at o_pointsRead o_bank o_isImage o_undos o_runRadix o_runOrder o_runNear o_runLimit o_runHalves o_power o_notedMany o_knownTold o_drawn) H := by rw [eH]; exact hP
  have hS : va_S A s.heap H locs := by rw [eH, elocs]; exact hS
  suffices hgo : W p l e ({ frames := 0, cells := 0, slots := 0, locals := 0 } : Room) s m ([.ref h_o] : List Value).toArray below meth c H locs 0 0 Q (F0 m 0 ls []) by rw [eH, elocs] at hgo; exact hgo
  clear eH elocs
  refine lv_aload_n hx hb dX10_knownBy_0 rfl (lv_at hl 0 rfl) ?_
  refine rd (ci := 10) (C := RX10) (T := TX10) (N := 37) hx hb hts inX10 hown hK hP 0 32 rfl rfl (by decide) (hts _ q_fX10_52) rfl dX10_knownBy_1 ?_
  refine lv_if_ge (tgt := 14) hx hb dX10_knownBy_4 (by decide) (fun c_1 => ?_) (fun c_1 => ?_)
  · have hf := it_t c_1 hf
    refine lv_aload_n hx hb dX10_knownBy_14 rfl (lv_at hl 0 rfl) ?_
    refine rd (ci := 10) (C := RX10) (T := TX10) (N := 37) hx hb hts inX10 hown hK hP 0 32 rfl rfl (by decide) (hts _ q_fX10_52) rfl dX10_knownBy_15 ?_
    cases hf
    exact hret _ _ _ _ dX10_knownBy_18 hP hD hS
  · have hf := it_f c_1 hf
    refine lv_aload_n hx hb dX10_knownBy_7 rfl (lv_at hl 0 rfl) ?_
    refine rd (ci := 10) (C := RX10) (T := TX10) (N := 37) hx hb hts inX10 hown hK hP 0 31 rfl rfl (by decide) (hts _ q_fX10_132) rfl dX10_knownBy_8 ?_
    refine lv_goto (tgt := 18) hx hb dX10_knownBy_11 (by decide) ?_
    cases hf
    exact hret _ _ _ _ dX10_knownBy_18 hP hD hS
def wX10_layCounts (cI cJ cZ : ClassId) (h_o h_o_counts h_o_noted1 h_o_tape h_o_words h_o_told h_o_isTold h_o_toldWave h_o_isPoint h_o_all h_o_quarter h_o_roots h_o_laidRe h_o_laidIm h_o_byOrder h_o_binBy : Nat) (o_tapeSize : Int32) (o_thrown : Int32) (o_fault : Int32) (o_faultPlace : Int32) (o_stop : Int32) (o_next : Int32) (o_kind : Int32) (o_which : Int32) (o_at : Int32) (o_pointsRead : Int32) (o_bank : Int32) (o_isImage : Int32) (o_undos : Int32) (o_runRadix : Int32) (o_runOrder : Int32) (o_runNear : Int32) (o_runLimit : Int32) (o_runHalves : Int32) (o_power : Int32) (o_notedMany : Int32) (o_knownTold : Int32) (o_drawn : Int64) (o_counts : Nat → Int32) (o_noted1 : Nat → Int32) : va_W := [(h_o, .inr (10, [.ref h_o_tape, .int o_tapeSize, .int o_thrown, .ref h_o_words, .int o_fault, .int o_faultPlace, .int o_stop, .int o_next, .int o_kind, .int o_which, .int o_at, .ref h_o_told, .ref h_o_isTold, .ref h_o_toldWave, .ref h_o_isPoint, .int o_pointsRead, .ref h_o_all, .int o_bank, .int o_isImage, .int o_undos, .int o_runRadix, .int o_runOrder, .int o_runNear, .int o_runLimit, .int o_runHalves, .ref h_o_quarter, .int o_power, .ref h_o_roots, .ref h_o_laidRe, .ref h_o_laidIm, .ref h_o_byOrder, .int o_notedMany, .int o_knownTold, .ref h_o_noted1, .ref h_o_counts, .ref h_o_binBy, .long o_drawn])), (h_o_counts, .inl (cZ, 24, .inl o_counts)), (h_o_noted1, .inl (cI, 72, .inl o_noted1))]
def fX10_layCounts_70 (o_noted1 : Nat → Int32) (k30 : (Nat → Int32) → Int32 → Option ((Nat → Int32))) (o_counts : Nat → Int32) (v1 : Int32) : Option ((Nat → Int32)) :=
  nm (v1 + (-1 : Int32)) (fun v1_20 =>
  k30 o_counts v1_20)
def fX10_layCounts_30 (o_noted1 : Nat → Int32) : Nat → (Nat → Int32) → Int32 → Option ((Nat → Int32))
  | 0, _, _ => none
  | n + 1, o_counts, v1 =>
    if v1 < 0 then (
      some o_counts
    ) else (
      gd (inb v1 24) (
      if (o_counts (Int32.toNatClampNeg v1)) = 0 then (
        fX10_layCounts_70 o_noted1 (fX10_layCounts_30 o_noted1 n) o_counts v1
      ) else (
        nm ((3 : Int32) * v1) (fun i_13 =>
        gd (inb i_13 72) (
        if 0 ≤ (o_noted1 (Int32.toNatClampNeg i_13)) then (
          fX10_layCounts_70 o_noted1 (fX10_layCounts_30 o_noted1 n) o_counts v1
        ) else (
          nm (((3 : Int32) * v1) + (1 : Int32)) (fun i_16 =>
          gd (inb i_16 72) (
          gd (inb (o_noted1 (Int32.toNatClampNeg i_16)) 24) (
          nm (upd o_counts (Int32.toNatClampNeg (o_noted1 (Int32.toNatClampNeg i_16))) (vp_nar .boolean (0 : Int32))) (fun o_counts_19 =>
          fX10_layCounts_70 o_noted1 (fX10_layCounts_30 o_noted1 n) o_counts_19 v1))))
        )))
      ))
    )
def fX10_layCounts_23 (o_notedMany : Int32) (o_knownTold : Int32) (o_noted1 : Nat → Int32) (o_counts : Nat → Int32) : Option ((Nat → Int32)) :=
  bd1 (fX10_knownBy o_notedMany o_knownTold) (fun r_7 =>
  nm (r_7 - (1 : Int32)) (fun v1_9 =>
  fX10_layCounts_30 o_noted1 FU o_counts v1_9))
def fX10_layCounts_2 (o_notedMany : Int32) (o_knownTold : Int32) (o_noted1 : Nat → Int32) : Nat → (Nat → Int32) → Int32 → Option ((Nat → Int32))
  | 0, _, _ => none
  | n + 1, o_counts, v1 =>
    bd1 (fX10_knownBy o_notedMany o_knownTold) (fun r_1 =>
    if r_1 ≤ v1 then (
      fX10_layCounts_23 o_notedMany o_knownTold o_noted1 o_counts
    ) else (
      gd (inb v1 24) (
      nm (upd o_counts (Int32.toNatClampNeg v1) (vp_nar .boolean (1 : Int32))) (fun o_counts_5 =>
      nm (v1 + (1 : Int32)) (fun v1_6 =>
      fX10_layCounts_2 o_notedMany o_knownTold o_noted1 n o_counts_5 v1_6)))
    ))
def fX10_layCounts (o_notedMany : Int32) (o_knownTold : Int32) (o_counts : Nat → Int32) (o_noted1 : Nat → Int32) : Option ((Nat → Int32)) :=
  fX10_layCounts_2 o_notedMany o_knownTold o_noted1 FU o_counts (0 : Int32)
set_option maxHeartbeats 4000000 in
set_option maxRecDepth 100000 in
theorem tX10_layCounts (l : Launch) (G : va_G) (cI cJ cZ : ClassId) (sz : Nat) (h_o h_o_counts h_o_noted1 h_o_tape h_o_words h_o_told h_o_isTold h_o_toldWave h_o_isPoint h_o_all h_o_quarter h_o_roots h_o_laidRe h_o_laidIm h_o_byOrder h_o_binBy : Nat) (o_tapeSize : Int32) (o_thrown : Int32) (o_fault : Int32) (o_faultPlace : Int32) (o_stop : Int32) (o_next : Int32) (o_kind : Int32) (o_which : Int32) (o_at : Int32) (o_pointsRead : Int32) (o_bank : Int32) (o_isImage : Int32) (o_undos : Int32) (o_runRadix : Int32) (o_runOrder : Int32) (o_runNear : Int32) (o_runLimit : Int32) (o_runHalves : Int32) (o_power : Int32) (o_notedMany : Int32) (o_knownTold : Int32) (o_drawn : Int64) (o_counts : Nat → Int32) (o_noted1 : Nat → Int32) (out_o_counts : Nat → Int32) (hf : fX10_layCounts o_notedMany o_knownTold o_counts o_noted1 = some out_o_counts) : Met l yX10_layCounts (Cond.code yX10_layCounts cX10_layCounts 2 none :: BIG) ({ frames := 1, cells := 0, slots := 0, locals := 20 } : Room) (cP G (TY3 cI cJ cZ) [.ref h_o] sz (wX10_layCounts cI cJ cZ h_o h_o_counts h_o_noted1 h_o_tape h_o_words h_o_told h_o_isTold h_o_toldWave h_o_isPoint h_o_all h_o_quarter h_o_roots h_o_laidRe h_o_laidIm h_o_byOrder h_o_binBy o_tapeSize o_thrown o_fault o_faultPlace o_stop o_next o_kind o_which o_at o_pointsRead o_bank o_isImage o_undos o_runRadix o_runOrder o_runNear o_runLimit o_runHalves o_power o_notedMany o_knownTold o_drawn o_counts o_noted1)) (cQ G (TY3 cI cJ cZ) sz (wX10_layCounts cI cJ cZ h_o h_o_counts h_o_noted1 h_o_tape h_o_words h_o_told h_o_isTold h_o_toldWave h_o_isPoint h_o_all h_o_quarter h_o_roots h_o_laidRe h_o_laidIm h_o_byOrder h_o_binBy o_tapeSize o_thrown o_fault o_faultPlace o_stop o_next o_kind o_which o_at o_pointsRead o_bank o_isImage o_undos o_runRadix o_runOrder o_runNear o_runLimit o_runHalves o_power o_notedMany o_knownTold o_drawn o_counts o_noted1) (wX10_layCounts cI cJ cZ h_o h_o_counts h_o_noted1 h_o_tape h_o_words h_o_told h_o_isTold h_o_toldWave h_o_isPoint h_o_all h_o_quarter h_o_roots h_o_laidRe h_o_laidIm h_o_byOrder h_o_binBy o_tapeSize o_thrown o_fault o_faultPlace o_stop o_next o_kind o_which o_at o_pointsRead o_bank o_isImage o_undos o_runRadix o_runOrder o_runNear o_runLimit o_runHalves o_power o_notedMany o_knownTold o_drawn out_o_counts o_noted1) none) 0 0 (va_A (wX10_layCounts cI cJ cZ h_o h_o_counts h_o_noted1 h_o_tape h_o_words h_o_told h_o_isTold h_o_toldWave h_o_isPoint h_o_all h_o_quarter h_o_roots h_o_laidRe h_o_laidIm h_o_byOrder h_o_binBy o_tapeSize o_thrown o_fault o_faultPlace o_stop o_next o_kind o_which o_at o_pointsRead o_bank o_isImage o_undos o_runRadix o_runOrder o_runNear o_runLimit o_runHalves o_power o_notedMany o_knownTold o_drawn o_counts o_noted1) sz) := by
  refine met_v (cc := cX10_layCounts) (maxL := 2) (plainFor_of_name (by decide)) (Nat.le_of_ble_eq_true rfl) (fun p e s m below meth c A ls Q hx hb hml hts hown hK hP hD hS hA hl hret => ?_)
  have hown : s.vm.findClass RX10 = some m.cls := hown
  have hl : lv_has ls 2 [(0, .ref h_o)] := hl
  have j70 : ∀ (k30 : (Nat → Int32) → Int32 → Option ((Nat → Int32))), (∀ (o_counts : Nat → Int32) (v1 : Int32) (H : Heap) (locs : List Loc) (ls : Array Slot), k30 o_counts v1 = some out_o_counts → va_P G vwCl (wX10_layCounts cI cJ cZ h_o h_o_counts h_o_noted1 h_o_tape h_o_words h_o_told h_o_isTold h_o_toldWave h_o_isPoint h_o_all h_o_quarter h_o_roots h_o_laidRe h_o_laidIm h_o_byOrder h_o_binBy o_tapeSize o_thrown o_fault o_faultPlace o_stop o_next o_kind o_which o_at o_pointsRead o_bank o_isImage o_undos o_runRadix o_runOrder o_runNear o_runLimit o_runHalves o_power o_notedMany o_knownTold o_drawn o_counts o_noted1) H → va_D A (wX10_layCounts cI cJ cZ h_o h_o_counts h_o_noted1 h_o_tape h_o_words h_o_told h_o_isTold h_o_toldWave h_o_isPoint h_o_all h_o_quarter h_o_roots h_o_laidRe h_o_laidIm h_o_byOrder h_o_binBy o_tapeSize o_thrown o_fault o_faultPlace o_stop o_next o_kind o_which o_at o_pointsRead o_bank o_isImage o_undos o_runRadix o_runOrder o_runNear o_runLimit o_runHalves o_power o_notedMany o_knownTold o_drawn o_counts o_noted1) → va_S A s.heap H locs → lv_has ls 2 [(0, .ref h_o), (1, .int v1)] → W p l e ({ frames := 1, cells := 0, slots := 0, locals := 20 } : Room) s m ([.ref h_o] : List Value).toArray below meth c H locs 0 0 Q (F0 m 30 ls [])) → ∀ (o_counts : Nat → Int32) (v1 : Int32) (H : Heap) (locs : List Loc) (ls : Array Slot), fX10_layCounts_70 o_noted1 k30 o_counts v1 = some out_o_counts → va_P G vwCl (wX10_layCounts cI cJ cZ h_o h_o_counts h_o_noted1 h_o_tape h_o_words h_o_told h_o_isTold h_o_toldWave h_o_isPoint h_o_all h_o_quarter h_o_roots h_o_laidRe h_o_laidIm h_o_byOrder h_o_binBy o_tapeSize o_thrown o_fault o_faultPlace o_stop o_next o_kind o_which o_at o_pointsRead o_bank o_isImage o_undos o_runRadix o_runOrder o_runNear o_runLimit o_runHalves o_power o_notedMany o_knownTold o_drawn o_counts o_noted1) H → va_D A (wX10_layCounts cI cJ cZ h_o h_o_counts h_o_noted1 h_o_tape h_o_words h_o_told h_o_isTold h_o_toldWave h_o_isPoint h_o_all h_o_quarter h_o_roots h_o_laidRe h_o_laidIm h_o_byOrder h_o_binBy o_tapeSize o_thrown o_fault o_faultPlace o_stop o_next o_kind o_which o_at o_pointsRead o_bank o_isImage o_undos o_runRadix o_runOrder o_runNear o_runLimit o_runHalves o_power o_notedMany o_knownTold o_drawn o_counts o_noted1) → va_S A s.heap H locs → lv_has ls 2 [(0, .ref h_o), (1, .int v1)] → W p l e ({ frames := 1, cells := 0, slots := 0, locals := 20 } : Room) s m ([.ref h_o] : List Value).toArray below meth c H locs 0 0 Q (F0 m 70 ls []) := by
    intro k30 hk30 o_counts v1 H locs ls hf hP hD hS hl
    unfold fX10_layCounts_70 at hf
    obtain ⟨v1_20, ev1_20⟩ : ∃ y : Int32, y = v1 + (-1 : Int32) := ⟨_, rfl⟩
    have hf := nm_x ev1_20 hf
    refine lv_iinc (v := v1_20) (lv' := [(1, .int v1_20), (0, .ref h_o)]) hx hb dX10_layCounts_70 hl (k := 1) rfl (by rw [ev1_20]; rfl) (by decide) rfl (fun ls hl => ?_)
    refine lv_goto (tgt := 30) hx hb dX10_layCounts_73 (by decide) ?_
    exact hk30 o_counts v1_20 H locs ls hf hP hD hS (lv_sub hl [1, 0] rfl)
  have j30 : ∀ (n : Nat) (o_counts : Nat → Int32) (v1 : Int32) (H : Heap) (locs : List Loc) (ls : Array Slot), fX10_layCounts_30 o_noted1 n o_counts v1 = some out_o_counts → va_P G vwCl (wX10_layCounts cI cJ cZ h_o h_o_counts h_o_noted1 h_o_tape h_o_words h_o_told h_o_isTold h_o_toldWave h_o_isPoint h_o_all h_o_quarter h_o_roots h_o_laidRe h_o_laidIm h_o_byOrder h_o_binBy o_tapeSize o_thrown o_fault o_faultPlace o_stop o_next o_kind o_which o_at o_pointsRead o_bank o_isImage o_undos o_runRadix o_runOrder o_runNear o_runLimit o_runHalves o_power o_notedMany o_knownTold o_drawn o_counts o_noted1) H → va_D A (wX10_layCounts cI cJ cZ h_o h_o_counts h_o_noted1 h_o_tape h_o_words h_o_told h_o_isTold h_o_toldWave h_o_isPoint h_o_all h_o_quarter h_o_roots h_o_laidRe h_o_laidIm h_o_byOrder h_o_binBy o_tapeSize o_thrown o_fault o_faultPlace o_stop o_next o_kind o_which o_at o_pointsRead o_bank o_isImage o_undos o_runRadix o_runOrder o_runNear o_runLimit o_runHalves o_power o_notedMany o_knownTold o_drawn o_counts o_noted1) → va_S A s.heap H locs → lv_has ls 2 [(0, .ref h_o), (1, .int v1)] → W p l e ({ frames := 1, cells := 0, slots := 0, locals := 20 } : Room) s m ([.ref h_o] : List Value).toArray below meth c H locs 0 0 Q (F0 m 30 ls []) := by
    intro n
    induction n with
    | zero =>
      intro o_counts v1 H locs ls hf
      have hf : (none : Option ((Nat → Int32))) = some out_o_counts := hf
      cases hf
    | succ n ih =>
      intro o_counts v1 H locs ls hf hP hD hS hl
      rw [fX10_layCounts_30.eq_2] at hf
      refine lv_iload_n hx hb dX10_layCounts_30 rfl (lv_at hl 1 rfl) ?_
      refine lv_if_lt (tgt := 76) hx hb dX10_layCounts_31 (by decide) (fun c_10 => ?_) (fun c_10 => ?_)
      · have hf := it_t c_10 hf
        cases hf
        exact hret _ _ _ _ dX10_layCounts_76 hP hD hS
      · have hf := it_f c_10 hf
        refine lv_aload_n hx hb dX10_layCounts_34 rfl (lv_at hl 0 rfl) ?_
        refine rd (ci := 10) (C := RX10) (T := TX10) (N := 37) hx hb hts inX10 hown hK hP 0 34 rfl rfl (by decide) (hts _ q_fX10_58) rfl dX10_layCounts_35 ?_
        refine lv_iload_n hx hb dX10_layCounts_38 rfl (lv_at hl 1 rfl) ?_
        obtain ⟨g_11, hf⟩ := gd_x hf
        refine va_zald hx hb hK hP 1 2 rfl rfl (inb_x g_11) dX10_layCounts_39 ?_
        refine lv_if_eq (tgt := 70) hx hb dX10_layCounts_40 (by decide) (fun c_12 => ?_) (fun c_12 => ?_)
        · have hf := it_t c_12 hf
          exact j70 (fX10_layCounts_30 o_noted1 n) ih o_counts v1 H locs ls hf hP hD hS (lv_sub hl [0, 1] rfl)
        · have hf := it_f c_12 hf
          refine lv_aload_n hx hb dX10_layCounts_43 rfl (lv_at hl 0 rfl) ?_
          refine rd (ci := 10) (C := RX10) (T := TX10) (N := 37) hx hb hts inX10 hown hK hP 0 33 rfl rfl (by decide) (hts _ q_fX10_55) rfl dX10_layCounts_44 ?_
          refine lv_iconst (v := (3 : Int32)) hx hb dX10_layCounts_47 (by decide) ?_
          refine lv_iload_n hx hb dX10_layCounts_48 rfl (lv_at hl 1 rfl) ?_
          refine lv_imul hx hb dX10_layCounts_49 ?_
          refine lv_topi (fun i_13 ei_13 => ?_)
          have hf := nm_x ei_13 hf
          obtain ⟨g_14, hf⟩ := gd_x hf
          refine va_iald hx hb hK hP 2 0 rfl rfl (inb_x g_14) dX10_layCounts_50 ?_
          refine lv_if_ge (tgt := 70) hx hb dX10_layCounts_51 (by decide) (fun c_15 => ?_) (fun c_15 => ?_)
          · have hf := it_t c_15 hf
            exact j70 (fX10_layCounts_30 o_noted1 n) ih o_counts v1 H locs ls hf hP hD hS (lv_sub hl [0, 1] rfl)
          · have hf := it_f c_15 hf
            refine lv_aload_n hx hb dX10_layCounts_54 rfl (lv_at hl 0 rfl) ?_
            refine rd (ci := 10) (C := RX10) (T := TX10) (N := 37) hx hb hts inX10 hown hK hP 0 34 rfl rfl (by decide) (hts _ q_fX10_58) rfl dX10_layCounts_55 ?_
            refine lv_aload_n hx hb dX10_layCounts_58 rfl (lv_at hl 0 rfl) ?_
            refine rd (ci := 10) (C := RX10) (T := TX10) (N := 37) hx hb hts inX10 hown hK hP 0 33 rfl rfl (by decide) (hts _ q_fX10_55) rfl dX10_layCounts_59 ?_
            refine lv_iconst (v := (3 : Int32)) hx hb dX10_layCounts_62 (by decide) ?_
            refine lv_iload_n hx hb dX10_layCounts_63 rfl (lv_at hl 1 rfl) ?_
            refine lv_imul hx hb dX10_layCounts_64 ?_
            refine lv_iconst (v := (1 : Int32)) hx hb dX10_layCounts_65 (by decide) ?_
            refine lv_iadd hx hb dX10_layCounts_66 ?_
            refine lv_topi (fun i_16 ei_16 => ?_)
            have hf := nm_x ei_16 hf
            obtain ⟨g_17, hf⟩ := gd_x hf
            refine va_iald hx hb hK hP 2 0 rfl rfl (inb_x g_17) dX10_layCounts_67 ?_
            refine lv_iconst (v := (0 : Int32)) hx hb dX10_layCounts_68 (by decide) ?_
            obtain ⟨g_18, hf⟩ := gd_x hf
            obtain ⟨o_counts_19, eo_counts_19⟩ : ∃ y : Nat → Int32, y = upd o_counts (Int32.toNatClampNeg (o_noted1 (Int32.toNatClampNeg i_16))) (vp_nar .boolean (0 : Int32)) := ⟨_, rfl⟩
            have hf := nm_x eo_counts_19 hf
            refine zst hx hb hK hP hD hS 1 2 rfl rfl (inb_x g_18) dX10_layCounts_69 eo_counts_19 (ws2 := (wX10_layCounts cI cJ cZ h_o h_o_counts h_o_noted1 h_o_tape h_o_words h_o_told h_o_isTold h_o_toldWave h_o_isPoint h_o_all h_o_quarter h_o_roots h_o_laidRe h_o_laidIm h_o_byOrder h_o_binBy o_tapeSize o_thrown o_fault o_faultPlace o_stop o_next o_kind o_which o_at o_pointsRead o_bank o_isImage o_undos o_runRadix o_runOrder o_runNear o_runLimit o_runHalves o_power o_notedMany o_knownTold o_drawn o_counts_19 o_noted1)) rfl (fun H locs hP hD hS => ?_)
            exact j70 (fX10_layCounts_30 o_noted1 n) ih o_counts_19 v1 H locs ls hf hP hD hS (lv_sub hl [0, 1] rfl)
  have j23 : ∀ (o_counts : Nat → Int32) (H : Heap) (locs : List Loc) (ls : Array Slot), fX10_layCounts_23 o_notedMany o_knownTold o_noted1 o_counts = some out_o_counts → va_P G vwCl (wX10_layCounts cI cJ cZ h_o h_o_counts h_o_noted1 h_o_tape h_o_words h_o_told h_o_isTold h_o_toldWave h_o_isPoint h_o_all h_o_quarter h_o_roots h_o_laidRe h_o_laidIm h_o_byOrder h_o_binBy o_tapeSize o_thrown o_fault o_faultPlace o_stop o_next o_kind o_which o_at o_pointsRead o_bank o_isImage o_undos o_runRadix o_runOrder o_runNear o_runLimit o_runHalves o_power o_notedMany o_knownTold o_drawn o_counts o_noted1) H → va_D A (wX10_layCounts cI cJ cZ h_o h_o_counts h_o_noted1 h_o_tape h_o_words h_o_told h_o_isTold h_o_toldWave h_o_isPoint h_o_all h_o_quarter h_o_roots h_o_laidRe h_o_laidIm h_o_byOrder h_o_binBy o_tapeSize o_thrown o_fault o_faultPlace o_stop o_next o_kind o_which o_at o_pointsRead o_bank o_isImage o_undos o_runRadix o_runOrder o_runNear o_runLimit o_runHalves o_power o_notedMany o_knownTold o_drawn o_counts o_noted1) → va_S A s.heap H locs → lv_has ls 2 [(0, .ref h_o)] → W p l e ({ frames := 1, cells := 0, slots := 0, locals := 20 } : Room) s m ([.ref h_o] : List Value).toArray below meth c H locs 0 0 Q (F0 m 23 ls []) := by
    intro o_counts H locs ls hf hP hD hS hl
    unfold fX10_layCounts_23 at hf
    refine lv_aload_n hx hb dX10_layCounts_23 rfl (lv_at hl 0 rfl) ?_
    obtain ⟨r_7, e_8, hf⟩ := bd1_x hf
    refine call_v [] [] ⟨hx, hb, hml, hown, hts⟩ hK hP hD hS hA hl.1 (tX10_knownBy l G cI cJ cZ H.size h_o h_o_tape h_o_words h_o_told h_o_isTold h_o_toldWave h_o_isPoint h_o_all h_o_quarter h_o_roots h_o_laidRe h_o_laidIm h_o_byOrder h_o_noted1 h_o_counts h_o_binBy o_tapeSize o_thrown o_fault o_faultPlace o_stop o_next o_kind o_which o_at o_pointsRead o_bank o_isImage o_undos o_runRadix o_runOrder o_runNear o_runLimit o_runHalves o_power o_notedMany o_knownTold o_drawn r_7 e_8) (cwV 0 hts (gv q_mX10_375 q_i_yX10_knownBy q_s_yX10_knownBy q_n_RX10 q_k_yX10_knownBy) rfl rfl rfl (by decide +kernel) ⟨by decide, by decide⟩) rfl rfl (Nat.le_of_ble_eq_true rfl) dX10_layCounts_24 ⟨Nat.zero_le _, Nat.zero_le _⟩ (ci := 10) rfl 0 rfl [0] [1, 2] [2, 0, 1] rfl rfl (ws2 := (wX10_layCounts cI cJ cZ h_o h_o_counts h_o_noted1 h_o_tape h_o_words h_o_told h_o_isTold h_o_toldWave h_o_isPoint h_o_all h_o_quarter h_o_roots h_o_laidRe h_o_laidIm h_o_byOrder h_o_binBy o_tapeSize o_thrown o_fault o_faultPlace o_stop o_next o_kind o_which o_at o_pointsRead o_bank o_isImage o_undos o_runRadix o_runOrder o_runNear o_runLimit o_runHalves o_power o_notedMany o_knownTold o_drawn o_counts o_noted1)) rfl (fun H locs hP hD hS => ?_)
    refine W.eq (g2 := F0 m 27 ls [.int r_7]) rfl ?_
    refine lv_iconst (v := (1 : Int32)) hx hb dX10_layCounts_27 (by decide) ?_
    refine lv_isub hx hb dX10_layCounts_28 ?_
    refine lv_topi (fun v1_9 ev1_9 => ?_)
    have hf := nm_x ev1_9 hf
    refine lv_istore_n (lv' := [(1, .int v1_9), (0, .ref h_o)]) hx hb dX10_layCounts_29 rfl hl (by decide) rfl (fun ls hl => ?_)
    exact j30 FU o_counts v1_9 H locs ls hf hP hD hS (lv_sub hl [1, 0] rfl)
  have j2 : ∀ (n : Nat) (o_counts : Nat → Int32) (v1 : Int32) (H : Heap) (locs : List Loc) (ls : Array Slot), fX10_layCounts_2 o_notedMany o_knownTold o_noted1 n o_counts v1 = some out_o_counts → va_P G vwCl (wX10_layCounts cI cJ cZ h_o h_o_counts h_o_noted1 h_o_tape h_o_words h_o_told h_o_isTold h_o_toldWave h_o_isPoint h_o_all h_o_quarter h_o_roots h_o_laidRe h_o_laidIm h_o_byOrder h_o_binBy o_tapeSize o_thrown o_fault o_faultPlace o_stop o_next o_kind o_which o_at o_pointsRead o_bank o_isImage o_undos o_runRadix o_runOrder o_runNear o_runLimit o_runHalves o_power o_notedMany o_knownTold o_drawn o_counts o_noted1) H → va_D A (wX10_layCounts cI cJ cZ h_o h_o_counts h_o_noted1 h_o_tape h_o_words h_o_told h_o_isTold h_o_toldWave h_o_isPoint h_o_all h_o_quarter h_o_roots h_o_laidRe h_o_laidIm h_o_byOrder h_o_binBy o_tapeSize o_thrown o_fault o_faultPlace o_stop o_next o_kind o_which o_at o_pointsRead o_bank o_isImage o_undos o_runRadix o_runOrder o_runNear o_runLimit o_runHalves o_power o_notedMany o_knownTold o_drawn o_counts o_noted1) → va_S A s.heap H locs → lv_has ls 2 [(0, .ref h_o), (1, .int v1)] → W p l e ({ frames := 1, cells := 0, slots := 0, locals := 20 } : Room) s m ([.ref h_o] : List Value).toArray below meth c H locs 0 0 Q (F0 m 2 ls []) := by
    intro n
    induction n with
    | zero =>
      intro o_counts v1 H locs ls hf
      have hf : (none : Option ((Nat → Int32))) = some out_o_counts := hf
      cases hf
    | succ n ih =>
      intro o_counts v1 H locs ls hf hP hD hS hl
      rw [fX10_layCounts_2.eq_2] at hf
      refine lv_iload_n hx hb dX10_layCounts_2 rfl (lv_at hl 1 rfl) ?_
      refine lv_aload_n hx hb dX10_layCounts_3 rfl (lv_at hl 0 rfl) ?_
      obtain ⟨r_1, e_2, hf⟩ := bd1_x hf
      refine call_v [] [.int v1] ⟨hx, hb, hml, hown, hts⟩ hK hP hD hS hA hl.1 (tX10_knownBy l G cI cJ cZ H.size h_o h_o_tape h_o_words h_o_told h_o_isTold h_o_toldWave h_o_isPoint h_o_all h_o_quarter h_o_roots h_o_laidRe h_o_laidIm h_o_byOrder h_o_noted1 h_o_counts h_o_binBy o_tapeSize o_thrown o_fault o_faultPlace o_stop o_next o_kind o_which o_at o_pointsRead o_bank o_isImage o_undos o_runRadix o_runOrder o_runNear o_runLimit o_runHalves o_power o_notedMany o_knownTold o_drawn r_1 e_2) (cwV 0 hts (gv q_mX10_375 q_i_yX10_knownBy q_s_yX10_knownBy q_n_RX10 q_k_yX10_knownBy) rfl rfl rfl (by decide +kernel) ⟨by decide, by decide⟩) rfl rfl (Nat.le_of_ble_eq_true rfl) dX10_layCounts_4 ⟨Nat.zero_le _, Nat.zero_le _⟩ (ci := 10) rfl 0 rfl [0] [1, 2] [2, 0, 1] rfl rfl (ws2 := (wX10_layCounts cI cJ cZ h_o h_o_counts h_o_noted1 h_o_tape h_o_words h_o_told h_o_isTold h_o_toldWave h_o_isPoint h_o_all h_o_quarter h_o_roots h_o_laidRe h_o_laidIm h_o_byOrder h_o_binBy o_tapeSize o_thrown o_fault o_faultPlace o_stop o_next o_kind o_which o_at o_pointsRead o_bank o_isImage o_undos o_runRadix o_runOrder o_runNear o_runLimit o_runHalves o_power o_notedMany o_knownTold o_drawn o_counts o_noted1)) rfl (fun H locs hP hD hS => ?_)
      refine W.eq (g2 := F0 m 7 ls [.int r_1, .int v1]) rfl ?_
      refine lv_icmp_ge (tgt := 23) hx hb dX10_layCounts_7 (by decide) (fun c_3 => ?_) (fun c_3 => ?_)
      · have hf := it_t c_3 hf
        exact j23 o_counts H locs ls hf hP hD hS (lv_sub hl [0] rfl)
      · have hf := it_f c_3 hf
        refine lv_aload_n hx hb dX10_layCounts_10 rfl (lv_at hl 0 rfl) ?_
        refine rd (ci := 10) (C := RX10) (T := TX10) (N := 37) hx hb hts inX10 hown hK hP 0 34 rfl rfl (by decide) (hts _ q_fX10_58) rfl dX10_layCounts_11 ?_
        refine lv_iload_n hx hb dX10_layCounts_14 rfl (lv_at hl 1 rfl) ?_
        refine lv_iconst (v := (1 : Int32)) hx hb dX10_layCounts_15 (by decide) ?_
        obtain ⟨g_4, hf⟩ := gd_x hf
        obtain ⟨o_counts_5, eo_counts_5⟩ : ∃ y : Nat → Int32, y = upd o_counts (Int32.toNatClampNeg v1) (vp_nar .boolean (1 : Int32)) := ⟨_, rfl⟩
        have hf := nm_x eo_counts_5 hf
        refine zst hx hb hK hP hD hS 1 2 rfl rfl (inb_x g_4) dX10_layCounts_16 eo_counts_5 (ws2 := (wX10_layCounts cI cJ cZ h_o h_o_counts h_o_noted1 h_o_tape h_o_words h_o_told h_o_isTold h_o_toldWave h_o_isPoint h_o_all h_o_quarter h_o_roots h_o_laidRe h_o_laidIm h_o_byOrder h_o_binBy o_tapeSize o_thrown o_fault o_faultPlace o_stop o_next o_kind o_which o_at o_pointsRead o_bank o_isImage o_undos o_runRadix o_runOrder o_runNear o_runLimit o_runHalves o_power o_notedMany o_knownTold o_drawn o_counts_5 o_noted1)) rfl (fun H locs hP hD hS => ?_)
        obtain ⟨v1_6, ev1_6⟩ : ∃ y : Int32, y = v1 + (1 : Int32) := ⟨_, rfl⟩
        have hf := nm_x ev1_6 hf
        refine lv_iinc (v := v1_6) (lv' := [(1, .int v1_6), (0, .ref h_o)]) hx hb dX10_layCounts_17 hl (k := 1) rfl (by rw [ev1_6]; rfl) (by decide) rfl (fun ls hl => ?_)
        refine lv_goto (tgt := 2) hx hb dX10_layCounts_20 (by decide) ?_
        exact ih o_counts_5 v1_6 H locs ls hf hP hD hS (lv_sub hl [1, 0] rfl)
  unfold fX10_layCounts at hf
  obtain ⟨H, eH⟩ : ∃ H, H = s.heap := ⟨_, rfl⟩
  obtain ⟨locs, elocs⟩ : ∃ z : List Loc, z = [] := ⟨_, rfl⟩
  have hP : va_P G vwCl (wX10_layCounts cI cJ cZ h_o h_o_counts h_o_noted1 h_o_tape h_o_words h_o_told h_o_isTold h_o_toldWave h_o_isPoint h_o_all h_o_quarter h_o_roots h_o_laidRe h_o_laidIm h_o_byOrder h_o_binBy o_tapeSize o_thrown o_fault o_faultPlace o_stop o_next o_kind o_which o_at o_pointsRead o_bank o_isImage o_undos o_runRadix o_runOrder o_runNear o_runLimit o_runHalves o_power o_notedMany o_knownTold o_drawn o_counts o_noted1) H := by rw [eH]; exact hP
  have hS : va_S A s.heap H locs := by rw [eH, elocs]; exact hS
  suffices hgo : W p l e ({ frames := 1, cells := 0, slots := 0, locals := 20 } : Room) s m ([.ref h_o] : List Value).toArray below meth c H locs 0 0 Q (F0 m 0 ls []) by rw [eH, elocs] at hgo; exact hgo
  clear eH elocs
  refine lv_iconst (v := (0 : Int32)) hx hb dX10_layCounts_0 (by decide) ?_
  refine lv_istore_n (lv' := [(1, .int (0 : Int32)), (0, .ref h_o)]) hx hb dX10_layCounts_1 rfl hl (by decide) rfl (fun ls hl => ?_)
  exact j2 FU o_counts (0 : Int32) H locs ls hf hP hD hS (lv_sub hl [1, 0] rfl)
def wX10_isSoBy (cI cJ cZ : ClassId) (h_o h_o_all h_o_counts h_o_noted1 h_o_roots h_o_told h_o_tape h_o_words h_o_isTold h_o_toldWave h_o_isPoint h_o_quarter h_o_laidRe h_o_laidIm h_o_byOrder h_o_binBy : Nat) (o_tapeSize : Int32) (o_thrown : Int32) (o_fault : Int32) (o_faultPlace : Int32) (o_stop : Int32) (o_next : Int32) (o_kind : Int32) (o_which : Int32) (o_at : Int32) (o_pointsRead : Int32) (o_bank : Int32) (o_isImage : Int32) (o_undos : Int32) (o_runRadix : Int32) (o_runOrder : Int32) (o_runNear : Int32) (o_runLimit : Int32) (o_runHalves : Int32) (o_power : Int32) (o_notedMany : Int32) (o_knownTold : Int32) (o_drawn : Int64) (o_all : Nat → Int32) (o_counts : Nat → Int32) (o_noted1 : Nat → Int32) (o_roots : Nat → Int32) (o_told : Nat → Int32) : va_W := [(h_o, .inr (10, [.ref h_o_tape, .int o_tapeSize, .int o_thrown, .ref h_o_words, .int o_fault, .int o_faultPlace, .int o_stop, .int o_next, .int o_kind, .int o_which, .int o_at, .ref h_o_told, .ref h_o_isTold, .ref h_o_toldWave, .ref h_o_isPoint, .int o_pointsRead, .ref h_o_all, .int o_bank, .int o_isImage, .int o_undos, .int o_runRadix, .int o_runOrder, .int o_runNear, .int o_runLimit, .int o_runHalves, .ref h_o_quarter, .int o_power, .ref h_o_roots, .ref h_o_laidRe, .ref h_o_laidIm, .ref h_o_byOrder, .int o_notedMany, .int o_knownTold, .ref h_o_noted1, .ref h_o_counts, .ref h_o_binBy, .long o_drawn])), (h_o_all, .inl (cI, 3128, .inl o_all)), (h_o_counts, .inl (cZ, 24, .inl o_counts)), (h_o_noted1, .inl (cI, 72, .inl o_noted1)), (h_o_roots, .inl (cI, 32, .inl o_roots)), (h_o_told, .inl (cI, 12, .inl o_told))]
def fX10_isSoBy_94 (o_bank : Int32) (o_notedMany : Int32) (o_knownTold : Int32) (o_all : Nat → Int32) (o_counts : Nat → Int32) (o_noted1 : Nat → Int32) (o_roots : Nat → Int32) (o_told : Nat → Int32) (k2 : Int32 → Int32 → Int32 → Option (Int32)) (v1 : Int32) (v2 : Int32) (v3 : Int32) : Option (Int32) :=
  nm (v3 + (1 : Int32)) (fun v3_19 =>
  k2 v1 v2 v3_19)
def fX10_isSoBy_89 (o_bank : Int32) (o_notedMany : Int32) (o_knownTold : Int32) (o_all : Nat → Int32) (o_counts : Nat → Int32) (o_noted1 : Nat → Int32) (o_roots : Nat → Int32) (o_told : Nat → Int32) (k2 : Int32 → Int32 → Int32 → Option (Int32)) (v1 : Int32) (v2 : Int32) (v3 : Int32) (s0 : Int32) (s1 : Int32) : Option (Int32) :=
  if s0 = s1 then (
    fX10_isSoBy_94 o_bank o_notedMany o_knownTold o_all o_counts o_noted1 o_roots o_told k2 v1 v2 v3
  ) else (
    some (0 : Int32)
  )
def fX10_isSoBy_67 (o_bank : Int32) (o_notedMany : Int32) (o_knownTold : Int32) (o_all : Nat → Int32) (o_counts : Nat → Int32) (o_noted1 : Nat → Int32) (o_roots : Nat → Int32) (o_told : Nat → Int32) (k2 : Int32 → Int32 → Int32 → Option (Int32)) (v1 : Int32) (v2 : Int32) (v3 : Int32) (v4 : Int32) (s0 : Int32) : Option (Int32) :=
  nm (v4 + (2 : Int32)) (fun i_15 =>
  gd (inb i_15 72) (
  if (o_noted1 (Int32.toNatClampNeg i_15)) = (1 : Int32) then (
    fX10_isSoBy_89 o_bank o_notedMany o_knownTold o_all o_counts o_noted1 o_roots o_told k2 v1 v2 v3 s0 (1 : Int32)
  ) else (
    fX10_isSoBy_89 o_bank o_notedMany o_knownTold o_all o_counts o_noted1 o_roots o_told k2 v1 v2 v3 s0 (0 : Int32)
  )))
def fX10_isSoBy_2 (o_bank : Int32) (o_notedMany : Int32) (o_knownTold : Int32) (o_all : Nat → Int32) (o_counts : Nat → Int32) (o_noted1 : Nat → Int32) (o_roots : Nat → Int32) (o_told : Nat → Int32) : Nat → Int32 → Int32 → Int32 → Option (Int32)
  | 0, _, _, _ => none
  | n + 1, v1, v2, v3 =>
    bd1 (fX10_knownBy o_notedMany o_knownTold) (fun r_1 =>
    if r_1 ≤ v3 then (
      some (1 : Int32)
    ) else (
      nm ((3 : Int32) * v3) (fun v4_4 =>
      gd (inb v3 24) (
      if (o_counts (Int32.toNatClampNeg v3)) = 0 then (
        fX10_isSoBy_94 o_bank o_notedMany o_knownTold o_all o_counts o_noted1 o_roots o_told (fX10_isSoBy_2 o_bank o_notedMany o_knownTold o_all o_counts o_noted1 o_roots o_told n) v1 v2 v3
      ) else (
        gd (inb v4_4 72) (
        if 0 ≤ (o_noted1 (Int32.toNatClampNeg v4_4)) then (
          gd (inb v4_4 72) (
          bd1 (fX10_binWith o_bank o_all o_roots o_told (o_noted1 (Int32.toNatClampNeg v4_4)) v1 v2) (fun r_10 =>
          nm (v4_4 + (1 : Int32)) (fun i_12 =>
          gd (inb i_12 72) (
          if r_10 < (o_noted1 (Int32.toNatClampNeg i_12)) then (
            fX10_isSoBy_67 o_bank o_notedMany o_knownTold o_all o_counts o_noted1 o_roots o_told (fX10_isSoBy_2 o_bank o_notedMany o_knownTold o_all o_counts o_noted1 o_roots o_told n) v1 v2 v3 v4_4 (0 : Int32)
          ) else (
            fX10_isSoBy_67 o_bank o_notedMany o_knownTold o_all o_counts o_noted1 o_roots o_told (fX10_isSoBy_2 o_bank o_notedMany o_knownTold o_all o_counts o_noted1 o_roots o_told n) v1 v2 v3 v4_4 (1 : Int32)
          )))))
        ) else (
          fX10_isSoBy_94 o_bank o_notedMany o_knownTold o_all o_counts o_noted1 o_roots o_told (fX10_isSoBy_2 o_bank o_notedMany o_knownTold o_all o_counts o_noted1 o_roots o_told n) v1 v2 v3
        ))
      )))
    ))
def fX10_isSoBy (o_bank : Int32) (o_notedMany : Int32) (o_knownTold : Int32) (o_all : Nat → Int32) (o_counts : Nat → Int32) (o_noted1 : Nat → Int32) (o_roots : Nat → Int32) (o_told : Nat → Int32) (p1 : Int32) (p2 : Int32) : Option (Int32) :=
  fX10_isSoBy_2 o_bank o_notedMany o_knownTold o_all o_counts o_noted1 o_roots o_told FU p1 p2 (0 : Int32)
set_option maxHeartbeats 4000000 in
set_option maxRecDepth 100000 in
theorem tX10_isSoBy (l : Launch) (G : va_G) (cI cJ cZ : ClassId) (sz : Nat) (h_o h_o_all h_o_counts h_o_noted1 h_o_roots h_o_told h_o_tape h_o_words h_o_isTold h_o_toldWave h_o_isPoint h_o_quarter h_o_laidRe h_o_laidIm h_o_byOrder h_o_binBy : Nat) (o_tapeSize : Int32) (o_thrown : Int32) (o_fault : Int32) (o_faultPlace : Int32) (o_stop : Int32) (o_next : Int32) (o_kind : Int32) (o_which : Int32) (o_at : Int32) (o_pointsRead : Int32) (o_bank : Int32) (o_isImage : Int32) (o_undos : Int32) (o_runRadix : Int32) (o_runOrder : Int32) (o_runNear : Int32) (o_runLimit : Int32) (o_runHalves : Int32) (o_power : Int32) (o_notedMany : Int32) (o_knownTold : Int32) (o_drawn : Int64) (o_all : Nat → Int32) (o_counts : Nat → Int32) (o_noted1 : Nat → Int32) (o_roots : Nat → Int32) (o_told : Nat → Int32) (p1 : Int32) (p2 : Int32) (r : Int32) (hf : fX10_isSoBy o_bank o_notedMany o_knownTold o_all o_counts o_noted1 o_roots o_told p1 p2 = some r) : Met l yX10_isSoBy (Cond.code yX10_isSoBy cX10_isSoBy 6 (some .boolean) :: BIG) ({ frames := 3, cells := 0, slots := 0, locals := 67 } : Room) (cP G (TY3 cI cJ cZ) [.ref h_o, .int p1, .int p2] sz (wX10_isSoBy cI cJ cZ h_o h_o_all h_o_counts h_o_noted1 h_o_roots h_o_told h_o_tape h_o_words h_o_isTold h_o_toldWave h_o_isPoint h_o_quarter h_o_laidRe h_o_laidIm h_o_byOrder h_o_binBy o_tapeSize o_thrown o_fault o_faultPlace o_stop o_next o_kind o_which o_at o_pointsRead o_bank o_isImage o_undos o_runRadix o_runOrder o_runNear o_runLimit o_runHalves o_power o_notedMany o_knownTold o_drawn o_all o_counts o_noted1 o_roots o_told)) (cQ G (TY3 cI cJ cZ) sz (wX10_isSoBy cI cJ cZ h_o h_o_all h_o_counts h_o_noted1 h_o_roots h_o_told h_o_tape h_o_words h_o_isTold h_o_toldWave h_o_isPoint h_o_quarter h_o_laidRe h_o_laidIm h_o_byOrder h_o_binBy o_tapeSize o_thrown o_fault o_faultPlace o_stop o_next o_kind o_which o_at o_pointsRead o_bank o_isImage o_undos o_runRadix o_runOrder o_runNear o_runLimit o_runHalves o_power o_notedMany o_knownTold o_drawn o_all o_counts o_noted1 o_roots o_told) (wX10_isSoBy cI cJ cZ h_o h_o_all h_o_counts h_o_noted1 h_o_roots h_o_told h_o_tape h_o_words h_o_isTold h_o_toldWave h_o_isPoint h_o_quarter h_o_laidRe h_o_laidIm h_o_byOrder h_o_binBy o_tapeSize o_thrown o_fault o_faultPlace o_stop o_next o_kind o_which o_at o_pointsRead o_bank o_isImage o_undos o_runRadix o_runOrder o_runNear o_runLimit o_runHalves o_power o_notedMany o_knownTold o_drawn o_all o_counts o_noted1 o_roots o_told) (some (.int r))) 0 0 (va_A (wX10_isSoBy cI cJ cZ h_o h_o_all h_o_counts h_o_noted1 h_o_roots h_o_told h_o_tape h_o_words h_o_isTold h_o_toldWave h_o_isPoint h_o_quarter h_o_laidRe h_o_laidIm h_o_byOrder h_o_binBy o_tapeSize o_thrown o_fault o_faultPlace o_stop o_next o_kind o_which o_at o_pointsRead o_bank o_isImage o_undos o_runRadix o_runOrder o_runNear o_runLimit o_runHalves o_power o_notedMany o_knownTold o_drawn o_all o_counts o_noted1 o_roots o_told) sz) := by
  refine met_z (cc := cX10_isSoBy) (maxL := 6) (plainFor_of_name (by decide)) (Nat.le_of_ble_eq_true rfl) (fun p e s m below meth c A ls Q hx hb hml hts hown hK hP hD hS hA hl hret => ?_)
  have hown : s.vm.findClass RX10 = some m.cls := hown
  have hl : lv_has ls 6 [(0, .ref h_o), (1, .int p1), (2, .int p2)] := hl
  have j94 : ∀ (k2 : Int32 → Int32 → Int32 → Option (Int32)), (∀ (v1 : Int32) (v2 : Int32) (v3 : Int32) (H : Heap) (locs : List Loc) (ls : Array Slot), k2 v1 v2 v3 = some r → va_P G vwCl (wX10_isSoBy cI cJ cZ h_o h_o_all h_o_counts h_o_noted1 h_o_roots h_o_told h_o_tape h_o_words h_o_isTold h_o_toldWave h_o_isPoint h_o_quarter h_o_laidRe h_o_laidIm h_o_byOrder h_o_binBy o_tapeSize o_thrown o_fault o_faultPlace o_stop o_next o_kind o_which o_at o_pointsRead o_bank o_isImage o_undos o_runRadix o_runOrder o_runNear o_runLimit o_runHalves o_power o_notedMany o_knownTold o_drawn o_all o_counts o_noted1 o_roots o_told) H → va_D A (wX10_isSoBy cI cJ cZ h_o h_o_all h_o_counts h_o_noted1 h_o_roots h_o_told h_o_tape h_o_words h_o_isTold h_o_toldWave h_o_isPoint h_o_quarter h_o_laidRe h_o_laidIm h_o_byOrder h_o_binBy o_tapeSize o_thrown o_fault o_faultPlace o_stop o_next o_kind o_which o_at o_pointsRead o_bank o_isImage o_undos o_runRadix o_runOrder o_runNear o_runLimit o_runHalves o_power o_notedMany o_knownTold o_drawn o_all o_counts o_noted1 o_roots o_told) → va_S A s.heap H locs → lv_has ls 6 [(0, .ref h_o), (1, .int v1), (2, .int v2), (3, .int v3)] → W p l e ({ frames := 3, cells := 0, slots := 0, locals := 67 } : Room) s m ([.ref h_o, .int p1, .int p2] : List Value).toArray below meth c H locs 0 0 Q (F0 m 2 ls [])) → ∀ (v1 : Int32) (v2 : Int32) (v3 : Int32) (H : Heap) (locs : List Loc) (ls : Array Slot), fX10_isSoBy_94 o_bank o_notedMany o_knownTold o_all o_counts o_noted1 o_roots o_told k2 v1 v2 v3 = some r → va_P G vwCl (wX10_isSoBy cI cJ cZ h_o h_o_all h_o_counts h_o_noted1 h_o_roots h_o_told h_o_tape h_o_words h_o_isTold h_o_toldWave h_o_isPoint h_o_quarter h_o_laidRe h_o_laidIm h_o_byOrder h_o_binBy o_tapeSize o_thrown o_fault o_faultPlace o_stop o_next o_kind o_which o_at o_pointsRead o_bank o_isImage o_undos o_runRadix o_runOrder o_runNear o_runLimit o_runHalves o_power o_notedMany o_knownTold o_drawn o_all o_counts o_noted1 o_roots o_told) H → va_D A (wX10_isSoBy cI cJ cZ h_o h_o_all h_o_counts h_o_noted1 h_o_roots h_o_told h_o_tape h_o_words h_o_isTold h_o_toldWave h_o_isPoint h_o_quarter h_o_laidRe h_o_laidIm h_o_byOrder h_o_binBy o_tapeSize o_thrown o_fault o_faultPlace o_stop o_next o_kind o_which o_at o_pointsRead o_bank o_isImage o_undos o_runRadix o_runOrder o_runNear o_runLimit o_runHalves o_power o_notedMany o_knownTold o_drawn o_all o_counts o_noted1 o_roots o_told) → va_S A s.heap H locs → lv_has ls 6 [(0, .ref h_o), (1, .int v1), (2, .int v2), (3, .int v3)] → W p l e ({ frames := 3, cells := 0, slots := 0, locals := 67 } : Room) s m ([.ref h_o, .int p1, .int p2] : List Value).toArray below meth c H locs 0 0 Q (F0 m 94 ls []) := by
    intro k2 hk2 v1 v2 v3 H locs ls hf hP hD hS hl
    unfold fX10_isSoBy_94 at hf
    obtain ⟨v3_19, ev3_19⟩ : ∃ y : Int32, y = v3 + (1 : Int32) := ⟨_, rfl⟩
    have hf := nm_x ev3_19 hf
    refine lv_iinc (v := v3_19) (lv' := [(3, .int v3_19), (0, .ref h_o), (1, .int v1), (2, .int v2)]) hx hb dX10_isSoBy_94 hl (k := 3) rfl (by rw [ev3_19]; rfl) (by decide) rfl (fun ls hl => ?_)
    refine lv_goto (tgt := 2) hx hb dX10_isSoBy_97 (by decide) ?_
    exact hk2 v1 v2 v3_19 H locs ls hf hP hD hS (lv_sub hl [1, 2, 3, 0] rfl)
  have j89 : ∀ (k2 : Int32 → Int32 → Int32 → Option (Int32)), (∀ (v1 : Int32) (v2 : Int32) (v3 : Int32) (H : Heap) (locs : List Loc) (ls : Array Slot), k2 v1 v2 v3 = some r → va_P G vwCl (wX10_isSoBy cI cJ cZ h_o h_o_all h_o_counts h_o_noted1 h_o_roots h_o_told h_o_tape h_o_words h_o_isTold h_o_toldWave h_o_isPoint h_o_quarter h_o_laidRe h_o_laidIm h_o_byOrder h_o_binBy o_tapeSize o_thrown o_fault o_faultPlace o_stop o_next o_kind o_which o_at o_pointsRead o_bank o_isImage o_undos o_runRadix o_runOrder o_runNear o_runLimit o_runHalves o_power o_notedMany o_knownTold o_drawn o_all o_counts o_noted1 o_roots o_told) H → va_D A (wX10_isSoBy cI cJ cZ h_o h_o_all h_o_counts h_o_noted1 h_o_roots h_o_told h_o_tape h_o_words h_o_isTold h_o_toldWave h_o_isPoint h_o_quarter h_o_laidRe h_o_laidIm h_o_byOrder h_o_binBy o_tapeSize o_thrown o_fault o_faultPlace o_stop o_next o_kind o_which o_at o_pointsRead o_bank o_isImage o_undos o_runRadix o_runOrder o_runNear o_runLimit o_runHalves o_power o_notedMany o_knownTold o_drawn o_all o_counts o_noted1 o_roots o_told) → va_S A s.heap H locs → lv_has ls 6 [(0, .ref h_o), (1, .int v1), (2, .int v2), (3, .int v3)] → W p l e ({ frames := 3, cells := 0, slots := 0, locals := 67 } : Room) s m ([.ref h_o, .int p1, .int p2] : List Value).toArray below meth c H locs 0 0 Q (F0 m 2 ls [])) → ∀ (v1 : Int32) (v2 : Int32) (v3 : Int32) (s0 : Int32) (s1 : Int32) (H : Heap) (locs : List Loc) (ls : Array Slot), fX10_isSoBy_89 o_bank o_notedMany o_knownTold o_all o_counts o_noted1 o_roots o_told k2 v1 v2 v3 s0 s1 = some r → va_P G vwCl (wX10_isSoBy cI cJ cZ h_o h_o_all h_o_counts h_o_noted1 h_o_roots h_o_told h_o_tape h_o_words h_o_isTold h_o_toldWave h_o_isPoint h_o_quarter h_o_laidRe h_o_laidIm h_o_byOrder h_o_binBy o_tapeSize o_thrown o_fault o_faultPlace o_stop o_next o_kind o_which o_at o_pointsRead o_bank o_isImage o_undos o_runRadix o_runOrder o_runNear o_runLimit o_runHalves o_power o_notedMany o_knownTold o_drawn o_all o_counts o_noted1 o_roots o_told) H → va_D A (wX10_isSoBy cI cJ cZ h_o h_o_all h_o_counts h_o_noted1 h_o_roots h_o_told h_o_tape h_o_words h_o_isTold h_o_toldWave h_o_isPoint h_o_quarter h_o_laidRe h_o_laidIm h_o_byOrder h_o_binBy o_tapeSize o_thrown o_fault o_faultPlace o_stop o_next o_kind o_which o_at o_pointsRead o_bank o_isImage o_undos o_runRadix o_runOrder o_runNear o_runLimit o_runHalves o_power o_notedMany o_knownTold o_drawn o_all o_counts o_noted1 o_roots o_told) → va_S A s.heap H locs → lv_has ls 6 [(0, .ref h_o), (1, .int v1), (2, .int v2), (3, .int v3)] → W p l e ({ frames := 3, cells := 0, slots := 0, locals := 67 } : Room) s m ([.ref h_o, .int p1, .int p2] : List Value).toArray below meth c H locs 0 0 Q (F0 m 89 ls [.int s1, .int s0]) := by
    intro k2 hk2 v1 v2 v3 s0 s1 H locs ls hf hP hD hS hl
    unfold fX10_isSoBy_89 at hf
    refine lv_icmp_eq (tgt := 94) hx hb dX10_isSoBy_89 (by decide) (fun c_18 => ?_) (fun c_18 => ?_)
    · have hf := it_t c_18 hf
      exact j94 k2 hk2 v1 v2 v3 H locs ls hf hP hD hS (lv_sub hl [0, 1, 2, 3] rfl)
    · have hf := it_f c_18 hf
      refine lv_iconst (v := (0 : Int32)) hx hb dX10_isSoBy_92 (by decide) ?_
      cases hf
      exact hret _ _ _ _ dX10_isSoBy_93 rfl hP hD hS
  have j67 : ∀ (k2 : Int32 → Int32 → Int32 → Option (Int32)), (∀ (v1 : Int32) (v2 : Int32) (v3 : Int32) (H : Heap) (locs : List Loc) (ls : Array Slot), k2 v1 v2 v3 = some r → va_P G vwCl (wX10_isSoBy cI cJ cZ h_o h_o_all h_o_counts h_o_noted1 h_o_roots h_o_told h_o_tape h_o_words h_o_isTold h_o_toldWave h_o_isPoint h_o_quarter h_o_laidRe h_o_laidIm h_o_byOrder h_o_binBy o_tapeSize o_thrown o_fault o_faultPlace o_stop o_next o_kind o_which o_at o_pointsRead o_bank o_isImage o_undos o_runRadix o_runOrder o_runNear o_runLimit o_runHalves o_power o_notedMany o_knownTold o_drawn o_all o_counts o_noted1 o_roots o_told) H → va_D A (wX10_isSoBy cI cJ cZ h_o h_o_all h_o_counts h_o_noted1 h_o_roots h_o_told h_o_tape h_o_words h_o_isTold h_o_toldWave h_o_isPoint h_o_quarter h_o_laidRe h_o_laidIm h_o_byOrder h_o_binBy o_tapeSize o_thrown o_fault o_faultPlace o_stop o_next o_kind o_which o_at o_pointsRead o_bank o_isImage o_undos o_runRadix o_runOrder o_runNear o_runLimit o_runHalves o_power o_notedMany o_knownTold o_drawn o_all o_counts o_noted1 o_roots o_told) → va_S A s.heap H locs → lv_has ls 6 [(0, .ref h_o), (1, .int v1), (2, .int v2), (3, .int v3)] → W p l e ({ frames := 3, cells := 0, slots := 0, locals := 67 } : Room) s m ([.ref h_o, .int p1, .int p2] : List Value).toArray below meth c H locs 0 0 Q (F0 m 2 ls [])) → ∀ (v1 : Int32) (v2 : Int32) (v3 : Int32) (v4 : Int32) (s0 : Int32) (H : Heap) (locs : List Loc) (ls : Array Slot), fX10_isSoBy_67 o_bank o_notedMany o_knownTold o_all o_counts o_noted1 o_roots o_told k2 v1 v2 v3 v4 s0 = some r → va_P G vwCl (wX10_isSoBy cI cJ cZ h_o h_o_all h_o_counts h_o_noted1 h_o_roots h_o_told h_o_tape h_o_words h_o_isTold h_o_toldWave h_o_isPoint h_o_quarter h_o_laidRe h_o_laidIm h_o_byOrder h_o_binBy o_tapeSize o_thrown o_fault o_faultPlace o_stop o_next o_kind o_which o_at o_pointsRead o_bank o_isImage o_undos o_runRadix o_runOrder o_runNear o_runLimit o_runHalves o_power o_notedMany o_knownTold o_drawn o_all o_counts o_noted1 o_roots o_told) H → va_D A (wX10_isSoBy cI cJ cZ h_o h_o_all h_o_counts h_o_noted1 h_o_roots h_o_told h_o_tape h_o_words h_o_isTold h_o_toldWave h_o_isPoint h_o_quarter h_o_laidRe h_o_laidIm h_o_byOrder h_o_binBy o_tapeSize o_thrown o_fault o_faultPlace o_stop o_next o_kind o_which o_at o_pointsRead o_bank o_isImage o_undos o_runRadix o_runOrder o_runNear o_runLimit o_runHalves o_power o_notedMany o_knownTold o_drawn o_all o_counts o_noted1 o_roots o_told) → va_S A s.heap H locs → lv_has ls 6 [(0, .ref h_o), (1, .int v1), (2, .int v2), (3, .int v3), (4, .int v4)] → W p l e ({ frames := 3, cells := 0, slots := 0, locals := 67 } : Room) s m ([.ref h_o, .int p1, .int p2] : List Value).toArray below meth c H locs 0 0 Q (F0 m 67 ls [.int s0]) := by
    intro k2 hk2 v1 v2 v3 v4 s0 H locs ls hf hP hD hS hl
    unfold fX10_isSoBy_67 at hf
    refine lv_istore (lv' := [(5, .int s0), (0, .ref h_o), (1, .int v1), (2, .int v2), (3, .int v3), (4, .int v4)]) hx hb dX10_isSoBy_67 hl (by decide) rfl (fun ls hl => ?_)
    refine lv_iload hx hb dX10_isSoBy_69 (lv_at hl 0 rfl) ?_
    refine lv_aload_n hx hb dX10_isSoBy_71 rfl (lv_at hl 1 rfl) ?_
    refine rd (ci := 10) (C := RX10) (T := TX10) (N := 37) hx hb hts inX10 hown hK hP 0 33 rfl rfl (by decide) (hts _ q_fX10_55) rfl dX10_isSoBy_72 ?_
    refine lv_iload hx hb dX10_isSoBy_75 (lv_at hl 5 rfl) ?_
    refine lv_iconst (v := (2 : Int32)) hx hb dX10_isSoBy_77 (by decide) ?_
    refine lv_iadd hx hb dX10_isSoBy_78 ?_
    refine lv_topi (fun i_15 ei_15 => ?_)
    have hf := nm_x ei_15 hf
    obtain ⟨g_16, hf⟩ := gd_x hf
    refine va_iald hx hb hK hP 3 0 rfl rfl (inb_x g_16) dX10_isSoBy_79 ?_
    refine lv_iconst (v := (1 : Int32)) hx hb dX10_isSoBy_80 (by decide) ?_
    refine lv_icmp_ne (tgt := 88) hx hb dX10_isSoBy_81 (by decide) (fun c_17 => ?_) (fun c_17 => ?_)
    · have hf := it_f c_17 hf
      refine lv_iconst (v := (0 : Int32)) hx hb dX10_isSoBy_88 (by decide) ?_
      exact j89 k2 hk2 v1 v2 v3 s0 (0 : Int32) H locs ls hf hP hD hS (lv_sub hl [1, 2, 3, 4] rfl)
    · have hf := it_t c_17 hf
      refine lv_iconst (v := (1 : Int32)) hx hb dX10_isSoBy_84 (by decide) ?_
      refine lv_goto (tgt := 89) hx hb dX10_isSoBy_85 (by decide) ?_
      exact j89 k2 hk2 v1 v2 v3 s0 (1 : Int32) H locs ls hf hP hD hS (lv_sub hl [1, 2, 3, 4] rfl)
  have j2 : ∀ (n : Nat) (v1 : Int32) (v2 : Int32) (v3 : Int32) (H : Heap) (locs : List Loc) (ls : Array Slot), fX10_isSoBy_2 o_bank o_notedMany o_knownTold o_all o_counts o_noted1 o_roots o_told n v1 v2 v3 = some r → va_P G vwCl (wX10_isSoBy cI cJ cZ h_o h_o_all h_o_counts h_o_noted1 h_o_roots h_o_told h_o_tape h_o_words h_o_isTold h_o_toldWave h_o_isPoint h_o_quarter h_o_laidRe h_o_laidIm h_o_byOrder h_o_binBy o_tapeSize o_thrown o_fault o_faultPlace o_stop o_next o_kind o_which o_at o_pointsRead o_bank o_isImage o_undos o_runRadix o_runOrder o_runNear o_runLimit o_runHalves o_power o_notedMany o_knownTold o_drawn o_all o_counts o_noted1 o_roots o_told) H → va_D A (wX10_isSoBy cI cJ cZ h_o h_o_all h_o_counts h_o_noted1 h_o_roots h_o_told h_o_tape h_o_words h_o_isTold h_o_toldWave h_o_isPoint h_o_quarter h_o_laidRe h_o_laidIm h_o_byOrder h_o_binBy o_tapeSize o_thrown o_fault o_faultPlace o_stop o_next o_kind o_which o_at o_pointsRead o_bank o_isImage o_undos o_runRadix o_runOrder o_runNear o_runLimit o_runHalves o_power o_notedMany o_knownTold o_drawn o_all o_counts o_noted1 o_roots o_told) → va_S A s.heap H locs → lv_has ls 6 [(0, .ref h_o), (1, .int v1), (2, .int v2), (3, .int v3)] → W p l e ({ frames := 3, cells := 0, slots := 0, locals := 67 } : Room) s m ([.ref h_o, .int p1, .int p2] : List Value).toArray below meth c H locs 0 0 Q (F0 m 2 ls []) := by
    intro n
    induction n with
    | zero =>
      intro v1 v2 v3 H locs ls hf
      have hf : (none : Option (Int32)) = some r := hf
      cases hf
    | succ n ih =>
      intro v1 v2 v3 H locs ls hf hP hD hS hl
      rw [fX10_isSoBy_2.eq_2] at hf
      refine lv_iload_n hx hb dX10_isSoBy_2 rfl (lv_at hl 3 rfl) ?_
      refine lv_aload_n hx hb dX10_isSoBy_3 rfl (lv_at hl 0 rfl) ?_
      obtain ⟨r_1, e_2, hf⟩ := bd1_x hf
      refine call_v [] [.int v3] ⟨hx, hb, hml, hown, hts⟩ hK hP hD hS hA hl.1 (tX10_knownBy l G cI cJ cZ H.size h_o h_o_tape h_o_words h_o_told h_o_isTold h_o_toldWave h_o_isPoint h_o_all h_o_quarter h_o_roots h_o_laidRe h_o_laidIm h_o_byOrder h_o_noted1 h_o_counts h_o_binBy o_tapeSize o_thrown o_fault o_faultPlace o_stop o_next o_kind o_which o_at o_pointsRead o_bank o_isImage o_undos o_runRadix o_runOrder o_runNear o_runLimit o_runHalves o_power o_notedMany o_knownTold o_drawn r_1 e_2) (cwV 0 hts (gv q_mX10_375 q_i_yX10_knownBy q_s_yX10_knownBy q_n_RX10 q_k_yX10_knownBy) rfl rfl rfl (by decide +kernel) ⟨by decide, by decide⟩) rfl rfl (Nat.le_of_ble_eq_true rfl) dX10_isSoBy_4 ⟨Nat.zero_le _, Nat.zero_le _⟩ (ci := 10) rfl 0 rfl [0] [1, 2, 3, 4, 5] [5, 0, 1, 2, 3, 4] rfl rfl (ws2 := (wX10_isSoBy cI cJ cZ h_o h_o_all h_o_counts h_o_noted1 h_o_roots h_o_told h_o_tape h_o_words h_o_isTold h_o_toldWave h_o_isPoint h_o_quarter h_o_laidRe h_o_laidIm h_o_byOrder h_o_binBy o_tapeSize o_thrown o_fault o_faultPlace o_stop o_next o_kind o_which o_at o_pointsRead o_bank o_isImage o_undos o_runRadix o_runOrder o_runNear o_runLimit o_runHalves o_power o_notedMany o_knownTold o_drawn o_all o_counts o_noted1 o_roots o_told)) rfl (fun H locs hP hD hS => ?_)
      refine W.eq (g2 := F0 m 7 ls [.int r_1, .int v3]) rfl ?_
      refine lv_icmp_ge (tgt := 100) hx hb dX10_isSoBy_7 (by decide) (fun c_3 => ?_) (fun c_3 => ?_)
      · have hf := it_t c_3 hf
        refine lv_iconst (v := (1 : Int32)) hx hb dX10_isSoBy_100 (by decide) ?_
        cases hf
        exact hret _ _ _ _ dX10_isSoBy_101 rfl hP hD hS
      · have hf := it_f c_3 hf
        refine lv_iconst (v := (3 : Int32)) hx hb dX10_isSoBy_10 (by decide) ?_
        refine lv_iload_n hx hb dX10_isSoBy_11 rfl (lv_at hl 3 rfl) ?_
        refine lv_imul hx hb dX10_isSoBy_12 ?_
        refine lv_topi (fun v4_4 ev4_4 => ?_)
        have hf := nm_x ev4_4 hf
        refine lv_istore (lv' := [(4, .int v4_4), (0, .ref h_o), (1, .int v1), (2, .int v2), (3, .int v3)]) hx hb dX10_isSoBy_13 hl (by decide) rfl (fun ls hl => ?_)
        refine lv_aload_n hx hb dX10_isSoBy_15 rfl (lv_at hl 1 rfl) ?_
        refine rd (ci := 10) (C := RX10) (T := TX10) (N := 37) hx hb hts inX10 hown hK hP 0 34 rfl rfl (by decide) (hts _ q_fX10_58) rfl dX10_isSoBy_16 ?_
        refine lv_iload_n hx hb dX10_isSoBy_19 rfl (lv_at hl 4 rfl) ?_
        obtain ⟨g_5, hf⟩ := gd_x hf
        refine va_zald hx hb hK hP 2 2 rfl rfl (inb_x g_5) dX10_isSoBy_20 ?_
        refine lv_if_eq (tgt := 94) hx hb dX10_isSoBy_21 (by decide) (fun c_6 => ?_) (fun c_6 => ?_)
        · have hf := it_t c_6 hf
          exact j94 (fX10_isSoBy_2 o_bank o_notedMany o_knownTold o_all o_counts o_noted1 o_roots o_told n) ih v1 v2 v3 H locs ls hf hP hD hS (lv_sub hl [1, 2, 3, 4] rfl)
        · have hf := it_f c_6 hf
          refine lv_aload_n hx hb dX10_isSoBy_24 rfl (lv_at hl 1 rfl) ?_
          refine rd (ci := 10) (C := RX10) (T := TX10) (N := 37) hx hb hts inX10 hown hK hP 0 33 rfl rfl (by decide) (hts _ q_fX10_55) rfl dX10_isSoBy_25 ?_
          refine lv_iload hx hb dX10_isSoBy_28 (lv_at hl 0 rfl) ?_
          obtain ⟨g_7, hf⟩ := gd_x hf
          refine va_iald hx hb hK hP 3 0 rfl rfl (inb_x g_7) dX10_isSoBy_30 ?_
          refine lv_if_ge (tgt := 37) hx hb dX10_isSoBy_31 (by decide) (fun c_8 => ?_) (fun c_8 => ?_)
          · have hf := it_t c_8 hf
            refine lv_aload_n hx hb dX10_isSoBy_37 rfl (lv_at hl 1 rfl) ?_
            refine lv_aload_n hx hb dX10_isSoBy_38 rfl (lv_at hl 1 rfl) ?_
            refine rd (ci := 10) (C := RX10) (T := TX10) (N := 37) hx hb hts inX10 hown hK hP 0 33 rfl rfl (by decide) (hts _ q_fX10_55) rfl dX10_isSoBy_39 ?_
            refine lv_iload hx hb dX10_isSoBy_42 (lv_at hl 0 rfl) ?_
            obtain ⟨g_9, hf⟩ := gd_x hf
            refine va_iald hx hb hK hP 3 0 rfl rfl (inb_x g_9) dX10_isSoBy_44 ?_
            refine lv_iload_n hx hb dX10_isSoBy_45 rfl (lv_at hl 2 rfl) ?_
            refine lv_iload_n hx hb dX10_isSoBy_46 rfl (lv_at hl 3 rfl) ?_
            obtain ⟨r_10, e_11, hf⟩ := bd1_x hf
            refine call_v [.int (o_noted1 (Int32.toNatClampNeg v4_4)), .int v1, .int v2] [] ⟨hx, hb, hml, hown, hts⟩ hK hP hD hS hA hl.1 (tX10_binWith l G cI cJ cZ H.size h_o h_o_all h_o_roots h_o_told h_o_tape h_o_words h_o_isTold h_o_toldWave h_o_isPoint h_o_quarter h_o_laidRe h_o_laidIm h_o_byOrder h_o_noted1 h_o_counts h_o_binBy o_tapeSize o_thrown o_fault o_faultPlace o_stop o_next o_kind o_which o_at o_pointsRead o_bank o_isImage o_undos o_runRadix o_runOrder o_runNear o_runLimit o_runHalves o_power o_notedMany o_knownTold o_drawn o_all o_roots o_told (o_noted1 (Int32.toNatClampNeg v4_4)) v1 v2 r_10 e_11) (cwV 3 hts (gv q_mX10_368 q_i_yX10_binWith q_s_yX10_binWith q_n_RX10 q_k_yX10_binWith) rfl rfl rfl (by decide +kernel) ⟨by decide, by decide⟩) rfl rfl (Nat.le_of_ble_eq_true rfl) dX10_isSoBy_47 ⟨Nat.zero_le _, Nat.zero_le _⟩ (ci := 10) rfl 0 rfl [0, 1, 4, 5] [2, 3] [2, 3, 0, 1, 4, 5] rfl rfl (ws2 := (wX10_isSoBy cI cJ cZ h_o h_o_all h_o_counts h_o_noted1 h_o_roots h_o_told h_o_tape h_o_words h_o_isTold h_o_toldWave h_o_isPoint h_o_quarter h_o_laidRe h_o_laidIm h_o_byOrder h_o_binBy o_tapeSize o_thrown o_fault o_faultPlace o_stop o_next o_kind o_which o_at o_pointsRead o_bank o_isImage o_undos o_runRadix o_runOrder o_runNear o_runLimit o_runHalves o_power o_notedMany o_knownTold o_drawn o_all o_counts o_noted1 o_roots o_told)) rfl (fun H locs hP hD hS => ?_)
            refine W.eq (g2 := F0 m 50 ls [.int r_10]) rfl ?_
            refine lv_aload_n hx hb dX10_isSoBy_50 rfl (lv_at hl 1 rfl) ?_
            refine rd (ci := 10) (C := RX10) (T := TX10) (N := 37) hx hb hts inX10 hown hK hP 0 33 rfl rfl (by decide) (hts _ q_fX10_55) rfl dX10_isSoBy_51 ?_
            refine lv_iload hx hb dX10_isSoBy_54 (lv_at hl 0 rfl) ?_
            refine lv_iconst (v := (1 : Int32)) hx hb dX10_isSoBy_56 (by decide) ?_
            refine lv_iadd hx hb dX10_isSoBy_57 ?_
            refine lv_topi (fun i_12 ei_12 => ?_)
            have hf := nm_x ei_12 hf
            obtain ⟨g_13, hf⟩ := gd_x hf
            refine va_iald hx hb hK hP 3 0 rfl rfl (inb_x g_13) dX10_isSoBy_58 ?_
            refine lv_icmp_lt (tgt := 66) hx hb dX10_isSoBy_59 (by decide) (fun c_14 => ?_) (fun c_14 => ?_)
            · have hf := it_t c_14 hf
              refine lv_iconst (v := (0 : Int32)) hx hb dX10_isSoBy_66 (by decide) ?_
              exact j67 (fX10_isSoBy_2 o_bank o_notedMany o_knownTold o_all o_counts o_noted1 o_roots o_told n) ih v1 v2 v3 v4_4 (0 : Int32) H locs ls hf hP hD hS (lv_sub hl [1, 2, 3, 4, 0] rfl)
            · have hf := it_f c_14 hf
              refine lv_iconst (v := (1 : Int32)) hx hb dX10_isSoBy_62 (by decide) ?_
              refine lv_goto (tgt := 67) hx hb dX10_isSoBy_63 (by decide) ?_
              exact j67 (fX10_isSoBy_2 o_bank o_notedMany o_knownTold o_all o_counts o_noted1 o_roots o_told n) ih v1 v2 v3 v4_4 (1 : Int32) H locs ls hf hP hD hS (lv_sub hl [1, 2, 3, 4, 0] rfl)
          · have hf := it_f c_8 hf
            refine lv_goto (tgt := 94) hx hb dX10_isSoBy_34 (by decide) ?_
            exact j94 (fX10_isSoBy_2 o_bank o_notedMany o_knownTold o_all o_counts o_noted1 o_roots o_told n) ih v1 v2 v3 H locs ls hf hP hD hS (lv_sub hl [1, 2, 3, 4] rfl)
  unfold fX10_isSoBy at hf
  obtain ⟨H, eH⟩ : ∃ H, H = s.heap := ⟨_, rfl⟩
  obtain ⟨locs, elocs⟩ : ∃ z : List Loc, z = [] := ⟨_, rfl⟩
  have hP : va_P G vwCl (wX10_isSoBy cI cJ cZ h_o h_o_all h_o_counts h_o_noted1 h_o_roots h_o_told h_o_tape h_o_words h_o_isTold h_o_toldWave h_o_isPoint h_o_quarter h_o_laidRe h_o_laidIm h_o_byOrder h_o_binBy o_tapeSize o_thrown o_fault o_faultPlace o_stop o_next o_kind o_which o_at o_pointsRead o_bank o_isImage o_undos o_runRadix o_runOrder o_runNear o_runLimit o_runHalves o_power o_notedMany o_knownTold o_drawn o_all o_counts o_noted1 o_roots o_told) H := by rw [eH]; exact hP
  have hS : va_S A s.heap H locs := by rw [eH, elocs]; exact hS
  suffices hgo : W p l e ({ frames := 3, cells := 0, slots := 0, locals := 67 } : Room) s m ([.ref h_o, .int p1, .int p2] : List Value).toArray below meth c H locs 0 0 Q (F0 m 0 ls []) by rw [eH, elocs] at hgo; exact hgo
  clear eH elocs
  refine lv_iconst (v := (0 : Int32)) hx hb dX10_isSoBy_0 (by decide) ?_
  refine lv_istore_n (lv' := [(3, .int (0 : Int32)), (0, .ref h_o), (1, .int p1), (2, .int p2)]) hx hb dX10_isSoBy_1 rfl hl (by decide) rfl (fun ls hl => ?_)
  exact j2 FU p1 p2 (0 : Int32) H locs ls hf hP hD hS (lv_sub hl [1, 2, 3, 0] rfl)
def wX10_valuesOf (cI cJ cZ : ClassId) (h_o h_o_all h_o_counts h_o_noted1 h_o_roots h_o_told h_o_tape h_o_words h_o_isTold h_o_toldWave h_o_isPoint h_o_quarter h_o_laidRe h_o_laidIm h_o_byOrder h_o_binBy : Nat) (o_tapeSize : Int32) (o_thrown : Int32) (o_fault : Int32) (o_faultPlace : Int32) (o_stop : Int32) (o_next : Int32) (o_kind : Int32) (o_which : Int32) (o_at : Int32) (o_pointsRead : Int32) (o_bank : Int32) (o_isImage : Int32) (o_undos : Int32) (o_runRadix : Int32) (o_runOrder : Int32) (o_runNear : Int32) (o_runLimit : Int32) (o_runHalves : Int32) (o_power : Int32) (o_notedMany : Int32) (o_knownTold : Int32) (o_drawn : Int64) (o_all : Nat → Int32) (o_counts : Nat → Int32) (o_noted1 : Nat → Int32) (o_roots : Nat → Int32) (o_told : Nat → Int32) : va_W := [(h_o, .inr (10, [.ref h_o_tape, .int o_tapeSize, .int o_thrown, .ref h_o_words, .int o_fault, .int o_faultPlace, .int o_stop, .int o_next, .int o_kind, .int o_which, .int o_at, .ref h_o_told, .ref h_o_isTold, .ref h_o_toldWave, .ref h_o_isPoint, .int o_pointsRead, .ref h_o_all, .int o_bank, .int o_isImage, .int o_undos, .int o_runRadix, .int o_runOrder, .int o_runNear, .int o_runLimit, .int o_runHalves, .ref h_o_quarter, .int o_power, .ref h_o_roots, .ref h_o_laidRe, .ref h_o_laidIm, .ref h_o_byOrder, .int o_notedMany, .int o_knownTold, .ref h_o_noted1, .ref h_o_counts, .ref h_o_binBy, .long o_drawn])), (h_o_all, .inl (cI, 3128, .inl o_all)), (h_o_counts, .inl (cZ, 24, .inl o_counts)), (h_o_noted1, .inl (cI, 72, .inl o_noted1)), (h_o_roots, .inl (cI, 32, .inl o_roots)), (h_o_told, .inl (cI, 12, .inl o_told))]
def fX10_valuesOf_31 (o_bank : Int32) (o_notedMany : Int32) (o_knownTold : Int32) (o_all : Nat → Int32) (o_noted1 : Nat → Int32) (o_roots : Nat → Int32) (o_told : Nat → Int32) (k8 : (Nat → Int32) → Int32 → Int32 → Int32 → Option (Int32 × (Nat → Int32))) (o_counts : Nat → Int32) (v1 : Int32) (v3 : Int32) (s0 : Int32) (s1 : Int32) : Option (Int32 × (Nat → Int32)) :=
  nm (s0 ||| s1) (fun v2_7 =>
  nm (v3 + (1 : Int32)) (fun v3_8 =>
  k8 o_counts v1 v2_7 v3_8))
def fX10_valuesOf_8 (o_bank : Int32) (o_notedMany : Int32) (o_knownTold : Int32) (o_all : Nat → Int32) (o_noted1 : Nat → Int32) (o_roots : Nat → Int32) (o_told : Nat → Int32) : Nat → (Nat → Int32) → Int32 → Int32 → Int32 → Option (Int32 × (Nat → Int32))
  | 0, _, _, _, _ => none
  | n + 1, o_counts, v1, v2, v3 =>
    if (16 : Int32) ≤ v3 then (
      some (v2, o_counts)
    ) else (
      bd1 (fX10_isSoBy o_bank o_notedMany o_knownTold o_all o_counts o_noted1 o_roots o_told v1 v3) (fun r_4 =>
      if r_4 = 0 then (
        fX10_valuesOf_31 o_bank o_notedMany o_knownTold o_all o_noted1 o_roots o_told (fX10_valuesOf_8 o_bank o_notedMany o_knownTold o_all o_noted1 o_roots o_told n) o_counts v1 v3 v2 (0 : Int32)
      ) else (
        fX10_valuesOf_31 o_bank o_notedMany o_knownTold o_all o_noted1 o_roots o_told (fX10_valuesOf_8 o_bank o_notedMany o_knownTold o_all o_noted1 o_roots o_told n) o_counts v1 v3 v2 ((1 : Int32) <<< (v3 &&& 31))
      ))
    )
def fX10_valuesOf (o_bank : Int32) (o_notedMany : Int32) (o_knownTold : Int32) (o_all : Nat → Int32) (o_counts : Nat → Int32) (o_noted1 : Nat → Int32) (o_roots : Nat → Int32) (o_told : Nat → Int32) (p1 : Int32) : Option (Int32 × (Nat → Int32)) :=
  bd1 (fX10_layCounts o_notedMany o_knownTold o_counts o_noted1) (fun o_counts_1 =>
  fX10_valuesOf_8 o_bank o_notedMany o_knownTold o_all o_noted1 o_roots o_told FU o_counts_1 p1 (0 : Int32) (0 : Int32))
set_option maxHeartbeats 4000000 in
set_option maxRecDepth 100000 in
theorem tX10_valuesOf (l : Launch) (G : va_G) (cI cJ cZ : ClassId) (sz : Nat) (h_o h_o_all h_o_counts h_o_noted1 h_o_roots h_o_told h_o_tape h_o_words h_o_isTold h_o_toldWave h_o_isPoint h_o_quarter h_o_laidRe h_o_laidIm h_o_byOrder h_o_binBy : Nat) (o_tapeSize : Int32) (o_thrown : Int32) (o_fault : Int32) (o_faultPlace : Int32) (o_stop : Int32) (o_next : Int32) (o_kind : Int32) (o_which : Int32) (o_at : Int32) (o_pointsRead : Int32) (o_bank : Int32) (o_isImage : Int32) (o_undos : Int32) (o_runRadix : Int32) (o_runOrder : Int32) (o_runNear : Int32) (o_runLimit : Int32) (o_runHalves : Int32) (o_power : Int32) (o_notedMany : Int32) (o_knownTold : Int32) (o_drawn : Int64) (o_all : Nat → Int32) (o_counts : Nat → Int32) (o_noted1 : Nat → Int32) (o_roots : Nat → Int32) (o_told : Nat → Int32) (p1 : Int32) (r : Int32) (out_o_counts : Nat → Int32) (hf : fX10_valuesOf o_bank o_notedMany o_knownTold o_all o_counts o_noted1 o_roots o_told p1 = some (r, out_o_counts)) : Met l yX10_valuesOf (Cond.code yX10_valuesOf cX10_valuesOf 4 (some .int) :: BIG) ({ frames := 4, cells := 0, slots := 0, locals := 92 } : Room) (cP G (TY3 cI cJ cZ) [.ref h_o, .int p1] sz (wX10_valuesOf cI cJ cZ h_o h_o_all h_o_counts h_o_noted1 h_o_roots h_o_told h_o_tape h_o_words h_o_isTold h_o_toldWave h_o_isPoint h_o_quarter h_o_laidRe h_o_laidIm h_o_byOrder h_o_binBy o_tapeSize o_thrown o_fault o_faultPlace o_stop o_next o_kind o_which o_at o_pointsRead o_bank o_isImage o_undos o_runRadix o_runOrder o_runNear o_runLimit o_runHalves o_power o_notedMany o_knownTold o_drawn o_all o_counts o_noted1 o_roots o_told)) (cQ G (TY3 cI cJ cZ) sz (wX10_valuesOf cI cJ cZ h_o h_o_all h_o_counts h_o_noted1 h_o_roots h_o_told h_o_tape h_o_words h_o_isTold h_o_toldWave h_o_isPoint h_o_quarter h_o_laidRe h_o_laidIm h_o_byOrder h_o_binBy o_tapeSize o_thrown o_fault o_faultPlace o_stop o_next o_kind o_which o_at o_pointsRead o_bank o_isImage o_undos o_runRadix o_runOrder o_runNear o_runLimit o_runHalves o_power o_notedMany o_knownTold o_drawn o_all o_counts o_noted1 o_roots o_told) (wX10_valuesOf cI cJ cZ h_o h_o_all h_o_counts h_o_noted1 h_o_roots h_o_told h_o_tape h_o_words h_o_isTold h_o_toldWave h_o_isPoint h_o_quarter h_o_laidRe h_o_laidIm h_o_byOrder h_o_binBy o_tapeSize o_thrown o_fault o_faultPlace o_stop o_next o_kind o_which o_at o_pointsRead o_bank o_isImage o_undos o_runRadix o_runOrder o_runNear o_runLimit o_runHalves o_power o_notedMany o_knownTold o_drawn o_all out_o_counts o_noted1 o_roots o_told) (some (.int r))) 0 0 (va_A (wX10_valuesOf cI cJ cZ h_o h_o_all h_o_counts h_o_noted1 h_o_roots h_o_told h_o_tape h_o_words h_o_isTold h_o_toldWave h_o_isPoint h_o_quarter h_o_laidRe h_o_laidIm h_o_byOrder h_o_binBy o_tapeSize o_thrown o_fault o_faultPlace o_stop o_next o_kind o_which o_at o_pointsRead o_bank o_isImage o_undos o_runRadix o_runOrder o_runNear o_runLimit o_runHalves o_power o_notedMany o_knownTold o_drawn o_all o_counts o_noted1 o_roots o_told) sz) := by
  refine met_i (cc := cX10_valuesOf) (maxL := 4) (plainFor_of_name (by decide)) (Nat.le_of_ble_eq_true rfl) (fun p e s m below meth c A ls Q hx hb hml hts hown hK hP hD hS hA hl hret => ?_)
  have hown : s.vm.findClass RX10 = some m.cls := hown
  have hl : lv_has ls 4 [(0, .ref h_o), (1, .int p1)] := hl
  have j31 : ∀ (k8 : (Nat → Int32) → Int32 → Int32 → Int32 → Option (Int32 × (Nat → Int32))), (∀ (o_counts : Nat → Int32) (v1 : Int32) (v2 : Int32) (v3 : Int32) (H : Heap) (locs : List Loc) (ls : Array Slot), k8 o_counts v1 v2 v3 = some (r, out_o_counts) → va_P G vwCl (wX10_valuesOf cI cJ cZ h_o h_o_all h_o_counts h_o_noted1 h_o_roots h_o_told h_o_tape h_o_words h_o_isTold h_o_toldWave h_o_isPoint h_o_quarter h_o_laidRe h_o_laidIm h_o_byOrder h_o_binBy o_tapeSize o_thrown o_fault o_faultPlace o_stop o_next o_kind o_which o_at o_pointsRead o_bank o_isImage o_undos o_runRadix o_runOrder o_runNear o_runLimit o_runHalves o_power o_notedMany o_knownTold o_drawn o_all o_counts o_noted1 o_roots o_told) H → va_D A (wX10_valuesOf cI cJ cZ h_o h_o_all h_o_counts h_o_noted1 h_o_roots h_o_told h_o_tape h_o_words h_o_isTold h_o_toldWave h_o_isPoint h_o_quarter h_o_laidRe h_o_laidIm h_o_byOrder h_o_binBy o_tapeSize o_thrown o_fault o_faultPlace o_stop o_next o_kind o_which o_at o_pointsRead o_bank o_isImage o_undos o_runRadix o_runOrder o_runNear o_runLimit o_runHalves o_power o_notedMany o_knownTold o_drawn o_all o_counts o_noted1 o_roots o_told) → va_S A s.heap H locs → lv_has ls 4 [(0, .ref h_o), (1, .int v1), (2, .int v2), (3, .int v3)] → W p l e ({ frames := 4, cells := 0, slots := 0, locals := 92 } : Room) s m ([.ref h_o, .int p1] : List Value).toArray below meth c H locs 0 0 Q (F0 m 8 ls [])) → ∀ (o_counts : Nat → Int32) (v1 : Int32) (v3 : Int32) (s0 : Int32) (s1 : Int32) (H : Heap) (locs : List Loc) (ls : Array Slot), fX10_valuesOf_31 o_bank o_notedMany o_knownTold o_all o_noted1 o_roots o_told k8 o_counts v1 v3 s0 s1 = some (r, out_o_counts) → va_P G vwCl (wX10_valuesOf cI cJ cZ h_o h_o_all h_o_counts h_o_noted1 h_o_roots h_o_told h_o_tape h_o_words h_o_isTold h_o_toldWave h_o_isPoint h_o_quarter h_o_laidRe h_o_laidIm h_o_byOrder h_o_binBy o_tapeSize o_thrown o_fault o_faultPlace o_stop o_next o_kind o_which o_at o_pointsRead o_bank o_isImage o_undos o_runRadix o_runOrder o_runNear o_runLimit o_runHalves o_power o_notedMany o_knownTold o_drawn o_all o_counts o_noted1 o_roots o_told) H → va_D A (wX10_valuesOf cI cJ cZ h_o h_o_all h_o_counts h_o_noted1 h_o_roots h_o_told h_o_tape h_o_words h_o_isTold h_o_toldWave h_o_isPoint h_o_quarter h_o_laidRe h_o_laidIm h_o_byOrder h_o_binBy o_tapeSize o_thrown o_fault o_faultPlace o_stop o_next o_kind o_which o_at o_pointsRead o_bank o_isImage o_undos o_runRadix o_runOrder o_runNear o_runLimit o_runHalves o_power o_notedMany o_knownTold o_drawn o_all o_counts o_noted1 o_roots o_told) → va_S A s.heap H locs → lv_has ls 4 [(0, .ref h_o), (1, .int v1), (3, .int v3)] → W p l e ({ frames := 4, cells := 0, slots := 0, locals := 92 } : Room) s m ([.ref h_o, .int p1] : List Value).toArray below meth c H locs 0 0 Q (F0 m 31 ls [.int s1, .int s0]) := by
    intro k8 hk8 o_counts v1 v3 s0 s1 H locs ls hf hP hD hS hl
    unfold fX10_valuesOf_31 at hf
    refine lv_ior hx hb dX10_valuesOf_31 ?_
    refine lv_topi (fun v2_7 ev2_7 => ?_)
    have hf := nm_x ev2_7 hf
    refine lv_istore_n (lv' := [(2, .int v2_7), (0, .ref h_o), (1, .int v1), (3, .int v3)]) hx hb dX10_valuesOf_32 rfl hl (by decide) rfl (fun ls hl => ?_)
    obtain ⟨v3_8, ev3_8⟩ : ∃ y : Int32, y = v3 + (1 : Int32) := ⟨_, rfl⟩
    have hf := nm_x ev3_8 hf
    refine lv_iinc (v := v3_8) (lv' := [(3, .int v3_8), (2, .int v2_7), (0, .ref h_o), (1, .int v1)]) hx hb dX10_valuesOf_33 hl (k := 3) rfl (by rw [ev3_8]; rfl) (by decide) rfl (fun ls hl => ?_)
    refine lv_goto (tgt := 8) hx hb dX10_valuesOf_36 (by decide) ?_
    exact hk8 o_counts v1 v2_7 v3_8 H locs ls hf hP hD hS (lv_sub hl [2, 3, 1, 0] rfl)
  have j8 : ∀ (n : Nat) (o_counts : Nat → Int32) (v1 : Int32) (v2 : Int32) (v3 : Int32) (H : Heap) (locs : List Loc) (ls : Array Slot), fX10_valuesOf_8 o_bank o_notedMany o_knownTold o_all o_noted1 o_roots o_told n o_counts v1 v2 v3 = some (r, out_o_counts) → va_P G vwCl (wX10_valuesOf cI cJ cZ h_o h_o_all h_o_counts h_o_noted1 h_o_roots h_o_told h_o_tape h_o_words h_o_isTold h_o_toldWave h_o_isPoint h_o_quarter h_o_laidRe h_o_laidIm h_o_byOrder h_o_binBy o_tapeSize o_thrown o_fault o_faultPlace o_stop o_next o_kind o_which o_at o_pointsRead o_bank o_isImage o_undos o_runRadix o_runOrder o_runNear o_runLimit o_runHalves o_power o_notedMany o_knownTold o_drawn o_all o_counts o_noted1 o_roots o_told) H → va_D A (wX10_valuesOf cI cJ cZ h_o h_o_all h_o_counts h_o_noted1 h_o_roots h_o_told h_o_tape h_o_words h_o_isTold h_o_toldWave h_o_isPoint h_o_quarter h_o_laidRe h_o_laidIm h_o_byOrder h_o_binBy o_tapeSize o_thrown o_fault o_faultPlace o_stop o_next o_kind o_which o_at o_pointsRead o_bank o_isImage o_undos o_runRadix o_runOrder o_runNear o_runLimit o_runHalves o_power o_notedMany o_knownTold o_drawn o_all o_counts o_noted1 o_roots o_told) → va_S A s.heap H locs → lv_has ls 4 [(0, .ref h_o), (1, .int v1), (2, .int v2), (3, .int v3)] → W p l e ({ frames := 4, cells := 0, slots := 0, locals := 92 } : Room) s m ([.ref h_o, .int p1] : List Value).toArray below meth c H locs 0 0 Q (F0 m 8 ls []) := by
    intro n
    induction n with
    | zero =>
      intro o_counts v1 v2 v3 H locs ls hf
      have hf : (none : Option (Int32 × (Nat → Int32))) = some (r, out_o_counts) := hf
      cases hf
    | succ n ih =>
      intro o_counts v1 v2 v3 H locs ls hf hP hD hS hl
      rw [fX10_valuesOf_8.eq_2] at hf
      refine lv_iload_n hx hb dX10_valuesOf_8 rfl (lv_at hl 3 rfl) ?_
      refine lv_bipush (v := (16 : Int32)) hx hb dX10_valuesOf_9 (by decide) ?_
      refine lv_icmp_ge (tgt := 39) hx hb dX10_valuesOf_11 (by decide) (fun c_3 => ?_) (fun c_3 => ?_)
      · have hf := it_t c_3 hf
        refine lv_iload_n hx hb dX10_valuesOf_39 rfl (lv_at hl 2 rfl) ?_
        cases hf
        exact hret _ _ _ _ dX10_valuesOf_40 hP hD hS
      · have hf := it_f c_3 hf
        refine lv_iload_n hx hb dX10_valuesOf_14 rfl (lv_at hl 2 rfl) ?_
        refine lv_aload_n hx hb dX10_valuesOf_15 rfl (lv_at hl 0 rfl) ?_
        refine lv_iload_n hx hb dX10_valuesOf_16 rfl (lv_at hl 1 rfl) ?_
        refine lv_iload_n hx hb dX10_valuesOf_17 rfl (lv_at hl 3 rfl) ?_
        obtain ⟨r_4, e_5, hf⟩ := bd1_x hf
        refine call_v [.int v1, .int v3] [.int v2] ⟨hx, hb, hml, hown, hts⟩ hK hP hD hS hA hl.1 (tX10_isSoBy l G cI cJ cZ H.size h_o h_o_all h_o_counts h_o_noted1 h_o_roots h_o_told h_o_tape h_o_words h_o_isTold h_o_toldWave h_o_isPoint h_o_quarter h_o_laidRe h_o_laidIm h_o_byOrder h_o_binBy o_tapeSize o_thrown o_fault o_faultPlace o_stop o_next o_kind o_which o_at o_pointsRead o_bank o_isImage o_undos o_runRadix o_runOrder o_runNear o_runLimit o_runHalves o_power o_notedMany o_knownTold o_drawn o_all o_counts o_noted1 o_roots o_told v1 v3 r_4 e_5) (cwV 2 hts (gv q_mX10_381 q_i_yX10_isSoBy q_s_yX10_isSoBy q_n_RX10 q_k_yX10_isSoBy) rfl rfl rfl (by decide +kernel) ⟨by decide, by decide⟩) rfl rfl (Nat.le_of_ble_eq_true rfl) dX10_valuesOf_18 ⟨Nat.zero_le _, Nat.zero_le _⟩ (ci := 10) rfl 0 rfl [0, 1, 2, 3, 4, 5] [] [0, 1, 2, 3, 4, 5] rfl rfl (ws2 := (wX10_valuesOf cI cJ cZ h_o h_o_all h_o_counts h_o_noted1 h_o_roots h_o_told h_o_tape h_o_words h_o_isTold h_o_toldWave h_o_isPoint h_o_quarter h_o_laidRe h_o_laidIm h_o_byOrder h_o_binBy o_tapeSize o_thrown o_fault o_faultPlace o_stop o_next o_kind o_which o_at o_pointsRead o_bank o_isImage o_undos o_runRadix o_runOrder o_runNear o_runLimit o_runHalves o_power o_notedMany o_knownTold o_drawn o_all o_counts o_noted1 o_roots o_told)) rfl (fun H locs hP hD hS => ?_)
        refine W.eq (g2 := F0 m 21 ls [.int r_4, .int v2]) rfl ?_
        refine lv_if_eq (tgt := 30) hx hb dX10_valuesOf_21 (by decide) (fun c_6 => ?_) (fun c_6 => ?_)
        · have hf := it_t c_6 hf
          refine lv_iconst (v := (0 : Int32)) hx hb dX10_valuesOf_30 (by decide) ?_
          exact j31 (fX10_valuesOf_8 o_bank o_notedMany o_knownTold o_all o_noted1 o_roots o_told n) ih o_counts v1 v3 v2 (0 : Int32) H locs ls hf hP hD hS (lv_sub hl [0, 1, 3] rfl)
        · have hf := it_f c_6 hf
          refine lv_iconst (v := (1 : Int32)) hx hb dX10_valuesOf_24 (by decide) ?_
          refine lv_iload_n hx hb dX10_valuesOf_25 rfl (lv_at hl 3 rfl) ?_
          refine lv_ishl hx hb dX10_valuesOf_26 ?_
          refine lv_goto (tgt := 31) hx hb dX10_valuesOf_27 (by decide) ?_
          exact j31 (fX10_valuesOf_8 o_bank o_notedMany o_knownTold o_all o_noted1 o_roots o_told n) ih o_counts v1 v3 v2 ((1 : Int32) <<< (v3 &&& 31)) H locs ls hf hP hD hS (lv_sub hl [0, 1, 3] rfl)
  unfold fX10_valuesOf at hf
  obtain ⟨H, eH⟩ : ∃ H, H = s.heap := ⟨_, rfl⟩
  obtain ⟨locs, elocs⟩ : ∃ z : List Loc, z = [] := ⟨_, rfl⟩
  have hP : va_P G vwCl (wX10_valuesOf cI cJ cZ h_o h_o_all h_o_counts h_o_noted1 h_o_roots h_o_told h_o_tape h_o_words h_o_isTold h_o_toldWave h_o_isPoint h_o_quarter h_o_laidRe h_o_laidIm h_o_byOrder h_o_binBy o_tapeSize o_thrown o_fault o_faultPlace o_stop o_next o_kind o_which o_at o_pointsRead o_bank o_isImage o_undos o_runRadix o_runOrder o_runNear o_runLimit o_runHalves o_power o_notedMany o_knownTold o_drawn o_all o_counts o_noted1 o_roots o_told) H := by rw [eH]; exact hP
  have hS : va_S A s.heap H locs := by rw [eH, elocs]; exact hS
  suffices hgo : W p l e ({ frames := 4, cells := 0, slots := 0, locals := 92 } : Room) s m ([.ref h_o, .int p1] : List Value).toArray below meth c H locs 0 0 Q (F0 m 0 ls []) by rw [eH, elocs] at hgo; exact hgo
  clear eH elocs
  refine lv_aload_n hx hb dX10_valuesOf_0 rfl (lv_at hl 0 rfl) ?_
  obtain ⟨o_counts_1, e_2, hf⟩ := bd1_x hf
  refine call_v [] [] ⟨hx, hb, hml, hown, hts⟩ hK hP hD hS hA hl.1 (tX10_layCounts l G cI cJ cZ H.size h_o h_o_counts h_o_noted1 h_o_tape h_o_words h_o_told h_o_isTold h_o_toldWave h_o_isPoint h_o_all h_o_quarter h_o_roots h_o_laidRe h_o_laidIm h_o_byOrder h_o_binBy o_tapeSize o_thrown o_fault o_faultPlace o_stop o_next o_kind o_which o_at o_pointsRead o_bank o_isImage o_undos o_runRadix o_runOrder o_runNear o_runLimit o_runHalves o_power o_notedMany o_knownTold o_drawn o_counts o_noted1 o_counts_1 e_2) (cwV 0 hts (gv q_mX10_378 q_i_yX10_layCounts q_s_yX10_layCounts q_n_RX10 q_k_yX10_layCounts) rfl rfl rfl (by decide +kernel) ⟨by decide, by decide⟩) rfl rfl (Nat.le_of_ble_eq_true rfl) dX10_valuesOf_1 ⟨Nat.zero_le _, Nat.zero_le _⟩ (ci := 10) rfl 0 rfl [0, 2, 3] [1, 4, 5] [3, 0, 4, 5, 1, 2] rfl rfl (ws2 := (wX10_valuesOf cI cJ cZ h_o h_o_all h_o_counts h_o_noted1 h_o_roots h_o_told h_o_tape h_o_words h_o_isTold h_o_toldWave h_o_isPoint h_o_quarter h_o_laidRe h_o_laidIm h_o_byOrder h_o_binBy o_tapeSize o_thrown o_fault o_faultPlace o_stop o_next o_kind o_which o_at o_pointsRead o_bank o_isImage o_undos o_runRadix o_runOrder o_runNear o_runLimit o_runHalves o_power o_notedMany o_knownTold o_drawn o_all o_counts_1 o_noted1 o_roots o_told)) rfl (fun H locs hP hD hS => ?_)
  refine W.eq (g2 := F0 m 4 ls []) rfl ?_
  refine lv_iconst (v := (0 : Int32)) hx hb dX10_valuesOf_4 (by decide) ?_
  refine lv_istore_n (lv' := [(2, .int (0 : Int32)), (0, .ref h_o), (1, .int p1)]) hx hb dX10_valuesOf_5 rfl hl (by decide) rfl (fun ls hl => ?_)
  refine lv_iconst (v := (0 : Int32)) hx hb dX10_valuesOf_6 (by decide) ?_
  refine lv_istore_n (lv' := [(3, .int (0 : Int32)), (2, .int (0 : Int32)), (0, .ref h_o), (1, .int p1)]) hx hb dX10_valuesOf_7 rfl hl (by decide) rfl (fun ls hl => ?_)
  exact j8 FU o_counts_1 p1 (0 : Int32) (0 : Int32) H locs ls hf hP hD hS (lv_sub hl [2, 3, 1, 0] rfl)
def wX10_values (cI cJ cZ : ClassId) (h_o h_o_all h_o_counts h_o_noted1 h_o_roots h_o_told h_o_tape h_o_words h_o_isTold h_o_toldWave h_o_isPoint h_o_quarter h_o_laidRe h_o_laidIm h_o_byOrder h_o_binBy : Nat) (o_tapeSize : Int32) (o_thrown : Int32) (o_fault : Int32) (o_faultPlace : Int32) (o_stop : Int32) (o_next : Int32) (o_kind : Int32) (o_which : Int32) (o_at : Int32) (o_pointsRead : Int32) (o_bank : Int32) (o_isImage : Int32) (o_undos : Int32) (o_runRadix : Int32) (o_runOrder : Int32) (o_runNear : Int32) (o_runLimit : Int32) (o_runHalves : Int32) (o_power : Int32) (o_notedMany : Int32) (o_knownTold : Int32) (o_drawn : Int64) (o_all : Nat → Int32) (o_counts : Nat → Int32) (o_noted1 : Nat → Int32) (o_roots : Nat → Int32) (o_told : Nat → Int32) : va_W := [(h_o, .inr (10, [.ref h_o_tape, .int o_tapeSize, .int o_thrown, .ref h_o_words, .int o_fault, .int o_faultPlace, .int o_stop, .int o_next, .int o_kind, .int o_which, .int o_at, .ref h_o_told, .ref h_o_isTold, .ref h_o_toldWave, .ref h_o_isPoint, .int o_pointsRead, .ref h_o_all, .int o_bank, .int o_isImage, .int o_undos, .int o_runRadix, .int o_runOrder, .int o_runNear, .int o_runLimit, .int o_runHalves, .ref h_o_quarter, .int o_power, .ref h_o_roots, .ref h_o_laidRe, .ref h_o_laidIm, .ref h_o_byOrder, .int o_notedMany, .int o_knownTold, .ref h_o_noted1, .ref h_o_counts, .ref h_o_binBy, .long o_drawn])), (h_o_all, .inl (cI, 3128, .inl o_all)), (h_o_counts, .inl (cZ, 24, .inl o_counts)), (h_o_noted1, .inl (cI, 72, .inl o_noted1)), (h_o_roots, .inl (cI, 32, .inl o_roots)), (h_o_told, .inl (cI, 12, .inl o_told))]
def fX10_values (o_thrown : Int32) (o_bank : Int32) (o_notedMany : Int32) (o_knownTold : Int32) (o_all : Nat → Int32) (o_counts : Nat → Int32) (o_noted1 : Nat → Int32) (o_roots : Nat → Int32) (o_told : Nat → Int32) (p1 : Int32) : Option (Int32 × Int32 × (Nat → Int32)) :=
  bd1 (fX10_isPlace o_told p1) (fun r_1 =>
  if r_1 = 0 then (
    some ((-1 : Int32), (0 : Int32), o_counts)
  ) else (
    bd2 (fX10_valuesOf o_bank o_notedMany o_knownTold o_all o_counts o_noted1 o_roots o_told p1) (fun r_4 o_counts_5 =>
    some (r_4, (0 : Int32), o_counts_5))
  ))
set_option maxHeartbeats 4000000 in
set_option maxRecDepth 100000 in
theorem tX10_values (l : Launch) (G : va_G) (cI cJ cZ : ClassId) (sz : Nat) (h_o h_o_all h_o_counts h_o_noted1 h_o_roots h_o_told h_o_tape h_o_words h_o_isTold h_o_toldWave h_o_isPoint h_o_quarter h_o_laidRe h_o_laidIm h_o_byOrder h_o_binBy : Nat) (o_tapeSize : Int32) (o_thrown : Int32) (o_fault : Int32) (o_faultPlace : Int32) (o_stop : Int32) (o_next : Int32) (o_kind : Int32) (o_which : Int32) (o_at : Int32) (o_pointsRead : Int32) (o_bank : Int32) (o_isImage : Int32) (o_undos : Int32) (o_runRadix : Int32) (o_runOrder : Int32) (o_runNear : Int32) (o_runLimit : Int32) (o_runHalves : Int32) (o_power : Int32) (o_notedMany : Int32) (o_knownTold : Int32) (o_drawn : Int64) (o_all : Nat → Int32) (o_counts : Nat → Int32) (o_noted1 : Nat → Int32) (o_roots : Nat → Int32) (o_told : Nat → Int32) (p1 : Int32) (r : Int32) (out_o_thrown : Int32) (out_o_counts : Nat → Int32) (hf : fX10_values o_thrown o_bank o_notedMany o_knownTold o_all o_counts o_noted1 o_roots o_told p1 = some (r, out_o_thrown, out_o_counts)) : Met l yX10_values (Cond.code yX10_values cX10_values 2 (some .int) :: BIG) ({ frames := 5, cells := 0, slots := 0, locals := 115 } : Room) (cP G (TY3 cI cJ cZ) [.ref h_o, .int p1] sz (wX10_values cI cJ cZ h_o h_o_all h_o_counts h_o_noted1 h_o_roots h_o_told h_o_tape h_o_words h_o_isTold h_o_toldWave h_o_isPoint h_o_quarter h_o_laidRe h_o_laidIm h_o_byOrder h_o_binBy o_tapeSize o_thrown o_fault o_faultPlace o_stop o_next o_kind o_which o_at o_pointsRead o_bank o_isImage o_undos o_runRadix o_runOrder o_runNear o_runLimit o_runHalves o_power o_notedMany o_knownTold o_drawn o_all o_counts o_noted1 o_roots o_told)) (cQ G (TY3 cI cJ cZ) sz (wX10_values cI cJ cZ h_o h_o_all h_o_counts h_o_noted1 h_o_roots h_o_told h_o_tape h_o_words h_o_isTold h_o_toldWave h_o_isPoint h_o_quarter h_o_laidRe h_o_laidIm h_o_byOrder h_o_binBy o_tapeSize o_thrown o_fault o_faultPlace o_stop o_next o_kind o_which o_at o_pointsRead o_bank o_isImage o_undos o_runRadix o_runOrder o_runNear o_runLimit o_runHalves o_power o_notedMany o_knownTold o_drawn o_all o_counts o_noted1 o_roots o_told) (wX10_values cI cJ cZ h_o h_o_all h_o_counts h_o_noted1 h_o_roots h_o_told h_o_tape h_o_words h_o_isTold h_o_toldWave h_o_isPoint h_o_quarter h_o_laidRe h_o_laidIm h_o_byOrder h_o_binBy o_tapeSize out_o_thrown o_fault o_faultPlace o_stop o_next o_kind o_which o_at o_pointsRead o_bank o_isImage o_undos o_runRadix o_runOrder o_runNear o_runLimit o_runHalves o_power o_notedMany o_knownTold o_drawn o_all out_o_counts o_noted1 o_roots o_told) (some (.int r))) 0 0 (va_A (wX10_values cI cJ cZ h_o h_o_all h_o_counts h_o_noted1 h_o_roots h_o_told h_o_tape h_o_words h_o_isTold h_o_toldWave h_o_isPoint h_o_quarter h_o_laidRe h_o_laidIm h_o_byOrder h_o_binBy o_tapeSize o_thrown o_fault o_faultPlace o_stop o_next o_kind o_which o_at o_pointsRead o_bank o_isImage o_undos o_runRadix o_runOrder o_runNear o_runLimit o_runHalves o_power o_notedMany o_knownTold o_drawn o_all o_counts o_noted1 o_roots o_told) sz) := by
  refine met_i (cc := cX10_values) (maxL := 2) (plainFor_of_name (by decide)) (Nat.le_of_ble_eq_true rfl) (fun p e s m below meth c A ls Q hx hb hml hts hown hK hP hD hS hA hl hret => ?_)
  have hown : s.vm.findClass RX10 = some m.cls := hown
  have hl : lv_has ls 2 [(0, .ref h_o), (1, .int p1)] := hl
  unfold fX10_values at hf
  obtain ⟨H, eH⟩ : ∃ H, H = s.heap := ⟨_, rfl⟩
  obtain ⟨locs, elocs⟩ : ∃ z : List Loc, z = [] := ⟨_, rfl⟩
  have hP : va_P G vwCl (wX10_values cI cJ cZ h_o h_o_all h_o_counts h_o_noted1 h_o_roots h_o_told h_o_tape h_o_words h_o_isTold h_o_toldWave h_o_isPoint h_o_quarter h_o_laidRe h_o_laidIm h_o_byOrder h_o_binBy o_tapeSize o_thrown o_fault o_faultPlace o_stop o_next o_kind o_which o_at o_pointsRead o_bank o_isImage o_undos o_runRadix o_runOrder o_runNear o_runLimit o_runHalves o_power o_notedMany o_knownTold o_drawn o_all o_counts o_noted1 o_roots o_told) H := by rw [eH]; exact hP
  have hS : va_S A s.heap H locs := by rw [eH, elocs]; exact hS
  suffices hgo : W p l e ({ frames := 5, cells := 0, slots := 0, locals := 115 } : Room) s m ([.ref h_o, .int p1] : List Value).toArray below meth c H locs 0 0 Q (F0 m 0 ls []) by rw [eH, elocs] at hgo; exact hgo
  clear eH elocs
  refine lv_aload_n hx hb dX10_values_0 rfl (lv_at hl 0 rfl) ?_
  refine lv_iconst (v := (0 : Int32)) hx hb dX10_values_1 (by decide) ?_
  refine wr (ci := 10) (C := RX10) (T := TX10) (N := 37) hx hb hts inX10 tyX10 tyX10_ok nmX10 hown hK hP hD hS 0 2 rfl rfl (by decide) (hts _ q_fX10_70) rfl rfl rfl (Nat.le_of_ble_eq_true rfl) dX10_values_2 (ws2 := (wX10_values cI cJ cZ h_o h_o_all h_o_counts h_o_noted1 h_o_roots h_o_told h_o_tape h_o_words h_o_isTold h_o_toldWave h_o_isPoint h_o_quarter h_o_laidRe h_o_laidIm h_o_byOrder h_o_binBy o_tapeSize (0 : Int32) o_fault o_faultPlace o_stop o_next o_kind o_which o_at o_pointsRead o_bank o_isImage o_undos o_runRadix o_runOrder o_runNear o_runLimit o_runHalves o_power o_notedMany o_knownTold o_drawn o_all o_counts o_noted1 o_roots o_told)) rfl (fun H locs hP hD hS => ?_)
  refine lv_aload_n hx hb dX10_values_5 rfl (lv_at hl 0 rfl) ?_
  refine lv_iload_n hx hb dX10_values_6 rfl (lv_at hl 1 rfl) ?_
  obtain ⟨r_1, e_2, hf⟩ := bd1_x hf
  refine call_v [.int p1] [] ⟨hx, hb, hml, hown, hts⟩ hK hP hD hS hA hl.1 (tX10_isPlace l G cI cJ cZ H.size h_o h_o_told h_o_tape h_o_words h_o_isTold h_o_toldWave h_o_isPoint h_o_all h_o_quarter h_o_roots h_o_laidRe h_o_laidIm h_o_byOrder h_o_noted1 h_o_counts h_o_binBy o_tapeSize (0 : Int32) o_fault o_faultPlace o_stop o_next o_kind o_which o_at o_pointsRead o_bank o_isImage o_undos o_runRadix o_runOrder o_runNear o_runLimit o_runHalves o_power o_notedMany o_knownTold o_drawn o_told p1 r_1 e_2) (cwV 1 hts (gv q_mX10_203 q_i_yX10_isPlace q_s_yX10_isPlace q_n_RX10 q_k_yX10_isPlace) rfl rfl rfl (by decide +kernel) ⟨by decide, by decide⟩) rfl rfl (Nat.le_of_ble_eq_true rfl) dX10_values_7 ⟨Nat.zero_le _, Nat.zero_le _⟩ (ci := 10) rfl 0 rfl [0, 5] [1, 2, 3, 4] [4, 0, 1, 2, 3, 5] rfl rfl (ws2 := (wX10_values cI cJ cZ h_o h_o_all h_o_counts h_o_noted1 h_o_roots h_o_told h_o_tape h_o_words h_o_isTold h_o_toldWave h_o_isPoint h_o_quarter h_o_laidRe h_o_laidIm h_o_byOrder h_o_binBy o_tapeSize (0 : Int32) o_fault o_faultPlace o_stop o_next o_kind o_which o_at o_pointsRead o_bank o_isImage o_undos o_runRadix o_runOrder o_runNear o_runLimit o_runHalves o_power o_notedMany o_knownTold o_drawn o_all o_counts o_noted1 o_roots o_told)) rfl (fun H locs hP hD hS => ?_)
  refine W.eq (g2 := F0 m 10 ls [.int r_1]) rfl ?_
  refine lv_if_eq (tgt := 21) hx hb dX10_values_10 (by decide) (fun c_3 => ?_) (fun c_3 => ?_)
  · have hf := it_t c_3 hf
    refine lv_iconst (v := (-1 : Int32)) hx hb dX10_values_21 (by decide) ?_
    cases hf
    exact hret _ _ _ _ dX10_values_22 hP hD hS
  · have hf := it_f c_3 hf
    refine lv_aload_n hx hb dX10_values_13 rfl (lv_at hl 0 rfl) ?_
    refine lv_iload_n hx hb dX10_values_14 rfl (lv_at hl 1 rfl) ?_
    obtain ⟨r_4, o_counts_5, e_6, hf⟩ := bd2_x hf
    refine call_v [.int p1] [] ⟨hx, hb, hml, hown, hts⟩ hK hP hD hS hA hl.1 (tX10_valuesOf l G cI cJ cZ H.size h_o h_o_all h_o_counts h_o_noted1 h_o_roots h_o_told h_o_tape h_o_words h_o_isTold h_o_toldWave h_o_isPoint h_o_quarter h_o_laidRe h_o_laidIm h_o_byOrder h_o_binBy o_tapeSize (0 : Int32) o_fault o_faultPlace o_stop o_next o_kind o_which o_at o_pointsRead o_bank o_isImage o_undos o_runRadix o_runOrder o_runNear o_runLimit o_runHalves o_power o_notedMany o_knownTold o_drawn o_all o_counts o_noted1 o_roots o_told p1 r_4 o_counts_5 e_6) (cwV 1 hts (gv q_mX10_384 q_i_yX10_valuesOf q_s_yX10_valuesOf q_n_RX10 q_k_yX10_valuesOf) rfl rfl rfl (by decide +kernel) ⟨by decide, by decide⟩) rfl rfl (Nat.le_of_ble_eq_true rfl) dX10_values_15 ⟨Nat.zero_le _, Nat.zero_le _⟩ (ci := 10) rfl 0 rfl [0, 1, 2, 3, 4, 5] [] [0, 1, 2, 3, 4, 5] rfl rfl (ws2 := (wX10_values cI cJ cZ h_o h_o_all h_o_counts h_o_noted1 h_o_roots h_o_told h_o_tape h_o_words h_o_isTold h_o_toldWave h_o_isPoint h_o_quarter h_o_laidRe h_o_laidIm h_o_byOrder h_o_binBy o_tapeSize (0 : Int32) o_fault o_faultPlace o_stop o_next o_kind o_which o_at o_pointsRead o_bank o_isImage o_undos o_runRadix o_runOrder o_runNear o_runLimit o_runHalves o_power o_notedMany o_knownTold o_drawn o_all o_counts_5 o_noted1 o_roots o_told)) rfl (fun H locs hP hD hS => ?_)
    refine W.eq (g2 := F0 m 18 ls [.int r_4]) rfl ?_
    refine lv_goto (tgt := 22) hx hb dX10_values_18 (by decide) ?_
    cases hf
    exact hret _ _ _ _ dX10_values_22 hP hD hS
def wX10_manyBy (cI cJ cZ : ClassId) (h_o h_o_binBy h_o_tape h_o_words h_o_told h_o_isTold h_o_toldWave h_o_isPoint h_o_all h_o_quarter h_o_roots h_o_laidRe h_o_laidIm h_o_byOrder h_o_noted1 h_o_counts : Nat) (o_tapeSize : Int32) (o_thrown : Int32) (o_fault : Int32) (o_faultPlace : Int32) (o_stop : Int32) (o_next : Int32) (o_kind : Int32) (o_which : Int32) (o_at : Int32) (o_pointsRead : Int32) (o_bank : Int32) (o_isImage : Int32) (o_undos : Int32) (o_runRadix : Int32) (o_runOrder : Int32) (o_runNear : Int32) (o_runLimit : Int32) (o_runHalves : Int32) (o_power : Int32) (o_notedMany : Int32) (o_knownTold : Int32) (o_drawn : Int64) (o_binBy : Nat → Int32) : va_W := [(h_o, .inr (10, [.ref h_o_tape, .int o_tapeSize, .int o_thrown, .ref h_o_words, .int o_fault, .int o_faultPlace, .int o_stop, .int o_next, .int o_kind, .int o_which, .int o_at, .ref h_o_told, .ref h_o_isTold, .ref h_o_toldWave, .ref h_o_isPoint, .int o_pointsRead, .ref h_o_all, .int o_bank, .int o_isImage, .int o_undos, .int o_runRadix, .int o_runOrder, .int o_runNear, .int o_runLimit, .int o_runHalves, .ref h_o_quarter, .int o_power, .ref h_o_roots, .ref h_o_laidRe, .ref h_o_laidIm, .ref h_o_byOrder, .int o_notedMany, .int o_knownTold, .ref h_o_noted1, .ref h_o_counts, .ref h_o_binBy, .long o_drawn])), (h_o_binBy, .inl (cI, 16, .inl o_binBy))]
def fX10_manyBy_38 (o_binBy : Nat → Int32) (k5 : Int32 → Int32 → Int32 → Int32 → Option (Int32)) (v1 : Int32) (v2 : Int32) (v4 : Int32) (s0 : Int32) (s1 : Int32) : Option (Int32) :=
  nm (s0 + s1) (fun v3_7 =>
  nm (v4 + (1 : Int32)) (fun v4_8 =>
  k5 v1 v2 v3_7 v4_8))
def fX10_manyBy_37 (o_binBy : Nat → Int32) (k5 : Int32 → Int32 → Int32 → Int32 → Option (Int32)) (v1 : Int32) (v2 : Int32) (v4 : Int32) (s0 : Int32) : Option (Int32) :=
  fX10_manyBy_38 o_binBy k5 v1 v2 v4 s0 (0 : Int32)
def fX10_manyBy_5 (o_binBy : Nat → Int32) : Nat → Int32 → Int32 → Int32 → Int32 → Option (Int32)
  | 0, _, _, _, _ => none
  | n + 1, v1, v2, v3, v4 =>
    if (16 : Int32) ≤ v4 then (
      some v3
    ) else (
      bd1 (fX10_isOf v1 v4) (fun r_2 =>
      if r_2 = 0 then (
        fX10_manyBy_37 o_binBy (fX10_manyBy_5 o_binBy n) v1 v2 v4 v3
      ) else (
        gd (inb v4 16) (
        if (o_binBy (Int32.toNatClampNeg v4)) < v2 then (
          fX10_manyBy_37 o_binBy (fX10_manyBy_5 o_binBy n) v1 v2 v4 v3
        ) else (
          fX10_manyBy_38 o_binBy (fX10_manyBy_5 o_binBy n) v1 v2 v4 v3 (1 : Int32)
        ))
      ))
    )
def fX10_manyBy (o_binBy : Nat → Int32) (p1 : Int32) (p2 : Int32) : Option (Int32) :=
  fX10_manyBy_5 o_binBy FU p1 p2 (0 : Int32) (0 : Int32)
set_option maxHeartbeats 4000000 in
set_option maxRecDepth 100000 in
theorem tX10_manyBy (l : Launch) (G : va_G) (cI cJ cZ : ClassId) (sz : Nat) (h_o h_o_binBy h_o_tape h_o_words h_o_told h_o_isTold h_o_toldWave h_o_isPoint h_o_all h_o_quarter h_o_roots h_o_laidRe h_o_laidIm h_o_byOrder h_o_noted1 h_o_counts : Nat) (o_tapeSize : Int32) (o_thrown : Int32) (o_fault : Int32) (o_faultPlace : Int32) (o_stop : Int32) (o_next : Int32) (o_kind : Int32) (o_which : Int32) (o_at : Int32) (o_pointsRead : Int32) (o_bank : Int32) (o_isImage : Int32) (o_undos : Int32) (o_runRadix : Int32) (o_runOrder : Int32) (o_runNear : Int32) (o_runLimit : Int32) (o_runHalves : Int32) (o_power : Int32) (o_notedMany : Int32) (o_knownTold : Int32) (o_drawn : Int64) (o_binBy : Nat → Int32) (p1 : Int32) (p2 : Int32) (r : Int32) (hf : fX10_manyBy o_binBy p1 p2 = some r) : Met l yX10_manyBy (Cond.code yX10_manyBy cX10_manyBy 5 (some .int) :: BIG) ({ frames := 1, cells := 0, slots := 0, locals := 21 } : Room) (cP G (TY3 cI cJ cZ) [.ref h_o, .int p1, .int p2] sz (wX10_manyBy cI cJ cZ h_o h_o_binBy h_o_tape h_o_words h_o_told h_o_isTold h_o_toldWave h_o_isPoint h_o_all h_o_quarter h_o_roots h_o_laidRe h_o_laidIm h_o_byOrder h_o_noted1 h_o_counts o_tapeSize o_thrown o_fault o_faultPlace o_stop o_next o_kind o_which o_at o_pointsRead o_bank o_isImage o_undos o_runRadix o_runOrder o_runNear o_runLimit o_runHalves o_power o_notedMany o_knownTold o_drawn o_binBy)) (cQ G (TY3 cI cJ cZ) sz (wX10_manyBy cI cJ cZ h_o h_o_binBy h_o_tape h_o_words h_o_told h_o_isTold h_o_toldWave h_o_isPoint h_o_all h_o_quarter h_o_roots h_o_laidRe h_o_laidIm h_o_byOrder h_o_noted1 h_o_counts o_tapeSize o_thrown o_fault o_faultPlace o_stop o_next o_kind o_which o_at o_pointsRead o_bank o_isImage o_undos o_runRadix o_runOrder o_runNear o_runLimit o_runHalves o_power o_notedMany o_knownTold o_drawn o_binBy) (wX10_manyBy cI cJ cZ h_o h_o_binBy h_o_tape h_o_words h_o_told h_o_isTold h_o_toldWave h_o_isPoint h_o_all h_o_quarter h_o_roots h_o_laidRe h_o_laidIm h_o_byOrder h_o_noted1 h_o_counts o_tapeSize o_thrown o_fault o_faultPlace o_stop o_next o_kind o_which o_at o_pointsRead o_bank o_isImage o_undos o_runRadix o_runOrder o_runNear o_runLimit o_runHalves o_power o_notedMany o_knownTold o_drawn o_binBy) (some (.int r))) 0 0 (va_A (wX10_manyBy cI cJ cZ h_o h_o_binBy h_o_tape h_o_words h_o_told h_o_isTold h_o_toldWave h_o_isPoint h_o_all h_o_quarter h_o_roots h_o_laidRe h_o_laidIm h_o_byOrder h_o_noted1 h_o_counts o_tapeSize o_thrown o_fault o_faultPlace o_stop o_next o_kind o_which o_at o_pointsRead o_bank o_isImage o_undos o_runRadix o_runOrder o_runNear o_runLimit o_runHalves o_power o_notedMany o_knownTold o_drawn o_binBy) sz) := by
  refine met_i (cc := cX10_manyBy) (maxL := 5) (plainFor_of_name (by decide)) (Nat.le_of_ble_eq_true rfl) (fun p e s m below meth c A ls Q hx hb hml hts hown hK hP hD hS hA hl hret => ?_)
  have hown : s.vm.findClass RX10 = some m.cls := hown
  have hl : lv_has ls 5 [(0, .ref h_o), (1, .int p1), (2, .int p2)] := hl
  have j38 : ∀ (k5 : Int32 → Int32 → Int32 → Int32 → Option (Int32)), (∀ (v1 : Int32) (v2 : Int32) (v3 : Int32) (v4 : Int32) (H : Heap) (locs : List Loc) (ls : Array Slot), k5 v1 v2 v3 v4 = some r → va_P G vwCl (wX10_manyBy cI cJ cZ h_o h_o_binBy h_o_tape h_o_words h_o_told h_o_isTold h_o_toldWave h_o_isPoint h_o_all h_o_quarter h_o_roots h_o_laidRe h_o_laidIm h_o_byOrder h_o_noted1 h_o_counts o_tapeSize o_thrown o_fault o_faultPlace o_stop o_next o_kind o_which o_at o_pointsRead o_bank o_isImage o_undos o_runRadix o_runOrder o_runNear o_runLimit o_runHalves o_power o_notedMany o_knownTold o_drawn o_binBy) H → va_D A (wX10_manyBy cI cJ cZ h_o h_o_binBy h_o_tape h_o_words h_o_told h_o_isTold h_o_toldWave h_o_isPoint h_o_all h_o_quarter h_o_roots h_o_laidRe h_o_laidIm h_o_byOrder h_o_noted1 h_o_counts o_tapeSize o_thrown o_fault o_faultPlace o_stop o_next o_kind o_which o_at o_pointsRead o_bank o_isImage o_undos o_runRadix o_runOrder o_runNear o_runLimit o_runHalves o_power o_notedMany o_knownTold o_drawn o_binBy) → va_S A s.heap H locs → lv_has ls 5 [(0, .ref h_o), (1, .int v1), (2, .int v2), (3, .int v3), (4, .int v4)] → W p l e ({ frames := 1, cells := 0, slots := 0, locals := 21 } : Room) s m ([.ref h_o, .int p1, .int p2] : List Value).toArray below meth c H locs 0 0 Q (F0 m 5 ls [])) → ∀ (v1 : Int32) (v2 : Int32) (v4 : Int32) (s0 : Int32) (s1 : Int32) (H : Heap) (locs : List Loc) (ls : Array Slot), fX10_manyBy_38 o_binBy k5 v1 v2 v4 s0 s1 = some r → va_P G vwCl (wX10_manyBy cI cJ cZ h_o h_o_binBy h_o_tape h_o_words h_o_told h_o_isTold h_o_toldWave h_o_isPoint h_o_all h_o_quarter h_o_roots h_o_laidRe h_o_laidIm h_o_byOrder h_o_noted1 h_o_counts o_tapeSize o_thrown o_fault o_faultPlace o_stop o_next o_kind o_which o_at o_pointsRead o_bank o_isImage o_undos o_runRadix o_runOrder o_runNear o_runLimit o_runHalves o_power o_notedMany o_knownTold o_drawn o_binBy) H → va_D A (wX10_manyBy cI cJ cZ h_o h_o_binBy h_o_tape h_o_words h_o_told h_o_isTold h_o_toldWave h_o_isPoint h_o_all h_o_quarter h_o_roots h_o_laidRe h_o_laidIm h_o_byOrder h_o_noted1 h_o_counts o_tapeSize o_thrown o_fault o_faultPlace o_stop o_next o_kind o_which o_at o_pointsRead o_bank o_isImage o_undos o_runRadix o_runOrder o_runNear o_runLimit o_runHalves o_power o_notedMany o_knownTold o_drawn o_binBy) → va_S A s.heap H locs → lv_has ls 5 [(0, .ref h_o), (1, .int v1), (2, .int v2), (4, .int v4)] → W p l e ({ frames := 1, cells := 0, slots := 0, locals := 21 } : Room) s m ([.ref h_o, .int p1, .int p2] : List Value).toArray below meth c H locs 0 0 Q (F0 m 38 ls [.int s1, .int s0]) := by
    intro k5 hk5 v1 v2 v4 s0 s1 H locs ls hf hP hD hS hl
    unfold fX10_manyBy_38 at hf
    refine lv_iadd hx hb dX10_manyBy_38 ?_
    refine lv_topi (fun v3_7 ev3_7 => ?_)
    have hf := nm_x ev3_7 hf
    refine lv_istore_n (lv' := [(3, .int v3_7), (0, .ref h_o), (1, .int v1), (2, .int v2), (4, .int v4)]) hx hb dX10_manyBy_39 rfl hl (by decide) rfl (fun ls hl => ?_)
    obtain ⟨v4_8, ev4_8⟩ : ∃ y : Int32, y = v4 + (1 : Int32) := ⟨_, rfl⟩
    have hf := nm_x ev4_8 hf
    refine lv_iinc (v := v4_8) (lv' := [(4, .int v4_8), (3, .int v3_7), (0, .ref h_o), (1, .int v1), (2, .int v2)]) hx hb dX10_manyBy_40 hl (k := 4) rfl (by rw [ev4_8]; rfl) (by decide) rfl (fun ls hl => ?_)
    refine lv_goto (tgt := 5) hx hb dX10_manyBy_43 (by decide) ?_
    exact hk5 v1 v2 v3_7 v4_8 H locs ls hf hP hD hS (lv_sub hl [2, 3, 4, 1, 0] rfl)
  have j37 : ∀ (k5 : Int32 → Int32 → Int32 → Int32 → Option (Int32)), (∀ (v1 : Int32) (v2 : Int32) (v3 : Int32) (v4 : Int32) (H : Heap) (locs : List Loc) (ls : Array Slot), k5 v1 v2 v3 v4 = some r → va_P G vwCl (wX10_manyBy cI cJ cZ h_o h_o_binBy h_o_tape h_o_words h_o_told h_o_isTold h_o_toldWave h_o_isPoint h_o_all h_o_quarter h_o_roots h_o_laidRe h_o_laidIm h_o_byOrder h_o_noted1 h_o_counts o_tapeSize o_thrown o_fault o_faultPlace o_stop o_next o_kind o_which o_at o_pointsRead o_bank o_isImage o_undos o_runRadix o_runOrder o_runNear o_runLimit o_runHalves o_power o_notedMany o_knownTold o_drawn o_binBy) H → va_D A (wX10_manyBy cI cJ cZ h_o h_o_binBy h_o_tape h_o_words h_o_told h_o_isTold h_o_toldWave h_o_isPoint h_o_all h_o_quarter h_o_roots h_o_laidRe h_o_laidIm h_o_byOrder h_o_noted1 h_o_counts o_tapeSize o_thrown o_fault o_faultPlace o_stop o_next o_kind o_which o_at o_pointsRead o_bank o_isImage o_undos o_runRadix o_runOrder o_runNear o_runLimit o_runHalves o_power o_notedMany o_knownTold o_drawn o_binBy) → va_S A s.heap H locs → lv_has ls 5 [(0, .ref h_o), (1, .int v1), (2, .int v2), (3, .int v3), (4, .int v4)] → W p l e ({ frames := 1, cells := 0, slots := 0, locals := 21 } : Room) s m ([.ref h_o, .int p1, .int p2] : List Value).toArray below meth c H locs 0 0 Q (F0 m 5 ls [])) → ∀ (v1 : Int32) (v2 : Int32) (v4 : Int32) (s0 : Int32) (H : Heap) (locs : List Loc) (ls : Array Slot), fX10_manyBy_37 o_binBy k5 v1 v2 v4 s0 = some r → va_P G vwCl (wX10_manyBy cI cJ cZ h_o h_o_binBy h_o_tape h_o_words h_o_told h_o_isTold h_o_toldWave h_o_isPoint h_o_all h_o_quarter h_o_roots h_o_laidRe h_o_laidIm h_o_byOrder h_o_noted1 h_o_counts o_tapeSize o_thrown o_fault o_faultPlace o_stop o_next o_kind o_which o_at o_pointsRead o_bank o_isImage o_undos o_runRadix o_runOrder o_runNear o_runLimit o_runHalves o_power o_notedMany o_knownTold o_drawn o_binBy) H → va_D A (wX10_manyBy cI cJ cZ h_o h_o_binBy h_o_tape h_o_words h_o_told h_o_isTold h_o_toldWave h_o_isPoint h_o_all h_o_quarter h_o_roots h_o_laidRe h_o_laidIm h_o_byOrder h_o_noted1 h_o_counts o_tapeSize o_thrown o_fault o_faultPlace o_stop o_next o_kind o_which o_at o_pointsRead o_bank o_isImage o_undos o_runRadix o_runOrder o_runNear o_runLimit o_runHalves o_power o_notedMany o_knownTold o_drawn o_binBy) → va_S A s.heap H locs → lv_has ls 5 [(0, .ref h_o), (1, .int v1), (2, .int v2), (4, .int v4)] → W p l e ({ frames := 1, cells := 0, slots := 0, locals := 21 } : Room) s m ([.ref h_o, .int p1, .int p2] : List Value).toArray below meth c H locs 0 0 Q (F0 m 37 ls [.int s0]) := by
    intro k5 hk5 v1 v2 v4 s0 H locs ls hf hP hD hS hl
    unfold fX10_manyBy_37 at hf
    refine lv_iconst (v := (0 : Int32)) hx hb dX10_manyBy_37 (by decide) ?_
    exact j38 k5 hk5 v1 v2 v4 s0 (0 : Int32) H locs ls hf hP hD hS (lv_sub hl [0, 1, 2, 3] rfl)
  have j5 : ∀ (n : Nat) (v1 : Int32) (v2 : Int32) (v3 : Int32) (v4 : Int32) (H : Heap) (locs : List Loc) (ls : Array Slot), fX10_manyBy_5 o_binBy n v1 v2 v3 v4 = some r → va_P G vwCl (wX10_manyBy cI cJ cZ h_o h_o_binBy h_o_tape h_o_words h_o_told h_o_isTold h_o_toldWave h_o_isPoint h_o_all h_o_quarter h_o_roots h_o_laidRe h_o_laidIm h_o_byOrder h_o_noted1 h_o_counts o_tapeSize o_thrown o_fault o_faultPlace o_stop o_next o_kind o_which o_at o_pointsRead o_bank o_isImage o_undos o_runRadix o_runOrder o_runNear o_runLimit o_runHalves o_power o_notedMany o_knownTold o_drawn o_binBy) H → va_D A (wX10_manyBy cI cJ cZ h_o h_o_binBy h_o_tape h_o_words h_o_told h_o_isTold h_o_toldWave h_o_isPoint h_o_all h_o_quarter h_o_roots h_o_laidRe h_o_laidIm h_o_byOrder h_o_noted1 h_o_counts o_tapeSize o_thrown o_fault o_faultPlace o_stop o_next o_kind o_which o_at o_pointsRead o_bank o_isImage o_undos o_runRadix o_runOrder o_runNear o_runLimit o_runHalves o_power o_notedMany o_knownTold o_drawn o_binBy) → va_S A s.heap H locs → lv_has ls 5 [(0, .ref h_o), (1, .int v1), (2, .int v2), (3, .int v3), (4, .int v4)] → W p l e ({ frames := 1, cells := 0, slots := 0, locals := 21 } : Room) s m ([.ref h_o, .int p1, .int p2] : List Value).toArray below meth c H locs 0 0 Q (F0 m 5 ls []) := by
    intro n
    induction n with
    | zero =>
      intro v1 v2 v3 v4 H locs ls hf
      have hf : (none : Option (Int32)) = some r := hf
      cases hf
    | succ n ih =>
      intro v1 v2 v3 v4 H locs ls hf hP hD hS hl
      rw [fX10_manyBy_5.eq_2] at hf
      refine lv_iload hx hb dX10_manyBy_5 (lv_at hl 4 rfl) ?_
      refine lv_bipush (v := (16 : Int32)) hx hb dX10_manyBy_7 (by decide) ?_
      refine lv_icmp_ge (tgt := 46) hx hb dX10_manyBy_9 (by decide) (fun c_1 => ?_) (fun c_1 => ?_)
      · have hf := it_t c_1 hf
        refine lv_iload_n hx hb dX10_manyBy_46 rfl (lv_at hl 3 rfl) ?_
        cases hf
        exact hret _ _ _ _ dX10_manyBy_47 hP hD hS
      · have hf := it_f c_1 hf
        refine lv_iload_n hx hb dX10_manyBy_12 rfl (lv_at hl 3 rfl) ?_
        refine lv_iload_n hx hb dX10_manyBy_13 rfl (lv_at hl 1 rfl) ?_
        refine lv_iload hx hb dX10_manyBy_14 (lv_at hl 4 rfl) ?_
        obtain ⟨r_2, e_3, hf⟩ := bd1_x hf
        refine call_s [.int v1, .int v4] [.int v3] ⟨hx, hb, hml, hown, hts⟩ hK hP hD hS hA hl.1 (tX10_isOf l G cI cJ cZ H.size v1 v4 r_2 e_3) (va_cwS 2 hts (gs q_mX10_341 q_s_yX10_isOf q_n_RX10 q_k_yX10_isOf) rfl rfl rfl (by decide +kernel) ⟨by decide, by decide⟩) rfl rfl (Nat.le_of_ble_eq_true rfl) dX10_manyBy_16 ⟨Nat.zero_le _, Nat.zero_le _⟩ [] [0, 1] [0, 1] rfl rfl (ws2 := (wX10_manyBy cI cJ cZ h_o h_o_binBy h_o_tape h_o_words h_o_told h_o_isTold h_o_toldWave h_o_isPoint h_o_all h_o_quarter h_o_roots h_o_laidRe h_o_laidIm h_o_byOrder h_o_noted1 h_o_counts o_tapeSize o_thrown o_fault o_faultPlace o_stop o_next o_kind o_which o_at o_pointsRead o_bank o_isImage o_undos o_runRadix o_runOrder o_runNear o_runLimit o_runHalves o_power o_notedMany o_knownTold o_drawn o_binBy)) rfl (fun H locs hP hD hS => ?_)
        refine W.eq (g2 := F0 m 19 ls [.int r_2, .int v3]) rfl ?_
        refine lv_if_eq (tgt := 37) hx hb dX10_manyBy_19 (by decide) (fun c_4 => ?_) (fun c_4 => ?_)
        · have hf := it_t c_4 hf
          exact j37 (fX10_manyBy_5 o_binBy n) ih v1 v2 v4 v3 H locs ls hf hP hD hS (lv_sub hl [0, 1, 2, 4] rfl)
        · have hf := it_f c_4 hf
          refine lv_aload_n hx hb dX10_manyBy_22 rfl (lv_at hl 0 rfl) ?_
          refine rd (ci := 10) (C := RX10) (T := TX10) (N := 37) hx hb hts inX10 hown hK hP 0 35 rfl rfl (by decide) (hts _ q_fX10_61) rfl dX10_manyBy_23 ?_
          refine lv_iload hx hb dX10_manyBy_26 (lv_at hl 4 rfl) ?_
          obtain ⟨g_5, hf⟩ := gd_x hf
          refine va_iald hx hb hK hP 1 0 rfl rfl (inb_x g_5) dX10_manyBy_28 ?_
          refine lv_iload_n hx hb dX10_manyBy_29 rfl (lv_at hl 2 rfl) ?_
          refine lv_icmp_lt (tgt := 37) hx hb dX10_manyBy_30 (by decide) (fun c_6 => ?_) (fun c_6 => ?_)
          · have hf := it_t c_6 hf
            exact j37 (fX10_manyBy_5 o_binBy n) ih v1 v2 v4 v3 H locs ls hf hP hD hS (lv_sub hl [0, 1, 2, 4] rfl)
          · have hf := it_f c_6 hf
            refine lv_iconst (v := (1 : Int32)) hx hb dX10_manyBy_33 (by decide) ?_
            refine lv_goto (tgt := 38) hx hb dX10_manyBy_34 (by decide) ?_
            exact j38 (fX10_manyBy_5 o_binBy n) ih v1 v2 v4 v3 (1 : Int32) H locs ls hf hP hD hS (lv_sub hl [0, 1, 2, 4] rfl)
  unfold fX10_manyBy at hf
  obtain ⟨H, eH⟩ : ∃ H, H = s.heap := ⟨_, rfl⟩
  obtain ⟨locs, elocs⟩ : ∃ z : List Loc, z = [] := ⟨_, rfl⟩
  have hP : va_P G vwCl (wX10_manyBy cI cJ cZ h_o h_o_binBy h_o_tape h_o_words h_o_told h_o_isTold h_o_toldWave h_o_isPoint h_o_all h_o_quarter h_o_roots h_o_laidRe h_o_laidIm h_o_byOrder h_o_noted1 h_o_counts o_tapeSize o_thrown o_fault o_faultPlace o_stop o_next o_kind o_which o_at o_pointsRead o_bank o_isImage o_undos o_runRadix o_runOrder o_runNear o_runLimit o_runHalves o_power o_notedMany o_knownTold o_drawn o_binBy) H := by rw [eH]; exact hP
  have hS : va_S A s.heap H locs := by rw [eH, elocs]; exact hS
  suffices hgo : W p l e ({ frames := 1, cells := 0, slots := 0, locals := 21 } : Room) s m ([.ref h_o, .int p1, .int p2] : List Value).toArray below meth c H locs 0 0 Q (F0 m 0 ls []) by rw [eH, elocs] at hgo; exact hgo
  clear eH elocs
  refine lv_iconst (v := (0 : Int32)) hx hb dX10_manyBy_0 (by decide) ?_
  refine lv_istore_n (lv' := [(3, .int (0 : Int32)), (0, .ref h_o), (1, .int p1), (2, .int p2)]) hx hb dX10_manyBy_1 rfl hl (by decide) rfl (fun ls hl => ?_)
  refine lv_iconst (v := (0 : Int32)) hx hb dX10_manyBy_2 (by decide) ?_
  refine lv_istore (lv' := [(4, .int (0 : Int32)), (3, .int (0 : Int32)), (0, .ref h_o), (1, .int p1), (2, .int p2)]) hx hb dX10_manyBy_3 hl (by decide) rfl (fun ls hl => ?_)
  exact j5 FU p1 p2 (0 : Int32) (0 : Int32) H locs ls hf hP hD hS (lv_sub hl [2, 3, 4, 1, 0] rfl)
def wX10_ask (cI cJ cZ : ClassId) (h_o h_o_all h_o_binBy h_o_counts h_o_noted1 h_o_roots h_o_told h_o_tape h_o_words h_o_isTold h_o_toldWave h_o_isPoint h_o_quarter h_o_laidRe h_o_laidIm h_o_byOrder : Nat) (o_tapeSize : Int32) (o_thrown : Int32) (o_fault : Int32) (o_faultPlace : Int32) (o_stop : Int32) (o_next : Int32) (o_kind : Int32) (o_which : Int32) (o_at : Int32) (o_pointsRead : Int32) (o_bank : Int32) (o_isImage : Int32) (o_undos : Int32) (o_runRadix : Int32) (o_runOrder : Int32) (o_runNear : Int32) (o_runLimit : Int32) (o_runHalves : Int32) (o_power : Int32) (o_notedMany : Int32) (o_knownTold : Int32) (o_drawn : Int64) (o_all : Nat → Int32) (o_binBy : Nat → Int32) (o_counts : Nat → Int32) (o_noted1 : Nat → Int32) (o_roots : Nat → Int32) (o_told : Nat → Int32) : va_W := [(h_o, .inr (10, [.ref h_o_tape, .int o_tapeSize, .int o_thrown, .ref h_o_words, .int o_fault, .int o_faultPlace, .int o_stop, .int o_next, .int o_kind, .int o_which, .int o_at, .ref h_o_told, .ref h_o_isTold, .ref h_o_toldWave, .ref h_o_isPoint, .int o_pointsRead, .ref h_o_all, .int o_bank, .int o_isImage, .int o_undos, .int o_runRadix, .int o_runOrder, .int o_runNear, .int o_runLimit, .int o_runHalves, .ref h_o_quarter, .int o_power, .ref h_o_roots, .ref h_o_laidRe, .ref h_o_laidIm, .ref h_o_byOrder, .int o_notedMany, .int o_knownTold, .ref h_o_noted1, .ref h_o_counts, .ref h_o_binBy, .long o_drawn])), (h_o_all, .inl (cI, 3128, .inl o_all)), (h_o_binBy, .inl (cI, 16, .inl o_binBy)), (h_o_counts, .inl (cZ, 24, .inl o_counts)), (h_o_noted1, .inl (cI, 72, .inl o_noted1)), (h_o_roots, .inl (cI, 32, .inl o_roots)), (h_o_told, .inl (cI, 12, .inl o_told))]
def fX10_ask_167 (o_thrown : Int32) (o_binBy : Nat → Int32) (o_counts : Nat → Int32) (v2 : Int32) (v4 : Int32) (v5 : Int32) (v6 : Int32) : Option (Int32 × Int32 × (Nat → Int32) × (Nat → Int32)) :=
  if v2 = 0 then (
    some (v4, o_thrown, o_binBy, o_counts)
  ) else (
    if v2 = (1 : Int32) then (
      some (v5, o_thrown, o_binBy, o_counts)
    ) else (
      some (v6, o_thrown, o_binBy, o_counts)
    )
  )
def fX10_ask_161 (o_bank : Int32) (o_all : Nat → Int32) (o_roots : Nat → Int32) (o_told : Nat → Int32) (k43 : Int32 → (Nat → Int32) → (Nat → Int32) → Int32 → Int32 → Int32 → Int32 → Int32 → Int32 → Int32 → Option (Int32 × Int32 × (Nat → Int32) × (Nat → Int32))) (o_thrown : Int32) (o_binBy : Nat → Int32) (o_counts : Nat → Int32) (v1 : Int32) (v2 : Int32) (v3 : Int32) (v4 : Int32) (v5 : Int32) (v6 : Int32) (v7 : Int32) : Option (Int32 × Int32 × (Nat → Int32) × (Nat → Int32)) :=
  nm (v7 + (1 : Int32)) (fun v7_27 =>
  k43 o_thrown o_binBy o_counts v1 v2 v3 v4 v5 v6 v7_27)
def fX10_ask_155 (o_bank : Int32) (o_all : Nat → Int32) (o_roots : Nat → Int32) (o_told : Nat → Int32) (k43 : Int32 → (Nat → Int32) → (Nat → Int32) → Int32 → Int32 → Int32 → Int32 → Int32 → Int32 → Int32 → Option (Int32 × Int32 × (Nat → Int32) × (Nat → Int32))) (k95 : Int32 → (Nat → Int32) → (Nat → Int32) → Int32 → Int32 → Int32 → Int32 → Int32 → Int32 → Int32 → Int32 → Int32 → Option (Int32 × Int32 × (Nat → Int32) × (Nat → Int32))) (o_thrown : Int32) (o_binBy : Nat → Int32) (o_counts : Nat → Int32) (v1 : Int32) (v2 : Int32) (v3 : Int32) (v4 : Int32) (v5 : Int32) (v6 : Int32) (v7 : Int32) (v8 : Int32) (v9 : Int32) : Option (Int32 × Int32 × (Nat → Int32) × (Nat → Int32)) :=
  nm (v9 + (1 : Int32)) (fun v9_26 =>
  k95 o_thrown o_binBy o_counts v1 v2 v3 v4 v5 v6 v7 v8 v9_26)
def fX10_ask_131 (o_bank : Int32) (o_all : Nat → Int32) (o_roots : Nat → Int32) (o_told : Nat → Int32) (k43 : Int32 → (Nat → Int32) → (Nat → Int32) → Int32 → Int32 → Int32 → Int32 → Int32 → Int32 → Int32 → Option (Int32 × Int32 × (Nat → Int32) × (Nat → Int32))) (k95 : Int32 → (Nat → Int32) → (Nat → Int32) → Int32 → Int32 → Int32 → Int32 → Int32 → Int32 → Int32 → Int32 → Int32 → Option (Int32 × Int32 × (Nat → Int32) × (Nat → Int32))) (o_thrown : Int32) (o_binBy : Nat → Int32) (o_counts : Nat → Int32) (v1 : Int32) (v2 : Int32) (v3 : Int32) (v4 : Int32) (v5 : Int32) (v6 : Int32) (v7 : Int32) (v8 : Int32) (v9 : Int32) (s0 : Int32) : Option (Int32 × Int32 × (Nat → Int32) × (Nat → Int32)) :=
  if s0 < v6 then (
    fX10_ask_155 o_bank o_all o_roots o_told k43 k95 o_thrown o_binBy o_counts v1 v2 v3 v7 v9 s0 v7 v8 v9
  ) else (
    fX10_ask_155 o_bank o_all o_roots o_told k43 k95 o_thrown o_binBy o_counts v1 v2 v3 v4 v5 v6 v7 v8 v9
  )
def fX10_ask_95 (o_bank : Int32) (o_all : Nat → Int32) (o_roots : Nat → Int32) (o_told : Nat → Int32) (k43 : Int32 → (Nat → Int32) → (Nat → Int32) → Int32 → Int32 → Int32 → Int32 → Int32 → Int32 → Int32 → Option (Int32 × Int32 × (Nat → Int32) × (Nat → Int32))) : Nat → Int32 → (Nat → Int32) → (Nat → Int32) → Int32 → Int32 → Int32 → Int32 → Int32 → Int32 → Int32 → Int32 → Int32 → Option (Int32 × Int32 × (Nat → Int32) × (Nat → Int32))
  | 0, _, _, _, _, _, _, _, _, _, _, _, _ => none
  | n + 1, o_thrown, o_binBy, o_counts, v1, v2, v3, v4, v5, v6, v7, v8, v9 =>
    if (96 : Int32) < v9 then (
      fX10_ask_161 o_bank o_all o_roots o_told k43 o_thrown o_binBy o_counts v1 v2 v3 v4 v5 v6 v7
    ) else (
      bd1 (fX10_manyBy o_binBy v3 v9) (fun r_22 =>
      if r_22 ≤ (v8 - r_22) then (
        fX10_ask_131 o_bank o_all o_roots o_told k43 (fX10_ask_95 o_bank o_all o_roots o_told k43 n) o_thrown o_binBy o_counts v1 v2 v3 v4 v5 v6 v7 v8 v9 (v8 - r_22)
      ) else (
        fX10_ask_131 o_bank o_all o_roots o_told k43 (fX10_ask_95 o_bank o_all o_roots o_told k43 n) o_thrown o_binBy o_counts v1 v2 v3 v4 v5 v6 v7 v8 v9 r_22
      ))
    )
def fX10_ask_84 (o_bank : Int32) (o_all : Nat → Int32) (o_roots : Nat → Int32) (o_told : Nat → Int32) (k43 : Int32 → (Nat → Int32) → (Nat → Int32) → Int32 → Int32 → Int32 → Int32 → Int32 → Int32 → Int32 → Option (Int32 × Int32 × (Nat → Int32) × (Nat → Int32))) (o_thrown : Int32) (o_binBy : Nat → Int32) (o_counts : Nat → Int32) (v1 : Int32) (v2 : Int32) (v3 : Int32) (v4 : Int32) (v5 : Int32) (v6 : Int32) (v7 : Int32) : Option (Int32 × Int32 × (Nat → Int32) × (Nat → Int32)) :=
  bd1 (fX10_manyBy o_binBy v3 (0 : Int32)) (fun r_19 =>
  fX10_ask_95 o_bank o_all o_roots o_told k43 FU o_thrown o_binBy o_counts v1 v2 v3 v4 v5 v6 v7 r_19 (1 : Int32))
def fX10_ask_55 (o_bank : Int32) (o_all : Nat → Int32) (o_roots : Nat → Int32) (o_told : Nat → Int32) (k43 : Int32 → (Nat → Int32) → (Nat → Int32) → Int32 → Int32 → Int32 → Int32 → Int32 → Int32 → Int32 → Option (Int32 × Int32 × (Nat → Int32) × (Nat → Int32))) : Nat → Int32 → (Nat → Int32) → (Nat → Int32) → Int32 → Int32 → Int32 → Int32 → Int32 → Int32 → Int32 → Int32 → Option (Int32 × Int32 × (Nat → Int32) × (Nat → Int32))
  | 0, _, _, _, _, _, _, _, _, _, _, _ => none
  | n + 1, o_thrown, o_binBy, o_counts, v1, v2, v3, v4, v5, v6, v7, v8 =>
    if (16 : Int32) ≤ v8 then (
      fX10_ask_84 o_bank o_all o_roots o_told k43 o_thrown o_binBy o_counts v1 v2 v3 v4 v5 v6 v7
    ) else (
      bd1 (fX10_binWith o_bank o_all o_roots o_told v7 v1 v8) (fun r_14 =>
      gd (inb v8 16) (
      nm (upd o_binBy (Int32.toNatClampNeg v8) r_14) (fun o_binBy_17 =>
      nm (v8 + (1 : Int32)) (fun v8_18 =>
      fX10_ask_55 o_bank o_all o_roots o_told k43 n o_thrown o_binBy_17 o_counts v1 v2 v3 v4 v5 v6 v7 v8_18))))
    )
def fX10_ask_43 (o_bank : Int32) (o_all : Nat → Int32) (o_roots : Nat → Int32) (o_told : Nat → Int32) : Nat → Int32 → (Nat → Int32) → (Nat → Int32) → Int32 → Int32 → Int32 → Int32 → Int32 → Int32 → Int32 → Option (Int32 × Int32 × (Nat → Int32) × (Nat → Int32))
  | 0, _, _, _, _, _, _, _, _, _, _ => none
  | n + 1, o_thrown, o_binBy, o_counts, v1, v2, v3, v4, v5, v6, v7 =>
    bd1 (fX10_size o_told) (fun r_10 =>
    if r_10 ≤ v7 then (
      fX10_ask_167 o_thrown o_binBy o_counts v2 v4 v5 v6
    ) else (
      fX10_ask_55 o_bank o_all o_roots o_told (fX10_ask_43 o_bank o_all o_roots o_told n) FU o_thrown o_binBy o_counts v1 v2 v3 v4 v5 v6 v7 (0 : Int32)
    ))
def fX10_ask (o_thrown : Int32) (o_bank : Int32) (o_notedMany : Int32) (o_knownTold : Int32) (o_all : Nat → Int32) (o_binBy : Nat → Int32) (o_counts : Nat → Int32) (o_noted1 : Nat → Int32) (o_roots : Nat → Int32) (o_told : Nat → Int32) (p1 : Int32) (p2 : Int32) : Option (Int32 × Int32 × (Nat → Int32) × (Nat → Int32)) :=
  bd1 (fX10_isPlace o_told p1) (fun r_1 =>
  if r_1 = 0 then (
    some ((-1 : Int32), (0 : Int32), o_binBy, o_counts)
  ) else (
    bd1 (fX10_isIn p2 (0 : Int32) (2 : Int32)) (fun r_4 =>
    if r_4 = 0 then (
      some ((-1 : Int32), (0 : Int32), o_binBy, o_counts)
    ) else (
      bd2 (fX10_valuesOf o_bank o_notedMany o_knownTold o_all o_counts o_noted1 o_roots o_told p1) (fun r_7 o_counts_8 =>
      fX10_ask_43 o_bank o_all o_roots o_told FU (0 : Int32) o_binBy o_counts_8 p1 p2 r_7 (0 : Int32) (1 : Int32) (17 : Int32) (0 : Int32))
    ))
  ))
set_option maxHeartbeats 4000000 in
set_option maxRecDepth 100000 in
theorem tX10_ask (l : Launch) (G : va_G) (cI cJ cZ : ClassId) (sz : Nat) (h_o h_o_all h_o_binBy h_o_counts h_o_noted1 h_o_roots h_o_told h_o_tape h_o_words h_o_isTold h_o_toldWave h_o_isPoint h_o_quarter h_o_laidRe h_o_laidIm h_o_byOrder : Nat) (o_tapeSize : Int32) (o_thrown : Int32) (o_fault : Int32) (o_faultPlace : Int32) (o_stop : Int32) (o_next : Int32) (o_kind : Int32) (o_which : Int32) (o_at : Int32) (o_pointsRead : Int32) (o_bank : Int32) (o_isImage : Int32) (o_undos : Int32) (o_runRadix : Int32) (o_runOrder : Int32) (o_runNear : Int32) (o_runLimit : Int32) (o_runHalves : Int32) (o_power : Int32) (o_notedMany : Int32) (o_knownTold : Int32) (o_drawn : Int64) (o_all : Nat → Int32) (o_binBy : Nat → Int32) (o_counts : Nat → Int32) (o_noted1 : Nat → Int32) (o_roots : Nat → Int32) (o_told : Nat → Int32) (p1 : Int32) (p2 : Int32) (r : Int32) (out_o_thrown : Int32) (out_o_binBy : Nat → Int32) (out_o_counts : Nat → Int32) (hf : fX10_ask o_thrown o_bank o_notedMany o_knownTold o_all o_binBy o_counts o_noted1 o_roots o_told p1 p2 = some (r, out_o_thrown, out_o_binBy, out_o_counts)) : Met l yX10_ask (Cond.code yX10_ask cX10_ask 12 (some .int) :: BIG) ({ frames := 5, cells := 0, slots := 0, locals := 115 } : Room) (cP G (TY3 cI cJ cZ) [.ref h_o, .int p1, .int p2] sz (wX10_ask cI cJ cZ h_o h_o_all h_o_binBy h_o_counts h_o_noted1 h_o_roots h_o_told h_o_tape h_o_words h_o_isTold h_o_toldWave h_o_isPoint h_o_quarter h_o_laidRe h_o_laidIm h_o_byOrder o_tapeSize o_thrown o_fault o_faultPlace o_stop o_next o_kind o_which o_at o_pointsRead o_bank o_isImage o_undos o_runRadix o_runOrder o_runNear o_runLimit o_runHalves o_power o_notedMany o_knownTold o_drawn o_all o_binBy o_counts o_noted1 o_roots o_told)) (cQ G (TY3 cI cJ cZ) sz (wX10_ask cI cJ cZ h_o h_o_all h_o_binBy h_o_counts h_o_noted1 h_o_roots h_o_told h_o_tape h_o_words h_o_isTold h_o_toldWave h_o_isPoint h_o_quarter h_o_laidRe h_o_laidIm h_o_byOrder o_tapeSize o_thrown o_fault o_faultPlace o_stop o_next o_kind o_which o_at o_pointsRead o_bank o_isImage o_undos o_runRadix o_runOrder o_runNear o_runLimit o_runHalves o_power o_notedMany o_knownTold o_drawn o_all o_binBy o_counts o_noted1 o_roots o_told) (wX10_ask cI cJ cZ h_o h_o_all h_o_binBy h_o_counts h_o_noted1 h_o_roots h_o_told h_o_tape h_o_words h_o_isTold h_o_toldWave h_o_isPoint h_o_quarter h_o_laidRe h_o_laidIm h_o_byOrder o_tapeSize out_o_thrown o_fault o_faultPlace o_stop o_next o_kind o_which o_at o_pointsRead o_bank o_isImage o_undos o_runRadix o_runOrder o_runNear o_runLimit o_runHalves o_power o_notedMany o_knownTold o_drawn o_all out_o_binBy out_o_counts o_noted1 o_roots o_told) (some (.int r))) 0 0 (va_A (wX10_ask cI cJ cZ h_o h_o_all h_o_binBy h_o_counts h_o_noted1 h_o_roots h_o_told h_o_tape h_o_words h_o_isTold h_o_toldWave h_o_isPoint h_o_quarter h_o_laidRe h_o_laidIm h_o_byOrder o_tapeSize o_thrown o_fault o_faultPlace o_stop o_next o_kind o_which o_at o_pointsRead o_bank o_isImage o_undos o_runRadix o_runOrder o_runNear o_runLimit o_runHalves o_power o_notedMany o_knownTold o_drawn o_all o_binBy o_counts o_noted1 o_roots o_told) sz) := by
  refine met_i (cc := cX10_ask) (maxL := 12) (plainFor_of_name (by decide)) (Nat.le_of_ble_eq_true rfl) (fun p e s m below meth c A ls Q hx hb hml hts hown hK hP hD hS hA hl hret => ?_)
  have hown : s.vm.findClass RX10 = some m.cls := hown
  have hl : lv_has ls 12 [(0, .ref h_o), (1, .int p1), (2, .int p2)] := hl
  have j167 : ∀ (o_thrown : Int32) (o_binBy : Nat → Int32) (o_counts : Nat → Int32) (v2 : Int32) (v4 : Int32) (v5 : Int32) (v6 : Int32) (H : Heap) (locs : List Loc) (ls : Array Slot), fX10_ask_167 o_thrown o_binBy o_counts v2 v4 v5 v6 = some (r, out_o_thrown, out_o_binBy, out_o_counts) → va_P G vwCl (wX10_ask cI cJ cZ h_o h_o_all h_o_binBy h_o_counts h_o_noted1 h_o_roots h_o_told h_o_tape h_o_words h_o_isTold h_o_toldWave h_o_isPoint h_o_quarter h_o_laidRe h_o_laidIm h_o_byOrder o_tapeSize o_thrown o_fault o_faultPlace o_stop o_next o_kind o_which o_at o_pointsRead o_bank o_isImage o_undos o_runRadix o_runOrder o_runNear o_runLimit o_runHalves o_power o_notedMany o_knownTold o_drawn o_all o_binBy o_counts o_noted1 o_roots o_told) H → va_D A (wX10_ask cI cJ cZ h_o h_o_all h_o_binBy h_o_counts h_o_noted1 h_o_roots h_o_told h_o_tape h_o_words h_o_isTold h_o_toldWave h_o_isPoint h_o_quarter h_o_laidRe h_o_laidIm h_o_byOrder o_tapeSize o_thrown o_fault o_faultPlace o_stop o_next o_kind o_which o_at o_pointsRead o_bank o_isImage o_undos o_runRadix o_runOrder o_runNear o_runLimit o_runHalves o_power o_notedMany o_knownTold o_drawn o_all o_binBy o_counts o_noted1 o_roots o_told) → va_S A s.heap H locs → lv_has ls 12 [(2, .int v2), (4, .int v4), (5, .int v5), (6, .int v6)] → W p l e ({ frames := 5, cells := 0, slots := 0, locals := 115 } : Room) s m ([.ref h_o, .int p1, .int p2] : List Value).toArray below meth c H locs 0 0 Q (F0 m 167 ls []) := by
    intro o_thrown o_binBy o_counts v2 v4 v5 v6 H locs ls hf hP hD hS hl
    unfold fX10_ask_167 at hf
    refine lv_iload_n hx hb dX10_ask_167 rfl (lv_at hl 0 rfl) ?_
    refine lv_if_ne (tgt := 176) hx hb dX10_ask_168 (by decide) (fun c_28 => ?_) (fun c_28 => ?_)
    · have hf := it_f c_28 hf
      refine lv_iload_n hx hb dX10_ask_176 rfl (lv_at hl 0 rfl) ?_
      refine lv_iconst (v := (1 : Int32)) hx hb dX10_ask_177 (by decide) ?_
      refine lv_icmp_ne (tgt := 186) hx hb dX10_ask_178 (by decide) (fun c_29 => ?_) (fun c_29 => ?_)
      · have hf := it_f c_29 hf
        refine lv_iload hx hb dX10_ask_186 (lv_at hl 3 rfl) ?_
        cases hf
        exact hret _ _ _ _ dX10_ask_188 hP hD hS
      · have hf := it_t c_29 hf
        refine lv_iload hx hb dX10_ask_181 (lv_at hl 2 rfl) ?_
        refine lv_goto (tgt := 188) hx hb dX10_ask_183 (by decide) ?_
        cases hf
        exact hret _ _ _ _ dX10_ask_188 hP hD hS
    · have hf := it_t c_28 hf
      refine lv_iload hx hb dX10_ask_171 (lv_at hl 1 rfl) ?_
      refine lv_goto (tgt := 188) hx hb dX10_ask_173 (by decide) ?_
      cases hf
      exact hret _ _ _ _ dX10_ask_188 hP hD hS
  have j161 : ∀ (k43 : Int32 → (Nat → Int32) → (Nat → Int32) → Int32 → Int32 → Int32 → Int32 → Int32 → Int32 → Int32 → Option (Int32 × Int32 × (Nat → Int32) × (Nat → Int32))), (∀ (o_thrown : Int32) (o_binBy : Nat → Int32) (o_counts : Nat → Int32) (v1 : Int32) (v2 : Int32) (v3 : Int32) (v4 : Int32) (v5 : Int32) (v6 : Int32) (v7 : Int32) (H : Heap) (locs : List Loc) (ls : Array Slot), k43 o_thrown o_binBy o_counts v1 v2 v3 v4 v5 v6 v7 = some (r, out_o_thrown, out_o_binBy, out_o_counts) → va_P G vwCl (wX10_ask cI cJ cZ h_o h_o_all h_o_binBy h_o_counts h_o_noted1 h_o_roots h_o_told h_o_tape h_o_words h_o_isTold h_o_toldWave h_o_isPoint h_o_quarter h_o_laidRe h_o_laidIm h_o_byOrder o_tapeSize o_thrown o_fault o_faultPlace o_stop o_next o_kind o_which o_at o_pointsRead o_bank o_isImage o_undos o_runRadix o_runOrder o_runNear o_runLimit o_runHalves o_power o_notedMany o_knownTold o_drawn o_all o_binBy o_counts o_noted1 o_roots o_told) H → va_D A (wX10_ask cI cJ cZ h_o h_o_all h_o_binBy h_o_counts h_o_noted1 h_o_roots h_o_told h_o_tape h_o_words h_o_isTold h_o_toldWave h_o_isPoint h_o_quarter h_o_laidRe h_o_laidIm h_o_byOrder o_tapeSize o_thrown o_fault o_faultPlace o_stop o_next o_kind o_which o_at o_pointsRead o_bank o_isImage o_undos o_runRadix o_runOrder o_runNear o_runLimit o_runHalves o_power o_notedMany o_knownTold o_drawn o_all o_binBy o_counts o_noted1 o_roots o_told) → va_S A s.heap H locs → lv_has ls 12 [(0, .ref h_o), (1, .int v1), (2, .int v2), (3, .int v3), (4, .int v4), (5, .int v5), (6, .int v6), (7, .int v7)] → W p l e ({ frames := 5, cells := 0, slots := 0, locals := 115 } : Room) s m ([.ref h_o, .int p1, .int p2] : List Value).toArray below meth c H locs 0 0 Q (F0 m 43 ls [])) → ∀ (o_thrown : Int32) (o_binBy : Nat → Int32) (o_counts : Nat → Int32) (v1 : Int32) (v2 : Int32) (v3 : Int32) (v4 : Int32) (v5 : Int32) (v6 : Int32) (v7 : Int32) (H : Heap) (locs : List Loc) (ls : Array Slot), fX10_ask_161 o_bank o_all o_roots o_told k43 o_thrown o_binBy o_counts v1 v2 v3 v4 v5 v6 v7 = some (r, out_o_thrown, out_o_binBy, out_o_counts) → va_P G vwCl (wX10_ask cI cJ cZ h_o h_o_all h_o_binBy h_o_counts h_o_noted1 h_o_roots h_o_told h_o_tape h_o_words h_o_isTold h_o_toldWave h_o_isPoint h_o_quarter h_o_laidRe h_o_laidIm h_o_byOrder o_tapeSize o_thrown o_fault o_faultPlace o_stop o_next o_kind o_which o_at o_pointsRead o_bank o_isImage o_undos o_runRadix o_runOrder o_runNear o_runLimit o_runHalves o_power o_notedMany o_knownTold o_drawn o_all o_binBy o_counts o_noted1 o_roots o_told) H → va_D A (wX10_ask cI cJ cZ h_o h_o_all h_o_binBy h_o_counts h_o_noted1 h_o_roots h_o_told h_o_tape h_o_words h_o_isTold h_o_toldWave h_o_isPoint h_o_quarter h_o_laidRe h_o_laidIm h_o_byOrder o_tapeSize o_thrown o_fault o_faultPlace o_stop o_next o_kind o_which o_at o_pointsRead o_bank o_isImage o_undos o_runRadix o_runOrder o_runNear o_runLimit o_runHalves o_power o_notedMany o_knownTold o_drawn o_all o_binBy o_counts o_noted1 o_roots o_told) → va_S A s.heap H locs → lv_has ls 12 [(0, .ref h_o), (1, .int v1), (2, .int v2), (3, .int v3), (4, .int v4), (5, .int v5), (6, .int v6), (7, .int v7)] → W p l e ({ frames := 5, cells := 0, slots := 0, locals := 115 } : Room) s m ([.ref h_o, .int p1, .int p2] : List Value).toArray below meth c H locs 0 0 Q (F0 m 161 ls []) := by
    intro k43 hk43 o_thrown o_binBy o_counts v1 v2 v3 v4 v5 v6 v7 H locs ls hf hP hD hS hl
    unfold fX10_ask_161 at hf
    obtain ⟨v7_27, ev7_27⟩ : ∃ y : Int32, y = v7 + (1 : Int32) := ⟨_, rfl⟩
    have hf := nm_x ev7_27 hf
    refine lv_iinc (v := v7_27) (lv' := [(7, .int v7_27), (0, .ref h_o), (1, .int v1), (2, .int v2), (3, .int v3), (4, .int v4), (5, .int v5), (6, .int v6)]) hx hb dX10_ask_161 hl (k := 7) rfl (by rw [ev7_27]; rfl) (by decide) rfl (fun ls hl => ?_)
    refine lv_goto (tgt := 43) hx hb dX10_ask_164 (by decide) ?_
    exact hk43 o_thrown o_binBy o_counts v1 v2 v3 v4 v5 v6 v7_27 H locs ls hf hP hD hS (lv_sub hl [1, 2, 3, 4, 5, 6, 7, 0] rfl)
  have j155 : ∀ (k43 : Int32 → (Nat → Int32) → (Nat → Int32) → Int32 → Int32 → Int32 → Int32 → Int32 → Int32 → Int32 → Option (Int32 × Int32 × (Nat → Int32) × (Nat → Int32))), (∀ (o_thrown : Int32) (o_binBy : Nat → Int32) (o_counts : Nat → Int32) (v1 : Int32) (v2 : Int32) (v3 : Int32) (v4 : Int32) (v5 : Int32) (v6 : Int32) (v7 : Int32) (H : Heap) (locs : List Loc) (ls : Array Slot), k43 o_thrown o_binBy o_counts v1 v2 v3 v4 v5 v6 v7 = some (r, out_o_thrown, out_o_binBy, out_o_counts) → va_P G vwCl (wX10_ask cI cJ cZ h_o h_o_all h_o_binBy h_o_counts h_o_noted1 h_o_roots h_o_told h_o_tape h_o_words h_o_isTold h_o_toldWave h_o_isPoint h_o_quarter h_o_laidRe h_o_laidIm h_o_byOrder o_tapeSize o_thrown o_fault o_faultPlace o_stop o_next o_kind o_which o_at o_pointsRead o_bank o_isImage o_undos o_runRadix o_runOrder o_runNear o_runLimit o_runHalves o_power o_notedMany o_knownTold o_drawn o_all o_binBy o_counts o_noted1 o_roots o_told) H → va_D A (wX10_ask cI cJ cZ h_o h_o_all h_o_binBy h_o_counts h_o_noted1 h_o_roots h_o_told h_o_tape h_o_words h_o_isTold h_o_toldWave h_o_isPoint h_o_quarter h_o_laidRe h_o_laidIm h_o_byOrder o_tapeSize o_thrown o_fault o_faultPlace o_stop o_next o_kind o_which o_at o_pointsRead o_bank o_isImage o_undos o_runRadix o_runOrder o_runNear o_runLimit o_runHalves o_power o_notedMany o_knownTold o_drawn o_all o_binBy o_counts o_noted1 o_roots o_told) → va_S A s.heap H locs → lv_has ls 12 [(0, .ref h_o), (1, .int v1), (2, .int v2), (3, .int v3), (4, .int v4), (5, .int v5), (6, .int v6), (7, .int v7)] → W p l e ({ frames := 5, cells := 0, slots := 0, locals := 115 } : Room) s m ([.ref h_o, .int p1, .int p2] : List Value).toArray below meth c H locs 0 0 Q (F0 m 43 ls [])) → ∀ (k95 : Int32 → (Nat → Int32) → (Nat → Int32) → Int32 → Int32 → Int32 → Int32 → Int32 → Int32 → Int32 → Int32 → Int32 → Option (Int32 × Int32 × (Nat → Int32) × (Nat → Int32))), (∀ (o_thrown : Int32) (o_binBy : Nat → Int32) (o_counts : Nat → Int32) (v1 : Int32) (v2 : Int32) (v3 : Int32) (v4 : Int32) (v5 : Int32) (v6 : Int32) (v7 : Int32) (v8 : Int32) (v9 : Int32) (H : Heap) (locs : List Loc) (ls : Array Slot), k95 o_thrown o_binBy o_counts v1 v2 v3 v4 v5 v6 v7 v8 v9 = some (r, out_o_thrown, out_o_binBy, out_o_counts) → va_P G vwCl (wX10_ask cI cJ cZ h_o h_o_all h_o_binBy h_o_counts h_o_noted1 h_o_roots h_o_told h_o_tape h_o_words h_o_isTold h_o_toldWave h_o_isPoint h_o_quarter h_o_laidRe h_o_laidIm h_o_byOrder o_tapeSize o_thrown o_fault o_faultPlace o_stop o_next o_kind o_which o_at o_pointsRead o_bank o_isImage o_undos o_runRadix o_runOrder o_runNear o_runLimit o_runHalves o_power o_notedMany o_knownTold o_drawn o_all o_binBy o_counts o_noted1 o_roots o_told) H → va_D A (wX10_ask cI cJ cZ h_o h_o_all h_o_binBy h_o_counts h_o_noted1 h_o_roots h_o_told h_o_tape h_o_words h_o_isTold h_o_toldWave h_o_isPoint h_o_quarter h_o_laidRe h_o_laidIm h_o_byOrder o_tapeSize o_thrown o_fault o_faultPlace o_stop o_next o_kind o_which o_at o_pointsRead o_bank o_isImage o_undos o_runRadix o_runOrder o_runNear o_runLimit o_runHalves o_power o_notedMany o_knownTold o_drawn o_all o_binBy o_counts o_noted1 o_roots o_told) → va_S A s.heap H locs → lv_has ls 12 [(0, .ref h_o), (1, .int v1), (2, .int v2), (3, .int v3), (4, .int v4), (5, .int v5), (6, .int v6), (7, .int v7), (8, .int v8), (9, .int v9)] → W p l e ({ frames := 5, cells := 0, slots := 0, locals := 115 } : Room) s m ([.ref h_o, .int p1, .int p2] : List Value).toArray below meth c H locs 0 0 Q (F0 m 95 ls [])) → ∀ (o_thrown : Int32) (o_binBy : Nat → Int32) (o_counts : Nat → Int32) (v1 : Int32) (v2 : Int32) (v3 : Int32) (v4 : Int32) (v5 : Int32) (v6 : Int32) (v7 : Int32) (v8 : Int32) (v9 : Int32) (H : Heap) (locs : List Loc) (ls : Array Slot), fX10_ask_155 o_bank o_all o_roots o_told k43 k95 o_thrown o_binBy o_counts v1 v2 v3 v4 v5 v6 v7 v8 v9 = some (r, out_o_thrown, out_o_binBy, out_o_counts) → va_P G vwCl (wX10_ask cI cJ cZ h_o h_o_all h_o_binBy h_o_counts h_o_noted1 h_o_roots h_o_told h_o_tape h_o_words h_o_isTold h_o_toldWave h_o_isPoint h_o_quarter h_o_laidRe h_o_laidIm h_o_byOrder o_tapeSize o_thrown o_fault o_faultPlace o_stop o_next o_kind o_which o_at o_pointsRead o_bank o_isImage o_undos o_runRadix o_runOrder o_runNear o_runLimit o_runHalves o_power o_notedMany o_knownTold o_drawn o_all o_binBy o_counts o_noted1 o_roots o_told) H → va_D A (wX10_ask cI cJ cZ h_o h_o_all h_o_binBy h_o_counts h_o_noted1 h_o_roots h_o_told h_o_tape h_o_words h_o_isTold h_o_toldWave h_o_isPoint h_o_quarter h_o_laidRe h_o_laidIm h_o_byOrder o_tapeSize o_thrown o_fault o_faultPlace o_stop o_next o_kind o_which o_at o_pointsRead o_bank o_isImage o_undos o_runRadix o_runOrder o_runNear o_runLimit o_runHalves o_power o_notedMany o_knownTold o_drawn o_all o_binBy o_counts o_noted1 o_roots o_told) → va_S A s.heap H locs → lv_has ls 12 [(0, .ref h_o), (1, .int v1), (2, .int v2), (3, .int v3), (4, .int v4), (5, .int v5), (6, .int v6), (7, .int v7), (8, .int v8), (9, .int v9)] → W p l e ({ frames := 5, cells := 0, slots := 0, locals := 115 } : Room) s m ([.ref h_o, .int p1, .int p2] : List Value).toArray below meth c H locs 0 0 Q (F0 m 155 ls []) := by
    intro k43 hk43 k95 hk95 o_thrown o_binBy o_counts v1 v2 v3 v4 v5 v6 v7 v8 v9 H locs ls hf hP hD hS hl
    unfold fX10_ask_155 at hf
    obtain ⟨v9_26, ev9_26⟩ : ∃ y : Int32, y = v9 + (1 : Int32) := ⟨_, rfl⟩
    have hf := nm_x ev9_26 hf
    refine lv_iinc (v := v9_26) (lv' := [(9, .int v9_26), (0, .ref h_o), (1, .int v1), (2, .int v2), (3, .int v3), (4, .int v4), (5, .int v5), (6, .int v6), (7, .int v7), (8, .int v8)]) hx hb dX10_ask_155 hl (k := 9) rfl (by rw [ev9_26]; rfl) (by decide) rfl (fun ls hl => ?_)
    refine lv_goto (tgt := 95) hx hb dX10_ask_158 (by decide) ?_
    exact hk95 o_thrown o_binBy o_counts v1 v2 v3 v4 v5 v6 v7 v8 v9_26 H locs ls hf hP hD hS (lv_sub hl [1, 2, 3, 4, 5, 6, 7, 8, 9, 0] rfl)
  have j131 : ∀ (k43 : Int32 → (Nat → Int32) → (Nat → Int32) → Int32 → Int32 → Int32 → Int32 → Int32 → Int32 → Int32 → Option (Int32 × Int32 × (Nat → Int32) × (Nat → Int32))), (∀ (o_thrown : Int32) (o_binBy : Nat → Int32) (o_counts : Nat → Int32) (v1 : Int32) (v2 : Int32) (v3 : Int32) (v4 : Int32) (v5 : Int32) (v6 : Int32) (v7 : Int32) (H : Heap) (locs : List Loc) (ls : Array Slot), k43 o_thrown o_binBy o_counts v1 v2 v3 v4 v5 v6 v7 = some (r, out_o_thrown, out_o_binBy, out_o_counts) → va_P G vwCl (wX10_ask cI cJ cZ h_o h_o_all h_o_binBy h_o_counts h_o_noted1 h_o_roots h_o_told h_o_tape h_o_words h_o_isTold h_o_toldWave h_o_isPoint h_o_quarter h_o_laidRe h_o_laidIm h_o_byOrder o_tapeSize o_thrown o_fault o_faultPlace o_stop o_next o_kind o_which o_at o_pointsRead o_bank o_isImage o_undos o_runRadix o_runOrder o_runNear o_runLimit o_runHalves o_power o_notedMany o_knownTold o_drawn o_all o_binBy o_counts o_noted1 o_roots o_told) H → va_D A (wX10_ask cI cJ cZ h_o h_o_all h_o_binBy h_o_counts h_o_noted1 h_o_roots h_o_told h_o_tape h_o_words h_o_isTold h_o_toldWave h_o_isPoint h_o_quarter h_o_laidRe h_o_laidIm h_o_byOrder o_tapeSize o_thrown o_fault o_faultPlace o_stop o_next o_kind o_which o_at o_pointsRead o_bank o_isImage o_undos o_runRadix o_runOrder o_runNear o_runLimit o_runHalves o_power o_notedMany o_knownTold o_drawn o_all o_binBy o_counts o_noted1 o_roots o_told) → va_S A s.heap H locs → lv_has ls 12 [(0, .ref h_o), (1, .int v1), (2, .int v2), (3, .int v3), (4, .int v4), (5, .int v5), (6, .int v6), (7, .int v7)] → W p l e ({ frames := 5, cells := 0, slots := 0, locals := 115 } : Room) s m ([.ref h_o, .int p1, .int p2] : List Value).toArray below meth c H locs 0 0 Q (F0 m 43 ls [])) → ∀ (k95 : Int32 → (Nat → Int32) → (Nat → Int32) → Int32 → Int32 → Int32 → Int32 → Int32 → Int32 → Int32 → Int32 → Int32 → Option (Int32 × Int32 × (Nat → Int32) × (Nat → Int32))), (∀ (o_thrown : Int32) (o_binBy : Nat → Int32) (o_counts : Nat → Int32) (v1 : Int32) (v2 : Int32) (v3 : Int32) (v4 : Int32) (v5 : Int32) (v6 : Int32) (v7 : Int32) (v8 : Int32) (v9 : Int32) (H : Heap) (locs : List Loc) (ls : Array Slot), k95 o_thrown o_binBy o_counts v1 v2 v3 v4 v5 v6 v7 v8 v9 = some (r, out_o_thrown, out_o_binBy, out_o_counts) → va_P G vwCl (wX10_ask cI cJ cZ h_o h_o_all h_o_binBy h_o_counts h_o_noted1 h_o_roots h_o_told h_o_tape h_o_words h_o_isTold h_o_toldWave h_o_isPoint h_o_quarter h_o_laidRe h_o_laidIm h_o_byOrder o_tapeSize o_thrown o_fault o_faultPlace o_stop o_next o_kind o_which o_at o_pointsRead o_bank o_isImage o_undos o_runRadix o_runOrder o_runNear o_runLimit o_runHalves o_power o_notedMany o_knownTold o_drawn o_all o_binBy o_counts o_noted1 o_roots o_told) H → va_D A (wX10_ask cI cJ cZ h_o h_o_all h_o_binBy h_o_counts h_o_noted1 h_o_roots h_o_told h_o_tape h_o_words h_o_isTold h_o_toldWave h_o_isPoint h_o_quarter h_o_laidRe h_o_laidIm h_o_byOrder o_tapeSize o_thrown o_fault o_faultPlace o_stop o_next o_kind o_which o_at o_pointsRead o_bank o_isImage o_undos o_runRadix o_runOrder o_runNear o_runLimit o_runHalves o_power o_notedMany o_knownTold o_drawn o_all o_binBy o_counts o_noted1 o_roots o_told) → va_S A s.heap H locs → lv_has ls 12 [(0, .ref h_o), (1, .int v1), (2, .int v2), (3, .int v3), (4, .int v4), (5, .int v5), (6, .int v6), (7, .int v7), (8, .int v8), (9, .int v9)] → W p l e ({ frames := 5, cells := 0, slots := 0, locals := 115 } : Room) s m ([.ref h_o, .int p1, .int p2] : List Value).toArray below meth c H locs 0 0 Q (F0 m 95 ls [])) → ∀ (o_thrown : Int32) (o_binBy : Nat → Int32) (o_counts : Nat → Int32) (v1 : Int32) (v2 : Int32) (v3 : Int32) (v4 : Int32) (v5 : Int32) (v6 : Int32) (v7 : Int32) (v8 : Int32) (v9 : Int32) (s0 : Int32) (H : Heap) (locs : List Loc) (ls : Array Slot), fX10_ask_131 o_bank o_all o_roots o_told k43 k95 o_thrown o_binBy o_counts v1 v2 v3 v4 v5 v6 v7 v8 v9 s0 = some (r, out_o_thrown, out_o_binBy, out_o_counts) → va_P G vwCl (wX10_ask cI cJ cZ h_o h_o_all h_o_binBy h_o_counts h_o_noted1 h_o_roots h_o_told h_o_tape h_o_words h_o_isTold h_o_toldWave h_o_isPoint h_o_quarter h_o_laidRe h_o_laidIm h_o_byOrder o_tapeSize o_thrown o_fault o_faultPlace o_stop o_next o_kind o_which o_at o_pointsRead o_bank o_isImage o_undos o_runRadix o_runOrder o_runNear o_runLimit o_runHalves o_power o_notedMany o_knownTold o_drawn o_all o_binBy o_counts o_noted1 o_roots o_told) H → va_D A (wX10_ask cI cJ cZ h_o h_o_all h_o_binBy h_o_counts h_o_noted1 h_o_roots h_o_told h_o_tape h_o_words h_o_isTold h_o_toldWave h_o_isPoint h_o_quarter h_o_laidRe h_o_laidIm h_o_byOrder o_tapeSize o_thrown o_fault o_faultPlace o_stop o_next o_kind o_which o_at o_pointsRead o_bank o_isImage o_undos o_runRadix o_runOrder o_runNear o_runLimit o_runHalves o_power o_notedMany o_knownTold o_drawn o_all o_binBy o_counts o_noted1 o_roots o_told) → va_S A s.heap H locs → lv_has ls 12 [(0, .ref h_o), (1, .int v1), (2, .int v2), (3, .int v3), (4, .int v4), (5, .int v5), (6, .int v6), (7, .int v7), (8, .int v8), (9, .int v9)] → W p l e ({ frames := 5, cells := 0, slots := 0, locals := 115 } : Room) s m ([.ref h_o, .int p1, .int p2] : List Value).toArray below meth c H locs 0 0 Q (F0 m 131 ls [.int s0]) := by
    intro k43 hk43 k95 hk95 o_thrown o_binBy o_counts v1 v2 v3 v4 v5 v6 v7 v8 v9 s0 H locs ls hf hP hD hS hl
    unfold fX10_ask_131 at hf
    refine lv_istore (lv' := [(11, .int s0), (0, .ref h_o), (1, .int v1), (2, .int v2), (3, .int v3), (4, .int v4), (5, .int v5), (6, .int v6), (7, .int v7), (8, .int v8), (9, .int v9)]) hx hb dX10_ask_131 hl (by decide) rfl (fun ls hl => ?_)
    refine lv_iload hx hb dX10_ask_133 (lv_at hl 0 rfl) ?_
    refine lv_iload hx hb dX10_ask_135 (lv_at hl 7 rfl) ?_
    refine lv_icmp_lt (tgt := 143) hx hb dX10_ask_137 (by decide) (fun c_25 => ?_) (fun c_25 => ?_)
    · have hf := it_t c_25 hf
      refine lv_iload hx hb dX10_ask_143 (lv_at hl 8 rfl) ?_
      refine lv_istore (lv' := [(4, .int v7), (11, .int s0), (0, .ref h_o), (1, .int v1), (2, .int v2), (3, .int v3), (5, .int v5), (6, .int v6), (7, .int v7), (8, .int v8), (9, .int v9)]) hx hb dX10_ask_145 hl (by decide) rfl (fun ls hl => ?_)
      refine lv_iload hx hb dX10_ask_147 (lv_at hl 10 rfl) ?_
      refine lv_istore (lv' := [(5, .int v9), (4, .int v7), (11, .int s0), (0, .ref h_o), (1, .int v1), (2, .int v2), (3, .int v3), (6, .int v6), (7, .int v7), (8, .int v8), (9, .int v9)]) hx hb dX10_ask_149 hl (by decide) rfl (fun ls hl => ?_)
      refine lv_iload hx hb dX10_ask_151 (lv_at hl 2 rfl) ?_
      refine lv_istore (lv' := [(6, .int s0), (5, .int v9), (4, .int v7), (11, .int s0), (0, .ref h_o), (1, .int v1), (2, .int v2), (3, .int v3), (7, .int v7), (8, .int v8), (9, .int v9)]) hx hb dX10_ask_153 hl (by decide) rfl (fun ls hl => ?_)
      exact j155 k43 hk43 k95 hk95 o_thrown o_binBy o_counts v1 v2 v3 v7 v9 s0 v7 v8 v9 H locs ls hf hP hD hS (lv_sub hl [4, 5, 6, 7, 2, 1, 0, 8, 9, 10] rfl)
    · have hf := it_f c_25 hf
      refine lv_goto (tgt := 155) hx hb dX10_ask_140 (by decide) ?_
      exact j155 k43 hk43 k95 hk95 o_thrown o_binBy o_counts v1 v2 v3 v4 v5 v6 v7 v8 v9 H locs ls hf hP hD hS (lv_sub hl [1, 2, 3, 4, 5, 6, 7, 8, 9, 10] rfl)
  have j95 : ∀ (k43 : Int32 → (Nat → Int32) → (Nat → Int32) → Int32 → Int32 → Int32 → Int32 → Int32 → Int32 → Int32 → Option (Int32 × Int32 × (Nat → Int32) × (Nat → Int32))), (∀ (o_thrown : Int32) (o_binBy : Nat → Int32) (o_counts : Nat → Int32) (v1 : Int32) (v2 : Int32) (v3 : Int32) (v4 : Int32) (v5 : Int32) (v6 : Int32) (v7 : Int32) (H : Heap) (locs : List Loc) (ls : Array Slot), k43 o_thrown o_binBy o_counts v1 v2 v3 v4 v5 v6 v7 = some (r, out_o_thrown, out_o_binBy, out_o_counts) → va_P G vwCl (wX10_ask cI cJ cZ h_o h_o_all h_o_binBy h_o_counts h_o_noted1 h_o_roots h_o_told h_o_tape h_o_words h_o_isTold h_o_toldWave h_o_isPoint h_o_quarter h_o_laidRe h_o_laidIm h_o_byOrder o_tapeSize o_thrown o_fault o_faultPlace o_stop o_next o_kind o_which o_at o_pointsRead o_bank o_isImage o_undos o_runRadix o_runOrder o_runNear o_runLimit o_runHalves o_power o_notedMany o_knownTold o_drawn o_all o_binBy o_counts o_noted1 o_roots o_told) H → va_D A (wX10_ask cI cJ cZ h_o h_o_all h_o_binBy h_o_counts h_o_noted1 h_o_roots h_o_told h_o_tape h_o_words h_o_isTold h_o_toldWave h_o_isPoint h_o_quarter h_o_laidRe h_o_laidIm h_o_byOrder o_tapeSize o_thrown o_fault o_faultPlace o_stop o_next o_kind o_which o_at o_pointsRead o_bank o_isImage o_undos o_runRadix o_runOrder o_runNear o_runLimit o_runHalves o_power o_notedMany o_knownTold o_drawn o_all o_binBy o_counts o_noted1 o_roots o_told) → va_S A s.heap H locs → lv_has ls 12 [(0, .ref h_o), (1, .int v1), (2, .int v2), (3, .int v3), (4, .int v4), (5, .int v5), (6, .int v6), (7, .int v7)] → W p l e ({ frames := 5, cells := 0, slots := 0, locals := 115 } : Room) s m ([.ref h_o, .int p1, .int p2] : List Value).toArray below meth c H locs 0 0 Q (F0 m 43 ls [])) → ∀ (n : Nat) (o_thrown : Int32) (o_binBy : Nat → Int32) (o_counts : Nat → Int32) (v1 : Int32) (v2 : Int32) (v3 : Int32) (v4 : Int32) (v5 : Int32) (v6 : Int32) (v7 : Int32) (v8 : Int32) (v9 : Int32) (H : Heap) (locs : List Loc) (ls : Array Slot), fX10_ask_95 o_bank o_all o_roots o_told k43 n o_thrown o_binBy o_counts v1 v2 v3 v4 v5 v6 v7 v8 v9 = some (r, out_o_thrown, out_o_binBy, out_o_counts) → va_P G vwCl (wX10_ask cI cJ cZ h_o h_o_all h_o_binBy h_o_counts h_o_noted1 h_o_roots h_o_told h_o_tape h_o_words h_o_isTold h_o_toldWave h_o_isPoint h_o_quarter h_o_laidRe h_o_laidIm h_o_byOrder o_tapeSize o_thrown o_fault o_faultPlace o_stop o_next o_kind o_which o_at o_pointsRead o_bank o_isImage o_undos o_runRadix o_runOrder o_runNear o_runLimit o_runHalves o_power o_notedMany o_knownTold o_drawn o_all o_binBy o_counts o_noted1 o_roots o_told) H → va_D A (wX10_ask cI cJ cZ h_o h_o_all h_o_binBy h_o_counts h_o_noted1 h_o_roots h_o_told h_o_tape h_o_words h_o_isTold h_o_toldWave h_o_isPoint h_o_quarter h_o_laidRe h_o_laidIm h_o_byOrder o_tapeSize o_thrown o_fault o_faultPlace o_stop o_next o_kind o_which o_at o_pointsRead o_bank o_isImage o_undos o_runRadix o_runOrder o_runNear o_runLimit o_runHalves o_power o_notedMany o_knownTold o_drawn o_all o_binBy o_counts o_noted1 o_roots o_told) → va_S A s.heap H locs → lv_has ls 12 [(0, .ref h_o), (1, .int v1), (2, .int v2), (3, .int v3), (4, .int v4), (5, .int v5), (6, .int v6), (7, .int v7), (8, .int v8), (9, .int v9)] → W p l e ({ frames := 5, cells := 0, slots := 0, locals := 115 } : Room) s m ([.ref h_o, .int p1, .int p2] : List Value).toArray below meth c H locs 0 0 Q (F0 m 95 ls []) := by
    intro k43 hk43 n
    induction n with
    | zero =>
      intro o_thrown o_binBy o_counts v1 v2 v3 v4 v5 v6 v7 v8 v9 H locs ls hf
      have hf : (none : Option (Int32 × Int32 × (Nat → Int32) × (Nat → Int32))) = some (r, out_o_thrown, out_o_binBy, out_o_counts) := hf
      cases hf
    | succ n ih =>
      intro o_thrown o_binBy o_counts v1 v2 v3 v4 v5 v6 v7 v8 v9 H locs ls hf hP hD hS hl
      rw [fX10_ask_95.eq_2] at hf
      refine lv_iload hx hb dX10_ask_95 (lv_at hl 9 rfl) ?_
      refine lv_bipush (v := (96 : Int32)) hx hb dX10_ask_97 (by decide) ?_
      refine lv_icmp_gt (tgt := 161) hx hb dX10_ask_99 (by decide) (fun c_21 => ?_) (fun c_21 => ?_)
      · have hf := it_t c_21 hf
        exact j161 k43 hk43 o_thrown o_binBy o_counts v1 v2 v3 v4 v5 v6 v7 H locs ls hf hP hD hS (lv_sub hl [0, 1, 2, 3, 4, 5, 6, 7] rfl)
      · have hf := it_f c_21 hf
        refine lv_aload_n hx hb dX10_ask_102 rfl (lv_at hl 0 rfl) ?_
        refine lv_iload_n hx hb dX10_ask_103 rfl (lv_at hl 3 rfl) ?_
        refine lv_iload hx hb dX10_ask_104 (lv_at hl 9 rfl) ?_
        obtain ⟨r_22, e_23, hf⟩ := bd1_x hf
        refine call_v [.int v3, .int v9] [] ⟨hx, hb, hml, hown, hts⟩ hK hP hD hS hA hl.1 (tX10_manyBy l G cI cJ cZ H.size h_o h_o_binBy h_o_tape h_o_words h_o_told h_o_isTold h_o_toldWave h_o_isPoint h_o_all h_o_quarter h_o_roots h_o_laidRe h_o_laidIm h_o_byOrder h_o_noted1 h_o_counts o_tapeSize o_thrown o_fault o_faultPlace o_stop o_next o_kind o_which o_at o_pointsRead o_bank o_isImage o_undos o_runRadix o_runOrder o_runNear o_runLimit o_runHalves o_power o_notedMany o_knownTold o_drawn o_binBy v3 v9 r_22 e_23) (cwV 2 hts (gv q_mX10_387 q_i_yX10_manyBy q_s_yX10_manyBy q_n_RX10 q_k_yX10_manyBy) rfl rfl rfl (by decide +kernel) ⟨by decide, by decide⟩) rfl rfl (Nat.le_of_ble_eq_true rfl) dX10_ask_106 ⟨Nat.zero_le _, Nat.zero_le _⟩ (ci := 10) rfl 0 rfl [0, 2] [1, 3, 4, 5, 6] [5, 0, 6, 1, 2, 3, 4] rfl rfl (ws2 := (wX10_ask cI cJ cZ h_o h_o_all h_o_binBy h_o_counts h_o_noted1 h_o_roots h_o_told h_o_tape h_o_words h_o_isTold h_o_toldWave h_o_isPoint h_o_quarter h_o_laidRe h_o_laidIm h_o_byOrder o_tapeSize o_thrown o_fault o_faultPlace o_stop o_next o_kind o_which o_at o_pointsRead o_bank o_isImage o_undos o_runRadix o_runOrder o_runNear o_runLimit o_runHalves o_power o_notedMany o_knownTold o_drawn o_all o_binBy o_counts o_noted1 o_roots o_told)) rfl (fun H locs hP hD hS => ?_)
        refine W.eq (g2 := F0 m 109 ls [.int r_22]) rfl ?_
        refine lv_istore (lv' := [(10, .int r_22), (0, .ref h_o), (1, .int v1), (2, .int v2), (3, .int v3), (4, .int v4), (5, .int v5), (6, .int v6), (7, .int v7), (8, .int v8), (9, .int v9)]) hx hb dX10_ask_109 hl (by decide) rfl (fun ls hl => ?_)
        refine lv_iload hx hb dX10_ask_111 (lv_at hl 0 rfl) ?_
        refine lv_iload hx hb dX10_ask_113 (lv_at hl 9 rfl) ?_
        refine lv_iload hx hb dX10_ask_115 (lv_at hl 0 rfl) ?_
        refine lv_isub hx hb dX10_ask_117 ?_
        refine lv_icmp_le (tgt := 126) hx hb dX10_ask_118 (by decide) (fun c_24 => ?_) (fun c_24 => ?_)
        · have hf := it_t c_24 hf
          refine lv_iload hx hb dX10_ask_126 (lv_at hl 9 rfl) ?_
          refine lv_iload hx hb dX10_ask_128 (lv_at hl 0 rfl) ?_
          refine lv_isub hx hb dX10_ask_130 ?_
          exact j131 k43 hk43 (fX10_ask_95 o_bank o_all o_roots o_told k43 n) ih o_thrown o_binBy o_counts v1 v2 v3 v4 v5 v6 v7 v8 v9 (v8 - r_22) H locs ls hf hP hD hS (lv_sub hl [1, 2, 3, 4, 5, 6, 7, 8, 9, 10] rfl)
        · have hf := it_f c_24 hf
          refine lv_iload hx hb dX10_ask_121 (lv_at hl 0 rfl) ?_
          refine lv_goto (tgt := 131) hx hb dX10_ask_123 (by decide) ?_
          exact j131 k43 hk43 (fX10_ask_95 o_bank o_all o_roots o_told k43 n) ih o_thrown o_binBy o_counts v1 v2 v3 v4 v5 v6 v7 v8 v9 r_22 H locs ls hf hP hD hS (lv_sub hl [1, 2, 3, 4, 5, 6, 7, 8, 9, 10] rfl)
  have j84 : ∀ (k43 : Int32 → (Nat → Int32) → (Nat → Int32) → Int32 → Int32 → Int32 → Int32 → Int32 → Int32 → Int32 → Option (Int32 × Int32 × (Nat → Int32) × (Nat → Int32))), (∀ (o_thrown : Int32) (o_binBy : Nat → Int32) (o_counts : Nat → Int32) (v1 : Int32) (v2 : Int32) (v3 : Int32) (v4 : Int32) (v5 : Int32) (v6 : Int32) (v7 : Int32) (H : Heap) (locs : List Loc) (ls : Array Slot), k43 o_thrown o_binBy o_counts v1 v2 v3 v4 v5 v6 v7 = some (r, out_o_thrown, out_o_binBy, out_o_counts) → va_P G vwCl (wX10_ask cI cJ cZ h_o h_o_all h_o_binBy h_o_counts h_o_noted1 h_o_roots h_o_told h_o_tape h_o_words h_o_isTold h_o_toldWave h_o_isPoint h_o_quarter h_o_laidRe h_o_laidIm h_o_byOrder o_tapeSize o_thrown o_fault o_faultPlace o_stop o_next o_kind o_which o_at o_pointsRead o_bank o_isImage o_undos o_runRadix o_runOrder o_runNear o_runLimit o_runHalves o_power o_notedMany o_knownTold o_drawn o_all o_binBy o_counts o_noted1 o_roots o_told) H → va_D A (wX10_ask cI cJ cZ h_o h_o_all h_o_binBy h_o_counts h_o_noted1 h_o_roots h_o_told h_o_tape h_o_words h_o_isTold h_o_toldWave h_o_isPoint h_o_quarter h_o_laidRe h_o_laidIm h_o_byOrder o_tapeSize o_thrown o_fault o_faultPlace o_stop o_next o_kind o_which o_at o_pointsRead o_bank o_isImage o_undos o_runRadix o_runOrder o_runNear o_runLimit o_runHalves o_power o_notedMany o_knownTold o_drawn o_all o_binBy o_counts o_noted1 o_roots o_told) → va_S A s.heap H locs → lv_has ls 12 [(0, .ref h_o), (1, .int v1), (2, .int v2), (3, .int v3), (4, .int v4), (5, .int v5), (6, .int v6), (7, .int v7)] → W p l e ({ frames := 5, cells := 0, slots := 0, locals := 115 } : Room) s m ([.ref h_o, .int p1, .int p2] : List Value).toArray below meth c H locs 0 0 Q (F0 m 43 ls [])) → ∀ (o_thrown : Int32) (o_binBy : Nat → Int32) (o_counts : Nat → Int32) (v1 : Int32) (v2 : Int32) (v3 : Int32) (v4 : Int32) (v5 : Int32) (v6 : Int32) (v7 : Int32) (H : Heap) (locs : List Loc) (ls : Array Slot), fX10_ask_84 o_bank o_all o_roots o_told k43 o_thrown o_binBy o_counts v1 v2 v3 v4 v5 v6 v7 = some (r, out_o_thrown, out_o_binBy, out_o_counts) → va_P G vwCl (wX10_ask cI cJ cZ h_o h_o_all h_o_binBy h_o_counts h_o_noted1 h_o_roots h_o_told h_o_tape h_o_words h_o_isTold h_o_toldWave h_o_isPoint h_o_quarter h_o_laidRe h_o_laidIm h_o_byOrder o_tapeSize o_thrown o_fault o_faultPlace o_stop o_next o_kind o_which o_at o_pointsRead o_bank o_isImage o_undos o_runRadix o_runOrder o_runNear o_runLimit o_runHalves o_power o_notedMany o_knownTold o_drawn o_all o_binBy o_counts o_noted1 o_roots o_told) H → va_D A (wX10_ask cI cJ cZ h_o h_o_all h_o_binBy h_o_counts h_o_noted1 h_o_roots h_o_told h_o_tape h_o_words h_o_isTold h_o_toldWave h_o_isPoint h_o_quarter h_o_laidRe h_o_laidIm h_o_byOrder o_tapeSize o_thrown o_fault o_faultPlace o_stop o_next o_kind o_which o_at o_pointsRead o_bank o_isImage o_undos o_runRadix o_runOrder o_runNear o_runLimit o_runHalves o_power o_notedMany o_knownTold o_drawn o_all o_binBy o_counts o_noted1 o_roots o_told) → va_S A s.heap H locs → lv_has ls 12 [(0, .ref h_o), (1, .int v1), (2, .int v2), (3, .int v3), (4, .int v4), (5, .int v5), (6, .int v6), (7, .int v7)] → W p l e ({ frames := 5, cells := 0, slots := 0, locals := 115 } : Room) s m ([.ref h_o, .int p1, .int p2] : List Value).toArray below meth c H locs 0 0 Q (F0 m 84 ls []) := by
    intro k43 hk43 o_thrown o_binBy o_counts v1 v2 v3 v4 v5 v6 v7 H locs ls hf hP hD hS hl
    unfold fX10_ask_84 at hf
    refine lv_aload_n hx hb dX10_ask_84 rfl (lv_at hl 0 rfl) ?_
    refine lv_iload_n hx hb dX10_ask_85 rfl (lv_at hl 3 rfl) ?_
    refine lv_iconst (v := (0 : Int32)) hx hb dX10_ask_86 (by decide) ?_
    obtain ⟨r_19, e_20, hf⟩ := bd1_x hf
    refine call_v [.int v3, .int (0 : Int32)] [] ⟨hx, hb, hml, hown, hts⟩ hK hP hD hS hA hl.1 (tX10_manyBy l G cI cJ cZ H.size h_o h_o_binBy h_o_tape h_o_words h_o_told h_o_isTold h_o_toldWave h_o_isPoint h_o_all h_o_quarter h_o_roots h_o_laidRe h_o_laidIm h_o_byOrder h_o_noted1 h_o_counts o_tapeSize o_thrown o_fault o_faultPlace o_stop o_next o_kind o_which o_at o_pointsRead o_bank o_isImage o_undos o_runRadix o_runOrder o_runNear o_runLimit o_runHalves o_power o_notedMany o_knownTold o_drawn o_binBy v3 (0 : Int32) r_19 e_20) (cwV 2 hts (gv q_mX10_387 q_i_yX10_manyBy q_s_yX10_manyBy q_n_RX10 q_k_yX10_manyBy) rfl rfl rfl (by decide +kernel) ⟨by decide, by decide⟩) rfl rfl (Nat.le_of_ble_eq_true rfl) dX10_ask_87 ⟨Nat.zero_le _, Nat.zero_le _⟩ (ci := 10) rfl 0 rfl [0, 2] [1, 3, 4, 5, 6] [5, 0, 6, 1, 2, 3, 4] rfl rfl (ws2 := (wX10_ask cI cJ cZ h_o h_o_all h_o_binBy h_o_counts h_o_noted1 h_o_roots h_o_told h_o_tape h_o_words h_o_isTold h_o_toldWave h_o_isPoint h_o_quarter h_o_laidRe h_o_laidIm h_o_byOrder o_tapeSize o_thrown o_fault o_faultPlace o_stop o_next o_kind o_which o_at o_pointsRead o_bank o_isImage o_undos o_runRadix o_runOrder o_runNear o_runLimit o_runHalves o_power o_notedMany o_knownTold o_drawn o_all o_binBy o_counts o_noted1 o_roots o_told)) rfl (fun H locs hP hD hS => ?_)
    refine W.eq (g2 := F0 m 90 ls [.int r_19]) rfl ?_
    refine lv_istore (lv' := [(8, .int r_19), (0, .ref h_o), (1, .int v1), (2, .int v2), (3, .int v3), (4, .int v4), (5, .int v5), (6, .int v6), (7, .int v7)]) hx hb dX10_ask_90 hl (by decide) rfl (fun ls hl => ?_)
    refine lv_iconst (v := (1 : Int32)) hx hb dX10_ask_92 (by decide) ?_
    refine lv_istore (lv' := [(9, .int (1 : Int32)), (8, .int r_19), (0, .ref h_o), (1, .int v1), (2, .int v2), (3, .int v3), (4, .int v4), (5, .int v5), (6, .int v6), (7, .int v7)]) hx hb dX10_ask_93 hl (by decide) rfl (fun ls hl => ?_)
    exact j95 k43 hk43 FU o_thrown o_binBy o_counts v1 v2 v3 v4 v5 v6 v7 r_19 (1 : Int32) H locs ls hf hP hD hS (lv_sub hl [2, 3, 4, 5, 6, 7, 8, 9, 1, 0] rfl)
  have j55 : ∀ (k43 : Int32 → (Nat → Int32) → (Nat → Int32) → Int32 → Int32 → Int32 → Int32 → Int32 → Int32 → Int32 → Option (Int32 × Int32 × (Nat → Int32) × (Nat → Int32))), (∀ (o_thrown : Int32) (o_binBy : Nat → Int32) (o_counts : Nat → Int32) (v1 : Int32) (v2 : Int32) (v3 : Int32) (v4 : Int32) (v5 : Int32) (v6 : Int32) (v7 : Int32) (H : Heap) (locs : List Loc) (ls : Array Slot), k43 o_thrown o_binBy o_counts v1 v2 v3 v4 v5 v6 v7 = some (r, out_o_thrown, out_o_binBy, out_o_counts) → va_P G vwCl (wX10_ask cI cJ cZ h_o h_o_all h_o_binBy h_o_counts h_o_noted1 h_o_roots h_o_told h_o_tape h_o_words h_o_isTold h_o_toldWave h_o_isPoint h_o_quarter h_o_laidRe h_o_laidIm h_o_byOrder o_tapeSize o_thrown o_fault o_faultPlace o_stop o_next o_kind o_which o_at o_pointsRead o_bank o_isImage o_undos o_runRadix o_runOrder o_runNear o_runLimit o_runHalves o_power o_notedMany o_knownTold o_drawn o_all o_binBy o_counts o_noted1 o_roots o_told) H → va_D A (wX10_ask cI cJ cZ h_o h_o_all h_o_binBy h_o_counts h_o_noted1 h_o_roots h_o_told h_o_tape h_o_words h_o_isTold h_o_toldWave h_o_isPoint h_o_quarter h_o_laidRe h_o_laidIm h_o_byOrder o_tapeSize o_thrown o_fault o_faultPlace o_stop o_next o_kind o_which o_at o_pointsRead o_bank o_isImage o_undos o_runRadix o_runOrder o_runNear o_runLimit o_runHalves o_power o_notedMany o_knownTold o_drawn o_all o_binBy o_counts o_noted1 o_roots o_told) → va_S A s.heap H locs → lv_has ls 12 [(0, .ref h_o), (1, .int v1), (2, .int v2), (3, .int v3), (4, .int v4), (5, .int v5), (6, .int v6), (7, .int v7)] → W p l e ({ frames := 5, cells := 0, slots := 0, locals := 115 } : Room) s m ([.ref h_o, .int p1, .int p2] : List Value).toArray below meth c H locs 0 0 Q (F0 m 43 ls [])) → ∀ (n : Nat) (o_thrown : Int32) (o_binBy : Nat → Int32) (o_counts : Nat → Int32) (v1 : Int32) (v2 : Int32) (v3 : Int32) (v4 : Int32) (v5 : Int32) (v6 : Int32) (v7 : Int32) (v8 : Int32) (H : Heap) (locs : List Loc) (ls : Array Slot), fX10_ask_55 o_bank o_all o_roots o_told k43 n o_thrown o_binBy o_counts v1 v2 v3 v4 v5 v6 v7 v8 = some (r, out_o_thrown, out_o_binBy, out_o_counts) → va_P G vwCl (wX10_ask cI cJ cZ h_o h_o_all h_o_binBy h_o_counts h_o_noted1 h_o_roots h_o_told h_o_tape h_o_words h_o_isTold h_o_toldWave h_o_isPoint h_o_quarter h_o_laidRe h_o_laidIm h_o_byOrder o_tapeSize o_thrown o_fault o_faultPlace o_stop o_next o_kind o_which o_at o_pointsRead o_bank o_isImage o_undos o_runRadix o_runOrder o_runNear o_runLimit o_runHalves o_power o_notedMany o_knownTold o_drawn o_all o_binBy o_counts o_noted1 o_roots o_told) H → va_D A (wX10_ask cI cJ cZ h_o h_o_all h_o_binBy h_o_counts h_o_noted1 h_o_roots h_o_told h_o_tape h_o_words h_o_isTold h_o_toldWave h_o_isPoint h_o_quarter h_o_laidRe h_o_laidIm h_o_byOrder o_tapeSize o_thrown o_fault o_faultPlace o_stop o_next o_kind o_which o_at o_pointsRead o_bank o_isImage o_undos o_runRadix o_runOrder o_runNear o_runLimit o_runHalves o_power o_notedMany o_knownTold o_drawn o_all o_binBy o_counts o_noted1 o_roots o_told) → va_S A s.heap H locs → lv_has ls 12 [(0, .ref h_o), (1, .int v1), (2, .int v2), (3, .int v3), (4, .int v4), (5, .int v5), (6, .int v6), (7, .int v7), (8, .int v8)] → W p l e ({ frames := 5, cells := 0, slots := 0, locals := 115 } : Room) s m ([.ref h_o, .int p1, .int p2] : List Value).toArray below meth c H locs 0 0 Q (F0 m 55 ls []) := by
    intro k43 hk43 n
    induction n with
    | zero =>
      intro o_thrown o_binBy o_counts v1 v2 v3 v4 v5 v6 v7 v8 H locs ls hf
      have hf : (none : Option (Int32 × Int32 × (Nat → Int32) × (Nat → Int32))) = some (r, out_o_thrown, out_o_binBy, out_o_counts) := hf
      cases hf
    | succ n ih =>
      intro o_thrown o_binBy o_counts v1 v2 v3 v4 v5 v6 v7 v8 H locs ls hf hP hD hS hl
      rw [fX10_ask_55.eq_2] at hf
      refine lv_iload hx hb dX10_ask_55 (lv_at hl 8 rfl) ?_
      refine lv_bipush (v := (16 : Int32)) hx hb dX10_ask_57 (by decide) ?_
      refine lv_icmp_ge (tgt := 84) hx hb dX10_ask_59 (by decide) (fun c_13 => ?_) (fun c_13 => ?_)
      · have hf := it_t c_13 hf
        exact j84 k43 hk43 o_thrown o_binBy o_counts v1 v2 v3 v4 v5 v6 v7 H locs ls hf hP hD hS (lv_sub hl [0, 1, 2, 3, 4, 5, 6, 7] rfl)
      · have hf := it_f c_13 hf
        refine lv_aload_n hx hb dX10_ask_62 rfl (lv_at hl 0 rfl) ?_
        refine rd (ci := 10) (C := RX10) (T := TX10) (N := 37) hx hb hts inX10 hown hK hP 0 35 rfl rfl (by decide) (hts _ q_fX10_61) rfl dX10_ask_63 ?_
        refine lv_iload hx hb dX10_ask_66 (lv_at hl 8 rfl) ?_
        refine lv_aload_n hx hb dX10_ask_68 rfl (lv_at hl 0 rfl) ?_
        refine lv_iload hx hb dX10_ask_69 (lv_at hl 7 rfl) ?_
        refine lv_iload_n hx hb dX10_ask_71 rfl (lv_at hl 1 rfl) ?_
        refine lv_iload hx hb dX10_ask_72 (lv_at hl 8 rfl) ?_
        obtain ⟨r_14, e_15, hf⟩ := bd1_x hf
        refine call_v [.int v7, .int v1, .int v8] [.int v8, .ref h_o_binBy] ⟨hx, hb, hml, hown, hts⟩ hK hP hD hS hA hl.1 (tX10_binWith l G cI cJ cZ H.size h_o h_o_all h_o_roots h_o_told h_o_tape h_o_words h_o_isTold h_o_toldWave h_o_isPoint h_o_quarter h_o_laidRe h_o_laidIm h_o_byOrder h_o_noted1 h_o_counts h_o_binBy o_tapeSize o_thrown o_fault o_faultPlace o_stop o_next o_kind o_which o_at o_pointsRead o_bank o_isImage o_undos o_runRadix o_runOrder o_runNear o_runLimit o_runHalves o_power o_notedMany o_knownTold o_drawn o_all o_roots o_told v7 v1 v8 r_14 e_15) (cwV 3 hts (gv q_mX10_368 q_i_yX10_binWith q_s_yX10_binWith q_n_RX10 q_k_yX10_binWith) rfl rfl rfl (by decide +kernel) ⟨by decide, by decide⟩) rfl rfl (Nat.le_of_ble_eq_true rfl) dX10_ask_74 ⟨Nat.zero_le _, Nat.zero_le _⟩ (ci := 10) rfl 0 rfl [0, 1, 5, 6] [2, 3, 4] [3, 4, 0, 1, 2, 5, 6] rfl rfl (ws2 := (wX10_ask cI cJ cZ h_o h_o_all h_o_binBy h_o_counts h_o_noted1 h_o_roots h_o_told h_o_tape h_o_words h_o_isTold h_o_toldWave h_o_isPoint h_o_quarter h_o_laidRe h_o_laidIm h_o_byOrder o_tapeSize o_thrown o_fault o_faultPlace o_stop o_next o_kind o_which o_at o_pointsRead o_bank o_isImage o_undos o_runRadix o_runOrder o_runNear o_runLimit o_runHalves o_power o_notedMany o_knownTold o_drawn o_all o_binBy o_counts o_noted1 o_roots o_told)) rfl (fun H locs hP hD hS => ?_)
        refine W.eq (g2 := F0 m 77 ls [.int r_14, .int v8, .ref h_o_binBy]) rfl ?_
        obtain ⟨g_16, hf⟩ := gd_x hf
        obtain ⟨o_binBy_17, eo_binBy_17⟩ : ∃ y : Nat → Int32, y = upd o_binBy (Int32.toNatClampNeg v8) r_14 := ⟨_, rfl⟩
        have hf := nm_x eo_binBy_17 hf
        refine ist hx hb hK hP hD hS 2 0 rfl rfl (inb_x g_16) dX10_ask_77 eo_binBy_17 (ws2 := (wX10_ask cI cJ cZ h_o h_o_all h_o_binBy h_o_counts h_o_noted1 h_o_roots h_o_told h_o_tape h_o_words h_o_isTold h_o_toldWave h_o_isPoint h_o_quarter h_o_laidRe h_o_laidIm h_o_byOrder o_tapeSize o_thrown o_fault o_faultPlace o_stop o_next o_kind o_which o_at o_pointsRead o_bank o_isImage o_undos o_runRadix o_runOrder o_runNear o_runLimit o_runHalves o_power o_notedMany o_knownTold o_drawn o_all o_binBy_17 o_counts o_noted1 o_roots o_told)) rfl (fun H locs hP hD hS => ?_)
        obtain ⟨v8_18, ev8_18⟩ : ∃ y : Int32, y = v8 + (1 : Int32) := ⟨_, rfl⟩
        have hf := nm_x ev8_18 hf
        refine lv_iinc (v := v8_18) (lv' := [(8, .int v8_18), (0, .ref h_o), (1, .int v1), (2, .int v2), (3, .int v3), (4, .int v4), (5, .int v5), (6, .int v6), (7, .int v7)]) hx hb dX10_ask_78 hl (k := 8) rfl (by rw [ev8_18]; rfl) (by decide) rfl (fun ls hl => ?_)
        refine lv_goto (tgt := 55) hx hb dX10_ask_81 (by decide) ?_
        exact ih o_thrown o_binBy_17 o_counts v1 v2 v3 v4 v5 v6 v7 v8_18 H locs ls hf hP hD hS (lv_sub hl [1, 2, 3, 4, 5, 6, 7, 8, 0] rfl)
  have j43 : ∀ (n : Nat) (o_thrown : Int32) (o_binBy : Nat → Int32) (o_counts : Nat → Int32) (v1 : Int32) (v2 : Int32) (v3 : Int32) (v4 : Int32) (v5 : Int32) (v6 : Int32) (v7 : Int32) (H : Heap) (locs : List Loc) (ls : Array Slot), fX10_ask_43 o_bank o_all o_roots o_told n o_thrown o_binBy o_counts v1 v2 v3 v4 v5 v6 v7 = some (r, out_o_thrown, out_o_binBy, out_o_counts) → va_P G vwCl (wX10_ask cI cJ cZ h_o h_o_all h_o_binBy h_o_counts h_o_noted1 h_o_roots h_o_told h_o_tape h_o_words h_o_isTold h_o_toldWave h_o_isPoint h_o_quarter h_o_laidRe h_o_laidIm h_o_byOrder o_tapeSize o_thrown o_fault o_faultPlace o_stop o_next o_kind o_which o_at o_pointsRead o_bank o_isImage o_undos o_runRadix o_runOrder o_runNear o_runLimit o_runHalves o_power o_notedMany o_knownTold o_drawn o_all o_binBy o_counts o_noted1 o_roots o_told) H → va_D A (wX10_ask cI cJ cZ h_o h_o_all h_o_binBy h_o_counts h_o_noted1 h_o_roots h_o_told h_o_tape h_o_words h_o_isTold h_o_toldWave h_o_isPoint h_o_quarter h_o_laidRe h_o_laidIm h_o_byOrder o_tapeSize o_thrown o_fault o_faultPlace o_stop o_next o_kind o_which o_at o_pointsRead o_bank o_isImage o_undos o_runRadix o_runOrder o_runNear o_runLimit o_runHalves o_power o_notedMany o_knownTold o_drawn o_all o_binBy o_counts o_noted1 o_roots o_told) → va_S A s.heap H locs → lv_has ls 12 [(0, .ref h_o), (1, .int v1), (2, .int v2), (3, .int v3), (4, .int v4), (5, .int v5), (6, .int v6), (7, .int v7)] → W p l e ({ frames := 5, cells := 0, slots := 0, locals := 115 } : Room) s m ([.ref h_o, .int p1, .int p2] : List Value).toArray below meth c H locs 0 0 Q (F0 m 43 ls []) := by
    intro n
    induction n with
    | zero =>
      intro o_thrown o_binBy o_counts v1 v2 v3 v4 v5 v6 v7 H locs ls hf
      have hf : (none : Option (Int32 × Int32 × (Nat → Int32) × (Nat → Int32))) = some (r, out_o_thrown, out_o_binBy, out_o_counts) := hf
      cases hf
    | succ n ih =>
      intro o_thrown o_binBy o_counts v1 v2 v3 v4 v5 v6 v7 H locs ls hf hP hD hS hl
      rw [fX10_ask_43.eq_2] at hf
      refine lv_iload hx hb dX10_ask_43 (lv_at hl 7 rfl) ?_
      refine lv_aload_n hx hb dX10_ask_45 rfl (lv_at hl 0 rfl) ?_
      obtain ⟨r_10, e_11, hf⟩ := bd1_x hf
      refine call_v [] [.int v7] ⟨hx, hb, hml, hown, hts⟩ hK hP hD hS hA hl.1 (tX10_size l G cI cJ cZ H.size h_o h_o_told h_o_tape h_o_words h_o_isTold h_o_toldWave h_o_isPoint h_o_all h_o_quarter h_o_roots h_o_laidRe h_o_laidIm h_o_byOrder h_o_noted1 h_o_counts h_o_binBy o_tapeSize o_thrown o_fault o_faultPlace o_stop o_next o_kind o_which o_at o_pointsRead o_bank o_isImage o_undos o_runRadix o_runOrder o_runNear o_runLimit o_runHalves o_power o_notedMany o_knownTold o_drawn o_told r_10 e_11) (cwV 0 hts (gv q_mX10_196 q_i_yX10_size q_s_yX10_size q_n_RX10 q_k_yX10_size) rfl rfl rfl (by decide +kernel) ⟨by decide, by decide⟩) rfl rfl (Nat.le_of_ble_eq_true rfl) dX10_ask_46 ⟨Nat.zero_le _, Nat.zero_le _⟩ (ci := 10) rfl 0 rfl [0, 6] [1, 2, 3, 4, 5] [5, 0, 1, 2, 3, 4, 6] rfl rfl (ws2 := (wX10_ask cI cJ cZ h_o h_o_all h_o_binBy h_o_counts h_o_noted1 h_o_roots h_o_told h_o_tape h_o_words h_o_isTold h_o_toldWave h_o_isPoint h_o_quarter h_o_laidRe h_o_laidIm h_o_byOrder o_tapeSize o_thrown o_fault o_faultPlace o_stop o_next o_kind o_which o_at o_pointsRead o_bank o_isImage o_undos o_runRadix o_runOrder o_runNear o_runLimit o_runHalves o_power o_notedMany o_knownTold o_drawn o_all o_binBy o_counts o_noted1 o_roots o_told)) rfl (fun H locs hP hD hS => ?_)
      refine W.eq (g2 := F0 m 49 ls [.int r_10, .int v7]) rfl ?_
      refine lv_icmp_ge (tgt := 167) hx hb dX10_ask_49 (by decide) (fun c_12 => ?_) (fun c_12 => ?_)
      · have hf := it_t c_12 hf
        exact j167 o_thrown o_binBy o_counts v2 v4 v5 v6 H locs ls hf hP hD hS (lv_sub hl [2, 4, 5, 6] rfl)
      · have hf := it_f c_12 hf
        refine lv_iconst (v := (0 : Int32)) hx hb dX10_ask_52 (by decide) ?_
        refine lv_istore (lv' := [(8, .int (0 : Int32)), (0, .ref h_o), (1, .int v1), (2, .int v2), (3, .int v3), (4, .int v4), (5, .int v5), (6, .int v6), (7, .int v7)]) hx hb dX10_ask_53 hl (by decide) rfl (fun ls hl => ?_)
        exact j55 (fX10_ask_43 o_bank o_all o_roots o_told n) ih FU o_thrown o_binBy o_counts v1 v2 v3 v4 v5 v6 v7 (0 : Int32) H locs ls hf hP hD hS (lv_sub hl [1, 2, 3, 4, 5, 6, 7, 8, 0] rfl)
  unfold fX10_ask at hf
  obtain ⟨H, eH⟩ : ∃ H, H = s.heap := ⟨_, rfl⟩
  obtain ⟨locs, elocs⟩ : ∃ z : List Loc, z = [] := ⟨_, rfl⟩
  have hP : va_P G vwCl (wX10_ask cI cJ cZ h_o h_o_all h_o_binBy h_o_counts h_o_noted1 h_o_roots h_o_told h_o_tape h_o_words h_o_isTold h_o_toldWave h_o_isPoint h_o_quarter h_o_laidRe h_o_laidIm h_o_byOrder o_tapeSize o_thrown o_fault o_faultPlace o_stop o_next o_kind o_which o_at o_pointsRead o_bank o_isImage o_undos o_runRadix o_runOrder o_runNear o_runLimit o_runHalves o_power o_notedMany o_knownTold o_drawn o_all o_binBy o_counts o_noted1 o_roots o_told) H := by rw [eH]; exact hP
  have hS : va_S A s.heap H locs := by rw [eH, elocs]; exact hS
  suffices hgo : W p l e ({ frames := 5, cells := 0, slots := 0, locals := 115 } : Room) s m ([.ref h_o, .int p1, .int p2] : List Value).toArray below meth c H locs 0 0 Q (F0 m 0 ls []) by rw [eH, elocs] at hgo; exact hgo
  clear eH elocs
  refine lv_aload_n hx hb dX10_ask_0 rfl (lv_at hl 0 rfl) ?_
  refine lv_iconst (v := (0 : Int32)) hx hb dX10_ask_1 (by decide) ?_
  refine wr (ci := 10) (C := RX10) (T := TX10) (N := 37) hx hb hts inX10 tyX10 tyX10_ok nmX10 hown hK hP hD hS 0 2 rfl rfl (by decide) (hts _ q_fX10_70) rfl rfl rfl (Nat.le_of_ble_eq_true rfl) dX10_ask_2 (ws2 := (wX10_ask cI cJ cZ h_o h_o_all h_o_binBy h_o_counts h_o_noted1 h_o_roots h_o_told h_o_tape h_o_words h_o_isTold h_o_toldWave h_o_isPoint h_o_quarter h_o_laidRe h_o_laidIm h_o_byOrder o_tapeSize (0 : Int32) o_fault o_faultPlace o_stop o_next o_kind o_which o_at o_pointsRead o_bank o_isImage o_undos o_runRadix o_runOrder o_runNear o_runLimit o_runHalves o_power o_notedMany o_knownTold o_drawn o_all o_binBy o_counts o_noted1 o_roots o_told)) rfl (fun H locs hP hD hS => ?_)
  refine lv_aload_n hx hb dX10_ask_5 rfl (lv_at hl 0 rfl) ?_
  refine lv_iload_n hx hb dX10_ask_6 rfl (lv_at hl 1 rfl) ?_
  obtain ⟨r_1, e_2, hf⟩ := bd1_x hf
  refine call_v [.int p1] [] ⟨hx, hb, hml, hown, hts⟩ hK hP hD hS hA hl.1 (tX10_isPlace l G cI cJ cZ H.size h_o h_o_told h_o_tape h_o_words h_o_isTold h_o_toldWave h_o_isPoint h_o_all h_o_quarter h_o_roots h_o_laidRe h_o_laidIm h_o_byOrder h_o_noted1 h_o_counts h_o_binBy o_tapeSize (0 : Int32) o_fault o_faultPlace o_stop o_next o_kind o_which o_at o_pointsRead o_bank o_isImage o_undos o_runRadix o_runOrder o_runNear o_runLimit o_runHalves o_power o_notedMany o_knownTold o_drawn o_told p1 r_1 e_2) (cwV 1 hts (gv q_mX10_203 q_i_yX10_isPlace q_s_yX10_isPlace q_n_RX10 q_k_yX10_isPlace) rfl rfl rfl (by decide +kernel) ⟨by decide, by decide⟩) rfl rfl (Nat.le_of_ble_eq_true rfl) dX10_ask_7 ⟨Nat.zero_le _, Nat.zero_le _⟩ (ci := 10) rfl 0 rfl [0, 6] [1, 2, 3, 4, 5] [5, 0, 1, 2, 3, 4, 6] rfl rfl (ws2 := (wX10_ask cI cJ cZ h_o h_o_all h_o_binBy h_o_counts h_o_noted1 h_o_roots h_o_told h_o_tape h_o_words h_o_isTold h_o_toldWave h_o_isPoint h_o_quarter h_o_laidRe h_o_laidIm h_o_byOrder o_tapeSize (0 : Int32) o_fault o_faultPlace o_stop o_next o_kind o_which o_at o_pointsRead o_bank o_isImage o_undos o_runRadix o_runOrder o_runNear o_runLimit o_runHalves o_power o_notedMany o_knownTold o_drawn o_all o_binBy o_counts o_noted1 o_roots o_told)) rfl (fun H locs hP hD hS => ?_)
  refine W.eq (g2 := F0 m 10 ls [.int r_1]) rfl ?_
  refine lv_if_eq (tgt := 22) hx hb dX10_ask_10 (by decide) (fun c_3 => ?_) (fun c_3 => ?_)
  · have hf := it_t c_3 hf
    refine lv_iconst (v := (-1 : Int32)) hx hb dX10_ask_22 (by decide) ?_
    cases hf
    exact hret _ _ _ _ dX10_ask_23 hP hD hS
  · have hf := it_f c_3 hf
    refine lv_iload_n hx hb dX10_ask_13 rfl (lv_at hl 2 rfl) ?_
    refine lv_iconst (v := (0 : Int32)) hx hb dX10_ask_14 (by decide) ?_
    refine lv_iconst (v := (2 : Int32)) hx hb dX10_ask_15 (by decide) ?_
    obtain ⟨r_4, e_5, hf⟩ := bd1_x hf
    refine call_s [.int p2, .int (0 : Int32), .int (2 : Int32)] [] ⟨hx, hb, hml, hown, hts⟩ hK hP hD hS hA hl.1 (tX10_isIn l G cI cJ cZ H.size p2 (0 : Int32) (2 : Int32) r_4 e_5) (va_cwS 3 hts (gs q_mX10_138 q_s_yX10_isIn q_n_RX10 q_k_yX10_isIn) rfl rfl rfl (by decide +kernel) ⟨by decide, by decide⟩) rfl rfl (Nat.le_of_ble_eq_true rfl) dX10_ask_16 ⟨Nat.zero_le _, Nat.zero_le _⟩ [] [0, 1, 2, 3, 4, 5, 6] [0, 1, 2, 3, 4, 5, 6] rfl rfl (ws2 := (wX10_ask cI cJ cZ h_o h_o_all h_o_binBy h_o_counts h_o_noted1 h_o_roots h_o_told h_o_tape h_o_words h_o_isTold h_o_toldWave h_o_isPoint h_o_quarter h_o_laidRe h_o_laidIm h_o_byOrder o_tapeSize (0 : Int32) o_fault o_faultPlace o_stop o_next o_kind o_which o_at o_pointsRead o_bank o_isImage o_undos o_runRadix o_runOrder o_runNear o_runLimit o_runHalves o_power o_notedMany o_knownTold o_drawn o_all o_binBy o_counts o_noted1 o_roots o_told)) rfl (fun H locs hP hD hS => ?_)
    refine W.eq (g2 := F0 m 19 ls [.int r_4]) rfl ?_
    refine lv_if_ne (tgt := 24) hx hb dX10_ask_19 (by decide) (fun c_6 => ?_) (fun c_6 => ?_)
    · have hf := it_f c_6 hf
      refine lv_aload_n hx hb dX10_ask_24 rfl (lv_at hl 0 rfl) ?_
      refine lv_iload_n hx hb dX10_ask_25 rfl (lv_at hl 1 rfl) ?_
      obtain ⟨r_7, o_counts_8, e_9, hf⟩ := bd2_x hf
      refine call_v [.int p1] [] ⟨hx, hb, hml, hown, hts⟩ hK hP hD hS hA hl.1 (tX10_valuesOf l G cI cJ cZ H.size h_o h_o_all h_o_counts h_o_noted1 h_o_roots h_o_told h_o_tape h_o_words h_o_isTold h_o_toldWave h_o_isPoint h_o_quarter h_o_laidRe h_o_laidIm h_o_byOrder h_o_binBy o_tapeSize (0 : Int32) o_fault o_faultPlace o_stop o_next o_kind o_which o_at o_pointsRead o_bank o_isImage o_undos o_runRadix o_runOrder o_runNear o_runLimit o_runHalves o_power o_notedMany o_knownTold o_drawn o_all o_counts o_noted1 o_roots o_told p1 r_7 o_counts_8 e_9) (cwV 1 hts (gv q_mX10_384 q_i_yX10_valuesOf q_s_yX10_valuesOf q_n_RX10 q_k_yX10_valuesOf) rfl rfl rfl (by decide +kernel) ⟨by decide, by decide⟩) rfl rfl (Nat.le_of_ble_eq_true rfl) dX10_ask_26 ⟨Nat.zero_le _, Nat.zero_le _⟩ (ci := 10) rfl 0 rfl [0, 1, 3, 4, 5, 6] [2] [1, 2, 0, 3, 4, 5, 6] rfl rfl (ws2 := (wX10_ask cI cJ cZ h_o h_o_all h_o_binBy h_o_counts h_o_noted1 h_o_roots h_o_told h_o_tape h_o_words h_o_isTold h_o_toldWave h_o_isPoint h_o_quarter h_o_laidRe h_o_laidIm h_o_byOrder o_tapeSize (0 : Int32) o_fault o_faultPlace o_stop o_next o_kind o_which o_at o_pointsRead o_bank o_isImage o_undos o_runRadix o_runOrder o_runNear o_runLimit o_runHalves o_power o_notedMany o_knownTold o_drawn o_all o_binBy o_counts_8 o_noted1 o_roots o_told)) rfl (fun H locs hP hD hS => ?_)
      refine W.eq (g2 := F0 m 29 ls [.int r_7]) rfl ?_
      refine lv_istore_n (lv' := [(3, .int r_7), (0, .ref h_o), (1, .int p1), (2, .int p2)]) hx hb dX10_ask_29 rfl hl (by decide) rfl (fun ls hl => ?_)
      refine lv_iconst (v := (0 : Int32)) hx hb dX10_ask_30 (by decide) ?_
      refine lv_istore (lv' := [(4, .int (0 : Int32)), (3, .int r_7), (0, .ref h_o), (1, .int p1), (2, .int p2)]) hx hb dX10_ask_31 hl (by decide) rfl (fun ls hl => ?_)
      refine lv_iconst (v := (1 : Int32)) hx hb dX10_ask_33 (by decide) ?_
      refine lv_istore (lv' := [(5, .int (1 : Int32)), (4, .int (0 : Int32)), (3, .int r_7), (0, .ref h_o), (1, .int p1), (2, .int p2)]) hx hb dX10_ask_34 hl (by decide) rfl (fun ls hl => ?_)
      refine lv_bipush (v := (17 : Int32)) hx hb dX10_ask_36 (by decide) ?_
      refine lv_istore (lv' := [(6, .int (17 : Int32)), (5, .int (1 : Int32)), (4, .int (0 : Int32)), (3, .int r_7), (0, .ref h_o), (1, .int p1), (2, .int p2)]) hx hb dX10_ask_38 hl (by decide) rfl (fun ls hl => ?_)
      refine lv_iconst (v := (0 : Int32)) hx hb dX10_ask_40 (by decide) ?_
      refine lv_istore (lv' := [(7, .int (0 : Int32)), (6, .int (17 : Int32)), (5, .int (1 : Int32)), (4, .int (0 : Int32)), (3, .int r_7), (0, .ref h_o), (1, .int p1), (2, .int p2)]) hx hb dX10_ask_41 hl (by decide) rfl (fun ls hl => ?_)
      exact j43 FU (0 : Int32) o_binBy o_counts_8 p1 p2 r_7 (0 : Int32) (1 : Int32) (17 : Int32) (0 : Int32) H locs ls hf hP hD hS (lv_sub hl [5, 6, 7, 4, 3, 2, 1, 0] rfl)
    · have hf := it_t c_6 hf
      refine lv_iconst (v := (-1 : Int32)) hx hb dX10_ask_22 (by decide) ?_
      cases hf
      exact hret _ _ _ _ dX10_ask_23 hP hD hS
def wX10_noisy (cI cJ cZ : ClassId) (h_o h_o_tape h_o_words h_o_told h_o_isTold h_o_toldWave h_o_isPoint h_o_all h_o_quarter h_o_roots h_o_laidRe h_o_laidIm h_o_byOrder h_o_noted1 h_o_counts h_o_binBy : Nat) (o_tapeSize : Int32) (o_thrown : Int32) (o_fault : Int32) (o_faultPlace : Int32) (o_stop : Int32) (o_next : Int32) (o_kind : Int32) (o_which : Int32) (o_at : Int32) (o_pointsRead : Int32) (o_bank : Int32) (o_isImage : Int32) (o_undos : Int32) (o_runRadix : Int32) (o_runOrder : Int32) (o_runNear : Int32) (o_runLimit : Int32) (o_runHalves : Int32) (o_power : Int32) (o_notedMany : Int32) (o_knownTold : Int32) (o_drawn : Int64) : va_W := [(h_o, .inr (10, [.ref h_o_tape, .int o_tapeSize, .int o_thrown, .ref h_o_words, .int o_fault, .int o_faultPlace, .int o_stop, .int o_next, .int o_kind, .int o_which, .int o_at, .ref h_o_told, .ref h_o_isTold, .ref h_o_toldWave, .ref h_o_isPoint, .int o_pointsRead, .ref h_o_all, .int o_bank, .int o_isImage, .int o_undos, .int o_runRadix, .int o_runOrder, .int o_runNear, .int o_runLimit, .int o_runHalves, .ref h_o_quarter, .int o_power, .ref h_o_roots, .ref h_o_laidRe, .ref h_o_laidIm, .ref h_o_byOrder, .int o_notedMany, .int o_knownTold, .ref h_o_noted1, .ref h_o_counts, .ref h_o_binBy, .long o_drawn]))]
def fX10_noisy (o_runLimit : Int32) (o_drawn : Int64) (p1 : Int32) (p2 : Int32) : Option (Int32 × Int64) :=
  nm (((o_drawn * (1103515245 : Int64)) + (12345 : Int64)) &&& (2147483647 : Int64)) (fun u_1 =>
  nm (Int32.toInt64 (((2 : Int32) * p2) + (1 : Int32))) (fun d_2 =>
  gd (nzl d_2) (
  nm ((p1 + (Int64.toInt32 ((u_1 / (65536 : Int64)) - (u_1 / (65536 : Int64)) / d_2 * d_2))) - p2) (fun v3_4 =>
  if v3_4 ≤ o_runLimit then (
    if (-o_runLimit) ≤ v3_4 then (
      some (v3_4, u_1)
    ) else (
      some (-o_runLimit, u_1)
    )
  ) else (
    some (o_runLimit, u_1)
  )))))
set_option maxHeartbeats 4000000 in
set_option maxRecDepth 100000 in
theorem tX10_noisy (l : Launch) (G : va_G) (cI cJ cZ : ClassId) (sz : Nat) (h_o h_o_tape h_o_words h_o_told h_o_isTold h_o_toldWave h_o_isPoint h_o_all h_o_quarter h_o_roots h_o_laidRe h_o_laidIm h_o_byOrder h_o_noted1 h_o_counts h_o_binBy : Nat) (o_tapeSize : Int32) (o_thrown : Int32) (o_fault : Int32) (o_faultPlace : Int32) (o_stop : Int32) (o_next : Int32) (o_kind : Int32) (o_which : Int32) (o_at : Int32) (o_pointsRead : Int32) (o_bank : Int32) (o_isImage : Int32) (o_undos : Int32) (o_runRadix : Int32) (o_runOrder : Int32) (o_runNear : Int32) (o_runLimit : Int32) (o_runHalves : Int32) (o_power : Int32) (o_notedMany : Int32) (o_knownTold : Int32) (o_drawn : Int64) (p1 : Int32) (p2 : Int32) (r : Int32) (out_o_drawn : Int64) (hf : fX10_noisy o_runLimit o_drawn p1 p2 = some (r, out_o_drawn)) : Met l yX10_noisy (Cond.code yX10_noisy cX10_noisy 4 (some .int) :: BIG) ({ frames := 0, cells := 0, slots := 0, locals := 0 } : Room) (cP G (TY3 cI cJ cZ) [.ref h_o, .int p1, .int p2] sz (wX10_noisy cI cJ cZ h_o h_o_tape h_o_words h_o_told h_o_isTold h_o_toldWave h_o_isPoint h_o_all h_o_quarter h_o_roots h_o_laidRe h_o_laidIm h_o_byOrder h_o_noted1 h_o_counts h_o_binBy o_tapeSize o_thrown o_fault o_faultPlace o_stop o_next o_kind o_which o_at o_pointsRead o_bank o_isImage o_undos o_runRadix o_runOrder o_runNear o_runLimit o_runHalves o_power o_notedMany o_knownTold o_drawn)) (cQ G (TY3 cI cJ cZ) sz (wX10_noisy cI cJ cZ h_o h_o_tape h_o_words h_o_told h_o_isTold h_o_toldWave h_o_isPoint h_o_all h_o_quarter h_o_roots h_o_laidRe h_o_laidIm h_o_byOrder h_o_noted1 h_o_counts h_o_binBy o_tapeSize o_thrown o_fault o_faultPlace o_stop o_next o_kind o_which o_at o_pointsRead o_bank o_isImage o_undos o_runRadix o_runOrder o_runNear o_runLimit o_runHalves o_power o_notedMany o_knownTold o_drawn) (wX10_noisy cI cJ cZ h_o h_o_tape h_o_words h_o_told h_o_isTold h_o_toldWave h_o_isPoint h_o_all h_o_quarter h_o_roots h_o_laidRe h_o_laidIm h_o_byOrder h_o_noted1 h_o_counts h_o_binBy o_tapeSize o_thrown o_fault o_faultPlace o_stop o_next o_kind o_which o_at o_pointsRead o_bank o_isImage o_undos o_runRadix o_runOrder o_runNear o_runLimit o_runHalves o_power o_notedMany o_knownTold out_o_drawn) (some (.int r))) 0 0 (va_A (wX10_noisy cI cJ cZ h_o h_o_tape h_o_words h_o_told h_o_isTold h_o_toldWave h_o_isPoint h_o_all h_o_quarter h_o_roots h_o_laidRe h_o_laidIm h_o_byOrder h_o_noted1 h_o_counts h_o_binBy o_tapeSize o_thrown o_fault o_faultPlace o_stop o_next o_kind o_which o_at o_pointsRead o_bank o_isImage o_undos o_runRadix o_runOrder o_runNear o_runLimit o_runHalves o_power o_notedMany o_knownTold o_drawn) sz) := by
  refine met_i (cc := cX10_noisy) (maxL := 4) (plainFor_of_name (by decide)) (Nat.le_of_ble_eq_true rfl) (fun p e s m below meth c A ls Q hx hb hml hts hown hK hP hD hS hA hl hret => ?_)
  have hown : s.vm.findClass RX10 = some m.cls := hown
  have hl : lv_has ls 4 [(0, .ref h_o), (1, .int p1), (2, .int p2)] := hl
  unfold fX10_noisy at hf
  obtain ⟨H, eH⟩ : ∃ H, H = s.heap := ⟨_, rfl⟩
  obtain ⟨locs, elocs⟩ : ∃ z : List Loc, z = [] := ⟨_, rfl⟩
  have hP : va_P G vwCl (wX10_noisy cI cJ cZ h_o h_o_tape h_o_words h_o_told h_o_isTold h_o_toldWave h_o_isPoint h_o_all h_o_quarter h_o_roots h_o_laidRe h_o_laidIm h_o_byOrder h_o_noted1 h_o_counts h_o_binBy o_tapeSize o_thrown o_fault o_faultPlace o_stop o_next o_kind o_which o_at o_pointsRead o_bank o_isImage o_undos o_runRadix o_runOrder o_runNear o_runLimit o_runHalves o_power o_notedMany o_knownTold o_drawn) H := by rw [eH]; exact hP
  have hS : va_S A s.heap H locs := by rw [eH, elocs]; exact hS
  suffices hgo : W p l e ({ frames := 0, cells := 0, slots := 0, locals := 0 } : Room) s m ([.ref h_o, .int p1, .int p2] : List Value).toArray below meth c H locs 0 0 Q (F0 m 0 ls []) by rw [eH, elocs] at hgo; exact hgo
  clear eH elocs
  refine lv_aload_n hx hb dX10_noisy_0 rfl (lv_at hl 0 rfl) ?_
  refine lv_aload_n hx hb dX10_noisy_1 rfl (lv_at hl 0 rfl) ?_
  refine rd (ci := 10) (C := RX10) (T := TX10) (N := 37) hx hb hts inX10 hown hK hP 0 36 rfl rfl (by decide) (hts _ q_fX10_390) rfl dX10_noisy_2 ?_
  refine lv_ldc2 (v := (1103515245 : Int64)) hx hb hown (hts _ q_cX10_394) dX10_noisy_5 ?_
  refine lv_lmul hx hb dX10_noisy_8 ?_
  refine lv_ldc2 (v := (12345 : Int64)) hx hb hown (hts _ q_cX10_396) dX10_noisy_9 ?_
  refine lv_ladd hx hb dX10_noisy_12 ?_
  refine lv_ldc2 (v := (2147483647 : Int64)) hx hb hown (hts _ q_cX10_398) dX10_noisy_13 ?_
  refine lv_land hx hb dX10_noisy_16 ?_
  refine lv_topl (fun u_1 eu_1 => ?_)
  have hf := nm_x eu_1 hf
  refine wr (ci := 10) (C := RX10) (T := TX10) (N := 37) hx hb hts inX10 tyX10 tyX10_ok nmX10 hown hK hP hD hS 0 36 rfl rfl (by decide) (hts _ q_fX10_390) rfl rfl rfl (Nat.le_of_ble_eq_true rfl) dX10_noisy_17 (ws2 := (wX10_noisy cI cJ cZ h_o h_o_tape h_o_words h_o_told h_o_isTold h_o_toldWave h_o_isPoint h_o_all h_o_quarter h_o_roots h_o_laidRe h_o_laidIm h_o_byOrder h_o_noted1 h_o_counts h_o_binBy o_tapeSize o_thrown o_fault o_faultPlace o_stop o_next o_kind o_which o_at o_pointsRead o_bank o_isImage o_undos o_runRadix o_runOrder o_runNear o_runLimit o_runHalves o_power o_notedMany o_knownTold u_1)) rfl (fun H locs hP hD hS => ?_)
  refine lv_iload_n hx hb dX10_noisy_20 rfl (lv_at hl 1 rfl) ?_
  refine lv_aload_n hx hb dX10_noisy_21 rfl (lv_at hl 0 rfl) ?_
  refine rd (ci := 10) (C := RX10) (T := TX10) (N := 37) hx hb hts inX10 hown hK hP 0 36 rfl rfl (by decide) (hts _ q_fX10_390) rfl dX10_noisy_22 ?_
  refine lv_ldc2 (v := (65536 : Int64)) hx hb hown (hts _ q_cX10_400) dX10_noisy_25 ?_
  refine lv_ldiv hx hb dX10_noisy_28 (by decide) ?_
  refine lv_iconst (v := (2 : Int32)) hx hb dX10_noisy_29 (by decide) ?_
  refine lv_iload_n hx hb dX10_noisy_30 rfl (lv_at hl 2 rfl) ?_
  refine lv_imul hx hb dX10_noisy_31 ?_
  refine lv_iconst (v := (1 : Int32)) hx hb dX10_noisy_32 (by decide) ?_
  refine lv_iadd hx hb dX10_noisy_33 ?_
  refine lv_i2l hx hb dX10_noisy_34 rfl ?_
  refine lv_topl (fun d_2 ed_2 => ?_)
  have hf := nm_x ed_2 hf
  obtain ⟨g_3, hf⟩ := gd_x hf
  refine lv_lrem hx hb dX10_noisy_35 (nzl_x g_3) ?_
  refine lv_l2i hx hb dX10_noisy_36 rfl ?_
  refine lv_iadd hx hb dX10_noisy_37 ?_
  refine lv_iload_n hx hb dX10_noisy_38 rfl (lv_at hl 2 rfl) ?_
  refine lv_isub hx hb dX10_noisy_39 ?_
  refine lv_topi (fun v3_4 ev3_4 => ?_)
  have hf := nm_x ev3_4 hf
  refine lv_istore_n (lv' := [(3, .int v3_4), (0, .ref h_o), (1, .int p1), (2, .int p2)]) hx hb dX10_noisy_40 rfl hl (by decide) rfl (fun ls hl => ?_)
  refine lv_iload_n hx hb dX10_noisy_41 rfl (lv_at hl 0 rfl) ?_
  refine lv_aload_n hx hb dX10_noisy_42 rfl (lv_at hl 1 rfl) ?_
  refine rd (ci := 10) (C := RX10) (T := TX10) (N := 37) hx hb hts inX10 hown hK hP 0 23 rfl rfl (by decide) (hts _ q_fX10_175) rfl dX10_noisy_43 ?_
  refine lv_icmp_le (tgt := 56) hx hb dX10_noisy_46 (by decide) (fun c_5 => ?_) (fun c_5 => ?_)
  · have hf := it_t c_5 hf
    refine lv_iload_n hx hb dX10_noisy_56 rfl (lv_at hl 0 rfl) ?_
    refine lv_aload_n hx hb dX10_noisy_57 rfl (lv_at hl 1 rfl) ?_
    refine rd (ci := 10) (C := RX10) (T := TX10) (N := 37) hx hb hts inX10 hown hK hP 0 23 rfl rfl (by decide) (hts _ q_fX10_175) rfl dX10_noisy_58 ?_
    refine lv_ineg hx hb dX10_noisy_61 ?_
    refine lv_icmp_ge (tgt := 73) hx hb dX10_noisy_62 (by decide) (fun c_6 => ?_) (fun c_6 => ?_)
    · have hf := it_t c_6 hf
      refine lv_iload_n hx hb dX10_noisy_73 rfl (lv_at hl 0 rfl) ?_
      cases hf
      exact hret _ _ _ _ dX10_noisy_74 hP hD hS
    · have hf := it_f c_6 hf
      refine lv_aload_n hx hb dX10_noisy_65 rfl (lv_at hl 1 rfl) ?_
      refine rd (ci := 10) (C := RX10) (T := TX10) (N := 37) hx hb hts inX10 hown hK hP 0 23 rfl rfl (by decide) (hts _ q_fX10_175) rfl dX10_noisy_66 ?_
      refine lv_ineg hx hb dX10_noisy_69 ?_
      refine lv_goto (tgt := 74) hx hb dX10_noisy_70 (by decide) ?_
      cases hf
      exact hret _ _ _ _ dX10_noisy_74 hP hD hS
  · have hf := it_f c_5 hf
    refine lv_aload_n hx hb dX10_noisy_49 rfl (lv_at hl 1 rfl) ?_
    refine rd (ci := 10) (C := RX10) (T := TX10) (N := 37) hx hb hts inX10 hown hK hP 0 23 rfl rfl (by decide) (hts _ q_fX10_175) rfl dX10_noisy_50 ?_
    refine lv_goto (tgt := 74) hx hb dX10_noisy_53 (by decide) ?_
    cases hf
    exact hret _ _ _ _ dX10_noisy_74 hP hD hS
def wX10_chanceOf (cI cJ cZ : ClassId) (h_o h_o_all h_o_laidIm h_o_laidRe h_o_quarter h_o_told h_o_tape h_o_words h_o_isTold h_o_toldWave h_o_isPoint h_o_roots h_o_byOrder h_o_noted1 h_o_counts h_o_binBy : Nat) (o_tapeSize : Int32) (o_thrown : Int32) (o_fault : Int32) (o_faultPlace : Int32) (o_stop : Int32) (o_next : Int32) (o_kind : Int32) (o_which : Int32) (o_at : Int32) (o_pointsRead : Int32) (o_bank : Int32) (o_isImage : Int32) (o_undos : Int32) (o_runRadix : Int32) (o_runOrder : Int32) (o_runNear : Int32) (o_runLimit : Int32) (o_runHalves : Int32) (o_power : Int32) (o_notedMany : Int32) (o_knownTold : Int32) (o_drawn : Int64) (o_all : Nat → Int32) (o_laidIm : Nat → Int32) (o_laidRe : Nat → Int32) (o_quarter : Nat → Int32) (o_told : Nat → Int32) : va_W := [(h_o, .inr (10, [.ref h_o_tape, .int o_tapeSize, .int o_thrown, .ref h_o_words, .int o_fault, .int o_faultPlace, .int o_stop, .int o_next, .int o_kind, .int o_which, .int o_at, .ref h_o_told, .ref h_o_isTold, .ref h_o_toldWave, .ref h_o_isPoint, .int o_pointsRead, .ref h_o_all, .int o_bank, .int o_isImage, .int o_undos, .int o_runRadix, .int o_runOrder, .int o_runNear, .int o_runLimit, .int o_runHalves, .ref h_o_quarter, .int o_power, .ref h_o_roots, .ref h_o_laidRe, .ref h_o_laidIm, .ref h_o_byOrder, .int o_notedMany, .int o_knownTold, .ref h_o_noted1, .ref h_o_counts, .ref h_o_binBy, .long o_drawn])), (h_o_all, .inl (cI, 3128, .inl o_all)), (h_o_laidIm, .inl (cI, 32, .inl o_laidIm)), (h_o_laidRe, .inl (cI, 32, .inl o_laidRe)), (h_o_quarter, .inl (cI, 9, .inl o_quarter)), (h_o_told, .inl (cI, 12, .inl o_told))]
def fX10_chanceOf_110 (o_power : Int32) (o_quarter : Nat → Int32) (o_told : Nat → Int32) (k26 : Int32 → Int32 → Int32 → Int32 → Int32 → Int32 → Int64 → (Nat → Int32) → (Nat → Int32) → (Nat → Int32) → Int32 → Int32 → Int32 → Int32 → Option (Int32 × Int32 × Int32 × Int32 × Int32 × Int32 × Int32 × Int64 × (Nat → Int32) × (Nat → Int32) × (Nat → Int32))) (o_bank : Int32) (o_runRadix : Int32) (o_runOrder : Int32) (o_runNear : Int32) (o_runLimit : Int32) (o_runHalves : Int32) (o_drawn : Int64) (o_all : Nat → Int32) (o_laidIm : Nat → Int32) (o_laidRe : Nat → Int32) (v2 : Int32) (v3 : Int32) (v5 : Int32) (s0 : Int32) (s1 : Int32) : Option (Int32 × Int32 × Int32 × Int32 × Int32 × Int32 × Int32 × Int64 × (Nat → Int32) × (Nat → Int32) × (Nat → Int32)) :=
  nm (s0 + s1) (fun v4_31 =>
  bd6 (fX10_asItIs o_bank o_runRadix o_runOrder o_runNear o_runLimit o_runHalves o_told) (fun o_bank_32 o_runRadix_33 o_runOrder_34 o_runNear_35 o_runLimit_36 o_runHalves_37 =>
  nm (v5 + (1 : Int32)) (fun v5_39 =>
  k26 o_bank_32 o_runRadix_33 o_runOrder_34 o_runNear_35 o_runLimit_36 o_runHalves_37 o_drawn o_all o_laidIm o_laidRe v2 v3 v4_31 v5_39)))
def fX10_chanceOf_95 (o_power : Int32) (o_quarter : Nat → Int32) (o_told : Nat → Int32) (k26 : Int32 → Int32 → Int32 → Int32 → Int32 → Int32 → Int64 → (Nat → Int32) → (Nat → Int32) → (Nat → Int32) → Int32 → Int32 → Int32 → Int32 → Option (Int32 × Int32 × Int32 × Int32 × Int32 × Int32 × Int32 × Int64 × (Nat → Int32) × (Nat → Int32) × (Nat → Int32))) (o_bank : Int32) (o_runRadix : Int32) (o_runOrder : Int32) (o_runNear : Int32) (o_runLimit : Int32) (o_runHalves : Int32) (o_drawn : Int64) (o_all : Nat → Int32) (o_laidIm : Nat → Int32) (o_laidRe : Nat → Int32) (v2 : Int32) (v3 : Int32) (v4 : Int32) (v5 : Int32) : Option (Int32 × Int32 × Int32 × Int32 × Int32 × Int32 × Int32 × Int64 × (Nat → Int32) × (Nat → Int32) × (Nat → Int32)) :=
  bd4 (fX10_expRun o_bank o_runRadix o_runOrder o_runNear o_runLimit o_runHalves o_power o_all o_laidIm o_laidRe o_quarter o_told) (fun r_25 o_all_26 o_laidIm_27 o_laidRe_28 =>
  if r_25 < v3 then (
    fX10_chanceOf_110 o_power o_quarter o_told k26 o_bank o_runRadix o_runOrder o_runNear o_runLimit o_runHalves o_drawn o_all_26 o_laidIm_27 o_laidRe_28 v2 v3 v5 v4 (0 : Int32)
  ) else (
    fX10_chanceOf_110 o_power o_quarter o_told k26 o_bank o_runRadix o_runOrder o_runNear o_runLimit o_runHalves o_drawn o_all_26 o_laidIm_27 o_laidRe_28 v2 v3 v5 v4 (1 : Int32)
  ))
def fX10_chanceOf_40 (o_power : Int32) (o_quarter : Nat → Int32) (o_told : Nat → Int32) (k26 : Int32 → Int32 → Int32 → Int32 → Int32 → Int32 → Int64 → (Nat → Int32) → (Nat → Int32) → (Nat → Int32) → Int32 → Int32 → Int32 → Int32 → Option (Int32 × Int32 × Int32 × Int32 × Int32 × Int32 × Int32 × Int64 × (Nat → Int32) × (Nat → Int32) × (Nat → Int32))) : Nat → Int32 → Int32 → Int32 → Int32 → Int32 → Int32 → Int64 → (Nat → Int32) → (Nat → Int32) → (Nat → Int32) → Int32 → Int32 → Int32 → Int32 → Int32 → Option (Int32 × Int32 × Int32 × Int32 × Int32 × Int32 × Int32 × Int64 × (Nat → Int32) × (Nat → Int32) × (Nat → Int32))
  | 0, _, _, _, _, _, _, _, _, _, _, _, _, _, _, _ => none
  | n + 1, o_bank, o_runRadix, o_runOrder, o_runNear, o_runLimit, o_runHalves, o_drawn, o_all, o_laidIm, o_laidRe, v2, v3, v4, v5, v6 =>
    bd1 (fX10_size o_told) (fun r_7 =>
    if r_7 ≤ v6 then (
      fX10_chanceOf_95 o_power o_quarter o_told k26 o_bank o_runRadix o_runOrder o_runNear o_runLimit o_runHalves o_drawn o_all o_laidIm o_laidRe v2 v3 v4 v5
    ) else (
      bd1 (fX10_of o_bank o_all v6) (fun r_10 =>
      bd2 (fX10_noisy o_runLimit o_drawn r_10 v2) (fun r_12 o_drawn_13 =>
      bd1 (fX10_lay o_bank o_all v6 r_12) (fun o_all_15 =>
      bd1 (fX10_of o_bank o_all_15 ((32 : Int32) + v6)) (fun r_17 =>
      bd2 (fX10_noisy o_runLimit o_drawn_13 r_17 v2) (fun r_19 o_drawn_20 =>
      bd1 (fX10_lay o_bank o_all_15 ((32 : Int32) + v6) r_19) (fun o_all_22 =>
      nm (v6 + (1 : Int32)) (fun v6_24 =>
      fX10_chanceOf_40 o_power o_quarter o_told k26 n o_bank o_runRadix o_runOrder o_runNear o_runLimit o_runHalves o_drawn_20 o_all_22 o_laidIm o_laidRe v2 v3 v4 v5 v6_24)))))))
    ))
def fX10_chanceOf_26 (o_power : Int32) (o_quarter : Nat → Int32) (o_told : Nat → Int32) : Nat → Int32 → Int32 → Int32 → Int32 → Int32 → Int32 → Int64 → (Nat → Int32) → (Nat → Int32) → (Nat → Int32) → Int32 → Int32 → Int32 → Int32 → Option (Int32 × Int32 × Int32 × Int32 × Int32 × Int32 × Int32 × Int64 × (Nat → Int32) × (Nat → Int32) × (Nat → Int32))
  | 0, _, _, _, _, _, _, _, _, _, _, _, _, _, _ => none
  | n + 1, o_bank, o_runRadix, o_runOrder, o_runNear, o_runLimit, o_runHalves, o_drawn, o_all, o_laidIm, o_laidRe, v2, v3, v4, v5 =>
    if (10 : Int32) ≤ v5 then (
      some (v4, o_bank, o_runRadix, o_runOrder, o_runNear, o_runLimit, o_runHalves, o_drawn, o_all, o_laidIm, o_laidRe)
    ) else (
      bd2 (fX10_asWas o_bank o_all) (fun o_bank_4 o_all_5 =>
      fX10_chanceOf_40 o_power o_quarter o_told (fX10_chanceOf_26 o_power o_quarter o_told n) FU o_bank_4 o_runRadix o_runOrder o_runNear o_runLimit o_runHalves o_drawn o_all_5 o_laidIm o_laidRe v2 v3 v4 v5 (0 : Int32))
    )
def fX10_chanceOf_17 (o_power : Int32) (o_quarter : Nat → Int32) (o_told : Nat → Int32) (o_bank : Int32) (o_runRadix : Int32) (o_runOrder : Int32) (o_runNear : Int32) (o_runLimit : Int32) (o_runHalves : Int32) (o_drawn : Int64) (o_all : Nat → Int32) (o_laidIm : Nat → Int32) (o_laidRe : Nat → Int32) (v2 : Int32) (v3 : Int32) (s1 : Int64) : Option (Int32 × Int32 × Int32 × Int32 × Int32 × Int32 × Int32 × Int64 × (Nat → Int32) × (Nat → Int32) × (Nat → Int32)) :=
  fX10_chanceOf_26 o_power o_quarter o_told FU o_bank o_runRadix o_runOrder o_runNear o_runLimit o_runHalves s1 o_all o_laidIm o_laidRe v2 v3 (0 : Int32) (0 : Int32)
def fX10_chanceOf (o_bank : Int32) (o_runRadix : Int32) (o_runOrder : Int32) (o_runNear : Int32) (o_runLimit : Int32) (o_runHalves : Int32) (o_power : Int32) (o_drawn : Int64) (o_all : Nat → Int32) (o_laidIm : Nat → Int32) (o_laidRe : Nat → Int32) (o_quarter : Nat → Int32) (o_told : Nat → Int32) (p1 : Int32) (p2 : Int32) (p3 : Int32) : Option (Int32 × Int32 × Int32 × Int32 × Int32 × Int32 × Int32 × Int64 × (Nat → Int32) × (Nat → Int32) × (Nat → Int32)) :=
  if 0 ≤ p1 then (
    fX10_chanceOf_17 o_power o_quarter o_told o_bank o_runRadix o_runOrder o_runNear o_runLimit o_runHalves o_drawn o_all o_laidIm o_laidRe p2 p3 (Int32.toInt64 p1)
  ) else (
    gd (inb (5 : Int32) 12) (
    fX10_chanceOf_17 o_power o_quarter o_told o_bank o_runRadix o_runOrder o_runNear o_runLimit o_runHalves o_drawn o_all o_laidIm o_laidRe p2 p3 (Int32.toInt64 (o_told (Int32.toNatClampNeg (5 : Int32)))))
  )
set_option maxHeartbeats 4000000 in
set_option maxRecDepth 100000 in
theorem tX10_chanceOf (l : Launch) (G : va_G) (cI cJ cZ : ClassId) (sz : Nat) (h_o h_o_all h_o_laidIm h_o_laidRe h_o_quarter h_o_told h_o_tape h_o_words h_o_isTold h_o_toldWave h_o_isPoint h_o_roots h_o_byOrder h_o_noted1 h_o_counts h_o_binBy : Nat) (o_tapeSize : Int32) (o_thrown : Int32) (o_fault : Int32) (o_faultPlace : Int32) (o_stop : Int32) (o_next : Int32) (o_kind : Int32) (o_which : Int32) (o_at : Int32) (o_pointsRead : Int32) (o_bank : Int32) (o_isImage : Int32) (o_undos : Int32) (o_runRadix : Int32) (o_runOrder : Int32) (o_runNear : Int32) (o_runLimit : Int32) (o_runHalves : Int32) (o_power : Int32) (o_notedMany : Int32) (o_knownTold : Int32) (o_drawn : Int64) (o_all : Nat → Int32) (o_laidIm : Nat → Int32) (o_laidRe : Nat → Int32) (o_quarter : Nat → Int32) (o_told : Nat → Int32) (p1 : Int32) (p2 : Int32) (p3 : Int32) (r : Int32) (out_o_bank : Int32) (out_o_runRadix : Int32) (out_o_runOrder : Int32) (out_o_runNear : Int32) (out_o_runLimit : Int32) (out_o_runHalves : Int32) (out_o_drawn : Int64) (out_o_all : Nat → Int32) (out_o_laidIm : Nat → Int32) (out_o_laidRe : Nat → Int32) (hf : fX10_chanceOf o_bank o_runRadix o_runOrder o_runNear o_runLimit o_runHalves o_power o_drawn o_all o_laidIm o_laidRe o_quarter o_told p1 p2 p3 = some (r, out_o_bank, out_o_runRadix, out_o_runOrder, out_o_runNear, out_o_runLimit, out_o_runHalves, out_o_drawn, out_o_all, out_o_laidIm, out_o_laidRe)) : Met l yX10_chanceOf (Cond.code yX10_chanceOf cX10_chanceOf 7 (some .int) :: BIG) ({ frames := 8, cells := 0, slots := 0, locals := 187 } : Room) (cP G (TY3 cI cJ cZ) [.ref h_o, .int p1, .int p2, .int p3] sz (wX10_chanceOf cI cJ cZ h_o h_o_all h_o_laidIm h_o_laidRe h_o_quarter h_o_told h_o_tape h_o_words h_o_isTold h_o_toldWave h_o_isPoint h_o_roots h_o_byOrder h_o_noted1 h_o_counts h_o_binBy o_tapeSize o_thrown o_fault o_faultPlace o_stop o_next o_kind o_which o_at o_pointsRead o_bank o_isImage o_undos o_runRadix o_runOrder o_runNear o_runLimit o_runHalves o_power o_notedMany o_knownTold o_drawn o_all o_laidIm o_laidRe o_quarter o_told)) (cQ G (TY3 cI cJ cZ) sz (wX10_chanceOf cI cJ cZ h_o h_o_all h_o_laidIm h_o_laidRe h_o_quarter h_o_told h_o_tape h_o_words h_o_isTold h_o_toldWave h_o_isPoint h_o_roots h_o_byOrder h_o_noted1 h_o_counts h_o_binBy o_tapeSize o_thrown o_fault o_faultPlace o_stop o_next o_kind o_which o_at o_pointsRead o_bank o_isImage o_undos o_runRadix o_runOrder o_runNear o_runLimit o_runHalves o_power o_notedMany o_knownTold o_drawn o_all o_laidIm o_laidRe o_quarter o_told) (wX10_chanceOf cI cJ cZ h_o h_o_all h_o_laidIm h_o_laidRe h_o_quarter h_o_told h_o_tape h_o_words h_o_isTold h_o_toldWave h_o_isPoint h_o_roots h_o_byOrder h_o_noted1 h_o_counts h_o_binBy o_tapeSize o_thrown o_fault o_faultPlace o_stop o_next o_kind o_which o_at o_pointsRead out_o_bank o_isImage o_undos out_o_runRadix out_o_runOrder out_o_runNear out_o_runLimit out_o_runHalves o_power o_notedMany o_knownTold out_o_drawn out_o_all out_o_laidIm out_o_laidRe o_quarter o_told) (some (.int r))) 0 0 (va_A (wX10_chanceOf cI cJ cZ h_o h_o_all h_o_laidIm h_o_laidRe h_o_quarter h_o_told h_o_tape h_o_words h_o_isTold h_o_toldWave h_o_isPoint h_o_roots h_o_byOrder h_o_noted1 h_o_counts h_o_binBy o_tapeSize o_thrown o_fault o_faultPlace o_stop o_next o_kind o_which o_at o_pointsRead o_bank o_isImage o_undos o_runRadix o_runOrder o_runNear o_runLimit o_runHalves o_power o_notedMany o_knownTold o_drawn o_all o_laidIm o_laidRe o_quarter o_told) sz) := by
  refine met_i (cc := cX10_chanceOf) (maxL := 7) (plainFor_of_name (by decide)) (Nat.le_of_ble_eq_true rfl) (fun p e s m below meth c A ls Q hx hb hml hts hown hK hP hD hS hA hl hret => ?_)
  have hown : s.vm.findClass RX10 = some m.cls := hown
  have hl : lv_has ls 7 [(0, .ref h_o), (1, .int p1), (2, .int p2), (3, .int p3)] := hl
  have j110 : ∀ (k26 : Int32 → Int32 → Int32 → Int32 → Int32 → Int32 → Int64 → (Nat → Int32) → (Nat → Int32) → (Nat → Int32) → Int32 → Int32 → Int32 → Int32 → Option (Int32 × Int32 × Int32 × Int32 × Int32 × Int32 × Int32 × Int64 × (Nat → Int32) × (Nat → Int32) × (Nat → Int32))), (∀ (o_bank : Int32) (o_runRadix : Int32) (o_runOrder : Int32) (o_runNear : Int32) (o_runLimit : Int32) (o_runHalves : Int32) (o_drawn : Int64) (o_all : Nat → Int32) (o_laidIm : Nat → Int32) (o_laidRe : Nat → Int32) (v2 : Int32) (v3 : Int32) (v4 : Int32) (v5 : Int32) (H : Heap) (locs : List Loc) (ls : Array Slot), k26 o_bank o_runRadix o_runOrder o_runNear o_runLimit o_runHalves o_drawn o_all o_laidIm o_laidRe v2 v3 v4 v5 = some (r, out_o_bank, out_o_runRadix, out_o_runOrder, out_o_runNear, out_o_runLimit, out_o_runHalves, out_o_drawn, out_o_all, out_o_laidIm, out_o_laidRe) → va_P G vwCl (wX10_chanceOf cI cJ cZ h_o h_o_all h_o_laidIm h_o_laidRe h_o_quarter h_o_told h_o_tape h_o_words h_o_isTold h_o_toldWave h_o_isPoint h_o_roots h_o_byOrder h_o_noted1 h_o_counts h_o_binBy o_tapeSize o_thrown o_fault o_faultPlace o_stop o_next o_kind o_which o_at o_pointsRead o_bank o_isImage o_undos o_runRadix o_runOrder o_runNear o_runLimit o_runHalves o_power o_notedMany o_knownTold o_drawn o_all o_laidIm o_laidRe o_quarter o_told) H → va_D A (wX10_chanceOf cI cJ cZ h_o h_o_all h_o_laidIm h_o_laidRe h_o_quarter h_o_told h_o_tape h_o_words h_o_isTold h_o_toldWave h_o_isPoint h_o_roots h_o_byOrder h_o_noted1 h_o_counts h_o_binBy o_tapeSize o_thrown o_fault o_faultPlace o_stop o_next o_kind o_which o_at o_pointsRead o_bank o_isImage o_undos o_runRadix o_runOrder o_runNear o_runLimit o_runHalves o_power o_notedMany o_knownTold o_drawn o_all o_laidIm o_laidRe o_quarter o_told) → va_S A s.heap H locs → lv_has ls 7 [(0, .ref h_o), (2, .int v2), (3, .int v3), (4, .int v4), (5, .int v5)] → W p l e ({ frames := 8, cells := 0, slots := 0, locals := 187 } : Room) s m ([.ref h_o, .int p1, .int p2, .int p3] : List Value).toArray below meth c H locs 0 0 Q (F0 m 26 ls [])) → ∀ (o_bank : Int32) (o_runRadix : Int32) (o_runOrder : Int32) (o_runNear : Int32) (o_runLimit : Int32) (o_runHalves : Int32) (o_drawn : Int64) (o_all : Nat → Int32) (o_laidIm : Nat → Int32) (o_laidRe : Nat → Int32) (v2 : Int32) (v3 : Int32) (v5 : Int32) (s0 : Int32) (s1 : Int32) (H : Heap) (locs : List Loc) (ls : Array Slot), fX10_chanceOf_110 o_power o_quarter o_told k26 o_bank o_runRadix o_runOrder o_runNear o_runLimit o_runHalves o_drawn o_all o_laidIm o_laidRe v2 v3 v5 s0 s1 = some (r, out_o_bank, out_o_runRadix, out_o_runOrder, out_o_runNear, out_o_runLimit, out_o_runHalves, out_o_drawn, out_o_all, out_o_laidIm, out_o_laidRe) → va_P G vwCl (wX10_chanceOf cI cJ cZ h_o h_o_all h_o_laidIm h_o_laidRe h_o_quarter h_o_told h_o_tape h_o_words h_o_isTold h_o_toldWave h_o_isPoint h_o_roots h_o_byOrder h_o_noted1 h_o_counts h_o_binBy o_tapeSize o_thrown o_fault o_faultPlace o_stop o_next o_kind o_which o_at o_pointsRead o_bank o_isImage o_undos o_runRadix o_runOrder o_runNear o_runLimit o_runHalves o_power o_notedMany o_knownTold o_drawn o_all o_laidIm o_laidRe o_quarter o_told) H → va_D A (wX10_chanceOf cI cJ cZ h_o h_o_all h_o_laidIm h_o_laidRe h_o_quarter h_o_told h_o_tape h_o_words h_o_isTold h_o_toldWave h_o_isPoint h_o_roots h_o_byOrder h_o_noted1 h_o_counts h_o_binBy o_tapeSize o_thrown o_fault o_faultPlace o_stop o_next o_kind o_which o_at o_pointsRead o_bank o_isImage o_undos o_runRadix o_runOrder o_runNear o_runLimit o_runHalves o_power o_notedMany o_knownTold o_drawn o_all o_laidIm o_laidRe o_quarter o_told) → va_S A s.heap H locs → lv_has ls 7 [(0, .ref h_o), (2, .int v2), (3, .int v3), (5, .int v5)] → W p l e ({ frames := 8, cells := 0, slots := 0, locals := 187 } : Room) s m ([.ref h_o, .int p1, .int p2, .int p3] : List Value).toArray below meth c H locs 0 0 Q (F0 m 110 ls [.int s1, .int s0]) := by
    intro k26 hk26 o_bank o_runRadix o_runOrder o_runNear o_runLimit o_runHalves o_drawn o_all o_laidIm o_laidRe v2 v3 v5 s0 s1 H locs ls hf hP hD hS hl
    unfold fX10_chanceOf_110 at hf
    refine lv_iadd hx hb dX10_chanceOf_110 ?_
    refine lv_topi (fun v4_31 ev4_31 => ?_)
    have hf := nm_x ev4_31 hf
    refine lv_istore (lv' := [(4, .int v4_31), (0, .ref h_o), (2, .int v2), (3, .int v3), (5, .int v5)]) hx hb dX10_chanceOf_111 hl (by decide) rfl (fun ls hl => ?_)
    refine lv_aload_n hx hb dX10_chanceOf_113 rfl (lv_at hl 1 rfl) ?_
    obtain ⟨o_bank_32, o_runRadix_33, o_runOrder_34, o_runNear_35, o_runLimit_36, o_runHalves_37, e_38, hf⟩ := bd6_x hf
    refine call_v [] [] ⟨hx, hb, hml, hown, hts⟩ hK hP hD hS hA hl.1 (tX10_asItIs l G cI cJ cZ H.size h_o h_o_told h_o_tape h_o_words h_o_isTold h_o_toldWave h_o_isPoint h_o_all h_o_quarter h_o_roots h_o_laidRe h_o_laidIm h_o_byOrder h_o_noted1 h_o_counts h_o_binBy o_tapeSize o_thrown o_fault o_faultPlace o_stop o_next o_kind o_which o_at o_pointsRead o_bank o_isImage o_undos o_runRadix o_runOrder o_runNear o_runLimit o_runHalves o_power o_notedMany o_knownTold o_drawn o_told o_bank_32 o_runRadix_33 o_runOrder_34 o_runNear_35 o_runLimit_36 o_runHalves_37 e_38) (cwV 0 hts (gv q_mX10_289 q_i_yX10_asItIs q_s_yX10_asItIs q_n_RX10 q_k_yX10_asItIs) rfl rfl rfl (by decide +kernel) ⟨by decide, by decide⟩) rfl rfl (Nat.le_of_ble_eq_true rfl) dX10_chanceOf_114 ⟨Nat.zero_le _, Nat.zero_le _⟩ (ci := 10) rfl 0 rfl [0, 5] [1, 2, 3, 4] [4, 0, 1, 2, 3, 5] rfl rfl (ws2 := (wX10_chanceOf cI cJ cZ h_o h_o_all h_o_laidIm h_o_laidRe h_o_quarter h_o_told h_o_tape h_o_words h_o_isTold h_o_toldWave h_o_isPoint h_o_roots h_o_byOrder h_o_noted1 h_o_counts h_o_binBy o_tapeSize o_thrown o_fault o_faultPlace o_stop o_next o_kind o_which o_at o_pointsRead o_bank_32 o_isImage o_undos o_runRadix_33 o_runOrder_34 o_runNear_35 o_runLimit_36 o_runHalves_37 o_power o_notedMany o_knownTold o_drawn o_all o_laidIm o_laidRe o_quarter o_told)) rfl (fun H locs hP hD hS => ?_)
    refine W.eq (g2 := F0 m 117 ls []) rfl ?_
    obtain ⟨v5_39, ev5_39⟩ : ∃ y : Int32, y = v5 + (1 : Int32) := ⟨_, rfl⟩
    have hf := nm_x ev5_39 hf
    refine lv_iinc (v := v5_39) (lv' := [(5, .int v5_39), (4, .int v4_31), (0, .ref h_o), (2, .int v2), (3, .int v3)]) hx hb dX10_chanceOf_117 hl (k := 4) rfl (by rw [ev5_39]; rfl) (by decide) rfl (fun ls hl => ?_)
    refine lv_goto (tgt := 26) hx hb dX10_chanceOf_120 (by decide) ?_
    exact hk26 o_bank_32 o_runRadix_33 o_runOrder_34 o_runNear_35 o_runLimit_36 o_runHalves_37 o_drawn o_all o_laidIm o_laidRe v2 v3 v4_31 v5_39 H locs ls hf hP hD hS (lv_sub hl [2, 3, 4, 1, 0] rfl)
  have j95 : ∀ (k26 : Int32 → Int32 → Int32 → Int32 → Int32 → Int32 → Int64 → (Nat → Int32) → (Nat → Int32) → (Nat → Int32) → Int32 → Int32 → Int32 → Int32 → Option (Int32 × Int32 × Int32 × Int32 × Int32 × Int32 × Int32 × Int64 × (Nat → Int32) × (Nat → Int32) × (Nat → Int32))), (∀ (o_bank : Int32) (o_runRadix : Int32) (o_runOrder : Int32) (o_runNear : Int32) (o_runLimit : Int32) (o_runHalves : Int32) (o_drawn : Int64) (o_all : Nat → Int32) (o_laidIm : Nat → Int32) (o_laidRe : Nat → Int32) (v2 : Int32) (v3 : Int32) (v4 : Int32) (v5 : Int32) (H : Heap) (locs : List Loc) (ls : Array Slot), k26 o_bank o_runRadix o_runOrder o_runNear o_runLimit o_runHalves o_drawn o_all o_laidIm o_laidRe v2 v3 v4 v5 = some (r, out_o_bank, out_o_runRadix, out_o_runOrder, out_o_runNear, out_o_runLimit, out_o_runHalves, out_o_drawn, out_o_all, out_o_laidIm, out_o_laidRe) → va_P G vwCl (wX10_chanceOf cI cJ cZ h_o h_o_all h_o_laidIm h_o_laidRe h_o_quarter h_o_told h_o_tape h_o_words h_o_isTold h_o_toldWave h_o_isPoint h_o_roots h_o_byOrder h_o_noted1 h_o_counts h_o_binBy o_tapeSize o_thrown o_fault o_faultPlace o_stop o_next o_kind o_which o_at o_pointsRead o_bank o_isImage o_undos o_runRadix o_runOrder o_runNear o_runLimit o_runHalves o_power o_notedMany o_knownTold o_drawn o_all o_laidIm o_laidRe o_quarter o_told) H → va_D A (wX10_chanceOf cI cJ cZ h_o h_o_all h_o_laidIm h_o_laidRe h_o_quarter h_o_told h_o_tape h_o_words h_o_isTold h_o_toldWave h_o_isPoint h_o_roots h_o_byOrder h_o_noted1 h_o_counts h_o_binBy o_tapeSize o_thrown o_fault o_faultPlace o_stop o_next o_kind o_which o_at o_pointsRead o_bank o_isImage o_undos o_runRadix o_runOrder o_runNear o_runLimit o_runHalves o_power o_notedMany o_knownTold o_drawn o_all o_laidIm o_laidRe o_quarter o_told) → va_S A s.heap H locs → lv_has ls 7 [(0, .ref h_o), (2, .int v2), (3, .int v3), (4, .int v4), (5, .int v5)] → W p l e ({ frames := 8, cells := 0, slots := 0, locals := 187 } : Room) s m ([.ref h_o, .int p1, .int p2, .int p3] : List Value).toArray below meth c H locs 0 0 Q (F0 m 26 ls [])) → ∀ (o_bank : Int32) (o_runRadix : Int32) (o_runOrder : Int32) (o_runNear : Int32) (o_runLimit : Int32) (o_runHalves : Int32) (o_drawn : Int64) (o_all : Nat → Int32) (o_laidIm : Nat → Int32) (o_laidRe : Nat → Int32) (v2 : Int32) (v3 : Int32) (v4 : Int32) (v5 : Int32) (H : Heap) (locs : List Loc) (ls : Array Slot), fX10_chanceOf_95 o_power o_quarter o_told k26 o_bank o_runRadix o_runOrder o_runNear o_runLimit o_runHalves o_drawn o_all o_laidIm o_laidRe v2 v3 v4 v5 = some (r, out_o_bank, out_o_runRadix, out_o_runOrder, out_o_runNear, out_o_runLimit, out_o_runHalves, out_o_drawn, out_o_all, out_o_laidIm, out_o_laidRe) → va_P G vwCl (wX10_chanceOf cI cJ cZ h_o h_o_all h_o_laidIm h_o_laidRe h_o_quarter h_o_told h_o_tape h_o_words h_o_isTold h_o_toldWave h_o_isPoint h_o_roots h_o_byOrder h_o_noted1 h_o_counts h_o_binBy o_tapeSize o_thrown o_fault o_faultPlace o_stop o_next o_kind o_which o_at o_pointsRead o_bank o_isImage o_undos o_runRadix o_runOrder o_runNear o_runLimit o_runHalves o_power o_notedMany o_knownTold o_drawn o_all o_laidIm o_laidRe o_quarter o_told) H → va_D A (wX10_chanceOf cI cJ cZ h_o h_o_all h_o_laidIm h_o_laidRe h_o_quarter h_o_told h_o_tape h_o_words h_o_isTold h_o_toldWave h_o_isPoint h_o_roots h_o_byOrder h_o_noted1 h_o_counts h_o_binBy o_tapeSize o_thrown o_fault o_faultPlace o_stop o_next o_kind o_which o_at o_pointsRead o_bank o_isImage o_undos o_runRadix o_runOrder o_runNear o_runLimit o_runHalves o_power o_notedMany o_knownTold o_drawn o_all o_laidIm o_laidRe o_quarter o_told) → va_S A s.heap H locs → lv_has ls 7 [(0, .ref h_o), (2, .int v2), (3, .int v3), (4, .int v4), (5, .int v5)] → W p l e ({ frames := 8, cells := 0, slots := 0, locals := 187 } : Room) s m ([.ref h_o, .int p1, .int p2, .int p3] : List Value).toArray below meth c H locs 0 0 Q (F0 m 95 ls []) := by
    intro k26 hk26 o_bank o_runRadix o_runOrder o_runNear o_runLimit o_runHalves o_drawn o_all o_laidIm o_laidRe v2 v3 v4 v5 H locs ls hf hP hD hS hl
    unfold fX10_chanceOf_95 at hf
    refine lv_iload hx hb dX10_chanceOf_95 (lv_at hl 3 rfl) ?_
    refine lv_aload_n hx hb dX10_chanceOf_97 rfl (lv_at hl 0 rfl) ?_
    obtain ⟨r_25, o_all_26, o_laidIm_27, o_laidRe_28, e_29, hf⟩ := bd4_x hf
    refine call_v [] [.int v4] ⟨hx, hb, hml, hown, hts⟩ hK hP hD hS hA hl.1 (tX10_expRun l G cI cJ cZ H.size h_o h_o_all h_o_laidIm h_o_laidRe h_o_quarter h_o_told h_o_tape h_o_words h_o_isTold h_o_toldWave h_o_isPoint h_o_roots h_o_byOrder h_o_noted1 h_o_counts h_o_binBy o_tapeSize o_thrown o_fault o_faultPlace o_stop o_next o_kind o_which o_at o_pointsRead o_bank o_isImage o_undos o_runRadix o_runOrder o_runNear o_runLimit o_runHalves o_power o_notedMany o_knownTold o_drawn o_all o_laidIm o_laidRe o_quarter o_told r_25 o_all_26 o_laidIm_27 o_laidRe_28 e_29) (cwV 0 hts (gv q_mX10_314 q_i_yX10_expRun q_s_yX10_expRun q_n_RX10 q_k_yX10_expRun) rfl rfl rfl (by decide +kernel) ⟨by decide, by decide⟩) rfl rfl (Nat.le_of_ble_eq_true rfl) dX10_chanceOf_98 ⟨Nat.zero_le _, Nat.zero_le _⟩ (ci := 10) rfl 0 rfl [0, 1, 2, 3, 4, 5] [] [0, 1, 2, 3, 4, 5] rfl rfl (ws2 := (wX10_chanceOf cI cJ cZ h_o h_o_all h_o_laidIm h_o_laidRe h_o_quarter h_o_told h_o_tape h_o_words h_o_isTold h_o_toldWave h_o_isPoint h_o_roots h_o_byOrder h_o_noted1 h_o_counts h_o_binBy o_tapeSize o_thrown o_fault o_faultPlace o_stop o_next o_kind o_which o_at o_pointsRead o_bank o_isImage o_undos o_runRadix o_runOrder o_runNear o_runLimit o_runHalves o_power o_notedMany o_knownTold o_drawn o_all_26 o_laidIm_27 o_laidRe_28 o_quarter o_told)) rfl (fun H locs hP hD hS => ?_)
    refine W.eq (g2 := F0 m 101 ls [.int r_25, .int v4]) rfl ?_
    refine lv_iload_n hx hb dX10_chanceOf_101 rfl (lv_at hl 2 rfl) ?_
    refine lv_icmp_lt (tgt := 109) hx hb dX10_chanceOf_102 (by decide) (fun c_30 => ?_) (fun c_30 => ?_)
    · have hf := it_t c_30 hf
      refine lv_iconst (v := (0 : Int32)) hx hb dX10_chanceOf_109 (by decide) ?_
      exact j110 k26 hk26 o_bank o_runRadix o_runOrder o_runNear o_runLimit o_runHalves o_drawn o_all_26 o_laidIm_27 o_laidRe_28 v2 v3 v5 v4 (0 : Int32) H locs ls hf hP hD hS (lv_sub hl [0, 1, 2, 4] rfl)
    · have hf := it_f c_30 hf
      refine lv_iconst (v := (1 : Int32)) hx hb dX10_chanceOf_105 (by decide) ?_
      refine lv_goto (tgt := 110) hx hb dX10_chanceOf_106 (by decide) ?_
      exact j110 k26 hk26 o_bank o_runRadix o_runOrder o_runNear o_runLimit o_runHalves o_drawn o_all_26 o_laidIm_27 o_laidRe_28 v2 v3 v5 v4 (1 : Int32) H locs ls hf hP hD hS (lv_sub hl [0, 1, 2, 4] rfl)
  have j40 : ∀ (k26 : Int32 → Int32 → Int32 → Int32 → Int32 → Int32 → Int64 → (Nat → Int32) → (Nat → Int32) → (Nat → Int32) → Int32 → Int32 → Int32 → Int32 → Option (Int32 × Int32 × Int32 × Int32 × Int32 × Int32 × Int32 × Int64 × (Nat → Int32) × (Nat → Int32) × (Nat → Int32))), (∀ (o_bank : Int32) (o_runRadix : Int32) (o_runOrder : Int32) (o_runNear : Int32) (o_runLimit : Int32) (o_runHalves : Int32) (o_drawn : Int64) (o_all : Nat → Int32) (o_laidIm : Nat → Int32) (o_laidRe : Nat → Int32) (v2 : Int32) (v3 : Int32) (v4 : Int32) (v5 : Int32) (H : Heap) (locs : List Loc) (ls : Array Slot), k26 o_bank o_runRadix o_runOrder o_runNear o_runLimit o_runHalves o_drawn o_all o_laidIm o_laidRe v2 v3 v4 v5 = some (r, out_o_bank, out_o_runRadix, out_o_runOrder, out_o_runNear, out_o_runLimit, out_o_runHalves, out_o_drawn, out_o_all, out_o_laidIm, out_o_laidRe) → va_P G vwCl (wX10_chanceOf cI cJ cZ h_o h_o_all h_o_laidIm h_o_laidRe h_o_quarter h_o_told h_o_tape h_o_words h_o_isTold h_o_toldWave h_o_isPoint h_o_roots h_o_byOrder h_o_noted1 h_o_counts h_o_binBy o_tapeSize o_thrown o_fault o_faultPlace o_stop o_next o_kind o_which o_at o_pointsRead o_bank o_isImage o_undos o_runRadix o_runOrder o_runNear o_runLimit o_runHalves o_power o_notedMany o_knownTold o_drawn o_all o_laidIm o_laidRe o_quarter o_told) H → va_D A (wX10_chanceOf cI cJ cZ h_o h_o_all h_o_laidIm h_o_laidRe h_o_quarter h_o_told h_o_tape h_o_words h_o_isTold h_o_toldWave h_o_isPoint h_o_roots h_o_byOrder h_o_noted1 h_o_counts h_o_binBy o_tapeSize o_thrown o_fault o_faultPlace o_stop o_next o_kind o_which o_at o_pointsRead o_bank o_isImage o_undos o_runRadix o_runOrder o_runNear o_runLimit o_runHalves o_power o_notedMany o_knownTold o_drawn o_all o_laidIm o_laidRe o_quarter o_told) → va_S A s.heap H locs → lv_has ls 7 [(0, .ref h_o), (2, .int v2), (3, .int v3), (4, .int v4), (5, .int v5)] → W p l e ({ frames := 8, cells := 0, slots := 0, locals := 187 } : Room) s m ([.ref h_o, .int p1, .int p2, .int p3] : List Value).toArray below meth c H locs 0 0 Q (F0 m 26 ls [])) → ∀ (n : Nat) (o_bank : Int32) (o_runRadix : Int32) (o_runOrder : Int32) (o_runNear : Int32) (o_runLimit : Int32) (o_runHalves : Int32) (o_drawn : Int64) (o_all : Nat → Int32) (o_laidIm : Nat → Int32) (o_laidRe : Nat → Int32) (v2 : Int32) (v3 : Int32) (v4 : Int32) (v5 : Int32) (v6 : Int32) (H : Heap) (locs : List Loc) (ls : Array Slot), fX10_chanceOf_40 o_power o_quarter o_told k26 n o_bank o_runRadix o_runOrder o_runNear o_runLimit o_runHalves o_drawn o_all o_laidIm o_laidRe v2 v3 v4 v5 v6 = some (r, out_o_bank, out_o_runRadix, out_o_runOrder, out_o_runNear, out_o_runLimit, out_o_runHalves, out_o_drawn, out_o_all, out_o_laidIm, out_o_laidRe) → va_P G vwCl (wX10_chanceOf cI cJ cZ h_o h_o_all h_o_laidIm h_o_laidRe h_o_quarter h_o_told h_o_tape h_o_words h_o_isTold h_o_toldWave h_o_isPoint h_o_roots h_o_byOrder h_o_noted1 h_o_counts h_o_binBy o_tapeSize o_thrown o_fault o_faultPlace o_stop o_next o_kind o_which o_at o_pointsRead o_bank o_isImage o_undos o_runRadix o_runOrder o_runNear o_runLimit o_runHalves o_power o_notedMany o_knownTold o_drawn o_all o_laidIm o_laidRe o_quarter o_told) H → va_D A (wX10_chanceOf cI cJ cZ h_o h_o_all h_o_laidIm h_o_laidRe h_o_quarter h_o_told h_o_tape h_o_words h_o_isTold h_o_toldWave h_o_isPoint h_o_roots h_o_byOrder h_o_noted1 h_o_counts h_o_binBy o_tapeSize o_thrown o_fault o_faultPlace o_stop o_next o_kind o_which o_at o_pointsRead o_bank o_isImage o_undos o_runRadix o_runOrder o_runNear o_runLimit o_runHalves o_power o_notedMany o_knownTold o_drawn o_all o_laidIm o_laidRe o_quarter o_told) → va_S A s.heap H locs → lv_has ls 7 [(0, .ref h_o), (2, .int v2), (3, .int v3), (4, .int v4), (5, .int v5), (6, .int v6)] → W p l e ({ frames := 8, cells := 0, slots := 0, locals := 187 } : Room) s m ([.ref h_o, .int p1, .int p2, .int p3] : List Value).toArray below meth c H locs 0 0 Q (F0 m 40 ls []) := by
    intro k26 hk26 n
    induction n with
    | zero =>
      intro o_bank o_runRadix o_runOrder o_runNear o_runLimit o_runHalves o_drawn o_all o_laidIm o_laidRe v2 v3 v4 v5 v6 H locs ls hf
      have hf : (none : Option (Int32 × Int32 × Int32 × Int32 × Int32 × Int32 × Int32 × Int64 × (Nat → Int32) × (Nat → Int32) × (Nat → Int32))) = some (r, out_o_bank, out_o_runRadix, out_o_runOrder, out_o_runNear, out_o_runLimit, out_o_runHalves, out_o_drawn, out_o_all, out_o_laidIm, out_o_laidRe) := hf
      cases hf
    | succ n ih =>
      intro o_bank o_runRadix o_runOrder o_runNear o_runLimit o_runHalves o_drawn o_all o_laidIm o_laidRe v2 v3 v4 v5 v6 H locs ls hf hP hD hS hl
      rw [fX10_chanceOf_40.eq_2] at hf
      refine lv_iload hx hb dX10_chanceOf_40 (lv_at hl 5 rfl) ?_
      refine lv_aload_n hx hb dX10_chanceOf_42 rfl (lv_at hl 0 rfl) ?_
      obtain ⟨r_7, e_8, hf⟩ := bd1_x hf
      refine call_v [] [.int v6] ⟨hx, hb, hml, hown, hts⟩ hK hP hD hS hA hl.1 (tX10_size l G cI cJ cZ H.size h_o h_o_told h_o_tape h_o_words h_o_isTold h_o_toldWave h_o_isPoint h_o_all h_o_quarter h_o_roots h_o_laidRe h_o_laidIm h_o_byOrder h_o_noted1 h_o_counts h_o_binBy o_tapeSize o_thrown o_fault o_faultPlace o_stop o_next o_kind o_which o_at o_pointsRead o_bank o_isImage o_undos o_runRadix o_runOrder o_runNear o_runLimit o_runHalves o_power o_notedMany o_knownTold o_drawn o_told r_7 e_8) (cwV 0 hts (gv q_mX10_196 q_i_yX10_size q_s_yX10_size q_n_RX10 q_k_yX10_size) rfl rfl rfl (by decide +kernel) ⟨by decide, by decide⟩) rfl rfl (Nat.le_of_ble_eq_true rfl) dX10_chanceOf_43 ⟨Nat.zero_le _, Nat.zero_le _⟩ (ci := 10) rfl 0 rfl [0, 5] [1, 2, 3, 4] [4, 0, 1, 2, 3, 5] rfl rfl (ws2 := (wX10_chanceOf cI cJ cZ h_o h_o_all h_o_laidIm h_o_laidRe h_o_quarter h_o_told h_o_tape h_o_words h_o_isTold h_o_toldWave h_o_isPoint h_o_roots h_o_byOrder h_o_noted1 h_o_counts h_o_binBy o_tapeSize o_thrown o_fault o_faultPlace o_stop o_next o_kind o_which o_at o_pointsRead o_bank o_isImage o_undos o_runRadix o_runOrder o_runNear o_runLimit o_runHalves o_power o_notedMany o_knownTold o_drawn o_all o_laidIm o_laidRe o_quarter o_told)) rfl (fun H locs hP hD hS => ?_)
      refine W.eq (g2 := F0 m 46 ls [.int r_7, .int v6]) rfl ?_
      refine lv_icmp_ge (tgt := 95) hx hb dX10_chanceOf_46 (by decide) (fun c_9 => ?_) (fun c_9 => ?_)
      · have hf := it_t c_9 hf
        exact j95 k26 hk26 o_bank o_runRadix o_runOrder o_runNear o_runLimit o_runHalves o_drawn o_all o_laidIm o_laidRe v2 v3 v4 v5 H locs ls hf hP hD hS (lv_sub hl [0, 1, 2, 3, 4] rfl)
      · have hf := it_f c_9 hf
        refine lv_aload_n hx hb dX10_chanceOf_49 rfl (lv_at hl 0 rfl) ?_
        refine lv_iload hx hb dX10_chanceOf_50 (lv_at hl 5 rfl) ?_
        refine lv_aload_n hx hb dX10_chanceOf_52 rfl (lv_at hl 0 rfl) ?_
        refine lv_aload_n hx hb dX10_chanceOf_53 rfl (lv_at hl 0 rfl) ?_
        refine lv_iload hx hb dX10_chanceOf_54 (lv_at hl 5 rfl) ?_
        obtain ⟨r_10, e_11, hf⟩ := bd1_x hf
        refine call_v [.int v6] [.ref h_o, .int v6, .ref h_o] ⟨hx, hb, hml, hown, hts⟩ hK hP hD hS hA hl.1 (tX10_of l G cI cJ cZ H.size h_o h_o_all h_o_tape h_o_words h_o_told h_o_isTold h_o_toldWave h_o_isPoint h_o_quarter h_o_roots h_o_laidRe h_o_laidIm h_o_byOrder h_o_noted1 h_o_counts h_o_binBy o_tapeSize o_thrown o_fault o_faultPlace o_stop o_next o_kind o_which o_at o_pointsRead o_bank o_isImage o_undos o_runRadix o_runOrder o_runNear o_runLimit o_runHalves o_power o_notedMany o_knownTold o_drawn o_all v6 r_10 e_11) (cwV 1 hts (gv q_mX10_187 q_i_yX10_of q_s_yX10_of q_n_RX10 q_k_yX10_of) rfl rfl rfl (by decide +kernel) ⟨by decide, by decide⟩) rfl rfl (Nat.le_of_ble_eq_true rfl) dX10_chanceOf_56 ⟨Nat.zero_le _, Nat.zero_le _⟩ (ci := 10) rfl 0 rfl [0, 1] [2, 3, 4, 5] [4, 5, 0, 1, 2, 3] rfl rfl (ws2 := (wX10_chanceOf cI cJ cZ h_o h_o_all h_o_laidIm h_o_laidRe h_o_quarter h_o_told h_o_tape h_o_words h_o_isTold h_o_toldWave h_o_isPoint h_o_roots h_o_byOrder h_o_noted1 h_o_counts h_o_binBy o_tapeSize o_thrown o_fault o_faultPlace o_stop o_next o_kind o_which o_at o_pointsRead o_bank o_isImage o_undos o_runRadix o_runOrder o_runNear o_runLimit o_runHalves o_power o_notedMany o_knownTold o_drawn o_all o_laidIm o_laidRe o_quarter o_told)) rfl (fun H locs hP hD hS => ?_)
        refine W.eq (g2 := F0 m 59 ls [.int r_10, .ref h_o, .int v6, .ref h_o]) rfl ?_
        refine lv_iload_n hx hb dX10_chanceOf_59 rfl (lv_at hl 1 rfl) ?_
        obtain ⟨r_12, o_drawn_13, e_14, hf⟩ := bd2_x hf
        refine call_v [.int r_10, .int v2] [.int v6, .ref h_o] ⟨hx, hb, hml, hown, hts⟩ hK hP hD hS hA hl.1 (tX10_noisy l G cI cJ cZ H.size h_o h_o_tape h_o_words h_o_told h_o_isTold h_o_toldWave h_o_isPoint h_o_all h_o_quarter h_o_roots h_o_laidRe h_o_laidIm h_o_byOrder h_o_noted1 h_o_counts h_o_binBy o_tapeSize o_thrown o_fault o_faultPlace o_stop o_next o_kind o_which o_at o_pointsRead o_bank o_isImage o_undos o_runRadix o_runOrder o_runNear o_runLimit o_runHalves o_power o_notedMany o_knownTold o_drawn r_10 v2 r_12 o_drawn_13 e_14) (cwV 2 hts (gv q_mX10_402 q_i_yX10_noisy q_s_yX10_noisy q_n_RX10 q_k_yX10_noisy) rfl rfl rfl (by decide +kernel) ⟨by decide, by decide⟩) rfl rfl (Nat.le_of_ble_eq_true rfl) dX10_chanceOf_60 ⟨Nat.zero_le _, Nat.zero_le _⟩ (ci := 10) rfl 0 rfl [0] [1, 2, 3, 4, 5] [5, 0, 1, 2, 3, 4] rfl rfl (ws2 := (wX10_chanceOf cI cJ cZ h_o h_o_all h_o_laidIm h_o_laidRe h_o_quarter h_o_told h_o_tape h_o_words h_o_isTold h_o_toldWave h_o_isPoint h_o_roots h_o_byOrder h_o_noted1 h_o_counts h_o_binBy o_tapeSize o_thrown o_fault o_faultPlace o_stop o_next o_kind o_which o_at o_pointsRead o_bank o_isImage o_undos o_runRadix o_runOrder o_runNear o_runLimit o_runHalves o_power o_notedMany o_knownTold o_drawn_13 o_all o_laidIm o_laidRe o_quarter o_told)) rfl (fun H locs hP hD hS => ?_)
        refine W.eq (g2 := F0 m 63 ls [.int r_12, .int v6, .ref h_o]) rfl ?_
        obtain ⟨o_all_15, e_16, hf⟩ := bd1_x hf
        refine call_v [.int v6, .int r_12] [] ⟨hx, hb, hml, hown, hts⟩ hK hP hD hS hA hl.1 (tX10_lay l G cI cJ cZ H.size h_o h_o_all h_o_tape h_o_words h_o_told h_o_isTold h_o_toldWave h_o_isPoint h_o_quarter h_o_roots h_o_laidRe h_o_laidIm h_o_byOrder h_o_noted1 h_o_counts h_o_binBy o_tapeSize o_thrown o_fault o_faultPlace o_stop o_next o_kind o_which o_at o_pointsRead o_bank o_isImage o_undos o_runRadix o_runOrder o_runNear o_runLimit o_runHalves o_power o_notedMany o_knownTold o_drawn_13 o_all v6 r_12 o_all_15 e_16) (cwV 2 hts (gv q_mX10_118 q_i_yX10_lay q_s_yX10_lay q_n_RX10 q_k_yX10_lay) rfl rfl rfl (by decide +kernel) ⟨by decide, by decide⟩) rfl rfl (Nat.le_of_ble_eq_true rfl) dX10_chanceOf_63 ⟨Nat.zero_le _, Nat.zero_le _⟩ (ci := 10) rfl 0 rfl [0, 1] [2, 3, 4, 5] [4, 5, 0, 1, 2, 3] rfl rfl (ws2 := (wX10_chanceOf cI cJ cZ h_o h_o_all h_o_laidIm h_o_laidRe h_o_quarter h_o_told h_o_tape h_o_words h_o_isTold h_o_toldWave h_o_isPoint h_o_roots h_o_byOrder h_o_noted1 h_o_counts h_o_binBy o_tapeSize o_thrown o_fault o_faultPlace o_stop o_next o_kind o_which o_at o_pointsRead o_bank o_isImage o_undos o_runRadix o_runOrder o_runNear o_runLimit o_runHalves o_power o_notedMany o_knownTold o_drawn_13 o_all_15 o_laidIm o_laidRe o_quarter o_told)) rfl (fun H locs hP hD hS => ?_)
        refine W.eq (g2 := F0 m 66 ls []) rfl ?_
        refine lv_aload_n hx hb dX10_chanceOf_66 rfl (lv_at hl 0 rfl) ?_
        refine lv_bipush (v := (32 : Int32)) hx hb dX10_chanceOf_67 (by decide) ?_
        refine lv_iload hx hb dX10_chanceOf_69 (lv_at hl 5 rfl) ?_
        refine lv_iadd hx hb dX10_chanceOf_71 ?_
        refine lv_aload_n hx hb dX10_chanceOf_72 rfl (lv_at hl 0 rfl) ?_
        refine lv_aload_n hx hb dX10_chanceOf_73 rfl (lv_at hl 0 rfl) ?_
        refine lv_bipush (v := (32 : Int32)) hx hb dX10_chanceOf_74 (by decide) ?_
        refine lv_iload hx hb dX10_chanceOf_76 (lv_at hl 5 rfl) ?_
        refine lv_iadd hx hb dX10_chanceOf_78 ?_
        obtain ⟨r_17, e_18, hf⟩ := bd1_x hf
        refine call_v [.int ((32 : Int32) + v6)] [.ref h_o, .int ((32 : Int32) + v6), .ref h_o] ⟨hx, hb, hml, hown, hts⟩ hK hP hD hS hA hl.1 (tX10_of l G cI cJ cZ H.size h_o h_o_all h_o_tape h_o_words h_o_told h_o_isTold h_o_toldWave h_o_isPoint h_o_quarter h_o_roots h_o_laidRe h_o_laidIm h_o_byOrder h_o_noted1 h_o_counts h_o_binBy o_tapeSize o_thrown o_fault o_faultPlace o_stop o_next o_kind o_which o_at o_pointsRead o_bank o_isImage o_undos o_runRadix o_runOrder o_runNear o_runLimit o_runHalves o_power o_notedMany o_knownTold o_drawn_13 o_all_15 ((32 : Int32) + v6) r_17 e_18) (cwV 1 hts (gv q_mX10_187 q_i_yX10_of q_s_yX10_of q_n_RX10 q_k_yX10_of) rfl rfl rfl (by decide +kernel) ⟨by decide, by decide⟩) rfl rfl (Nat.le_of_ble_eq_true rfl) dX10_chanceOf_79 ⟨Nat.zero_le _, Nat.zero_le _⟩ (ci := 10) rfl 0 rfl [0, 1] [2, 3, 4, 5] [4, 5, 0, 1, 2, 3] rfl rfl (ws2 := (wX10_chanceOf cI cJ cZ h_o h_o_all h_o_laidIm h_o_laidRe h_o_quarter h_o_told h_o_tape h_o_words h_o_isTold h_o_toldWave h_o_isPoint h_o_roots h_o_byOrder h_o_noted1 h_o_counts h_o_binBy o_tapeSize o_thrown o_fault o_faultPlace o_stop o_next o_kind o_which o_at o_pointsRead o_bank o_isImage o_undos o_runRadix o_runOrder o_runNear o_runLimit o_runHalves o_power o_notedMany o_knownTold o_drawn_13 o_all_15 o_laidIm o_laidRe o_quarter o_told)) rfl (fun H locs hP hD hS => ?_)
        refine W.eq (g2 := F0 m 82 ls [.int r_17, .ref h_o, .int ((32 : Int32) + v6), .ref h_o]) rfl ?_
        refine lv_iload_n hx hb dX10_chanceOf_82 rfl (lv_at hl 1 rfl) ?_
        obtain ⟨r_19, o_drawn_20, e_21, hf⟩ := bd2_x hf
        refine call_v [.int r_17, .int v2] [.int ((32 : Int32) + v6), .ref h_o] ⟨hx, hb, hml, hown, hts⟩ hK hP hD hS hA hl.1 (tX10_noisy l G cI cJ cZ H.size h_o h_o_tape h_o_words h_o_told h_o_isTold h_o_toldWave h_o_isPoint h_o_all h_o_quarter h_o_roots h_o_laidRe h_o_laidIm h_o_byOrder h_o_noted1 h_o_counts h_o_binBy o_tapeSize o_thrown o_fault o_faultPlace o_stop o_next o_kind o_which o_at o_pointsRead o_bank o_isImage o_undos o_runRadix o_runOrder o_runNear o_runLimit o_runHalves o_power o_notedMany o_knownTold o_drawn_13 r_17 v2 r_19 o_drawn_20 e_21) (cwV 2 hts (gv q_mX10_402 q_i_yX10_noisy q_s_yX10_noisy q_n_RX10 q_k_yX10_noisy) rfl rfl rfl (by decide +kernel) ⟨by decide, by decide⟩) rfl rfl (Nat.le_of_ble_eq_true rfl) dX10_chanceOf_83 ⟨Nat.zero_le _, Nat.zero_le _⟩ (ci := 10) rfl 0 rfl [0] [1, 2, 3, 4, 5] [5, 0, 1, 2, 3, 4] rfl rfl (ws2 := (wX10_chanceOf cI cJ cZ h_o h_o_all h_o_laidIm h_o_laidRe h_o_quarter h_o_told h_o_tape h_o_words h_o_isTold h_o_toldWave h_o_isPoint h_o_roots h_o_byOrder h_o_noted1 h_o_counts h_o_binBy o_tapeSize o_thrown o_fault o_faultPlace o_stop o_next o_kind o_which o_at o_pointsRead o_bank o_isImage o_undos o_runRadix o_runOrder o_runNear o_runLimit o_runHalves o_power o_notedMany o_knownTold o_drawn_20 o_all_15 o_laidIm o_laidRe o_quarter o_told)) rfl (fun H locs hP hD hS => ?_)
        refine W.eq (g2 := F0 m 86 ls [.int r_19, .int ((32 : Int32) + v6), .ref h_o]) rfl ?_
        obtain ⟨o_all_22, e_23, hf⟩ := bd1_x hf
        refine call_v [.int ((32 : Int32) + v6), .int r_19] [] ⟨hx, hb, hml, hown, hts⟩ hK hP hD hS hA hl.1 (tX10_lay l G cI cJ cZ H.size h_o h_o_all h_o_tape h_o_words h_o_told h_o_isTold h_o_toldWave h_o_isPoint h_o_quarter h_o_roots h_o_laidRe h_o_laidIm h_o_byOrder h_o_noted1 h_o_counts h_o_binBy o_tapeSize o_thrown o_fault o_faultPlace o_stop o_next o_kind o_which o_at o_pointsRead o_bank o_isImage o_undos o_runRadix o_runOrder o_runNear o_runLimit o_runHalves o_power o_notedMany o_knownTold o_drawn_20 o_all_15 ((32 : Int32) + v6) r_19 o_all_22 e_23) (cwV 2 hts (gv q_mX10_118 q_i_yX10_lay q_s_yX10_lay q_n_RX10 q_k_yX10_lay) rfl rfl rfl (by decide +kernel) ⟨by decide, by decide⟩) rfl rfl (Nat.le_of_ble_eq_true rfl) dX10_chanceOf_86 ⟨Nat.zero_le _, Nat.zero_le _⟩ (ci := 10) rfl 0 rfl [0, 1] [2, 3, 4, 5] [4, 5, 0, 1, 2, 3] rfl rfl (ws2 := (wX10_chanceOf cI cJ cZ h_o h_o_all h_o_laidIm h_o_laidRe h_o_quarter h_o_told h_o_tape h_o_words h_o_isTold h_o_toldWave h_o_isPoint h_o_roots h_o_byOrder h_o_noted1 h_o_counts h_o_binBy o_tapeSize o_thrown o_fault o_faultPlace o_stop o_next o_kind o_which o_at o_pointsRead o_bank o_isImage o_undos o_runRadix o_runOrder o_runNear o_runLimit o_runHalves o_power o_notedMany o_knownTold o_drawn_20 o_all_22 o_laidIm o_laidRe o_quarter o_told)) rfl (fun H locs hP hD hS => ?_)
        refine W.eq (g2 := F0 m 89 ls []) rfl ?_
        obtain ⟨v6_24, ev6_24⟩ : ∃ y : Int32, y = v6 + (1 : Int32) := ⟨_, rfl⟩
        have hf := nm_x ev6_24 hf
        refine lv_iinc (v := v6_24) (lv' := [(6, .int v6_24), (0, .ref h_o), (2, .int v2), (3, .int v3), (4, .int v4), (5, .int v5)]) hx hb dX10_chanceOf_89 hl (k := 5) rfl (by rw [ev6_24]; rfl) (by decide) rfl (fun ls hl => ?_)
        refine lv_goto (tgt := 40) hx hb dX10_chanceOf_92 (by decide) ?_
        exact ih o_bank o_runRadix o_runOrder o_runNear o_runLimit o_runHalves o_drawn_20 o_all_22 o_laidIm o_laidRe v2 v3 v4 v5 v6_24 H locs ls hf hP hD hS (lv_sub hl [1, 2, 3, 4, 5, 0] rfl)
  have j26 : ∀ (n : Nat) (o_bank : Int32) (o_runRadix : Int32) (o_runOrder : Int32) (o_runNear : Int32) (o_runLimit : Int32) (o_runHalves : Int32) (o_drawn : Int64) (o_all : Nat → Int32) (o_laidIm : Nat → Int32) (o_laidRe : Nat → Int32) (v2 : Int32) (v3 : Int32) (v4 : Int32) (v5 : Int32) (H : Heap) (locs : List Loc) (ls : Array Slot), fX10_chanceOf_26 o_power o_quarter o_told n o_bank o_runRadix o_runOrder o_runNear o_runLimit o_runHalves o_drawn o_all o_laidIm o_laidRe v2 v3 v4 v5 = some (r, out_o_bank, out_o_runRadix, out_o_runOrder, out_o_runNear, out_o_runLimit, out_o_runHalves, out_o_drawn, out_o_all, out_o_laidIm, out_o_laidRe) → va_P G vwCl (wX10_chanceOf cI cJ cZ h_o h_o_all h_o_laidIm h_o_laidRe h_o_quarter h_o_told h_o_tape h_o_words h_o_isTold h_o_toldWave h_o_isPoint h_o_roots h_o_byOrder h_o_noted1 h_o_counts h_o_binBy o_tapeSize o_thrown o_fault o_faultPlace o_stop o_next o_kind o_which o_at o_pointsRead o_bank o_isImage o_undos o_runRadix o_runOrder o_runNear o_runLimit o_runHalves o_power o_notedMany o_knownTold o_drawn o_all o_laidIm o_laidRe o_quarter o_told) H → va_D A (wX10_chanceOf cI cJ cZ h_o h_o_all h_o_laidIm h_o_laidRe h_o_quarter h_o_told h_o_tape h_o_words h_o_isTold h_o_toldWave h_o_isPoint h_o_roots h_o_byOrder h_o_noted1 h_o_counts h_o_binBy o_tapeSize o_thrown o_fault o_faultPlace o_stop o_next o_kind o_which o_at o_pointsRead o_bank o_isImage o_undos o_runRadix o_runOrder o_runNear o_runLimit o_runHalves o_power o_notedMany o_knownTold o_drawn o_all o_laidIm o_laidRe o_quarter o_told) → va_S A s.heap H locs → lv_has ls 7 [(0, .ref h_o), (2, .int v2), (3, .int v3), (4, .int v4), (5, .int v5)] → W p l e ({ frames := 8, cells := 0, slots := 0, locals := 187 } : Room) s m ([.ref h_o, .int p1, .int p2, .int p3] : List Value).toArray below meth c H locs 0 0 Q (F0 m 26 ls []) := by
    intro n
    induction n with
    | zero =>
      intro o_bank o_runRadix o_runOrder o_runNear o_runLimit o_runHalves o_drawn o_all o_laidIm o_laidRe v2 v3 v4 v5 H locs ls hf
      have hf : (none : Option (Int32 × Int32 × Int32 × Int32 × Int32 × Int32 × Int32 × Int64 × (Nat → Int32) × (Nat → Int32) × (Nat → Int32))) = some (r, out_o_bank, out_o_runRadix, out_o_runOrder, out_o_runNear, out_o_runLimit, out_o_runHalves, out_o_drawn, out_o_all, out_o_laidIm, out_o_laidRe) := hf
      cases hf
    | succ n ih =>
      intro o_bank o_runRadix o_runOrder o_runNear o_runLimit o_runHalves o_drawn o_all o_laidIm o_laidRe v2 v3 v4 v5 H locs ls hf hP hD hS hl
      rw [fX10_chanceOf_26.eq_2] at hf
      refine lv_iload hx hb dX10_chanceOf_26 (lv_at hl 4 rfl) ?_
      refine lv_bipush (v := (10 : Int32)) hx hb dX10_chanceOf_28 (by decide) ?_
      refine lv_icmp_ge (tgt := 123) hx hb dX10_chanceOf_30 (by decide) (fun c_3 => ?_) (fun c_3 => ?_)
      · have hf := it_t c_3 hf
        refine lv_iload hx hb dX10_chanceOf_123 (lv_at hl 3 rfl) ?_
        cases hf
        exact hret _ _ _ _ dX10_chanceOf_125 hP hD hS
      · have hf := it_f c_3 hf
        refine lv_aload_n hx hb dX10_chanceOf_33 rfl (lv_at hl 0 rfl) ?_
        obtain ⟨o_bank_4, o_all_5, e_6, hf⟩ := bd2_x hf
        refine call_v [] [] ⟨hx, hb, hml, hown, hts⟩ hK hP hD hS hA hl.1 (tX10_asWas l G cI cJ cZ H.size h_o h_o_all h_o_tape h_o_words h_o_told h_o_isTold h_o_toldWave h_o_isPoint h_o_quarter h_o_roots h_o_laidRe h_o_laidIm h_o_byOrder h_o_noted1 h_o_counts h_o_binBy o_tapeSize o_thrown o_fault o_faultPlace o_stop o_next o_kind o_which o_at o_pointsRead o_bank o_isImage o_undos o_runRadix o_runOrder o_runNear o_runLimit o_runHalves o_power o_notedMany o_knownTold o_drawn o_all o_bank_4 o_all_5 e_6) (cwV 0 hts (gv q_mX10_311 q_i_yX10_asWas q_s_yX10_asWas q_n_RX10 q_k_yX10_asWas) rfl rfl rfl (by decide +kernel) ⟨by decide, by decide⟩) rfl rfl (Nat.le_of_ble_eq_true rfl) dX10_chanceOf_34 ⟨Nat.zero_le _, Nat.zero_le _⟩ (ci := 10) rfl 0 rfl [0, 1] [2, 3, 4, 5] [4, 5, 0, 1, 2, 3] rfl rfl (ws2 := (wX10_chanceOf cI cJ cZ h_o h_o_all h_o_laidIm h_o_laidRe h_o_quarter h_o_told h_o_tape h_o_words h_o_isTold h_o_toldWave h_o_isPoint h_o_roots h_o_byOrder h_o_noted1 h_o_counts h_o_binBy o_tapeSize o_thrown o_fault o_faultPlace o_stop o_next o_kind o_which o_at o_pointsRead o_bank_4 o_isImage o_undos o_runRadix o_runOrder o_runNear o_runLimit o_runHalves o_power o_notedMany o_knownTold o_drawn o_all_5 o_laidIm o_laidRe o_quarter o_told)) rfl (fun H locs hP hD hS => ?_)
        refine W.eq (g2 := F0 m 37 ls []) rfl ?_
        refine lv_iconst (v := (0 : Int32)) hx hb dX10_chanceOf_37 (by decide) ?_
        refine lv_istore (lv' := [(6, .int (0 : Int32)), (0, .ref h_o), (2, .int v2), (3, .int v3), (4, .int v4), (5, .int v5)]) hx hb dX10_chanceOf_38 hl (by decide) rfl (fun ls hl => ?_)
        exact j40 (fX10_chanceOf_26 o_power o_quarter o_told n) ih FU o_bank_4 o_runRadix o_runOrder o_runNear o_runLimit o_runHalves o_drawn o_all_5 o_laidIm o_laidRe v2 v3 v4 v5 (0 : Int32) H locs ls hf hP hD hS (lv_sub hl [1, 2, 3, 4, 5, 0] rfl)
  have j17 : ∀ (o_bank : Int32) (o_runRadix : Int32) (o_runOrder : Int32) (o_runNear : Int32) (o_runLimit : Int32) (o_runHalves : Int32) (o_drawn : Int64) (o_all : Nat → Int32) (o_laidIm : Nat → Int32) (o_laidRe : Nat → Int32) (v2 : Int32) (v3 : Int32) (s1 : Int64) (H : Heap) (locs : List Loc) (ls : Array Slot), fX10_chanceOf_17 o_power o_quarter o_told o_bank o_runRadix o_runOrder o_runNear o_runLimit o_runHalves o_drawn o_all o_laidIm o_laidRe v2 v3 s1 = some (r, out_o_bank, out_o_runRadix, out_o_runOrder, out_o_runNear, out_o_runLimit, out_o_runHalves, out_o_drawn, out_o_all, out_o_laidIm, out_o_laidRe) → va_P G vwCl (wX10_chanceOf cI cJ cZ h_o h_o_all h_o_laidIm h_o_laidRe h_o_quarter h_o_told h_o_tape h_o_words h_o_isTold h_o_toldWave h_o_isPoint h_o_roots h_o_byOrder h_o_noted1 h_o_counts h_o_binBy o_tapeSize o_thrown o_fault o_faultPlace o_stop o_next o_kind o_which o_at o_pointsRead o_bank o_isImage o_undos o_runRadix o_runOrder o_runNear o_runLimit o_runHalves o_power o_notedMany o_knownTold o_drawn o_all o_laidIm o_laidRe o_quarter o_told) H → va_D A (wX10_chanceOf cI cJ cZ h_o h_o_all h_o_laidIm h_o_laidRe h_o_quarter h_o_told h_o_tape h_o_words h_o_isTold h_o_toldWave h_o_isPoint h_o_roots h_o_byOrder h_o_noted1 h_o_counts h_o_binBy o_tapeSize o_thrown o_fault o_faultPlace o_stop o_next o_kind o_which o_at o_pointsRead o_bank o_isImage o_undos o_runRadix o_runOrder o_runNear o_runLimit o_runHalves o_power o_notedMany o_knownTold o_drawn o_all o_laidIm o_laidRe o_quarter o_told) → va_S A s.heap H locs → lv_has ls 7 [(0, .ref h_o), (2, .int v2), (3, .int v3)] → W p l e ({ frames := 8, cells := 0, slots := 0, locals := 187 } : Room) s m ([.ref h_o, .int p1, .int p2, .int p3] : List Value).toArray below meth c H locs 0 0 Q (F0 m 17 ls [.long s1, .ref h_o]) := by
    intro o_bank o_runRadix o_runOrder o_runNear o_runLimit o_runHalves o_drawn o_all o_laidIm o_laidRe v2 v3 s1 H locs ls hf hP hD hS hl
    unfold fX10_chanceOf_17 at hf
    refine wr (ci := 10) (C := RX10) (T := TX10) (N := 37) hx hb hts inX10 tyX10 tyX10_ok nmX10 hown hK hP hD hS 0 36 rfl rfl (by decide) (hts _ q_fX10_390) rfl rfl rfl (Nat.le_of_ble_eq_true rfl) dX10_chanceOf_17 (ws2 := (wX10_chanceOf cI cJ cZ h_o h_o_all h_o_laidIm h_o_laidRe h_o_quarter h_o_told h_o_tape h_o_words h_o_isTold h_o_toldWave h_o_isPoint h_o_roots h_o_byOrder h_o_noted1 h_o_counts h_o_binBy o_tapeSize o_thrown o_fault o_faultPlace o_stop o_next o_kind o_which o_at o_pointsRead o_bank o_isImage o_undos o_runRadix o_runOrder o_runNear o_runLimit o_runHalves o_power o_notedMany o_knownTold s1 o_all o_laidIm o_laidRe o_quarter o_told)) rfl (fun H locs hP hD hS => ?_)
    refine lv_iconst (v := (0 : Int32)) hx hb dX10_chanceOf_20 (by decide) ?_
    refine lv_istore (lv' := [(4, .int (0 : Int32)), (0, .ref h_o), (2, .int v2), (3, .int v3)]) hx hb dX10_chanceOf_21 hl (by decide) rfl (fun ls hl => ?_)
    refine lv_iconst (v := (0 : Int32)) hx hb dX10_chanceOf_23 (by decide) ?_
    refine lv_istore (lv' := [(5, .int (0 : Int32)), (4, .int (0 : Int32)), (0, .ref h_o), (2, .int v2), (3, .int v3)]) hx hb dX10_chanceOf_24 hl (by decide) rfl (fun ls hl => ?_)
    exact j26 FU o_bank o_runRadix o_runOrder o_runNear o_runLimit o_runHalves s1 o_all o_laidIm o_laidRe v2 v3 (0 : Int32) (0 : Int32) H locs ls hf hP hD hS (lv_sub hl [2, 3, 4, 1, 0] rfl)
  unfold fX10_chanceOf at hf
  obtain ⟨H, eH⟩ : ∃ H, H = s.heap := ⟨_, rfl⟩
  obtain ⟨locs, elocs⟩ : ∃ z : List Loc, z = [] := ⟨_, rfl⟩
  have hP : va_P G vwCl (wX10_chanceOf cI cJ cZ h_o h_o_all h_o_laidIm h_o_laidRe h_o_quarter h_o_told h_o_tape h_o_words h_o_isTold h_o_toldWave h_o_isPoint h_o_roots h_o_byOrder h_o_noted1 h_o_counts h_o_binBy o_tapeSize o_thrown o_fault o_faultPlace o_stop o_next o_kind o_which o_at o_pointsRead o_bank o_isImage o_undos o_runRadix o_runOrder o_runNear o_runLimit o_runHalves o_power o_notedMany o_knownTold o_drawn o_all o_laidIm o_laidRe o_quarter o_told) H := by rw [eH]; exact hP
  have hS : va_S A s.heap H locs := by rw [eH, elocs]; exact hS
  suffices hgo : W p l e ({ frames := 8, cells := 0, slots := 0, locals := 187 } : Room) s m ([.ref h_o, .int p1, .int p2, .int p3] : List Value).toArray below meth c H locs 0 0 Q (F0 m 0 ls []) by rw [eH, elocs] at hgo; exact hgo
  clear eH elocs
  refine lv_aload_n hx hb dX10_chanceOf_0 rfl (lv_at hl 0 rfl) ?_
  refine lv_iload_n hx hb dX10_chanceOf_1 rfl (lv_at hl 1 rfl) ?_
  refine lv_if_ge (tgt := 15) hx hb dX10_chanceOf_2 (by decide) (fun c_1 => ?_) (fun c_1 => ?_)
  · have hf := it_t c_1 hf
    refine lv_iload_n hx hb dX10_chanceOf_15 rfl (lv_at hl 1 rfl) ?_
    refine lv_i2l hx hb dX10_chanceOf_16 rfl ?_
    exact j17 o_bank o_runRadix o_runOrder o_runNear o_runLimit o_runHalves o_drawn o_all o_laidIm o_laidRe p2 p3 (Int32.toInt64 p1) H locs ls hf hP hD hS (lv_sub hl [0, 2, 3] rfl)
  · have hf := it_f c_1 hf
    refine lv_aload_n hx hb dX10_chanceOf_5 rfl (lv_at hl 0 rfl) ?_
    refine rd (ci := 10) (C := RX10) (T := TX10) (N := 37) hx hb hts inX10 hown hK hP 0 11 rfl rfl (by decide) (hts _ q_fX10_20) rfl dX10_chanceOf_6 ?_
    refine lv_iconst (v := (5 : Int32)) hx hb dX10_chanceOf_9 (by decide) ?_
    obtain ⟨g_2, hf⟩ := gd_x hf
    refine va_iald hx hb hK hP 5 0 rfl rfl (inb_x g_2) dX10_chanceOf_10 ?_
    refine lv_i2l hx hb dX10_chanceOf_11 rfl ?_
    refine lv_goto (tgt := 17) hx hb dX10_chanceOf_12 (by decide) ?_
    exact j17 o_bank o_runRadix o_runOrder o_runNear o_runLimit o_runHalves o_drawn o_all o_laidIm o_laidRe p2 p3 (Int32.toInt64 (o_told (Int32.toNatClampNeg (5 : Int32)))) H locs ls hf hP hD hS (lv_sub hl [0, 2, 3] rfl)
def wX10_chance (cI cJ cZ : ClassId) (h_o h_o_all h_o_laidIm h_o_laidRe h_o_quarter h_o_told h_o_tape h_o_words h_o_isTold h_o_toldWave h_o_isPoint h_o_roots h_o_byOrder h_o_noted1 h_o_counts h_o_binBy : Nat) (o_tapeSize : Int32) (o_thrown : Int32) (o_fault : Int32) (o_faultPlace : Int32) (o_stop : Int32) (o_next : Int32) (o_kind : Int32) (o_which : Int32) (o_at : Int32) (o_pointsRead : Int32) (o_bank : Int32) (o_isImage : Int32) (o_undos : Int32) (o_runRadix : Int32) (o_runOrder : Int32) (o_runNear : Int32) (o_runLimit : Int32) (o_runHalves : Int32) (o_power : Int32) (o_notedMany : Int32) (o_knownTold : Int32) (o_drawn : Int64) (o_all : Nat → Int32) (o_laidIm : Nat → Int32) (o_laidRe : Nat → Int32) (o_quarter : Nat → Int32) (o_told : Nat → Int32) : va_W := [(h_o, .inr (10, [.ref h_o_tape, .int o_tapeSize, .int o_thrown, .ref h_o_words, .int o_fault, .int o_faultPlace, .int o_stop, .int o_next, .int o_kind, .int o_which, .int o_at, .ref h_o_told, .ref h_o_isTold, .ref h_o_toldWave, .ref h_o_isPoint, .int o_pointsRead, .ref h_o_all, .int o_bank, .int o_isImage, .int o_undos, .int o_runRadix, .int o_runOrder, .int o_runNear, .int o_runLimit, .int o_runHalves, .ref h_o_quarter, .int o_power, .ref h_o_roots, .ref h_o_laidRe, .ref h_o_laidIm, .ref h_o_byOrder, .int o_notedMany, .int o_knownTold, .ref h_o_noted1, .ref h_o_counts, .ref h_o_binBy, .long o_drawn])), (h_o_all, .inl (cI, 3128, .inl o_all)), (h_o_laidIm, .inl (cI, 32, .inl o_laidIm)), (h_o_laidRe, .inl (cI, 32, .inl o_laidRe)), (h_o_quarter, .inl (cI, 9, .inl o_quarter)), (h_o_told, .inl (cI, 12, .inl o_told))]
def fX10_chance (o_thrown : Int32) (o_bank : Int32) (o_runRadix : Int32) (o_runOrder : Int32) (o_runNear : Int32) (o_runLimit : Int32) (o_runHalves : Int32) (o_power : Int32) (o_drawn : Int64) (o_all : Nat → Int32) (o_laidIm : Nat → Int32) (o_laidRe : Nat → Int32) (o_quarter : Nat → Int32) (o_told : Nat → Int32) (p1 : Int32) (p2 : Int32) (p3 : Int32) : Option (Int32 × Int32 × Int32 × Int32 × Int32 × Int32 × Int32 × Int32 × Int64 × (Nat → Int32) × (Nat → Int32) × (Nat → Int32)) :=
  if p1 < (-1 : Int32) then (
    some ((-1 : Int32), (0 : Int32), o_bank, o_runRadix, o_runOrder, o_runNear, o_runLimit, o_runHalves, o_drawn, o_all, o_laidIm, o_laidRe)
  ) else (
    bd1 (fX10_isIn p2 (1 : Int32) (99 : Int32)) (fun r_2 =>
    if r_2 = 0 then (
      some ((-1 : Int32), (0 : Int32), o_bank, o_runRadix, o_runOrder, o_runNear, o_runLimit, o_runHalves, o_drawn, o_all, o_laidIm, o_laidRe)
    ) else (
      bd1 (fX10_isIn p3 (0 : Int32) (20 : Int32)) (fun r_5 =>
      if r_5 = 0 then (
        some ((-1 : Int32), (0 : Int32), o_bank, o_runRadix, o_runOrder, o_runNear, o_runLimit, o_runHalves, o_drawn, o_all, o_laidIm, o_laidRe)
      ) else (
        bd11 (fX10_chanceOf o_bank o_runRadix o_runOrder o_runNear o_runLimit o_runHalves o_power o_drawn o_all o_laidIm o_laidRe o_quarter o_told p1 p2 p3) (fun r_8 o_bank_9 o_runRadix_10 o_runOrder_11 o_runNear_12 o_runLimit_13 o_runHalves_14 o_drawn_15 o_all_16 o_laidIm_17 o_laidRe_18 =>
        some (r_8, (0 : Int32), o_bank_9, o_runRadix_10, o_runOrder_11, o_runNear_12, o_runLimit_13, o_runHalves_14, o_drawn_15, o_all_16, o_laidIm_17, o_laidRe_18))
      ))
    ))
  )
set_option maxHeartbeats 4000000 in
set_option maxRecDepth 100000 in
theorem tX10_chance (l : Launch) (G : va_G) (cI cJ cZ : ClassId) (sz : Nat) (h_o h_o_all h_o_laidIm h_o_laidRe h_o_quarter h_o_told h_o_tape h_o_words h_o_isTold h_o_toldWave h_o_isPoint h_o_roots h_o_byOrder h_o_noted1 h_o_counts h_o_binBy : Nat) (o_tapeSize : Int32) (o_thrown : Int32) (o_fault : Int32) (o_faultPlace : Int32) (o_stop : Int32) (o_next : Int32) (o_kind : Int32) (o_which : Int32) (o_at : Int32) (o_pointsRead : Int32) (o_bank : Int32) (o_isImage : Int32) (o_undos : Int32) (o_runRadix : Int32) (o_runOrder : Int32) (o_runNear : Int32) (o_runLimit : Int32) (o_runHalves : Int32) (o_power : Int32) (o_notedMany : Int32) (o_knownTold : Int32) (o_drawn : Int64) (o_all : Nat → Int32) (o_laidIm : Nat → Int32) (o_laidRe : Nat → Int32) (o_quarter : Nat → Int32) (o_told : Nat → Int32) (p1 : Int32) (p2 : Int32) (p3 : Int32) (r : Int32) (out_o_thrown : Int32) (out_o_bank : Int32) (out_o_runRadix : Int32) (out_o_runOrder : Int32) (out_o_runNear : Int32) (out_o_runLimit : Int32) (out_o_runHalves : Int32) (out_o_drawn : Int64) (out_o_all : Nat → Int32) (out_o_laidIm : Nat → Int32) (out_o_laidRe : Nat → Int32) (hf : fX10_chance o_thrown o_bank o_runRadix o_runOrder o_runNear o_runLimit o_runHalves o_power o_drawn o_all o_laidIm o_laidRe o_quarter o_told p1 p2 p3 = some (r, out_o_thrown, out_o_bank, out_o_runRadix, out_o_runOrder, out_o_runNear, out_o_runLimit, out_o_runHalves, out_o_drawn, out_o_all, out_o_laidIm, out_o_laidRe)) : Met l yX10_chance (Cond.code yX10_chance cX10_chance 4 (some .int) :: BIG) ({ frames := 9, cells := 0, slots := 0, locals := 213 } : Room) (cP G (TY3 cI cJ cZ) [.ref h_o, .int p1, .int p2, .int p3] sz (wX10_chance cI cJ cZ h_o h_o_all h_o_laidIm h_o_laidRe h_o_quarter h_o_told h_o_tape h_o_words h_o_isTold h_o_toldWave h_o_isPoint h_o_roots h_o_byOrder h_o_noted1 h_o_counts h_o_binBy o_tapeSize o_thrown o_fault o_faultPlace o_stop o_next o_kind o_which o_at o_pointsRead o_bank o_isImage o_undos o_runRadix o_runOrder o_runNear o_runLimit o_runHalves o_power o_notedMany o_knownTold o_drawn o_all o_laidIm o_laidRe o_quarter o_told)) (cQ G (TY3 cI cJ cZ) sz (wX10_chance cI cJ cZ h_o h_o_all h_o_laidIm h_o_laidRe h_o_quarter h_o_told h_o_tape h_o_words h_o_isTold h_o_toldWave h_o_isPoint h_o_roots h_o_byOrder h_o_noted1 h_o_counts h_o_binBy o_tapeSize o_thrown o_fault o_faultPlace o_stop o_next o_kind o_which o_at o_pointsRead o_bank o_isImage o_undos o_runRadix o_runOrder o_runNear o_runLimit o_runHalves o_power o_notedMany o_knownTold o_drawn o_all o_laidIm o_laidRe o_quarter o_told) (wX10_chance cI cJ cZ h_o h_o_all h_o_laidIm h_o_laidRe h_o_quarter h_o_told h_o_tape h_o_words h_o_isTold h_o_toldWave h_o_isPoint h_o_roots h_o_byOrder h_o_noted1 h_o_counts h_o_binBy o_tapeSize out_o_thrown o_fault o_faultPlace o_stop o_next o_kind o_which o_at o_pointsRead out_o_bank o_isImage o_undos out_o_runRadix out_o_runOrder out_o_runNear out_o_runLimit out_o_runHalves o_power o_notedMany o_knownTold out_o_drawn out_o_all out_o_laidIm out_o_laidRe o_quarter o_told) (some (.int r))) 0 0 (va_A (wX10_chance cI cJ cZ h_o h_o_all h_o_laidIm h_o_laidRe h_o_quarter h_o_told h_o_tape h_o_words h_o_isTold h_o_toldWave h_o_isPoint h_o_roots h_o_byOrder h_o_noted1 h_o_counts h_o_binBy o_tapeSize o_thrown o_fault o_faultPlace o_stop o_next o_kind o_which o_at o_pointsRead o_bank o_isImage o_undos o_runRadix o_runOrder o_runNear o_runLimit o_runHalves o_power o_notedMany o_knownTold o_drawn o_all o_laidIm o_laidRe o_quarter o_told) sz) := by
  refine met_i (cc := cX10_chance) (maxL := 4) (plainFor_of_name (by decide)) (Nat.le_of_ble_eq_true rfl) (fun p e s m below meth c A ls Q hx hb hml hts hown hK hP hD hS hA hl hret => ?_)
  have hown : s.vm.findClass RX10 = some m.cls := hown
  have hl : lv_has ls 4 [(0, .ref h_o), (1, .int p1), (2, .int p2), (3, .int p3)] := hl
  unfold fX10_chance at hf
  obtain ⟨H, eH⟩ : ∃ H, H = s.heap := ⟨_, rfl⟩
  obtain ⟨locs, elocs⟩ : ∃ z : List Loc, z = [] := ⟨_, rfl⟩
  have hP : va_P G vwCl (wX10_chance cI cJ cZ h_o h_o_all h_o_laidIm h_o_laidRe h_o_quarter h_o_told h_o_tape h_o_words h_o_isTold h_o_toldWave h_o_isPoint h_o_roots h_o_byOrder h_o_noted1 h_o_counts h_o_binBy o_tapeSize o_thrown o_fault o_faultPlace o_stop o_next o_kind o_which o_at o_pointsRead o_bank o_isImage o_undos o_runRadix o_runOrder o_runNear o_runLimit o_runHalves o_power o_notedMany o_knownTold o_drawn o_all o_laidIm o_laidRe o_quarter o_told) H := by rw [eH]; exact hP
  have hS : va_S A s.heap H locs := by rw [eH, elocs]; exact hS
  suffices hgo : W p l e ({ frames := 9, cells := 0, slots := 0, locals := 213 } : Room) s m ([.ref h_o, .int p1, .int p2, .int p3] : List Value).toArray below meth c H locs 0 0 Q (F0 m 0 ls []) by rw [eH, elocs] at hgo; exact hgo
  clear eH elocs
  refine lv_aload_n hx hb dX10_chance_0 rfl (lv_at hl 0 rfl) ?_
  refine lv_iconst (v := (0 : Int32)) hx hb dX10_chance_1 (by decide) ?_
  refine wr (ci := 10) (C := RX10) (T := TX10) (N := 37) hx hb hts inX10 tyX10 tyX10_ok nmX10 hown hK hP hD hS 0 2 rfl rfl (by decide) (hts _ q_fX10_70) rfl rfl rfl (Nat.le_of_ble_eq_true rfl) dX10_chance_2 (ws2 := (wX10_chance cI cJ cZ h_o h_o_all h_o_laidIm h_o_laidRe h_o_quarter h_o_told h_o_tape h_o_words h_o_isTold h_o_toldWave h_o_isPoint h_o_roots h_o_byOrder h_o_noted1 h_o_counts h_o_binBy o_tapeSize (0 : Int32) o_fault o_faultPlace o_stop o_next o_kind o_which o_at o_pointsRead o_bank o_isImage o_undos o_runRadix o_runOrder o_runNear o_runLimit o_runHalves o_power o_notedMany o_knownTold o_drawn o_all o_laidIm o_laidRe o_quarter o_told)) rfl (fun H locs hP hD hS => ?_)
  refine lv_iload_n hx hb dX10_chance_5 rfl (lv_at hl 1 rfl) ?_
  refine lv_iconst (v := (-1 : Int32)) hx hb dX10_chance_6 (by decide) ?_
  refine lv_icmp_lt (tgt := 40) hx hb dX10_chance_7 (by decide) (fun c_1 => ?_) (fun c_1 => ?_)
  · have hf := it_t c_1 hf
    refine lv_iconst (v := (-1 : Int32)) hx hb dX10_chance_40 (by decide) ?_
    cases hf
    exact hret _ _ _ _ dX10_chance_41 hP hD hS
  · have hf := it_f c_1 hf
    refine lv_iload_n hx hb dX10_chance_10 rfl (lv_at hl 2 rfl) ?_
    refine lv_iconst (v := (1 : Int32)) hx hb dX10_chance_11 (by decide) ?_
    refine lv_bipush (v := (99 : Int32)) hx hb dX10_chance_12 (by decide) ?_
    obtain ⟨r_2, e_3, hf⟩ := bd1_x hf
    refine call_s [.int p2, .int (1 : Int32), .int (99 : Int32)] [] ⟨hx, hb, hml, hown, hts⟩ hK hP hD hS hA hl.1 (tX10_isIn l G cI cJ cZ H.size p2 (1 : Int32) (99 : Int32) r_2 e_3) (va_cwS 3 hts (gs q_mX10_138 q_s_yX10_isIn q_n_RX10 q_k_yX10_isIn) rfl rfl rfl (by decide +kernel) ⟨by decide, by decide⟩) rfl rfl (Nat.le_of_ble_eq_true rfl) dX10_chance_14 ⟨Nat.zero_le _, Nat.zero_le _⟩ [] [0, 1, 2, 3, 4, 5] [0, 1, 2, 3, 4, 5] rfl rfl (ws2 := (wX10_chance cI cJ cZ h_o h_o_all h_o_laidIm h_o_laidRe h_o_quarter h_o_told h_o_tape h_o_words h_o_isTold h_o_toldWave h_o_isPoint h_o_roots h_o_byOrder h_o_noted1 h_o_counts h_o_binBy o_tapeSize (0 : Int32) o_fault o_faultPlace o_stop o_next o_kind o_which o_at o_pointsRead o_bank o_isImage o_undos o_runRadix o_runOrder o_runNear o_runLimit o_runHalves o_power o_notedMany o_knownTold o_drawn o_all o_laidIm o_laidRe o_quarter o_told)) rfl (fun H locs hP hD hS => ?_)
    refine W.eq (g2 := F0 m 17 ls [.int r_2]) rfl ?_
    refine lv_if_eq (tgt := 40) hx hb dX10_chance_17 (by decide) (fun c_4 => ?_) (fun c_4 => ?_)
    · have hf := it_t c_4 hf
      refine lv_iconst (v := (-1 : Int32)) hx hb dX10_chance_40 (by decide) ?_
      cases hf
      exact hret _ _ _ _ dX10_chance_41 hP hD hS
    · have hf := it_f c_4 hf
      refine lv_iload_n hx hb dX10_chance_20 rfl (lv_at hl 3 rfl) ?_
      refine lv_iconst (v := (0 : Int32)) hx hb dX10_chance_21 (by decide) ?_
      refine lv_bipush (v := (20 : Int32)) hx hb dX10_chance_22 (by decide) ?_
      obtain ⟨r_5, e_6, hf⟩ := bd1_x hf
      refine call_s [.int p3, .int (0 : Int32), .int (20 : Int32)] [] ⟨hx, hb, hml, hown, hts⟩ hK hP hD hS hA hl.1 (tX10_isIn l G cI cJ cZ H.size p3 (0 : Int32) (20 : Int32) r_5 e_6) (va_cwS 3 hts (gs q_mX10_138 q_s_yX10_isIn q_n_RX10 q_k_yX10_isIn) rfl rfl rfl (by decide +kernel) ⟨by decide, by decide⟩) rfl rfl (Nat.le_of_ble_eq_true rfl) dX10_chance_24 ⟨Nat.zero_le _, Nat.zero_le _⟩ [] [0, 1, 2, 3, 4, 5] [0, 1, 2, 3, 4, 5] rfl rfl (ws2 := (wX10_chance cI cJ cZ h_o h_o_all h_o_laidIm h_o_laidRe h_o_quarter h_o_told h_o_tape h_o_words h_o_isTold h_o_toldWave h_o_isPoint h_o_roots h_o_byOrder h_o_noted1 h_o_counts h_o_binBy o_tapeSize (0 : Int32) o_fault o_faultPlace o_stop o_next o_kind o_which o_at o_pointsRead o_bank o_isImage o_undos o_runRadix o_runOrder o_runNear o_runLimit o_runHalves o_power o_notedMany o_knownTold o_drawn o_all o_laidIm o_laidRe o_quarter o_told)) rfl (fun H locs hP hD hS => ?_)
      refine W.eq (g2 := F0 m 27 ls [.int r_5]) rfl ?_
      refine lv_if_eq (tgt := 40) hx hb dX10_chance_27 (by decide) (fun c_7 => ?_) (fun c_7 => ?_)
      · have hf := it_t c_7 hf
        refine lv_iconst (v := (-1 : Int32)) hx hb dX10_chance_40 (by decide) ?_
        cases hf
        exact hret _ _ _ _ dX10_chance_41 hP hD hS
      · have hf := it_f c_7 hf
        refine lv_aload_n hx hb dX10_chance_30 rfl (lv_at hl 0 rfl) ?_
        refine lv_iload_n hx hb dX10_chance_31 rfl (lv_at hl 1 rfl) ?_
        refine lv_iload_n hx hb dX10_chance_32 rfl (lv_at hl 2 rfl) ?_
        refine lv_iload_n hx hb dX10_chance_33 rfl (lv_at hl 3 rfl) ?_
        obtain ⟨r_8, o_bank_9, o_runRadix_10, o_runOrder_11, o_runNear_12, o_runLimit_13, o_runHalves_14, o_drawn_15, o_all_16, o_laidIm_17, o_laidRe_18, e_19, hf⟩ := bd11_x hf
        refine call_v [.int p1, .int p2, .int p3] [] ⟨hx, hb, hml, hown, hts⟩ hK hP hD hS hA hl.1 (tX10_chanceOf l G cI cJ cZ H.size h_o h_o_all h_o_laidIm h_o_laidRe h_o_quarter h_o_told h_o_tape h_o_words h_o_isTold h_o_toldWave h_o_isPoint h_o_roots h_o_byOrder h_o_noted1 h_o_counts h_o_binBy o_tapeSize (0 : Int32) o_fault o_faultPlace o_stop o_next o_kind o_which o_at o_pointsRead o_bank o_isImage o_undos o_runRadix o_runOrder o_runNear o_runLimit o_runHalves o_power o_notedMany o_knownTold o_drawn o_all o_laidIm o_laidRe o_quarter o_told p1 p2 p3 r_8 o_bank_9 o_runRadix_10 o_runOrder_11 o_runNear_12 o_runLimit_13 o_runHalves_14 o_drawn_15 o_all_16 o_laidIm_17 o_laidRe_18 e_19) (cwV 3 hts (gv q_mX10_405 q_i_yX10_chanceOf q_s_yX10_chanceOf q_n_RX10 q_k_yX10_chanceOf) rfl rfl rfl (by decide +kernel) ⟨by decide, by decide⟩) rfl rfl (Nat.le_of_ble_eq_true rfl) dX10_chance_34 ⟨Nat.zero_le _, Nat.zero_le _⟩ (ci := 10) rfl 0 rfl [0, 1, 2, 3, 4, 5] [] [0, 1, 2, 3, 4, 5] rfl rfl (ws2 := (wX10_chance cI cJ cZ h_o h_o_all h_o_laidIm h_o_laidRe h_o_quarter h_o_told h_o_tape h_o_words h_o_isTold h_o_toldWave h_o_isPoint h_o_roots h_o_byOrder h_o_noted1 h_o_counts h_o_binBy o_tapeSize (0 : Int32) o_fault o_faultPlace o_stop o_next o_kind o_which o_at o_pointsRead o_bank_9 o_isImage o_undos o_runRadix_10 o_runOrder_11 o_runNear_12 o_runLimit_13 o_runHalves_14 o_power o_notedMany o_knownTold o_drawn_15 o_all_16 o_laidIm_17 o_laidRe_18 o_quarter o_told)) rfl (fun H locs hP hD hS => ?_)
        refine W.eq (g2 := F0 m 37 ls [.int r_8]) rfl ?_
        refine lv_goto (tgt := 41) hx hb dX10_chance_37 (by decide) ?_
        cases hf
        exact hret _ _ _ _ dX10_chance_41 hP hD hS
def wX10_noise (cI cJ cZ : ClassId) (h_o h_o_all h_o_laidIm h_o_laidRe h_o_quarter h_o_told h_o_tape h_o_words h_o_isTold h_o_toldWave h_o_isPoint h_o_roots h_o_byOrder h_o_noted1 h_o_counts h_o_binBy : Nat) (o_tapeSize : Int32) (o_thrown : Int32) (o_fault : Int32) (o_faultPlace : Int32) (o_stop : Int32) (o_next : Int32) (o_kind : Int32) (o_which : Int32) (o_at : Int32) (o_pointsRead : Int32) (o_bank : Int32) (o_isImage : Int32) (o_undos : Int32) (o_runRadix : Int32) (o_runOrder : Int32) (o_runNear : Int32) (o_runLimit : Int32) (o_runHalves : Int32) (o_power : Int32) (o_notedMany : Int32) (o_knownTold : Int32) (o_drawn : Int64) (o_all : Nat → Int32) (o_laidIm : Nat → Int32) (o_laidRe : Nat → Int32) (o_quarter : Nat → Int32) (o_told : Nat → Int32) : va_W := [(h_o, .inr (10, [.ref h_o_tape, .int o_tapeSize, .int o_thrown, .ref h_o_words, .int o_fault, .int o_faultPlace, .int o_stop, .int o_next, .int o_kind, .int o_which, .int o_at, .ref h_o_told, .ref h_o_isTold, .ref h_o_toldWave, .ref h_o_isPoint, .int o_pointsRead, .ref h_o_all, .int o_bank, .int o_isImage, .int o_undos, .int o_runRadix, .int o_runOrder, .int o_runNear, .int o_runLimit, .int o_runHalves, .ref h_o_quarter, .int o_power, .ref h_o_roots, .ref h_o_laidRe, .ref h_o_laidIm, .ref h_o_byOrder, .int o_notedMany, .int o_knownTold, .ref h_o_noted1, .ref h_o_counts, .ref h_o_binBy, .long o_drawn])), (h_o_all, .inl (cI, 3128, .inl o_all)), (h_o_laidIm, .inl (cI, 32, .inl o_laidIm)), (h_o_laidRe, .inl (cI, 32, .inl o_laidRe)), (h_o_quarter, .inl (cI, 9, .inl o_quarter)), (h_o_told, .inl (cI, 12, .inl o_told))]
def fX10_noise_24 (o_power : Int32) (o_quarter : Nat → Int32) (o_told : Nat → Int32) : Nat → Int32 → Int32 → Int32 → Int32 → Int32 → Int32 → Int32 → Int64 → (Nat → Int32) → (Nat → Int32) → (Nat → Int32) → Int32 → Int32 → Int32 → Option (Int32 × Int32 × Int32 × Int32 × Int32 × Int32 × Int32 × Int32 × Int64 × (Nat → Int32) × (Nat → Int32) × (Nat → Int32))
  | 0, _, _, _, _, _, _, _, _, _, _, _, _, _, _ => none
  | n + 1, o_thrown, o_bank, o_runRadix, o_runOrder, o_runNear, o_runLimit, o_runHalves, o_drawn, o_all, o_laidIm, o_laidRe, v1, v2, v3 =>
    if (99 : Int32) < v3 then (
      some ((-2 : Int32), o_thrown, o_bank, o_runRadix, o_runOrder, o_runNear, o_runLimit, o_runHalves, o_drawn, o_all, o_laidIm, o_laidRe)
    ) else (
      bd11 (fX10_chanceOf o_bank o_runRadix o_runOrder o_runNear o_runLimit o_runHalves o_power o_drawn o_all o_laidIm o_laidRe o_quarter o_told v1 v3 v2) (fun r_6 o_bank_7 o_runRadix_8 o_runOrder_9 o_runNear_10 o_runLimit_11 o_runHalves_12 o_drawn_13 o_all_14 o_laidIm_15 o_laidRe_16 =>
      if r_6 < (5 : Int32) then (
        nm (v3 + (1 : Int32)) (fun v3_19 =>
        fX10_noise_24 o_power o_quarter o_told n o_thrown o_bank_7 o_runRadix_8 o_runOrder_9 o_runNear_10 o_runLimit_11 o_runHalves_12 o_drawn_13 o_all_14 o_laidIm_15 o_laidRe_16 v1 v2 v3_19)
      ) else (
        some (v3, o_thrown, o_bank_7, o_runRadix_8, o_runOrder_9, o_runNear_10, o_runLimit_11, o_runHalves_12, o_drawn_13, o_all_14, o_laidIm_15, o_laidRe_16)
      ))
    )
def fX10_noise (o_thrown : Int32) (o_bank : Int32) (o_runRadix : Int32) (o_runOrder : Int32) (o_runNear : Int32) (o_runLimit : Int32) (o_runHalves : Int32) (o_power : Int32) (o_drawn : Int64) (o_all : Nat → Int32) (o_laidIm : Nat → Int32) (o_laidRe : Nat → Int32) (o_quarter : Nat → Int32) (o_told : Nat → Int32) (p1 : Int32) (p2 : Int32) : Option (Int32 × Int32 × Int32 × Int32 × Int32 × Int32 × Int32 × Int32 × Int64 × (Nat → Int32) × (Nat → Int32) × (Nat → Int32)) :=
  if p1 < (-1 : Int32) then (
    some ((-1 : Int32), (0 : Int32), o_bank, o_runRadix, o_runOrder, o_runNear, o_runLimit, o_runHalves, o_drawn, o_all, o_laidIm, o_laidRe)
  ) else (
    bd1 (fX10_isIn p2 (0 : Int32) (20 : Int32)) (fun r_2 =>
    if r_2 = 0 then (
      some ((-1 : Int32), (0 : Int32), o_bank, o_runRadix, o_runOrder, o_runNear, o_runLimit, o_runHalves, o_drawn, o_all, o_laidIm, o_laidRe)
    ) else (
      fX10_noise_24 o_power o_quarter o_told FU (0 : Int32) o_bank o_runRadix o_runOrder o_runNear o_runLimit o_runHalves o_drawn o_all o_laidIm o_laidRe p1 p2 (1 : Int32)
    ))
  )
set_option maxHeartbeats 4000000 in
set_option maxRecDepth 100000 in
theorem tX10_noise (l : Launch) (G : va_G) (cI cJ cZ : ClassId) (sz : Nat) (h_o h_o_all h_o_laidIm h_o_laidRe h_o_quarter h_o_told h_o_tape h_o_words h_o_isTold h_o_toldWave h_o_isPoint h_o_roots h_o_byOrder h_o_noted1 h_o_counts h_o_binBy : Nat) (o_tapeSize : Int32) (o_thrown : Int32) (o_fault : Int32) (o_faultPlace : Int32) (o_stop : Int32) (o_next : Int32) (o_kind : Int32) (o_which : Int32) (o_at : Int32) (o_pointsRead : Int32) (o_bank : Int32) (o_isImage : Int32) (o_undos : Int32) (o_runRadix : Int32) (o_runOrder : Int32) (o_runNear : Int32) (o_runLimit : Int32) (o_runHalves : Int32) (o_power : Int32) (o_notedMany : Int32) (o_knownTold : Int32) (o_drawn : Int64) (o_all : Nat → Int32) (o_laidIm : Nat → Int32) (o_laidRe : Nat → Int32) (o_quarter : Nat → Int32) (o_told : Nat → Int32) (p1 : Int32) (p2 : Int32) (r : Int32) (out_o_thrown : Int32) (out_o_bank : Int32) (out_o_runRadix : Int32) (out_o_runOrder : Int32) (out_o_runNear : Int32) (out_o_runLimit : Int32) (out_o_runHalves : Int32) (out_o_drawn : Int64) (out_o_all : Nat → Int32) (out_o_laidIm : Nat → Int32) (out_o_laidRe : Nat → Int32) (hf : fX10_noise o_thrown o_bank o_runRadix o_runOrder o_runNear o_runLimit o_runHalves o_power o_drawn o_all o_laidIm o_laidRe o_quarter o_told p1 p2 = some (r, out_o_thrown, out_o_bank, out_o_runRadix, out_o_runOrder, out_o_runNear, out_o_runLimit, out_o_runHalves, out_o_drawn, out_o_all, out_o_laidIm, out_o_laidRe)) : Met l yX10_noise (Cond.code yX10_noise cX10_noise 4 (some .int) :: BIG) ({ frames := 9, cells := 0, slots := 0, locals := 213 } : Room) (cP G (TY3 cI cJ cZ) [.ref h_o, .int p1, .int p2] sz (wX10_noise cI cJ cZ h_o h_o_all h_o_laidIm h_o_laidRe h_o_quarter h_o_told h_o_tape h_o_words h_o_isTold h_o_toldWave h_o_isPoint h_o_roots h_o_byOrder h_o_noted1 h_o_counts h_o_binBy o_tapeSize o_thrown o_fault o_faultPlace o_stop o_next o_kind o_which o_at o_pointsRead o_bank o_isImage o_undos o_runRadix o_runOrder o_runNear o_runLimit o_runHalves o_power o_notedMany o_knownTold o_drawn o_all o_laidIm o_laidRe o_quarter o_told)) (cQ G (TY3 cI cJ cZ) sz (wX10_noise cI cJ cZ h_o h_o_all h_o_laidIm h_o_laidRe h_o_quarter h_o_told h_o_tape h_o_words h_o_isTold h_o_toldWave h_o_isPoint h_o_roots h_o_byOrder h_o_noted1 h_o_counts h_o_binBy o_tapeSize o_thrown o_fault o_faultPlace o_stop o_next o_kind o_which o_at o_pointsRead o_bank o_isImage o_undos o_runRadix o_runOrder o_runNear o_runLimit o_runHalves o_power o_notedMany o_knownTold o_drawn o_all o_laidIm o_laidRe o_quarter o_told) (wX10_noise cI cJ cZ h_o h_o_all h_o_laidIm h_o_laidRe h_o_quarter h_o_told h_o_tape h_o_words h_o_isTold h_o_toldWave h_o_isPoint h_o_roots h_o_byOrder h_o_noted1 h_o_counts h_o_binBy o_tapeSize out_o_thrown o_fault o_faultPlace o_stop o_next o_kind o_which o_at o_pointsRead out_o_bank o_isImage o_undos out_o_runRadix out_o_runOrder out_o_runNear out_o_runLimit out_o_runHalves o_power o_notedMany o_knownTold out_o_drawn out_o_all out_o_laidIm out_o_laidRe o_quarter o_told) (some (.int r))) 0 0 (va_A (wX10_noise cI cJ cZ h_o h_o_all h_o_laidIm h_o_laidRe h_o_quarter h_o_told h_o_tape h_o_words h_o_isTold h_o_toldWave h_o_isPoint h_o_roots h_o_byOrder h_o_noted1 h_o_counts h_o_binBy o_tapeSize o_thrown o_fault o_faultPlace o_stop o_next o_kind o_which o_at o_pointsRead o_bank o_isImage o_undos o_runRadix o_runOrder o_runNear o_runLimit o_runHalves o_power o_notedMany o_knownTold o_drawn o_all o_laidIm o_laidRe o_quarter o_told) sz) := by
  refine met_i (cc := cX10_noise) (maxL := 4) (plainFor_of_name (by decide)) (Nat.le_of_ble_eq_true rfl) (fun p e s m below meth c A ls Q hx hb hml hts hown hK hP hD hS hA hl hret => ?_)
  have hown : s.vm.findClass RX10 = some m.cls := hown
  have hl : lv_has ls 4 [(0, .ref h_o), (1, .int p1), (2, .int p2)] := hl
  have j24 : ∀ (n : Nat) (o_thrown : Int32) (o_bank : Int32) (o_runRadix : Int32) (o_runOrder : Int32) (o_runNear : Int32) (o_runLimit : Int32) (o_runHalves : Int32) (o_drawn : Int64) (o_all : Nat → Int32) (o_laidIm : Nat → Int32) (o_laidRe : Nat → Int32) (v1 : Int32) (v2 : Int32) (v3 : Int32) (H : Heap) (locs : List Loc) (ls : Array Slot), fX10_noise_24 o_power o_quarter o_told n o_thrown o_bank o_runRadix o_runOrder o_runNear o_runLimit o_runHalves o_drawn o_all o_laidIm o_laidRe v1 v2 v3 = some (r, out_o_thrown, out_o_bank, out_o_runRadix, out_o_runOrder, out_o_runNear, out_o_runLimit, out_o_runHalves, out_o_drawn, out_o_all, out_o_laidIm, out_o_laidRe) → va_P G vwCl (wX10_noise cI cJ cZ h_o h_o_all h_o_laidIm h_o_laidRe h_o_quarter h_o_told h_o_tape h_o_words h_o_isTold h_o_toldWave h_o_isPoint h_o_roots h_o_byOrder h_o_noted1 h_o_counts h_o_binBy o_tapeSize o_thrown o_fault o_faultPlace o_stop o_next o_kind o_which o_at o_pointsRead o_bank o_isImage o_undos o_runRadix o_runOrder o_runNear o_runLimit o_runHalves o_power o_notedMany o_knownTold o_drawn o_all o_laidIm o_laidRe o_quarter o_told) H → va_D A (wX10_noise cI cJ cZ h_o h_o_all h_o_laidIm h_o_laidRe h_o_quarter h_o_told h_o_tape h_o_words h_o_isTold h_o_toldWave h_o_isPoint h_o_roots h_o_byOrder h_o_noted1 h_o_counts h_o_binBy o_tapeSize o_thrown o_fault o_faultPlace o_stop o_next o_kind o_which o_at o_pointsRead o_bank o_isImage o_undos o_runRadix o_runOrder o_runNear o_runLimit o_runHalves o_power o_notedMany o_knownTold o_drawn o_all o_laidIm o_laidRe o_quarter o_told) → va_S A s.heap H locs → lv_has ls 4 [(0, .ref h_o), (1, .int v1), (2, .int v2), (3, .int v3)] → W p l e ({ frames := 9, cells := 0, slots := 0, locals := 213 } : Room) s m ([.ref h_o, .int p1, .int p2] : List Value).toArray below meth c H locs 0 0 Q (F0 m 24 ls []) := by
    intro n
    induction n with
    | zero =>
      intro o_thrown o_bank o_runRadix o_runOrder o_runNear o_runLimit o_runHalves o_drawn o_all o_laidIm o_laidRe v1 v2 v3 H locs ls hf
      have hf : (none : Option (Int32 × Int32 × Int32 × Int32 × Int32 × Int32 × Int32 × Int32 × Int64 × (Nat → Int32) × (Nat → Int32) × (Nat → Int32))) = some (r, out_o_thrown, out_o_bank, out_o_runRadix, out_o_runOrder, out_o_runNear, out_o_runLimit, out_o_runHalves, out_o_drawn, out_o_all, out_o_laidIm, out_o_laidRe) := hf
      cases hf
    | succ n ih =>
      intro o_thrown o_bank o_runRadix o_runOrder o_runNear o_runLimit o_runHalves o_drawn o_all o_laidIm o_laidRe v1 v2 v3 H locs ls hf hP hD hS hl
      rw [fX10_noise_24.eq_2] at hf
      refine lv_iload_n hx hb dX10_noise_24 rfl (lv_at hl 3 rfl) ?_
      refine lv_bipush (v := (99 : Int32)) hx hb dX10_noise_25 (by decide) ?_
      refine lv_icmp_gt (tgt := 49) hx hb dX10_noise_27 (by decide) (fun c_5 => ?_) (fun c_5 => ?_)
      · have hf := it_t c_5 hf
        refine lv_bipush (v := (-2 : Int32)) hx hb dX10_noise_49 (by decide) ?_
        cases hf
        exact hret _ _ _ _ dX10_noise_51 hP hD hS
      · have hf := it_f c_5 hf
        refine lv_aload_n hx hb dX10_noise_30 rfl (lv_at hl 0 rfl) ?_
        refine lv_iload_n hx hb dX10_noise_31 rfl (lv_at hl 1 rfl) ?_
        refine lv_iload_n hx hb dX10_noise_32 rfl (lv_at hl 3 rfl) ?_
        refine lv_iload_n hx hb dX10_noise_33 rfl (lv_at hl 2 rfl) ?_
        obtain ⟨r_6, o_bank_7, o_runRadix_8, o_runOrder_9, o_runNear_10, o_runLimit_11, o_runHalves_12, o_drawn_13, o_all_14, o_laidIm_15, o_laidRe_16, e_17, hf⟩ := bd11_x hf
        refine call_v [.int v1, .int v3, .int v2] [] ⟨hx, hb, hml, hown, hts⟩ hK hP hD hS hA hl.1 (tX10_chanceOf l G cI cJ cZ H.size h_o h_o_all h_o_laidIm h_o_laidRe h_o_quarter h_o_told h_o_tape h_o_words h_o_isTold h_o_toldWave h_o_isPoint h_o_roots h_o_byOrder h_o_noted1 h_o_counts h_o_binBy o_tapeSize o_thrown o_fault o_faultPlace o_stop o_next o_kind o_which o_at o_pointsRead o_bank o_isImage o_undos o_runRadix o_runOrder o_runNear o_runLimit o_runHalves o_power o_notedMany o_knownTold o_drawn o_all o_laidIm o_laidRe o_quarter o_told v1 v3 v2 r_6 o_bank_7 o_runRadix_8 o_runOrder_9 o_runNear_10 o_runLimit_11 o_runHalves_12 o_drawn_13 o_all_14 o_laidIm_15 o_laidRe_16 e_17) (cwV 3 hts (gv q_mX10_405 q_i_yX10_chanceOf q_s_yX10_chanceOf q_n_RX10 q_k_yX10_chanceOf) rfl rfl rfl (by decide +kernel) ⟨by decide, by decide⟩) rfl rfl (Nat.le_of_ble_eq_true rfl) dX10_noise_34 ⟨Nat.zero_le _, Nat.zero_le _⟩ (ci := 10) rfl 0 rfl [0, 1, 2, 3, 4, 5] [] [0, 1, 2, 3, 4, 5] rfl rfl (ws2 := (wX10_noise cI cJ cZ h_o h_o_all h_o_laidIm h_o_laidRe h_o_quarter h_o_told h_o_tape h_o_words h_o_isTold h_o_toldWave h_o_isPoint h_o_roots h_o_byOrder h_o_noted1 h_o_counts h_o_binBy o_tapeSize o_thrown o_fault o_faultPlace o_stop o_next o_kind o_which o_at o_pointsRead o_bank_7 o_isImage o_undos o_runRadix_8 o_runOrder_9 o_runNear_10 o_runLimit_11 o_runHalves_12 o_power o_notedMany o_knownTold o_drawn_13 o_all_14 o_laidIm_15 o_laidRe_16 o_quarter o_told)) rfl (fun H locs hP hD hS => ?_)
        refine W.eq (g2 := F0 m 37 ls [.int r_6]) rfl ?_
        refine lv_iconst (v := (5 : Int32)) hx hb dX10_noise_37 (by decide) ?_
        refine lv_icmp_lt (tgt := 43) hx hb dX10_noise_38 (by decide) (fun c_18 => ?_) (fun c_18 => ?_)
        · have hf := it_t c_18 hf
          obtain ⟨v3_19, ev3_19⟩ : ∃ y : Int32, y = v3 + (1 : Int32) := ⟨_, rfl⟩
          have hf := nm_x ev3_19 hf
          refine lv_iinc (v := v3_19) (lv' := [(3, .int v3_19), (0, .ref h_o), (1, .int v1), (2, .int v2)]) hx hb dX10_noise_43 hl (k := 3) rfl (by rw [ev3_19]; rfl) (by decide) rfl (fun ls hl => ?_)
          refine lv_goto (tgt := 24) hx hb dX10_noise_46 (by decide) ?_
          exact ih o_thrown o_bank_7 o_runRadix_8 o_runOrder_9 o_runNear_10 o_runLimit_11 o_runHalves_12 o_drawn_13 o_all_14 o_laidIm_15 o_laidRe_16 v1 v2 v3_19 H locs ls hf hP hD hS (lv_sub hl [1, 2, 3, 0] rfl)
        · have hf := it_f c_18 hf
          refine lv_iload_n hx hb dX10_noise_41 rfl (lv_at hl 3 rfl) ?_
          cases hf
          exact hret _ _ _ _ dX10_noise_42 hP hD hS
  unfold fX10_noise at hf
  obtain ⟨H, eH⟩ : ∃ H, H = s.heap := ⟨_, rfl⟩
  obtain ⟨locs, elocs⟩ : ∃ z : List Loc, z = [] := ⟨_, rfl⟩
  have hP : va_P G vwCl (wX10_noise cI cJ cZ h_o h_o_all h_o_laidIm h_o_laidRe h_o_quarter h_o_told h_o_tape h_o_words h_o_isTold h_o_toldWave h_o_isPoint h_o_roots h_o_byOrder h_o_noted1 h_o_counts h_o_binBy o_tapeSize o_thrown o_fault o_faultPlace o_stop o_next o_kind o_which o_at o_pointsRead o_bank o_isImage o_undos o_runRadix o_runOrder o_runNear o_runLimit o_runHalves o_power o_notedMany o_knownTold o_drawn o_all o_laidIm o_laidRe o_quarter o_told) H := by rw [eH]; exact hP
  have hS : va_S A s.heap H locs := by rw [eH, elocs]; exact hS
  suffices hgo : W p l e ({ frames := 9, cells := 0, slots := 0, locals := 213 } : Room) s m ([.ref h_o, .int p1, .int p2] : List Value).toArray below meth c H locs 0 0 Q (F0 m 0 ls []) by rw [eH, elocs] at hgo; exact hgo
  clear eH elocs
  refine lv_aload_n hx hb dX10_noise_0 rfl (lv_at hl 0 rfl) ?_
  refine lv_iconst (v := (0 : Int32)) hx hb dX10_noise_1 (by decide) ?_
  refine wr (ci := 10) (C := RX10) (T := TX10) (N := 37) hx hb hts inX10 tyX10 tyX10_ok nmX10 hown hK hP hD hS 0 2 rfl rfl (by decide) (hts _ q_fX10_70) rfl rfl rfl (Nat.le_of_ble_eq_true rfl) dX10_noise_2 (ws2 := (wX10_noise cI cJ cZ h_o h_o_all h_o_laidIm h_o_laidRe h_o_quarter h_o_told h_o_tape h_o_words h_o_isTold h_o_toldWave h_o_isPoint h_o_roots h_o_byOrder h_o_noted1 h_o_counts h_o_binBy o_tapeSize (0 : Int32) o_fault o_faultPlace o_stop o_next o_kind o_which o_at o_pointsRead o_bank o_isImage o_undos o_runRadix o_runOrder o_runNear o_runLimit o_runHalves o_power o_notedMany o_knownTold o_drawn o_all o_laidIm o_laidRe o_quarter o_told)) rfl (fun H locs hP hD hS => ?_)
  refine lv_iload_n hx hb dX10_noise_5 rfl (lv_at hl 1 rfl) ?_
  refine lv_iconst (v := (-1 : Int32)) hx hb dX10_noise_6 (by decide) ?_
  refine lv_icmp_lt (tgt := 20) hx hb dX10_noise_7 (by decide) (fun c_1 => ?_) (fun c_1 => ?_)
  · have hf := it_t c_1 hf
    refine lv_iconst (v := (-1 : Int32)) hx hb dX10_noise_20 (by decide) ?_
    cases hf
    exact hret _ _ _ _ dX10_noise_21 hP hD hS
  · have hf := it_f c_1 hf
    refine lv_iload_n hx hb dX10_noise_10 rfl (lv_at hl 2 rfl) ?_
    refine lv_iconst (v := (0 : Int32)) hx hb dX10_noise_11 (by decide) ?_
    refine lv_bipush (v := (20 : Int32)) hx hb dX10_noise_12 (by decide) ?_
    obtain ⟨r_2, e_3, hf⟩ := bd1_x hf
    refine call_s [.int p2, .int (0 : Int32), .int (20 : Int32)] [] ⟨hx, hb, hml, hown, hts⟩ hK hP hD hS hA hl.1 (tX10_isIn l G cI cJ cZ H.size p2 (0 : Int32) (20 : Int32) r_2 e_3) (va_cwS 3 hts (gs q_mX10_138 q_s_yX10_isIn q_n_RX10 q_k_yX10_isIn) rfl rfl rfl (by decide +kernel) ⟨by decide, by decide⟩) rfl rfl (Nat.le_of_ble_eq_true rfl) dX10_noise_14 ⟨Nat.zero_le _, Nat.zero_le _⟩ [] [0, 1, 2, 3, 4, 5] [0, 1, 2, 3, 4, 5] rfl rfl (ws2 := (wX10_noise cI cJ cZ h_o h_o_all h_o_laidIm h_o_laidRe h_o_quarter h_o_told h_o_tape h_o_words h_o_isTold h_o_toldWave h_o_isPoint h_o_roots h_o_byOrder h_o_noted1 h_o_counts h_o_binBy o_tapeSize (0 : Int32) o_fault o_faultPlace o_stop o_next o_kind o_which o_at o_pointsRead o_bank o_isImage o_undos o_runRadix o_runOrder o_runNear o_runLimit o_runHalves o_power o_notedMany o_knownTold o_drawn o_all o_laidIm o_laidRe o_quarter o_told)) rfl (fun H locs hP hD hS => ?_)
    refine W.eq (g2 := F0 m 17 ls [.int r_2]) rfl ?_
    refine lv_if_ne (tgt := 22) hx hb dX10_noise_17 (by decide) (fun c_4 => ?_) (fun c_4 => ?_)
    · have hf := it_f c_4 hf
      refine lv_iconst (v := (1 : Int32)) hx hb dX10_noise_22 (by decide) ?_
      refine lv_istore_n (lv' := [(3, .int (1 : Int32)), (0, .ref h_o), (1, .int p1), (2, .int p2)]) hx hb dX10_noise_23 rfl hl (by decide) rfl (fun ls hl => ?_)
      exact j24 FU (0 : Int32) o_bank o_runRadix o_runOrder o_runNear o_runLimit o_runHalves o_drawn o_all o_laidIm o_laidRe p1 p2 (1 : Int32) H locs ls hf hP hD hS (lv_sub hl [1, 2, 3, 0] rfl)
    · have hf := it_t c_4 hf
      refine lv_iconst (v := (-1 : Int32)) hx hb dX10_noise_20 (by decide) ?_
      cases hf
      exact hret _ _ _ _ dX10_noise_21 hP hD hS
def wX10_expWithout (cI cJ cZ : ClassId) (h_o h_o_all h_o_laidIm h_o_laidRe h_o_quarter h_o_told h_o_tape h_o_words h_o_isTold h_o_toldWave h_o_isPoint h_o_roots h_o_byOrder h_o_noted1 h_o_counts h_o_binBy : Nat) (o_tapeSize : Int32) (o_thrown : Int32) (o_fault : Int32) (o_faultPlace : Int32) (o_stop : Int32) (o_next : Int32) (o_kind : Int32) (o_which : Int32) (o_at : Int32) (o_pointsRead : Int32) (o_bank : Int32) (o_isImage : Int32) (o_undos : Int32) (o_runRadix : Int32) (o_runOrder : Int32) (o_runNear : Int32) (o_runLimit : Int32) (o_runHalves : Int32) (o_power : Int32) (o_notedMany : Int32) (o_knownTold : Int32) (o_drawn : Int64) (o_all : Nat → Int32) (o_laidIm : Nat → Int32) (o_laidRe : Nat → Int32) (o_quarter : Nat → Int32) (o_told : Nat → Int32) : va_W := [(h_o, .inr (10, [.ref h_o_tape, .int o_tapeSize, .int o_thrown, .ref h_o_words, .int o_fault, .int o_faultPlace, .int o_stop, .int o_next, .int o_kind, .int o_which, .int o_at, .ref h_o_told, .ref h_o_isTold, .ref h_o_toldWave, .ref h_o_isPoint, .int o_pointsRead, .ref h_o_all, .int o_bank, .int o_isImage, .int o_undos, .int o_runRadix, .int o_runOrder, .int o_runNear, .int o_runLimit, .int o_runHalves, .ref h_o_quarter, .int o_power, .ref h_o_roots, .ref h_o_laidRe, .ref h_o_laidIm, .ref h_o_byOrder, .int o_notedMany, .int o_knownTold, .ref h_o_noted1, .ref h_o_counts, .ref h_o_binBy, .long o_drawn])), (h_o_all, .inl (cI, 3128, .inl o_all)), (h_o_laidIm, .inl (cI, 32, .inl o_laidIm)), (h_o_laidRe, .inl (cI, 32, .inl o_laidRe)), (h_o_quarter, .inl (cI, 9, .inl o_quarter)), (h_o_told, .inl (cI, 12, .inl o_told))]
def fX10_expWithout (o_bank : Int32) (o_runRadix : Int32) (o_runOrder : Int32) (o_runNear : Int32) (o_runLimit : Int32) (o_runHalves : Int32) (o_power : Int32) (o_all : Nat → Int32) (o_laidIm : Nat → Int32) (o_laidRe : Nat → Int32) (o_quarter : Nat → Int32) (o_told : Nat → Int32) (p1 : Int32) : Option (Int32 × Int32 × Int32 × Int32 × Int32 × Int32 × Int32 × (Nat → Int32) × (Nat → Int32) × (Nat → Int32)) :=
  bd2 (fX10_asWas o_bank o_all) (fun o_bank_1 o_all_2 =>
  bd1 (fX10_lay o_bank_1 o_all_2 p1 (0 : Int32)) (fun o_all_4 =>
  bd1 (fX10_lay o_bank_1 o_all_4 ((32 : Int32) + p1) (0 : Int32)) (fun o_all_6 =>
  bd4 (fX10_expRun o_bank_1 o_runRadix o_runOrder o_runNear o_runLimit o_runHalves o_power o_all_6 o_laidIm o_laidRe o_quarter o_told) (fun r_8 o_all_9 o_laidIm_10 o_laidRe_11 =>
  bd6 (fX10_asItIs o_bank_1 o_runRadix o_runOrder o_runNear o_runLimit o_runHalves o_told) (fun o_bank_13 o_runRadix_14 o_runOrder_15 o_runNear_16 o_runLimit_17 o_runHalves_18 =>
  some (r_8, o_bank_13, o_runRadix_14, o_runOrder_15, o_runNear_16, o_runLimit_17, o_runHalves_18, o_all_9, o_laidIm_10, o_laidRe_11))))))
set_option maxHeartbeats 4000000 in
set_option maxRecDepth 100000 in
theorem tX10_expWithout (l : Launch) (G : va_G) (cI cJ cZ : ClassId) (sz : Nat) (h_o h_o_all h_o_laidIm h_o_laidRe h_o_quarter h_o_told h_o_tape h_o_words h_o_isTold h_o_toldWave h_o_isPoint h_o_roots h_o_byOrder h_o_noted1 h_o_counts h_o_binBy : Nat) (o_tapeSize : Int32) (o_thrown : Int32) (o_fault : Int32) (o_faultPlace : Int32) (o_stop : Int32) (o_next : Int32) (o_kind : Int32) (o_which : Int32) (o_at : Int32) (o_pointsRead : Int32) (o_bank : Int32) (o_isImage : Int32) (o_undos : Int32) (o_runRadix : Int32) (o_runOrder : Int32) (o_runNear : Int32) (o_runLimit : Int32) (o_runHalves : Int32) (o_power : Int32) (o_notedMany : Int32) (o_knownTold : Int32) (o_drawn : Int64) (o_all : Nat → Int32) (o_laidIm : Nat → Int32) (o_laidRe : Nat → Int32) (o_quarter : Nat → Int32) (o_told : Nat → Int32) (p1 : Int32) (r : Int32) (out_o_bank : Int32) (out_o_runRadix : Int32) (out_o_runOrder : Int32) (out_o_runNear : Int32) (out_o_runLimit : Int32) (out_o_runHalves : Int32) (out_o_all : Nat → Int32) (out_o_laidIm : Nat → Int32) (out_o_laidRe : Nat → Int32) (hf : fX10_expWithout o_bank o_runRadix o_runOrder o_runNear o_runLimit o_runHalves o_power o_all o_laidIm o_laidRe o_quarter o_told p1 = some (r, out_o_bank, out_o_runRadix, out_o_runOrder, out_o_runNear, out_o_runLimit, out_o_runHalves, out_o_all, out_o_laidIm, out_o_laidRe)) : Met l yX10_expWithout (Cond.code yX10_expWithout cX10_expWithout 3 (some .int) :: BIG) ({ frames := 8, cells := 0, slots := 0, locals := 187 } : Room) (cP G (TY3 cI cJ cZ) [.ref h_o, .int p1] sz (wX10_expWithout cI cJ cZ h_o h_o_all h_o_laidIm h_o_laidRe h_o_quarter h_o_told h_o_tape h_o_words h_o_isTold h_o_toldWave h_o_isPoint h_o_roots h_o_byOrder h_o_noted1 h_o_counts h_o_binBy o_tapeSize o_thrown o_fault o_faultPlace o_stop o_next o_kind o_which o_at o_pointsRead o_bank o_isImage o_undos o_runRadix o_runOrder o_runNear o_runLimit o_runHalves o_power o_notedMany o_knownTold o_drawn o_all o_laidIm o_laidRe o_quarter o_told)) (cQ G (TY3 cI cJ cZ) sz (wX10_expWithout cI cJ cZ h_o h_o_all h_o_laidIm h_o_laidRe h_o_quarter h_o_told h_o_tape h_o_words h_o_isTold h_o_toldWave h_o_isPoint h_o_roots h_o_byOrder h_o_noted1 h_o_counts h_o_binBy o_tapeSize o_thrown o_fault o_faultPlace o_stop o_next o_kind o_which o_at o_pointsRead o_bank o_isImage o_undos o_runRadix o_runOrder o_runNear o_runLimit o_runHalves o_power o_notedMany o_knownTold o_drawn o_all o_laidIm o_laidRe o_quarter o_told) (wX10_expWithout cI cJ cZ h_o h_o_all h_o_laidIm h_o_laidRe h_o_quarter h_o_told h_o_tape h_o_words h_o_isTold h_o_toldWave h_o_isPoint h_o_roots h_o_byOrder h_o_noted1 h_o_counts h_o_binBy o_tapeSize o_thrown o_fault o_faultPlace o_stop o_next o_kind o_which o_at o_pointsRead out_o_bank o_isImage o_undos out_o_runRadix out_o_runOrder out_o_runNear out_o_runLimit out_o_runHalves o_power o_notedMany o_knownTold o_drawn out_o_all out_o_laidIm out_o_laidRe o_quarter o_told) (some (.int r))) 0 0 (va_A (wX10_expWithout cI cJ cZ h_o h_o_all h_o_laidIm h_o_laidRe h_o_quarter h_o_told h_o_tape h_o_words h_o_isTold h_o_toldWave h_o_isPoint h_o_roots h_o_byOrder h_o_noted1 h_o_counts h_o_binBy o_tapeSize o_thrown o_fault o_faultPlace o_stop o_next o_kind o_which o_at o_pointsRead o_bank o_isImage o_undos o_runRadix o_runOrder o_runNear o_runLimit o_runHalves o_power o_notedMany o_knownTold o_drawn o_all o_laidIm o_laidRe o_quarter o_told) sz) := by
  refine met_i (cc := cX10_expWithout) (maxL := 3) (plainFor_of_name (by decide)) (Nat.le_of_ble_eq_true rfl) (fun p e s m below meth c A ls Q hx hb hml hts hown hK hP hD hS hA hl hret => ?_)
  have hown : s.vm.findClass RX10 = some m.cls := hown
  have hl : lv_has ls 3 [(0, .ref h_o), (1, .int p1)] := hl
  unfold fX10_expWithout at hf
  obtain ⟨H, eH⟩ : ∃ H, H = s.heap := ⟨_, rfl⟩
  obtain ⟨locs, elocs⟩ : ∃ z : List Loc, z = [] := ⟨_, rfl⟩
  have hP : va_P G vwCl (wX10_expWithout cI cJ cZ h_o h_o_all h_o_laidIm h_o_laidRe h_o_quarter h_o_told h_o_tape h_o_words h_o_isTold h_o_toldWave h_o_isPoint h_o_roots h_o_byOrder h_o_noted1 h_o_counts h_o_binBy o_tapeSize o_thrown o_fault o_faultPlace o_stop o_next o_kind o_which o_at o_pointsRead o_bank o_isImage o_undos o_runRadix o_runOrder o_runNear o_runLimit o_runHalves o_power o_notedMany o_knownTold o_drawn o_all o_laidIm o_laidRe o_quarter o_told) H := by rw [eH]; exact hP
  have hS : va_S A s.heap H locs := by rw [eH, elocs]; exact hS
  suffices hgo : W p l e ({ frames := 8, cells := 0, slots := 0, locals := 187 } : Room) s m ([.ref h_o, .int p1] : List Value).toArray below meth c H locs 0 0 Q (F0 m 0 ls []) by rw [eH, elocs] at hgo; exact hgo
  clear eH elocs
  refine lv_aload_n hx hb dX10_expWithout_0 rfl (lv_at hl 0 rfl) ?_
  obtain ⟨o_bank_1, o_all_2, e_3, hf⟩ := bd2_x hf
  refine call_v [] [] ⟨hx, hb, hml, hown, hts⟩ hK hP hD hS hA hl.1 (tX10_asWas l G cI cJ cZ H.size h_o h_o_all h_o_tape h_o_words h_o_told h_o_isTold h_o_toldWave h_o_isPoint h_o_quarter h_o_roots h_o_laidRe h_o_laidIm h_o_byOrder h_o_noted1 h_o_counts h_o_binBy o_tapeSize o_thrown o_fault o_faultPlace o_stop o_next o_kind o_which o_at o_pointsRead o_bank o_isImage o_undos o_runRadix o_runOrder o_runNear o_runLimit o_runHalves o_power o_notedMany o_knownTold o_drawn o_all o_bank_1 o_all_2 e_3) (cwV 0 hts (gv q_mX10_311 q_i_yX10_asWas q_s_yX10_asWas q_n_RX10 q_k_yX10_asWas) rfl rfl rfl (by decide +kernel) ⟨by decide, by decide⟩) rfl rfl (Nat.le_of_ble_eq_true rfl) dX10_expWithout_1 ⟨Nat.zero_le _, Nat.zero_le _⟩ (ci := 10) rfl 0 rfl [0, 1] [2, 3, 4, 5] [4, 5, 0, 1, 2, 3] rfl rfl (ws2 := (wX10_expWithout cI cJ cZ h_o h_o_all h_o_laidIm h_o_laidRe h_o_quarter h_o_told h_o_tape h_o_words h_o_isTold h_o_toldWave h_o_isPoint h_o_roots h_o_byOrder h_o_noted1 h_o_counts h_o_binBy o_tapeSize o_thrown o_fault o_faultPlace o_stop o_next o_kind o_which o_at o_pointsRead o_bank_1 o_isImage o_undos o_runRadix o_runOrder o_runNear o_runLimit o_runHalves o_power o_notedMany o_knownTold o_drawn o_all_2 o_laidIm o_laidRe o_quarter o_told)) rfl (fun H locs hP hD hS => ?_)
  refine W.eq (g2 := F0 m 4 ls []) rfl ?_
  refine lv_aload_n hx hb dX10_expWithout_4 rfl (lv_at hl 0 rfl) ?_
  refine lv_iload_n hx hb dX10_expWithout_5 rfl (lv_at hl 1 rfl) ?_
  refine lv_iconst (v := (0 : Int32)) hx hb dX10_expWithout_6 (by decide) ?_
  obtain ⟨o_all_4, e_5, hf⟩ := bd1_x hf
  refine call_v [.int p1, .int (0 : Int32)] [] ⟨hx, hb, hml, hown, hts⟩ hK hP hD hS hA hl.1 (tX10_lay l G cI cJ cZ H.size h_o h_o_all h_o_tape h_o_words h_o_told h_o_isTold h_o_toldWave h_o_isPoint h_o_quarter h_o_roots h_o_laidRe h_o_laidIm h_o_byOrder h_o_noted1 h_o_counts h_o_binBy o_tapeSize o_thrown o_fault o_faultPlace o_stop o_next o_kind o_which o_at o_pointsRead o_bank_1 o_isImage o_undos o_runRadix o_runOrder o_runNear o_runLimit o_runHalves o_power o_notedMany o_knownTold o_drawn o_all_2 p1 (0 : Int32) o_all_4 e_5) (cwV 2 hts (gv q_mX10_118 q_i_yX10_lay q_s_yX10_lay q_n_RX10 q_k_yX10_lay) rfl rfl rfl (by decide +kernel) ⟨by decide, by decide⟩) rfl rfl (Nat.le_of_ble_eq_true rfl) dX10_expWithout_7 ⟨Nat.zero_le _, Nat.zero_le _⟩ (ci := 10) rfl 0 rfl [0, 1] [2, 3, 4, 5] [4, 5, 0, 1, 2, 3] rfl rfl (ws2 := (wX10_expWithout cI cJ cZ h_o h_o_all h_o_laidIm h_o_laidRe h_o_quarter h_o_told h_o_tape h_o_words h_o_isTold h_o_toldWave h_o_isPoint h_o_roots h_o_byOrder h_o_noted1 h_o_counts h_o_binBy o_tapeSize o_thrown o_fault o_faultPlace o_stop o_next o_kind o_which o_at o_pointsRead o_bank_1 o_isImage o_undos o_runRadix o_runOrder o_runNear o_runLimit o_runHalves o_power o_notedMany o_knownTold o_drawn o_all_4 o_laidIm o_laidRe o_quarter o_told)) rfl (fun H locs hP hD hS => ?_)
  refine W.eq (g2 := F0 m 10 ls []) rfl ?_
  refine lv_aload_n hx hb dX10_expWithout_10 rfl (lv_at hl 0 rfl) ?_
  refine lv_bipush (v := (32 : Int32)) hx hb dX10_expWithout_11 (by decide) ?_
  refine lv_iload_n hx hb dX10_expWithout_13 rfl (lv_at hl 1 rfl) ?_
  refine lv_iadd hx hb dX10_expWithout_14 ?_
  refine lv_iconst (v := (0 : Int32)) hx hb dX10_expWithout_15 (by decide) ?_
  obtain ⟨o_all_6, e_7, hf⟩ := bd1_x hf
  refine call_v [.int ((32 : Int32) + p1), .int (0 : Int32)] [] ⟨hx, hb, hml, hown, hts⟩ hK hP hD hS hA hl.1 (tX10_lay l G cI cJ cZ H.size h_o h_o_all h_o_tape h_o_words h_o_told h_o_isTold h_o_toldWave h_o_isPoint h_o_quarter h_o_roots h_o_laidRe h_o_laidIm h_o_byOrder h_o_noted1 h_o_counts h_o_binBy o_tapeSize o_thrown o_fault o_faultPlace o_stop o_next o_kind o_which o_at o_pointsRead o_bank_1 o_isImage o_undos o_runRadix o_runOrder o_runNear o_runLimit o_runHalves o_power o_notedMany o_knownTold o_drawn o_all_4 ((32 : Int32) + p1) (0 : Int32) o_all_6 e_7) (cwV 2 hts (gv q_mX10_118 q_i_yX10_lay q_s_yX10_lay q_n_RX10 q_k_yX10_lay) rfl rfl rfl (by decide +kernel) ⟨by decide, by decide⟩) rfl rfl (Nat.le_of_ble_eq_true rfl) dX10_expWithout_16 ⟨Nat.zero_le _, Nat.zero_le _⟩ (ci := 10) rfl 0 rfl [0, 1] [2, 3, 4, 5] [4, 5, 0, 1, 2, 3] rfl rfl (ws2 := (wX10_expWithout cI cJ cZ h_o h_o_all h_o_laidIm h_o_laidRe h_o_quarter h_o_told h_o_tape h_o_words h_o_isTold h_o_toldWave h_o_isPoint h_o_roots h_o_byOrder h_o_noted1 h_o_counts h_o_binBy o_tapeSize o_thrown o_fault o_faultPlace o_stop o_next o_kind o_which o_at o_pointsRead o_bank_1 o_isImage o_undos o_runRadix o_runOrder o_runNear o_runLimit o_runHalves o_power o_notedMany o_knownTold o_drawn o_all_6 o_laidIm o_laidRe o_quarter o_told)) rfl (fun H locs hP hD hS => ?_)
  refine W.eq (g2 := F0 m 19 ls []) rfl ?_
  refine lv_aload_n hx hb dX10_expWithout_19 rfl (lv_at hl 0 rfl) ?_
  obtain ⟨r_8, o_all_9, o_laidIm_10, o_laidRe_11, e_12, hf⟩ := bd4_x hf
  refine call_v [] [] ⟨hx, hb, hml, hown, hts⟩ hK hP hD hS hA hl.1 (tX10_expRun l G cI cJ cZ H.size h_o h_o_all h_o_laidIm h_o_laidRe h_o_quarter h_o_told h_o_tape h_o_words h_o_isTold h_o_toldWave h_o_isPoint h_o_roots h_o_byOrder h_o_noted1 h_o_counts h_o_binBy o_tapeSize o_thrown o_fault o_faultPlace o_stop o_next o_kind o_which o_at o_pointsRead o_bank_1 o_isImage o_undos o_runRadix o_runOrder o_runNear o_runLimit o_runHalves o_power o_notedMany o_knownTold o_drawn o_all_6 o_laidIm o_laidRe o_quarter o_told r_8 o_all_9 o_laidIm_10 o_laidRe_11 e_12) (cwV 0 hts (gv q_mX10_314 q_i_yX10_expRun q_s_yX10_expRun q_n_RX10 q_k_yX10_expRun) rfl rfl rfl (by decide +kernel) ⟨by decide, by decide⟩) rfl rfl (Nat.le_of_ble_eq_true rfl) dX10_expWithout_20 ⟨Nat.zero_le _, Nat.zero_le _⟩ (ci := 10) rfl 0 rfl [0, 1, 2, 3, 4, 5] [] [0, 1, 2, 3, 4, 5] rfl rfl (ws2 := (wX10_expWithout cI cJ cZ h_o h_o_all h_o_laidIm h_o_laidRe h_o_quarter h_o_told h_o_tape h_o_words h_o_isTold h_o_toldWave h_o_isPoint h_o_roots h_o_byOrder h_o_noted1 h_o_counts h_o_binBy o_tapeSize o_thrown o_fault o_faultPlace o_stop o_next o_kind o_which o_at o_pointsRead o_bank_1 o_isImage o_undos o_runRadix o_runOrder o_runNear o_runLimit o_runHalves o_power o_notedMany o_knownTold o_drawn o_all_9 o_laidIm_10 o_laidRe_11 o_quarter o_told)) rfl (fun H locs hP hD hS => ?_)
  refine W.eq (g2 := F0 m 23 ls [.int r_8]) rfl ?_
  refine lv_istore_n (lv' := [(2, .int r_8), (0, .ref h_o), (1, .int p1)]) hx hb dX10_expWithout_23 rfl hl (by decide) rfl (fun ls hl => ?_)
  refine lv_aload_n hx hb dX10_expWithout_24 rfl (lv_at hl 1 rfl) ?_
  obtain ⟨o_bank_13, o_runRadix_14, o_runOrder_15, o_runNear_16, o_runLimit_17, o_runHalves_18, e_19, hf⟩ := bd6_x hf
  refine call_v [] [] ⟨hx, hb, hml, hown, hts⟩ hK hP hD hS hA hl.1 (tX10_asItIs l G cI cJ cZ H.size h_o h_o_told h_o_tape h_o_words h_o_isTold h_o_toldWave h_o_isPoint h_o_all h_o_quarter h_o_roots h_o_laidRe h_o_laidIm h_o_byOrder h_o_noted1 h_o_counts h_o_binBy o_tapeSize o_thrown o_fault o_faultPlace o_stop o_next o_kind o_which o_at o_pointsRead o_bank_1 o_isImage o_undos o_runRadix o_runOrder o_runNear o_runLimit o_runHalves o_power o_notedMany o_knownTold o_drawn o_told o_bank_13 o_runRadix_14 o_runOrder_15 o_runNear_16 o_runLimit_17 o_runHalves_18 e_19) (cwV 0 hts (gv q_mX10_289 q_i_yX10_asItIs q_s_yX10_asItIs q_n_RX10 q_k_yX10_asItIs) rfl rfl rfl (by decide +kernel) ⟨by decide, by decide⟩) rfl rfl (Nat.le_of_ble_eq_true rfl) dX10_expWithout_25 ⟨Nat.zero_le _, Nat.zero_le _⟩ (ci := 10) rfl 0 rfl [0, 5] [1, 2, 3, 4] [4, 0, 1, 2, 3, 5] rfl rfl (ws2 := (wX10_expWithout cI cJ cZ h_o h_o_all h_o_laidIm h_o_laidRe h_o_quarter h_o_told h_o_tape h_o_words h_o_isTold h_o_toldWave h_o_isPoint h_o_roots h_o_byOrder h_o_noted1 h_o_counts h_o_binBy o_tapeSize o_thrown o_fault o_faultPlace o_stop o_next o_kind o_which o_at o_pointsRead o_bank_13 o_isImage o_undos o_runRadix_14 o_runOrder_15 o_runNear_16 o_runLimit_17 o_runHalves_18 o_power o_notedMany o_knownTold o_drawn o_all_9 o_laidIm_10 o_laidRe_11 o_quarter o_told)) rfl (fun H locs hP hD hS => ?_)
  refine W.eq (g2 := F0 m 28 ls []) rfl ?_
  refine lv_iload_n hx hb dX10_expWithout_28 rfl (lv_at hl 0 rfl) ?_
  cases hf
  exact hret _ _ _ _ dX10_expWithout_29 hP hD hS
def wX10_tried (cI cJ cZ : ClassId) (h_o h_o_all h_o_laidIm h_o_laidRe h_o_quarter h_o_told h_o_tape h_o_words h_o_isTold h_o_toldWave h_o_isPoint h_o_roots h_o_byOrder h_o_noted1 h_o_counts h_o_binBy : Nat) (o_tapeSize : Int32) (o_thrown : Int32) (o_fault : Int32) (o_faultPlace : Int32) (o_stop : Int32) (o_next : Int32) (o_kind : Int32) (o_which : Int32) (o_at : Int32) (o_pointsRead : Int32) (o_bank : Int32) (o_isImage : Int32) (o_undos : Int32) (o_runRadix : Int32) (o_runOrder : Int32) (o_runNear : Int32) (o_runLimit : Int32) (o_runHalves : Int32) (o_power : Int32) (o_notedMany : Int32) (o_knownTold : Int32) (o_drawn : Int64) (o_all : Nat → Int32) (o_laidIm : Nat → Int32) (o_laidRe : Nat → Int32) (o_quarter : Nat → Int32) (o_told : Nat → Int32) : va_W := [(h_o, .inr (10, [.ref h_o_tape, .int o_tapeSize, .int o_thrown, .ref h_o_words, .int o_fault, .int o_faultPlace, .int o_stop, .int o_next, .int o_kind, .int o_which, .int o_at, .ref h_o_told, .ref h_o_isTold, .ref h_o_toldWave, .ref h_o_isPoint, .int o_pointsRead, .ref h_o_all, .int o_bank, .int o_isImage, .int o_undos, .int o_runRadix, .int o_runOrder, .int o_runNear, .int o_runLimit, .int o_runHalves, .ref h_o_quarter, .int o_power, .ref h_o_roots, .ref h_o_laidRe, .ref h_o_laidIm, .ref h_o_byOrder, .int o_notedMany, .int o_knownTold, .ref h_o_noted1, .ref h_o_counts, .ref h_o_binBy, .long o_drawn])), (h_o_all, .inl (cI, 3128, .inl o_all)), (h_o_laidIm, .inl (cI, 32, .inl o_laidIm)), (h_o_laidRe, .inl (cI, 32, .inl o_laidRe)), (h_o_quarter, .inl (cI, 9, .inl o_quarter)), (h_o_told, .inl (cI, 12, .inl o_told))]
def fX10_tried_92 (o_power : Int32) (o_quarter : Nat → Int32) (o_told : Nat → Int32) (o_thrown : Int32) (o_bank : Int32) (o_runRadix : Int32) (o_runOrder : Int32) (o_runNear : Int32) (o_runLimit : Int32) (o_runHalves : Int32) (o_all : Nat → Int32) (o_laidIm : Nat → Int32) (o_laidRe : Nat → Int32) : Option (Int32 × Int32 × Int32 × Int32 × Int32 × Int32 × Int32 × Int32 × (Nat → Int32) × (Nat → Int32) × (Nat → Int32)) :=
  bd4 (fX10_expRun o_bank o_runRadix o_runOrder o_runNear o_runLimit o_runHalves o_power o_all o_laidIm o_laidRe o_quarter o_told) (fun r_29 o_all_30 o_laidIm_31 o_laidRe_32 =>
  bd6 (fX10_asItIs o_bank o_runRadix o_runOrder o_runNear o_runLimit o_runHalves o_told) (fun o_bank_34 o_runRadix_35 o_runOrder_36 o_runNear_37 o_runLimit_38 o_runHalves_39 =>
  some (r_29, o_thrown, o_bank_34, o_runRadix_35, o_runOrder_36, o_runNear_37, o_runLimit_38, o_runHalves_39, o_all_30, o_laidIm_31, o_laidRe_32)))
def fX10_tried_77 (o_power : Int32) (o_quarter : Nat → Int32) (o_told : Nat → Int32) (o_thrown : Int32) (o_bank : Int32) (o_runRadix : Int32) (o_runOrder : Int32) (o_runNear : Int32) (o_runLimit : Int32) (o_runHalves : Int32) (o_all : Nat → Int32) (o_laidIm : Nat → Int32) (o_laidRe : Nat → Int32) (v1 : Int32) : Option (Int32 × Int32 × Int32 × Int32 × Int32 × Int32 × Int32 × Int32 × (Nat → Int32) × (Nat → Int32) × (Nat → Int32)) :=
  if v1 = (4 : Int32) then (
    nm ((1 : Int32) - o_runOrder) (fun u_28 =>
    fX10_tried_92 o_power o_quarter o_told o_thrown o_bank o_runRadix u_28 o_runNear o_runLimit o_runHalves o_all o_laidIm o_laidRe)
  ) else (
    fX10_tried_92 o_power o_quarter o_told o_thrown o_bank o_runRadix o_runOrder o_runNear o_runLimit o_runHalves o_all o_laidIm o_laidRe
  )
def fX10_tried_61 (o_power : Int32) (o_quarter : Nat → Int32) (o_told : Nat → Int32) (o_thrown : Int32) (o_bank : Int32) (o_runRadix : Int32) (o_runOrder : Int32) (o_runNear : Int32) (o_runLimit : Int32) (o_runHalves : Int32) (o_all : Nat → Int32) (o_laidIm : Nat → Int32) (o_laidRe : Nat → Int32) (v1 : Int32) : Option (Int32 × Int32 × Int32 × Int32 × Int32 × Int32 × Int32 × Int32 × (Nat → Int32) × (Nat → Int32) × (Nat → Int32)) :=
  if v1 = (3 : Int32) then (
    nm ((6 : Int32) - o_runRadix) (fun u_26 =>
    fX10_tried_77 o_power o_quarter o_told o_thrown o_bank u_26 o_runOrder o_runNear o_runLimit o_runHalves o_all o_laidIm o_laidRe v1)
  ) else (
    fX10_tried_77 o_power o_quarter o_told o_thrown o_bank o_runRadix o_runOrder o_runNear o_runLimit o_runHalves o_all o_laidIm o_laidRe v1
  )
def fX10_tried_36 (o_power : Int32) (o_quarter : Nat → Int32) (o_told : Nat → Int32) (o_thrown : Int32) (o_bank : Int32) (o_runRadix : Int32) (o_runOrder : Int32) (o_runNear : Int32) (o_runLimit : Int32) (o_runHalves : Int32) (o_all : Nat → Int32) (o_laidIm : Nat → Int32) (o_laidRe : Nat → Int32) (v1 : Int32) (v2 : Int32) : Option (Int32 × Int32 × Int32 × Int32 × Int32 × Int32 × Int32 × Int32 × (Nat → Int32) × (Nat → Int32) × (Nat → Int32)) :=
  if v1 = (2 : Int32) then (
    bd10 (fX10_expWithout o_bank o_runRadix o_runOrder o_runNear o_runLimit o_runHalves o_power o_all o_laidIm o_laidRe o_quarter o_told v2) (fun r_14 o_bank_15 o_runRadix_16 o_runOrder_17 o_runNear_18 o_runLimit_19 o_runHalves_20 o_all_21 o_laidIm_22 o_laidRe_23 =>
    some (r_14, o_thrown, o_bank_15, o_runRadix_16, o_runOrder_17, o_runNear_18, o_runLimit_19, o_runHalves_20, o_all_21, o_laidIm_22, o_laidRe_23))
  ) else (
    bd2 (fX10_asWas o_bank o_all) (fun o_bank_10 o_all_11 =>
    if (1 : Int32) < v1 then (
      fX10_tried_61 o_power o_quarter o_told o_thrown o_bank_10 o_runRadix o_runOrder o_runNear o_runLimit o_runHalves o_all_11 o_laidIm o_laidRe v1
    ) else (
      fX10_tried_61 o_power o_quarter o_told o_thrown o_bank_10 o_runRadix o_runOrder v1 o_runLimit o_runHalves o_all_11 o_laidIm o_laidRe v1
    ))
  )
def fX10_tried (o_thrown : Int32) (o_bank : Int32) (o_runRadix : Int32) (o_runOrder : Int32) (o_runNear : Int32) (o_runLimit : Int32) (o_runHalves : Int32) (o_power : Int32) (o_all : Nat → Int32) (o_laidIm : Nat → Int32) (o_laidRe : Nat → Int32) (o_quarter : Nat → Int32) (o_told : Nat → Int32) (p1 : Int32) (p2 : Int32) : Option (Int32 × Int32 × Int32 × Int32 × Int32 × Int32 × Int32 × Int32 × (Nat → Int32) × (Nat → Int32) × (Nat → Int32)) :=
  bd1 (fX10_isIn p1 (0 : Int32) (4 : Int32)) (fun r_1 =>
  if r_1 = 0 then (
    some ((-1 : Int32), (0 : Int32), o_bank, o_runRadix, o_runOrder, o_runNear, o_runLimit, o_runHalves, o_all, o_laidIm, o_laidRe)
  ) else (
    if p1 = (2 : Int32) then (
      bd1 (fX10_isPlace o_told p2) (fun r_6 =>
      if r_6 = 0 then (
        some ((-1 : Int32), (0 : Int32), o_bank, o_runRadix, o_runOrder, o_runNear, o_runLimit, o_runHalves, o_all, o_laidIm, o_laidRe)
      ) else (
        fX10_tried_36 o_power o_quarter o_told (0 : Int32) o_bank o_runRadix o_runOrder o_runNear o_runLimit o_runHalves o_all o_laidIm o_laidRe p1 p2
      ))
    ) else (
      if p2 = 0 then (
        fX10_tried_36 o_power o_quarter o_told (0 : Int32) o_bank o_runRadix o_runOrder o_runNear o_runLimit o_runHalves o_all o_laidIm o_laidRe p1 p2
      ) else (
        some ((-1 : Int32), (0 : Int32), o_bank, o_runRadix, o_runOrder, o_runNear, o_runLimit, o_runHalves, o_all, o_laidIm, o_laidRe)
      )
    )
  ))
set_option maxHeartbeats 4000000 in
set_option maxRecDepth 100000 in
theorem tX10_tried (l : Launch) (G : va_G) (cI cJ cZ : ClassId) (sz : Nat) (h_o h_o_all h_o_laidIm h_o_laidRe h_o_quarter h_o_told h_o_tape h_o_words h_o_isTold h_o_toldWave h_o_isPoint h_o_roots h_o_byOrder h_o_noted1 h_o_counts h_o_binBy : Nat) (o_tapeSize : Int32) (o_thrown : Int32) (o_fault : Int32) (o_faultPlace : Int32) (o_stop : Int32) (o_next : Int32) (o_kind : Int32) (o_which : Int32) (o_at : Int32) (o_pointsRead : Int32) (o_bank : Int32) (o_isImage : Int32) (o_undos : Int32) (o_runRadix : Int32) (o_runOrder : Int32) (o_runNear : Int32) (o_runLimit : Int32) (o_runHalves : Int32) (o_power : Int32) (o_notedMany : Int32) (o_knownTold : Int32) (o_drawn : Int64) (o_all : Nat → Int32) (o_laidIm : Nat → Int32) (o_laidRe : Nat → Int32) (o_quarter : Nat → Int32) (o_told : Nat → Int32) (p1 : Int32) (p2 : Int32) (r : Int32) (out_o_thrown : Int32) (out_o_bank : Int32) (out_o_runRadix : Int32) (out_o_runOrder : Int32) (out_o_runNear : Int32) (out_o_runLimit : Int32) (out_o_runHalves : Int32) (out_o_all : Nat → Int32) (out_o_laidIm : Nat → Int32) (out_o_laidRe : Nat → Int32) (hf : fX10_tried o_thrown o_bank o_runRadix o_runOrder o_runNear o_runLimit o_runHalves o_power o_all o_laidIm o_laidRe o_quarter o_told p1 p2 = some (r, out_o_thrown, out_o_bank, out_o_runRadix, out_o_runOrder, out_o_runNear, out_o_runLimit, out_o_runHalves, out_o_all, out_o_laidIm, out_o_laidRe)) : Met l yX10_tried (Cond.code yX10_tried cX10_tried 4 (some .int) :: BIG) ({ frames := 9, cells := 0, slots := 0, locals := 209 } : Room) (cP G (TY3 cI cJ cZ) [.ref h_o, .int p1, .int p2] sz (wX10_tried cI cJ cZ h_o h_o_all h_o_laidIm h_o_laidRe h_o_quarter h_o_told h_o_tape h_o_words h_o_isTold h_o_toldWave h_o_isPoint h_o_roots h_o_byOrder h_o_noted1 h_o_counts h_o_binBy o_tapeSize o_thrown o_fault o_faultPlace o_stop o_next o_kind o_which o_at o_pointsRead o_bank o_isImage o_undos o_runRadix o_runOrder o_runNear o_runLimit o_runHalves o_power o_notedMany o_knownTold o_drawn o_all o_laidIm o_laidRe o_quarter o_told)) (cQ G (TY3 cI cJ cZ) sz (wX10_tried cI cJ cZ h_o h_o_all h_o_laidIm h_o_laidRe h_o_quarter h_o_told h_o_tape h_o_words h_o_isTold h_o_toldWave h_o_isPoint h_o_roots h_o_byOrder h_o_noted1 h_o_counts h_o_binBy o_tapeSize o_thrown o_fault o_faultPlace o_stop o_next o_kind o_which o_at o_pointsRead o_bank o_isImage o_undos o_runRadix o_runOrder o_runNear o_runLimit o_runHalves o_power o_notedMany o_knownTold o_drawn o_all o_laidIm o_laidRe o_quarter o_told) (wX10_tried cI cJ cZ h_o h_o_all h_o_laidIm h_o_laidRe h_o_quarter h_o_told h_o_tape h_o_words h_o_isTold h_o_toldWave h_o_isPoint h_o_roots h_o_byOrder h_o_noted1 h_o_counts h_o_binBy o_tapeSize out_o_thrown o_fault o_faultPlace o_stop o_next o_kind o_which o_at o_pointsRead out_o_bank o_isImage o_undos out_o_runRadix out_o_runOrder out_o_runNear out_o_runLimit out_o_runHalves o_power o_notedMany o_knownTold o_drawn out_o_all out_o_laidIm out_o_laidRe o_quarter o_told) (some (.int r))) 0 0 (va_A (wX10_tried cI cJ cZ h_o h_o_all h_o_laidIm h_o_laidRe h_o_quarter h_o_told h_o_tape h_o_words h_o_isTold h_o_toldWave h_o_isPoint h_o_roots h_o_byOrder h_o_noted1 h_o_counts h_o_binBy o_tapeSize o_thrown o_fault o_faultPlace o_stop o_next o_kind o_which o_at o_pointsRead o_bank o_isImage o_undos o_runRadix o_runOrder o_runNear o_runLimit o_runHalves o_power o_notedMany o_knownTold o_drawn o_all o_laidIm o_laidRe o_quarter o_told) sz) := by
  refine met_i (cc := cX10_tried) (maxL := 4) (plainFor_of_name (by decide)) (Nat.le_of_ble_eq_true rfl) (fun p e s m below meth c A ls Q hx hb hml hts hown hK hP hD hS hA hl hret => ?_)
  have hown : s.vm.findClass RX10 = some m.cls := hown
  have hl : lv_has ls 4 [(0, .ref h_o), (1, .int p1), (2, .int p2)] := hl
  have j92 : ∀ (o_thrown : Int32) (o_bank : Int32) (o_runRadix : Int32) (o_runOrder : Int32) (o_runNear : Int32) (o_runLimit : Int32) (o_runHalves : Int32) (o_all : Nat → Int32) (o_laidIm : Nat → Int32) (o_laidRe : Nat → Int32) (H : Heap) (locs : List Loc) (ls : Array Slot), fX10_tried_92 o_power o_quarter o_told o_thrown o_bank o_runRadix o_runOrder o_runNear o_runLimit o_runHalves o_all o_laidIm o_laidRe = some (r, out_o_thrown, out_o_bank, out_o_runRadix, out_o_runOrder, out_o_runNear, out_o_runLimit, out_o_runHalves, out_o_all, out_o_laidIm, out_o_laidRe) → va_P G vwCl (wX10_tried cI cJ cZ h_o h_o_all h_o_laidIm h_o_laidRe h_o_quarter h_o_told h_o_tape h_o_words h_o_isTold h_o_toldWave h_o_isPoint h_o_roots h_o_byOrder h_o_noted1 h_o_counts h_o_binBy o_tapeSize o_thrown o_fault o_faultPlace o_stop o_next o_kind o_which o_at o_pointsRead o_bank o_isImage o_undos o_runRadix o_runOrder o_runNear o_runLimit o_runHalves o_power o_notedMany o_knownTold o_drawn o_all o_laidIm o_laidRe o_quarter o_told) H → va_D A (wX10_tried cI cJ cZ h_o h_o_all h_o_laidIm h_o_laidRe h_o_quarter h_o_told h_o_tape h_o_words h_o_isTold h_o_toldWave h_o_isPoint h_o_roots h_o_byOrder h_o_noted1 h_o_counts h_o_binBy o_tapeSize o_thrown o_fault o_faultPlace o_stop o_next o_kind o_which o_at o_pointsRead o_bank o_isImage o_undos o_runRadix o_runOrder o_runNear o_runLimit o_runHalves o_power o_notedMany o_knownTold o_drawn o_all o_laidIm o_laidRe o_quarter o_told) → va_S A s.heap H locs → lv_has ls 4 [(0, .ref h_o)] → W p l e ({ frames := 9, cells := 0, slots := 0, locals := 209 } : Room) s m ([.ref h_o, .int p1, .int p2] : List Value).toArray below meth c H locs 0 0 Q (F0 m 92 ls []) := by
    intro o_thrown o_bank o_runRadix o_runOrder o_runNear o_runLimit o_runHalves o_all o_laidIm o_laidRe H locs ls hf hP hD hS hl
    unfold fX10_tried_92 at hf
    refine lv_aload_n hx hb dX10_tried_92 rfl (lv_at hl 0 rfl) ?_
    obtain ⟨r_29, o_all_30, o_laidIm_31, o_laidRe_32, e_33, hf⟩ := bd4_x hf
    refine call_v [] [] ⟨hx, hb, hml, hown, hts⟩ hK hP hD hS hA hl.1 (tX10_expRun l G cI cJ cZ H.size h_o h_o_all h_o_laidIm h_o_laidRe h_o_quarter h_o_told h_o_tape h_o_words h_o_isTold h_o_toldWave h_o_isPoint h_o_roots h_o_byOrder h_o_noted1 h_o_counts h_o_binBy o_tapeSize o_thrown o_fault o_faultPlace o_stop o_next o_kind o_which o_at o_pointsRead o_bank o_isImage o_undos o_runRadix o_runOrder o_runNear o_runLimit o_runHalves o_power o_notedMany o_knownTold o_drawn o_all o_laidIm o_laidRe o_quarter o_told r_29 o_all_30 o_laidIm_31 o_laidRe_32 e_33) (cwV 0 hts (gv q_mX10_314 q_i_yX10_expRun q_s_yX10_expRun q_n_RX10 q_k_yX10_expRun) rfl rfl rfl (by decide +kernel) ⟨by decide, by decide⟩) rfl rfl (Nat.le_of_ble_eq_true rfl) dX10_tried_93 ⟨Nat.zero_le _, Nat.zero_le _⟩ (ci := 10) rfl 0 rfl [0, 1, 2, 3, 4, 5] [] [0, 1, 2, 3, 4, 5] rfl rfl (ws2 := (wX10_tried cI cJ cZ h_o h_o_all h_o_laidIm h_o_laidRe h_o_quarter h_o_told h_o_tape h_o_words h_o_isTold h_o_toldWave h_o_isPoint h_o_roots h_o_byOrder h_o_noted1 h_o_counts h_o_binBy o_tapeSize o_thrown o_fault o_faultPlace o_stop o_next o_kind o_which o_at o_pointsRead o_bank o_isImage o_undos o_runRadix o_runOrder o_runNear o_runLimit o_runHalves o_power o_notedMany o_knownTold o_drawn o_all_30 o_laidIm_31 o_laidRe_32 o_quarter o_told)) rfl (fun H locs hP hD hS => ?_)
    refine W.eq (g2 := F0 m 96 ls [.int r_29]) rfl ?_
    refine lv_istore_n (lv' := [(3, .int r_29), (0, .ref h_o)]) hx hb dX10_tried_96 rfl hl (by decide) rfl (fun ls hl => ?_)
    refine lv_aload_n hx hb dX10_tried_97 rfl (lv_at hl 1 rfl) ?_
    obtain ⟨o_bank_34, o_runRadix_35, o_runOrder_36, o_runNear_37, o_runLimit_38, o_runHalves_39, e_40, hf⟩ := bd6_x hf
    refine call_v [] [] ⟨hx, hb, hml, hown, hts⟩ hK hP hD hS hA hl.1 (tX10_asItIs l G cI cJ cZ H.size h_o h_o_told h_o_tape h_o_words h_o_isTold h_o_toldWave h_o_isPoint h_o_all h_o_quarter h_o_roots h_o_laidRe h_o_laidIm h_o_byOrder h_o_noted1 h_o_counts h_o_binBy o_tapeSize o_thrown o_fault o_faultPlace o_stop o_next o_kind o_which o_at o_pointsRead o_bank o_isImage o_undos o_runRadix o_runOrder o_runNear o_runLimit o_runHalves o_power o_notedMany o_knownTold o_drawn o_told o_bank_34 o_runRadix_35 o_runOrder_36 o_runNear_37 o_runLimit_38 o_runHalves_39 e_40) (cwV 0 hts (gv q_mX10_289 q_i_yX10_asItIs q_s_yX10_asItIs q_n_RX10 q_k_yX10_asItIs) rfl rfl rfl (by decide +kernel) ⟨by decide, by decide⟩) rfl rfl (Nat.le_of_ble_eq_true rfl) dX10_tried_98 ⟨Nat.zero_le _, Nat.zero_le _⟩ (ci := 10) rfl 0 rfl [0, 5] [1, 2, 3, 4] [4, 0, 1, 2, 3, 5] rfl rfl (ws2 := (wX10_tried cI cJ cZ h_o h_o_all h_o_laidIm h_o_laidRe h_o_quarter h_o_told h_o_tape h_o_words h_o_isTold h_o_toldWave h_o_isPoint h_o_roots h_o_byOrder h_o_noted1 h_o_counts h_o_binBy o_tapeSize o_thrown o_fault o_faultPlace o_stop o_next o_kind o_which o_at o_pointsRead o_bank_34 o_isImage o_undos o_runRadix_35 o_runOrder_36 o_runNear_37 o_runLimit_38 o_runHalves_39 o_power o_notedMany o_knownTold o_drawn o_all_30 o_laidIm_31 o_laidRe_32 o_quarter o_told)) rfl (fun H locs hP hD hS => ?_)
    refine W.eq (g2 := F0 m 101 ls []) rfl ?_
    refine lv_iload_n hx hb dX10_tried_101 rfl (lv_at hl 0 rfl) ?_
    cases hf
    exact hret _ _ _ _ dX10_tried_102 hP hD hS
  have j77 : ∀ (o_thrown : Int32) (o_bank : Int32) (o_runRadix : Int32) (o_runOrder : Int32) (o_runNear : Int32) (o_runLimit : Int32) (o_runHalves : Int32) (o_all : Nat → Int32) (o_laidIm : Nat → Int32) (o_laidRe : Nat → Int32) (v1 : Int32) (H : Heap) (locs : List Loc) (ls : Array Slot), fX10_tried_77 o_power o_quarter o_told o_thrown o_bank o_runRadix o_runOrder o_runNear o_runLimit o_runHalves o_all o_laidIm o_laidRe v1 = some (r, out_o_thrown, out_o_bank, out_o_runRadix, out_o_runOrder, out_o_runNear, out_o_runLimit, out_o_runHalves, out_o_all, out_o_laidIm, out_o_laidRe) → va_P G vwCl (wX10_tried cI cJ cZ h_o h_o_all h_o_laidIm h_o_laidRe h_o_quarter h_o_told h_o_tape h_o_words h_o_isTold h_o_toldWave h_o_isPoint h_o_roots h_o_byOrder h_o_noted1 h_o_counts h_o_binBy o_tapeSize o_thrown o_fault o_faultPlace o_stop o_next o_kind o_which o_at o_pointsRead o_bank o_isImage o_undos o_runRadix o_runOrder o_runNear o_runLimit o_runHalves o_power o_notedMany o_knownTold o_drawn o_all o_laidIm o_laidRe o_quarter o_told) H → va_D A (wX10_tried cI cJ cZ h_o h_o_all h_o_laidIm h_o_laidRe h_o_quarter h_o_told h_o_tape h_o_words h_o_isTold h_o_toldWave h_o_isPoint h_o_roots h_o_byOrder h_o_noted1 h_o_counts h_o_binBy o_tapeSize o_thrown o_fault o_faultPlace o_stop o_next o_kind o_which o_at o_pointsRead o_bank o_isImage o_undos o_runRadix o_runOrder o_runNear o_runLimit o_runHalves o_power o_notedMany o_knownTold o_drawn o_all o_laidIm o_laidRe o_quarter o_told) → va_S A s.heap H locs → lv_has ls 4 [(0, .ref h_o), (1, .int v1)] → W p l e ({ frames := 9, cells := 0, slots := 0, locals := 209 } : Room) s m ([.ref h_o, .int p1, .int p2] : List Value).toArray below meth c H locs 0 0 Q (F0 m 77 ls []) := by
    intro o_thrown o_bank o_runRadix o_runOrder o_runNear o_runLimit o_runHalves o_all o_laidIm o_laidRe v1 H locs ls hf hP hD hS hl
    unfold fX10_tried_77 at hf
    refine lv_iload_n hx hb dX10_tried_77 rfl (lv_at hl 1 rfl) ?_
    refine lv_iconst (v := (4 : Int32)) hx hb dX10_tried_78 (by decide) ?_
    refine lv_icmp_ne (tgt := 92) hx hb dX10_tried_79 (by decide) (fun c_27 => ?_) (fun c_27 => ?_)
    · have hf := it_f c_27 hf
      exact j92 o_thrown o_bank o_runRadix o_runOrder o_runNear o_runLimit o_runHalves o_all o_laidIm o_laidRe H locs ls hf hP hD hS (lv_sub hl [0] rfl)
    · have hf := it_t c_27 hf
      refine lv_aload_n hx hb dX10_tried_82 rfl (lv_at hl 0 rfl) ?_
      refine lv_iconst (v := (1 : Int32)) hx hb dX10_tried_83 (by decide) ?_
      refine lv_aload_n hx hb dX10_tried_84 rfl (lv_at hl 0 rfl) ?_
      refine rd (ci := 10) (C := RX10) (T := TX10) (N := 37) hx hb hts inX10 hown hK hP 0 21 rfl rfl (by decide) (hts _ q_fX10_169) rfl dX10_tried_85 ?_
      refine lv_isub hx hb dX10_tried_88 ?_
      refine lv_topi (fun u_28 eu_28 => ?_)
      have hf := nm_x eu_28 hf
      refine wr (ci := 10) (C := RX10) (T := TX10) (N := 37) hx hb hts inX10 tyX10 tyX10_ok nmX10 hown hK hP hD hS 0 21 rfl rfl (by decide) (hts _ q_fX10_169) rfl rfl rfl (Nat.le_of_ble_eq_true rfl) dX10_tried_89 (ws2 := (wX10_tried cI cJ cZ h_o h_o_all h_o_laidIm h_o_laidRe h_o_quarter h_o_told h_o_tape h_o_words h_o_isTold h_o_toldWave h_o_isPoint h_o_roots h_o_byOrder h_o_noted1 h_o_counts h_o_binBy o_tapeSize o_thrown o_fault o_faultPlace o_stop o_next o_kind o_which o_at o_pointsRead o_bank o_isImage o_undos o_runRadix u_28 o_runNear o_runLimit o_runHalves o_power o_notedMany o_knownTold o_drawn o_all o_laidIm o_laidRe o_quarter o_told)) rfl (fun H locs hP hD hS => ?_)
      exact j92 o_thrown o_bank o_runRadix u_28 o_runNear o_runLimit o_runHalves o_all o_laidIm o_laidRe H locs ls hf hP hD hS (lv_sub hl [0] rfl)
  have j61 : ∀ (o_thrown : Int32) (o_bank : Int32) (o_runRadix : Int32) (o_runOrder : Int32) (o_runNear : Int32) (o_runLimit : Int32) (o_runHalves : Int32) (o_all : Nat → Int32) (o_laidIm : Nat → Int32) (o_laidRe : Nat → Int32) (v1 : Int32) (H : Heap) (locs : List Loc) (ls : Array Slot), fX10_tried_61 o_power o_quarter o_told o_thrown o_bank o_runRadix o_runOrder o_runNear o_runLimit o_runHalves o_all o_laidIm o_laidRe v1 = some (r, out_o_thrown, out_o_bank, out_o_runRadix, out_o_runOrder, out_o_runNear, out_o_runLimit, out_o_runHalves, out_o_all, out_o_laidIm, out_o_laidRe) → va_P G vwCl (wX10_tried cI cJ cZ h_o h_o_all h_o_laidIm h_o_laidRe h_o_quarter h_o_told h_o_tape h_o_words h_o_isTold h_o_toldWave h_o_isPoint h_o_roots h_o_byOrder h_o_noted1 h_o_counts h_o_binBy o_tapeSize o_thrown o_fault o_faultPlace o_stop o_next o_kind o_which o_at o_pointsRead o_bank o_isImage o_undos o_runRadix o_runOrder o_runNear o_runLimit o_runHalves o_power o_notedMany o_knownTold o_drawn o_all o_laidIm o_laidRe o_quarter o_told) H → va_D A (wX10_tried cI cJ cZ h_o h_o_all h_o_laidIm h_o_laidRe h_o_quarter h_o_told h_o_tape h_o_words h_o_isTold h_o_toldWave h_o_isPoint h_o_roots h_o_byOrder h_o_noted1 h_o_counts h_o_binBy o_tapeSize o_thrown o_fault o_faultPlace o_stop o_next o_kind o_which o_at o_pointsRead o_bank o_isImage o_undos o_runRadix o_runOrder o_runNear o_runLimit o_runHalves o_power o_notedMany o_knownTold o_drawn o_all o_laidIm o_laidRe o_quarter o_told) → va_S A s.heap H locs → lv_has ls 4 [(0, .ref h_o), (1, .int v1)] → W p l e ({ frames := 9, cells := 0, slots := 0, locals := 209 } : Room) s m ([.ref h_o, .int p1, .int p2] : List Value).toArray below meth c H locs 0 0 Q (F0 m 61 ls []) := by
    intro o_thrown o_bank o_runRadix o_runOrder o_runNear o_runLimit o_runHalves o_all o_laidIm o_laidRe v1 H locs ls hf hP hD hS hl
    unfold fX10_tried_61 at hf
    refine lv_iload_n hx hb dX10_tried_61 rfl (lv_at hl 1 rfl) ?_
    refine lv_iconst (v := (3 : Int32)) hx hb dX10_tried_62 (by decide) ?_
    refine lv_icmp_ne (tgt := 77) hx hb dX10_tried_63 (by decide) (fun c_25 => ?_) (fun c_25 => ?_)
    · have hf := it_f c_25 hf
      exact j77 o_thrown o_bank o_runRadix o_runOrder o_runNear o_runLimit o_runHalves o_all o_laidIm o_laidRe v1 H locs ls hf hP hD hS (lv_sub hl [0, 1] rfl)
    · have hf := it_t c_25 hf
      refine lv_aload_n hx hb dX10_tried_66 rfl (lv_at hl 0 rfl) ?_
      refine lv_bipush (v := (6 : Int32)) hx hb dX10_tried_67 (by decide) ?_
      refine lv_aload_n hx hb dX10_tried_69 rfl (lv_at hl 0 rfl) ?_
      refine rd (ci := 10) (C := RX10) (T := TX10) (N := 37) hx hb hts inX10 hown hK hP 0 20 rfl rfl (by decide) (hts _ q_fX10_166) rfl dX10_tried_70 ?_
      refine lv_isub hx hb dX10_tried_73 ?_
      refine lv_topi (fun u_26 eu_26 => ?_)
      have hf := nm_x eu_26 hf
      refine wr (ci := 10) (C := RX10) (T := TX10) (N := 37) hx hb hts inX10 tyX10 tyX10_ok nmX10 hown hK hP hD hS 0 20 rfl rfl (by decide) (hts _ q_fX10_166) rfl rfl rfl (Nat.le_of_ble_eq_true rfl) dX10_tried_74 (ws2 := (wX10_tried cI cJ cZ h_o h_o_all h_o_laidIm h_o_laidRe h_o_quarter h_o_told h_o_tape h_o_words h_o_isTold h_o_toldWave h_o_isPoint h_o_roots h_o_byOrder h_o_noted1 h_o_counts h_o_binBy o_tapeSize o_thrown o_fault o_faultPlace o_stop o_next o_kind o_which o_at o_pointsRead o_bank o_isImage o_undos u_26 o_runOrder o_runNear o_runLimit o_runHalves o_power o_notedMany o_knownTold o_drawn o_all o_laidIm o_laidRe o_quarter o_told)) rfl (fun H locs hP hD hS => ?_)
      exact j77 o_thrown o_bank u_26 o_runOrder o_runNear o_runLimit o_runHalves o_all o_laidIm o_laidRe v1 H locs ls hf hP hD hS (lv_sub hl [0, 1] rfl)
  have j36 : ∀ (o_thrown : Int32) (o_bank : Int32) (o_runRadix : Int32) (o_runOrder : Int32) (o_runNear : Int32) (o_runLimit : Int32) (o_runHalves : Int32) (o_all : Nat → Int32) (o_laidIm : Nat → Int32) (o_laidRe : Nat → Int32) (v1 : Int32) (v2 : Int32) (H : Heap) (locs : List Loc) (ls : Array Slot), fX10_tried_36 o_power o_quarter o_told o_thrown o_bank o_runRadix o_runOrder o_runNear o_runLimit o_runHalves o_all o_laidIm o_laidRe v1 v2 = some (r, out_o_thrown, out_o_bank, out_o_runRadix, out_o_runOrder, out_o_runNear, out_o_runLimit, out_o_runHalves, out_o_all, out_o_laidIm, out_o_laidRe) → va_P G vwCl (wX10_tried cI cJ cZ h_o h_o_all h_o_laidIm h_o_laidRe h_o_quarter h_o_told h_o_tape h_o_words h_o_isTold h_o_toldWave h_o_isPoint h_o_roots h_o_byOrder h_o_noted1 h_o_counts h_o_binBy o_tapeSize o_thrown o_fault o_faultPlace o_stop o_next o_kind o_which o_at o_pointsRead o_bank o_isImage o_undos o_runRadix o_runOrder o_runNear o_runLimit o_runHalves o_power o_notedMany o_knownTold o_drawn o_all o_laidIm o_laidRe o_quarter o_told) H → va_D A (wX10_tried cI cJ cZ h_o h_o_all h_o_laidIm h_o_laidRe h_o_quarter h_o_told h_o_tape h_o_words h_o_isTold h_o_toldWave h_o_isPoint h_o_roots h_o_byOrder h_o_noted1 h_o_counts h_o_binBy o_tapeSize o_thrown o_fault o_faultPlace o_stop o_next o_kind o_which o_at o_pointsRead o_bank o_isImage o_undos o_runRadix o_runOrder o_runNear o_runLimit o_runHalves o_power o_notedMany o_knownTold o_drawn o_all o_laidIm o_laidRe o_quarter o_told) → va_S A s.heap H locs → lv_has ls 4 [(0, .ref h_o), (1, .int v1), (2, .int v2)] → W p l e ({ frames := 9, cells := 0, slots := 0, locals := 209 } : Room) s m ([.ref h_o, .int p1, .int p2] : List Value).toArray below meth c H locs 0 0 Q (F0 m 36 ls []) := by
    intro o_thrown o_bank o_runRadix o_runOrder o_runNear o_runLimit o_runHalves o_all o_laidIm o_laidRe v1 v2 H locs ls hf hP hD hS hl
    unfold fX10_tried_36 at hf
    refine lv_iload_n hx hb dX10_tried_36 rfl (lv_at hl 1 rfl) ?_
    refine lv_iconst (v := (2 : Int32)) hx hb dX10_tried_37 (by decide) ?_
    refine lv_icmp_ne (tgt := 47) hx hb dX10_tried_38 (by decide) (fun c_9 => ?_) (fun c_9 => ?_)
    · have hf := it_f c_9 hf
      refine lv_aload_n hx hb dX10_tried_47 rfl (lv_at hl 0 rfl) ?_
      obtain ⟨o_bank_10, o_all_11, e_12, hf⟩ := bd2_x hf
      refine call_v [] [] ⟨hx, hb, hml, hown, hts⟩ hK hP hD hS hA hl.1 (tX10_asWas l G cI cJ cZ H.size h_o h_o_all h_o_tape h_o_words h_o_told h_o_isTold h_o_toldWave h_o_isPoint h_o_quarter h_o_roots h_o_laidRe h_o_laidIm h_o_byOrder h_o_noted1 h_o_counts h_o_binBy o_tapeSize o_thrown o_fault o_faultPlace o_stop o_next o_kind o_which o_at o_pointsRead o_bank o_isImage o_undos o_runRadix o_runOrder o_runNear o_runLimit o_runHalves o_power o_notedMany o_knownTold o_drawn o_all o_bank_10 o_all_11 e_12) (cwV 0 hts (gv q_mX10_311 q_i_yX10_asWas q_s_yX10_asWas q_n_RX10 q_k_yX10_asWas) rfl rfl rfl (by decide +kernel) ⟨by decide, by decide⟩) rfl rfl (Nat.le_of_ble_eq_true rfl) dX10_tried_48 ⟨Nat.zero_le _, Nat.zero_le _⟩ (ci := 10) rfl 0 rfl [0, 1] [2, 3, 4, 5] [4, 5, 0, 1, 2, 3] rfl rfl (ws2 := (wX10_tried cI cJ cZ h_o h_o_all h_o_laidIm h_o_laidRe h_o_quarter h_o_told h_o_tape h_o_words h_o_isTold h_o_toldWave h_o_isPoint h_o_roots h_o_byOrder h_o_noted1 h_o_counts h_o_binBy o_tapeSize o_thrown o_fault o_faultPlace o_stop o_next o_kind o_which o_at o_pointsRead o_bank_10 o_isImage o_undos o_runRadix o_runOrder o_runNear o_runLimit o_runHalves o_power o_notedMany o_knownTold o_drawn o_all_11 o_laidIm o_laidRe o_quarter o_told)) rfl (fun H locs hP hD hS => ?_)
      refine W.eq (g2 := F0 m 51 ls []) rfl ?_
      refine lv_iload_n hx hb dX10_tried_51 rfl (lv_at hl 1 rfl) ?_
      refine lv_iconst (v := (1 : Int32)) hx hb dX10_tried_52 (by decide) ?_
      refine lv_icmp_gt (tgt := 61) hx hb dX10_tried_53 (by decide) (fun c_13 => ?_) (fun c_13 => ?_)
      · have hf := it_t c_13 hf
        exact j61 o_thrown o_bank_10 o_runRadix o_runOrder o_runNear o_runLimit o_runHalves o_all_11 o_laidIm o_laidRe v1 H locs ls hf hP hD hS (lv_sub hl [0, 1] rfl)
      · have hf := it_f c_13 hf
        refine lv_aload_n hx hb dX10_tried_56 rfl (lv_at hl 0 rfl) ?_
        refine lv_iload_n hx hb dX10_tried_57 rfl (lv_at hl 1 rfl) ?_
        refine wr (ci := 10) (C := RX10) (T := TX10) (N := 37) hx hb hts inX10 tyX10 tyX10_ok nmX10 hown hK hP hD hS 0 22 rfl rfl (by decide) (hts _ q_fX10_172) rfl rfl rfl (Nat.le_of_ble_eq_true rfl) dX10_tried_58 (ws2 := (wX10_tried cI cJ cZ h_o h_o_all h_o_laidIm h_o_laidRe h_o_quarter h_o_told h_o_tape h_o_words h_o_isTold h_o_toldWave h_o_isPoint h_o_roots h_o_byOrder h_o_noted1 h_o_counts h_o_binBy o_tapeSize o_thrown o_fault o_faultPlace o_stop o_next o_kind o_which o_at o_pointsRead o_bank_10 o_isImage o_undos o_runRadix o_runOrder v1 o_runLimit o_runHalves o_power o_notedMany o_knownTold o_drawn o_all_11 o_laidIm o_laidRe o_quarter o_told)) rfl (fun H locs hP hD hS => ?_)
        exact j61 o_thrown o_bank_10 o_runRadix o_runOrder v1 o_runLimit o_runHalves o_all_11 o_laidIm o_laidRe v1 H locs ls hf hP hD hS (lv_sub hl [0, 1] rfl)
    · have hf := it_t c_9 hf
      refine lv_aload_n hx hb dX10_tried_41 rfl (lv_at hl 0 rfl) ?_
      refine lv_iload_n hx hb dX10_tried_42 rfl (lv_at hl 2 rfl) ?_
      obtain ⟨r_14, o_bank_15, o_runRadix_16, o_runOrder_17, o_runNear_18, o_runLimit_19, o_runHalves_20, o_all_21, o_laidIm_22, o_laidRe_23, e_24, hf⟩ := bd10_x hf
      refine call_v [.int v2] [] ⟨hx, hb, hml, hown, hts⟩ hK hP hD hS hA hl.1 (tX10_expWithout l G cI cJ cZ H.size h_o h_o_all h_o_laidIm h_o_laidRe h_o_quarter h_o_told h_o_tape h_o_words h_o_isTold h_o_toldWave h_o_isPoint h_o_roots h_o_byOrder h_o_noted1 h_o_counts h_o_binBy o_tapeSize o_thrown o_fault o_faultPlace o_stop o_next o_kind o_which o_at o_pointsRead o_bank o_isImage o_undos o_runRadix o_runOrder o_runNear o_runLimit o_runHalves o_power o_notedMany o_knownTold o_drawn o_all o_laidIm o_laidRe o_quarter o_told v2 r_14 o_bank_15 o_runRadix_16 o_runOrder_17 o_runNear_18 o_runLimit_19 o_runHalves_20 o_all_21 o_laidIm_22 o_laidRe_23 e_24) (cwV 1 hts (gv q_mX10_408 q_i_yX10_expWithout q_s_yX10_expWithout q_n_RX10 q_k_yX10_expWithout) rfl rfl rfl (by decide +kernel) ⟨by decide, by decide⟩) rfl rfl (Nat.le_of_ble_eq_true rfl) dX10_tried_43 ⟨Nat.zero_le _, Nat.zero_le _⟩ (ci := 10) rfl 0 rfl [0, 1, 2, 3, 4, 5] [] [0, 1, 2, 3, 4, 5] rfl rfl (ws2 := (wX10_tried cI cJ cZ h_o h_o_all h_o_laidIm h_o_laidRe h_o_quarter h_o_told h_o_tape h_o_words h_o_isTold h_o_toldWave h_o_isPoint h_o_roots h_o_byOrder h_o_noted1 h_o_counts h_o_binBy o_tapeSize o_thrown o_fault o_faultPlace o_stop o_next o_kind o_which o_at o_pointsRead o_bank_15 o_isImage o_undos o_runRadix_16 o_runOrder_17 o_runNear_18 o_runLimit_19 o_runHalves_20 o_power o_notedMany o_knownTold o_drawn o_all_21 o_laidIm_22 o_laidRe_23 o_quarter o_told)) rfl (fun H locs hP hD hS => ?_)
      refine W.eq (g2 := F0 m 46 ls [.int r_14]) rfl ?_
      cases hf
      exact hret _ _ _ _ dX10_tried_46 hP hD hS
  unfold fX10_tried at hf
  obtain ⟨H, eH⟩ : ∃ H, H = s.heap := ⟨_, rfl⟩
  obtain ⟨locs, elocs⟩ : ∃ z : List Loc, z = [] := ⟨_, rfl⟩
  have hP : va_P G vwCl (wX10_tried cI cJ cZ h_o h_o_all h_o_laidIm h_o_laidRe h_o_quarter h_o_told h_o_tape h_o_words h_o_isTold h_o_toldWave h_o_isPoint h_o_roots h_o_byOrder h_o_noted1 h_o_counts h_o_binBy o_tapeSize o_thrown o_fault o_faultPlace o_stop o_next o_kind o_which o_at o_pointsRead o_bank o_isImage o_undos o_runRadix o_runOrder o_runNear o_runLimit o_runHalves o_power o_notedMany o_knownTold o_drawn o_all o_laidIm o_laidRe o_quarter o_told) H := by rw [eH]; exact hP
  have hS : va_S A s.heap H locs := by rw [eH, elocs]; exact hS
  suffices hgo : W p l e ({ frames := 9, cells := 0, slots := 0, locals := 209 } : Room) s m ([.ref h_o, .int p1, .int p2] : List Value).toArray below meth c H locs 0 0 Q (F0 m 0 ls []) by rw [eH, elocs] at hgo; exact hgo
  clear eH elocs
  refine lv_aload_n hx hb dX10_tried_0 rfl (lv_at hl 0 rfl) ?_
  refine lv_iconst (v := (0 : Int32)) hx hb dX10_tried_1 (by decide) ?_
  refine wr (ci := 10) (C := RX10) (T := TX10) (N := 37) hx hb hts inX10 tyX10 tyX10_ok nmX10 hown hK hP hD hS 0 2 rfl rfl (by decide) (hts _ q_fX10_70) rfl rfl rfl (Nat.le_of_ble_eq_true rfl) dX10_tried_2 (ws2 := (wX10_tried cI cJ cZ h_o h_o_all h_o_laidIm h_o_laidRe h_o_quarter h_o_told h_o_tape h_o_words h_o_isTold h_o_toldWave h_o_isPoint h_o_roots h_o_byOrder h_o_noted1 h_o_counts h_o_binBy o_tapeSize (0 : Int32) o_fault o_faultPlace o_stop o_next o_kind o_which o_at o_pointsRead o_bank o_isImage o_undos o_runRadix o_runOrder o_runNear o_runLimit o_runHalves o_power o_notedMany o_knownTold o_drawn o_all o_laidIm o_laidRe o_quarter o_told)) rfl (fun H locs hP hD hS => ?_)
  refine lv_iload_n hx hb dX10_tried_5 rfl (lv_at hl 1 rfl) ?_
  refine lv_iconst (v := (0 : Int32)) hx hb dX10_tried_6 (by decide) ?_
  refine lv_iconst (v := (4 : Int32)) hx hb dX10_tried_7 (by decide) ?_
  obtain ⟨r_1, e_2, hf⟩ := bd1_x hf
  refine call_s [.int p1, .int (0 : Int32), .int (4 : Int32)] [] ⟨hx, hb, hml, hown, hts⟩ hK hP hD hS hA hl.1 (tX10_isIn l G cI cJ cZ H.size p1 (0 : Int32) (4 : Int32) r_1 e_2) (va_cwS 3 hts (gs q_mX10_138 q_s_yX10_isIn q_n_RX10 q_k_yX10_isIn) rfl rfl rfl (by decide +kernel) ⟨by decide, by decide⟩) rfl rfl (Nat.le_of_ble_eq_true rfl) dX10_tried_8 ⟨Nat.zero_le _, Nat.zero_le _⟩ [] [0, 1, 2, 3, 4, 5] [0, 1, 2, 3, 4, 5] rfl rfl (ws2 := (wX10_tried cI cJ cZ h_o h_o_all h_o_laidIm h_o_laidRe h_o_quarter h_o_told h_o_tape h_o_words h_o_isTold h_o_toldWave h_o_isPoint h_o_roots h_o_byOrder h_o_noted1 h_o_counts h_o_binBy o_tapeSize (0 : Int32) o_fault o_faultPlace o_stop o_next o_kind o_which o_at o_pointsRead o_bank o_isImage o_undos o_runRadix o_runOrder o_runNear o_runLimit o_runHalves o_power o_notedMany o_knownTold o_drawn o_all o_laidIm o_laidRe o_quarter o_told)) rfl (fun H locs hP hD hS => ?_)
  refine W.eq (g2 := F0 m 11 ls [.int r_1]) rfl ?_
  refine lv_if_eq (tgt := 34) hx hb dX10_tried_11 (by decide) (fun c_3 => ?_) (fun c_3 => ?_)
  · have hf := it_t c_3 hf
    refine lv_iconst (v := (-1 : Int32)) hx hb dX10_tried_34 (by decide) ?_
    cases hf
    exact hret _ _ _ _ dX10_tried_35 hP hD hS
  · have hf := it_f c_3 hf
    refine lv_iload_n hx hb dX10_tried_14 rfl (lv_at hl 1 rfl) ?_
    refine lv_iconst (v := (2 : Int32)) hx hb dX10_tried_15 (by decide) ?_
    refine lv_icmp_ne (tgt := 30) hx hb dX10_tried_16 (by decide) (fun c_4 => ?_) (fun c_4 => ?_)
    · have hf := it_f c_4 hf
      refine lv_iload_n hx hb dX10_tried_30 rfl (lv_at hl 2 rfl) ?_
      refine lv_if_eq (tgt := 36) hx hb dX10_tried_31 (by decide) (fun c_5 => ?_) (fun c_5 => ?_)
      · have hf := it_t c_5 hf
        exact j36 (0 : Int32) o_bank o_runRadix o_runOrder o_runNear o_runLimit o_runHalves o_all o_laidIm o_laidRe p1 p2 H locs ls hf hP hD hS (lv_sub hl [0, 1, 2] rfl)
      · have hf := it_f c_5 hf
        refine lv_iconst (v := (-1 : Int32)) hx hb dX10_tried_34 (by decide) ?_
        cases hf
        exact hret _ _ _ _ dX10_tried_35 hP hD hS
    · have hf := it_t c_4 hf
      refine lv_aload_n hx hb dX10_tried_19 rfl (lv_at hl 0 rfl) ?_
      refine lv_iload_n hx hb dX10_tried_20 rfl (lv_at hl 2 rfl) ?_
      obtain ⟨r_6, e_7, hf⟩ := bd1_x hf
      refine call_v [.int p2] [] ⟨hx, hb, hml, hown, hts⟩ hK hP hD hS hA hl.1 (tX10_isPlace l G cI cJ cZ H.size h_o h_o_told h_o_tape h_o_words h_o_isTold h_o_toldWave h_o_isPoint h_o_all h_o_quarter h_o_roots h_o_laidRe h_o_laidIm h_o_byOrder h_o_noted1 h_o_counts h_o_binBy o_tapeSize (0 : Int32) o_fault o_faultPlace o_stop o_next o_kind o_which o_at o_pointsRead o_bank o_isImage o_undos o_runRadix o_runOrder o_runNear o_runLimit o_runHalves o_power o_notedMany o_knownTold o_drawn o_told p2 r_6 e_7) (cwV 1 hts (gv q_mX10_203 q_i_yX10_isPlace q_s_yX10_isPlace q_n_RX10 q_k_yX10_isPlace) rfl rfl rfl (by decide +kernel) ⟨by decide, by decide⟩) rfl rfl (Nat.le_of_ble_eq_true rfl) dX10_tried_21 ⟨Nat.zero_le _, Nat.zero_le _⟩ (ci := 10) rfl 0 rfl [0, 5] [1, 2, 3, 4] [4, 0, 1, 2, 3, 5] rfl rfl (ws2 := (wX10_tried cI cJ cZ h_o h_o_all h_o_laidIm h_o_laidRe h_o_quarter h_o_told h_o_tape h_o_words h_o_isTold h_o_toldWave h_o_isPoint h_o_roots h_o_byOrder h_o_noted1 h_o_counts h_o_binBy o_tapeSize (0 : Int32) o_fault o_faultPlace o_stop o_next o_kind o_which o_at o_pointsRead o_bank o_isImage o_undos o_runRadix o_runOrder o_runNear o_runLimit o_runHalves o_power o_notedMany o_knownTold o_drawn o_all o_laidIm o_laidRe o_quarter o_told)) rfl (fun H locs hP hD hS => ?_)
      refine W.eq (g2 := F0 m 24 ls [.int r_6]) rfl ?_
      refine lv_if_ne (tgt := 36) hx hb dX10_tried_24 (by decide) (fun c_8 => ?_) (fun c_8 => ?_)
      · have hf := it_f c_8 hf
        exact j36 (0 : Int32) o_bank o_runRadix o_runOrder o_runNear o_runLimit o_runHalves o_all o_laidIm o_laidRe p1 p2 H locs ls hf hP hD hS (lv_sub hl [0, 1, 2] rfl)
      · have hf := it_t c_8 hf
        refine lv_goto (tgt := 34) hx hb dX10_tried_27 (by decide) ?_
        refine lv_iconst (v := (-1 : Int32)) hx hb dX10_tried_34 (by decide) ?_
        cases hf
        exact hret _ _ _ _ dX10_tried_35 hP hD hS
def wX10_loudest (cI cJ cZ : ClassId) (h_o h_o_all h_o_laidIm h_o_laidRe h_o_quarter h_o_told h_o_tape h_o_words h_o_isTold h_o_toldWave h_o_isPoint h_o_roots h_o_byOrder h_o_noted1 h_o_counts h_o_binBy : Nat) (o_tapeSize : Int32) (o_thrown : Int32) (o_fault : Int32) (o_faultPlace : Int32) (o_stop : Int32) (o_next : Int32) (o_kind : Int32) (o_which : Int32) (o_at : Int32) (o_pointsRead : Int32) (o_bank : Int32) (o_isImage : Int32) (o_undos : Int32) (o_runRadix : Int32) (o_runOrder : Int32) (o_runNear : Int32) (o_runLimit : Int32) (o_runHalves : Int32) (o_power : Int32) (o_notedMany : Int32) (o_knownTold : Int32) (o_drawn : Int64) (o_all : Nat → Int32) (o_laidIm : Nat → Int32) (o_laidRe : Nat → Int32) (o_quarter : Nat → Int32) (o_told : Nat → Int32) : va_W := [(h_o, .inr (10, [.ref h_o_tape, .int o_tapeSize, .int o_thrown, .ref h_o_words, .int o_fault, .int o_faultPlace, .int o_stop, .int o_next, .int o_kind, .int o_which, .int o_at, .ref h_o_told, .ref h_o_isTold, .ref h_o_toldWave, .ref h_o_isPoint, .int o_pointsRead, .ref h_o_all, .int o_bank, .int o_isImage, .int o_undos, .int o_runRadix, .int o_runOrder, .int o_runNear, .int o_runLimit, .int o_runHalves, .ref h_o_quarter, .int o_power, .ref h_o_roots, .ref h_o_laidRe, .ref h_o_laidIm, .ref h_o_byOrder, .int o_notedMany, .int o_knownTold, .ref h_o_noted1, .ref h_o_counts, .ref h_o_binBy, .long o_drawn])), (h_o_all, .inl (cI, 3128, .inl o_all)), (h_o_laidIm, .inl (cI, 32, .inl o_laidIm)), (h_o_laidRe, .inl (cI, 32, .inl o_laidRe)), (h_o_quarter, .inl (cI, 9, .inl o_quarter)), (h_o_told, .inl (cI, 12, .inl o_told))]
def fX10_loudest_54 (o_power : Int32) (o_quarter : Nat → Int32) (o_told : Nat → Int32) (k15 : Int32 → Int32 → Int32 → Int32 → Int32 → Int32 → Int32 → (Nat → Int32) → (Nat → Int32) → (Nat → Int32) → Int32 → Int32 → Int32 → Option (Int32 × Int32 × Int32 × Int32 × Int32 × Int32 × Int32 × Int32 × (Nat → Int32) × (Nat → Int32) × (Nat → Int32))) (o_thrown : Int32) (o_bank : Int32) (o_runRadix : Int32) (o_runOrder : Int32) (o_runNear : Int32) (o_runLimit : Int32) (o_runHalves : Int32) (o_all : Nat → Int32) (o_laidIm : Nat → Int32) (o_laidRe : Nat → Int32) (v1 : Int32) (v3 : Int32) (s0 : Int32) : Option (Int32 × Int32 × Int32 × Int32 × Int32 × Int32 × Int32 × Int32 × (Nat → Int32) × (Nat → Int32) × (Nat → Int32)) :=
  nm (v3 + (1 : Int32)) (fun v3_28 =>
  k15 o_thrown o_bank o_runRadix o_runOrder o_runNear o_runLimit o_runHalves o_all o_laidIm o_laidRe v1 s0 v3_28)
def fX10_loudest_41 (o_power : Int32) (o_quarter : Nat → Int32) (o_told : Nat → Int32) (k15 : Int32 → Int32 → Int32 → Int32 → Int32 → Int32 → Int32 → (Nat → Int32) → (Nat → Int32) → (Nat → Int32) → Int32 → Int32 → Int32 → Option (Int32 × Int32 × Int32 × Int32 × Int32 × Int32 × Int32 × Int32 × (Nat → Int32) × (Nat → Int32) × (Nat → Int32))) (o_thrown : Int32) (o_bank : Int32) (o_runRadix : Int32) (o_runOrder : Int32) (o_runNear : Int32) (o_runLimit : Int32) (o_runHalves : Int32) (o_all : Nat → Int32) (o_laidIm : Nat → Int32) (o_laidRe : Nat → Int32) (v2 : Int32) (v3 : Int32) (v4 : Int32) (s0 : Int32) : Option (Int32 × Int32 × Int32 × Int32 × Int32 × Int32 × Int32 × Int32 × (Nat → Int32) × (Nat → Int32) × (Nat → Int32)) :=
  if v2 ≤ v4 then (
    fX10_loudest_54 o_power o_quarter o_told k15 o_thrown o_bank o_runRadix o_runOrder o_runNear o_runLimit o_runHalves o_all o_laidIm o_laidRe s0 v3 v2
  ) else (
    fX10_loudest_54 o_power o_quarter o_told k15 o_thrown o_bank o_runRadix o_runOrder o_runNear o_runLimit o_runHalves o_all o_laidIm o_laidRe s0 v3 v4
  )
def fX10_loudest_15 (o_power : Int32) (o_quarter : Nat → Int32) (o_told : Nat → Int32) : Nat → Int32 → Int32 → Int32 → Int32 → Int32 → Int32 → Int32 → (Nat → Int32) → (Nat → Int32) → (Nat → Int32) → Int32 → Int32 → Int32 → Option (Int32 × Int32 × Int32 × Int32 × Int32 × Int32 × Int32 × Int32 × (Nat → Int32) × (Nat → Int32) × (Nat → Int32))
  | 0, _, _, _, _, _, _, _, _, _, _, _, _, _ => none
  | n + 1, o_thrown, o_bank, o_runRadix, o_runOrder, o_runNear, o_runLimit, o_runHalves, o_all, o_laidIm, o_laidRe, v1, v2, v3 =>
    bd1 (fX10_size o_told) (fun r_12 =>
    if r_12 ≤ v3 then (
      some (v1, o_thrown, o_bank, o_runRadix, o_runOrder, o_runNear, o_runLimit, o_runHalves, o_all, o_laidIm, o_laidRe)
    ) else (
      bd10 (fX10_expWithout o_bank o_runRadix o_runOrder o_runNear o_runLimit o_runHalves o_power o_all o_laidIm o_laidRe o_quarter o_told v3) (fun r_15 o_bank_16 o_runRadix_17 o_runOrder_18 o_runNear_19 o_runLimit_20 o_runHalves_21 o_all_22 o_laidIm_23 o_laidRe_24 =>
      if v2 ≤ r_15 then (
        fX10_loudest_41 o_power o_quarter o_told (fX10_loudest_15 o_power o_quarter o_told n) o_thrown o_bank_16 o_runRadix_17 o_runOrder_18 o_runNear_19 o_runLimit_20 o_runHalves_21 o_all_22 o_laidIm_23 o_laidRe_24 v2 v3 r_15 v1
      ) else (
        fX10_loudest_41 o_power o_quarter o_told (fX10_loudest_15 o_power o_quarter o_told n) o_thrown o_bank_16 o_runRadix_17 o_runOrder_18 o_runNear_19 o_runLimit_20 o_runHalves_21 o_all_22 o_laidIm_23 o_laidRe_24 v2 v3 r_15 v3
      ))
    ))
def fX10_loudest (o_thrown : Int32) (o_bank : Int32) (o_runRadix : Int32) (o_runOrder : Int32) (o_runNear : Int32) (o_runLimit : Int32) (o_runHalves : Int32) (o_power : Int32) (o_all : Nat → Int32) (o_laidIm : Nat → Int32) (o_laidRe : Nat → Int32) (o_quarter : Nat → Int32) (o_told : Nat → Int32) : Option (Int32 × Int32 × Int32 × Int32 × Int32 × Int32 × Int32 × Int32 × (Nat → Int32) × (Nat → Int32) × (Nat → Int32)) :=
  bd10 (fX10_expWithout o_bank o_runRadix o_runOrder o_runNear o_runLimit o_runHalves o_power o_all o_laidIm o_laidRe o_quarter o_told (0 : Int32)) (fun r_1 o_bank_2 o_runRadix_3 o_runOrder_4 o_runNear_5 o_runLimit_6 o_runHalves_7 o_all_8 o_laidIm_9 o_laidRe_10 =>
  fX10_loudest_15 o_power o_quarter o_told FU (0 : Int32) o_bank_2 o_runRadix_3 o_runOrder_4 o_runNear_5 o_runLimit_6 o_runHalves_7 o_all_8 o_laidIm_9 o_laidRe_10 (0 : Int32) r_1 (1 : Int32))
set_option maxHeartbeats 4000000 in
set_option maxRecDepth 100000 in
theorem tX10_loudest (l : Launch) (G : va_G) (cI cJ cZ : ClassId) (sz : Nat) (h_o h_o_all h_o_laidIm h_o_laidRe h_o_quarter h_o_told h_o_tape h_o_words h_o_isTold h_o_toldWave h_o_isPoint h_o_roots h_o_byOrder h_o_noted1 h_o_counts h_o_binBy : Nat) (o_tapeSize : Int32) (o_thrown : Int32) (o_fault : Int32) (o_faultPlace : Int32) (o_stop : Int32) (o_next : Int32) (o_kind : Int32) (o_which : Int32) (o_at : Int32) (o_pointsRead : Int32) (o_bank : Int32) (o_isImage : Int32) (o_undos : Int32) (o_runRadix : Int32) (o_runOrder : Int32) (o_runNear : Int32) (o_runLimit : Int32) (o_runHalves : Int32) (o_power : Int32) (o_notedMany : Int32) (o_knownTold : Int32) (o_drawn : Int64) (o_all : Nat → Int32) (o_laidIm : Nat → Int32) (o_laidRe : Nat → Int32) (o_quarter : Nat → Int32) (o_told : Nat → Int32) (r : Int32) (out_o_thrown : Int32) (out_o_bank : Int32) (out_o_runRadix : Int32) (out_o_runOrder : Int32) (out_o_runNear : Int32) (out_o_runLimit : Int32) (out_o_runHalves : Int32) (out_o_all : Nat → Int32) (out_o_laidIm : Nat → Int32) (out_o_laidRe : Nat → Int32) (hf : fX10_loudest o_thrown o_bank o_runRadix o_runOrder o_runNear o_runLimit o_runHalves o_power o_all o_laidIm o_laidRe o_quarter o_told = some (r, out_o_thrown, out_o_bank, out_o_runRadix, out_o_runOrder, out_o_runNear, out_o_runLimit, out_o_runHalves, out_o_all, out_o_laidIm, out_o_laidRe)) : Met l yX10_loudest (Cond.code yX10_loudest cX10_loudest 5 (some .int) :: BIG) ({ frames := 9, cells := 0, slots := 0, locals := 209 } : Room) (cP G (TY3 cI cJ cZ) [.ref h_o] sz (wX10_loudest cI cJ cZ h_o h_o_all h_o_laidIm h_o_laidRe h_o_quarter h_o_told h_o_tape h_o_words h_o_isTold h_o_toldWave h_o_isPoint h_o_roots h_o_byOrder h_o_noted1 h_o_counts h_o_binBy o_tapeSize o_thrown o_fault o_faultPlace o_stop o_next o_kind o_which o_at o_pointsRead o_bank o_isImage o_undos o_runRadix o_runOrder o_runNear o_runLimit o_runHalves o_power o_notedMany o_knownTold o_drawn o_all o_laidIm o_laidRe o_quarter o_told)) (cQ G (TY3 cI cJ cZ) sz (wX10_loudest cI cJ cZ h_o h_o_all h_o_laidIm h_o_laidRe h_o_quarter h_o_told h_o_tape h_o_words h_o_isTold h_o_toldWave h_o_isPoint h_o_roots h_o_byOrder h_o_noted1 h_o_counts h_o_binBy o_tapeSize o_thrown o_fault o_faultPlace o_stop o_next o_kind o_which o_at o_pointsRead o_bank o_isImage o_undos o_runRadix o_runOrder o_runNear o_runLimit o_runHalves o_power o_notedMany o_knownTold o_drawn o_all o_laidIm o_laidRe o_quarter o_told) (wX10_loudest cI cJ cZ h_o h_o_all h_o_laidIm h_o_laidRe h_o_quarter h_o_told h_o_tape h_o_words h_o_isTold h_o_toldWave h_o_isPoint h_o_roots h_o_byOrder h_o_noted1 h_o_counts h_o_binBy o_tapeSize out_o_thrown o_fault o_faultPlace o_stop o_next o_kind o_which o_at o_pointsRead out_o_bank o_isImage o_undos out_o_runRadix out_o_runOrder out_o_runNear out_o_runLimit out_o_runHalves o_power o_notedMany o_knownTold o_drawn out_o_all out_o_laidIm out_o_laidRe o_quarter o_told) (some (.int r))) 0 0 (va_A (wX10_loudest cI cJ cZ h_o h_o_all h_o_laidIm h_o_laidRe h_o_quarter h_o_told h_o_tape h_o_words h_o_isTold h_o_toldWave h_o_isPoint h_o_roots h_o_byOrder h_o_noted1 h_o_counts h_o_binBy o_tapeSize o_thrown o_fault o_faultPlace o_stop o_next o_kind o_which o_at o_pointsRead o_bank o_isImage o_undos o_runRadix o_runOrder o_runNear o_runLimit o_runHalves o_power o_notedMany o_knownTold o_drawn o_all o_laidIm o_laidRe o_quarter o_told) sz) := by
  refine met_i (cc := cX10_loudest) (maxL := 5) (plainFor_of_name (by decide)) (Nat.le_of_ble_eq_true rfl) (fun p e s m below meth c A ls Q hx hb hml hts hown hK hP hD hS hA hl hret => ?_)
  have hown : s.vm.findClass RX10 = some m.cls := hown
  have hl : lv_has ls 5 [(0, .ref h_o)] := hl
  have j54 : ∀ (k15 : Int32 → Int32 → Int32 → Int32 → Int32 → Int32 → Int32 → (Nat → Int32) → (Nat → Int32) → (Nat → Int32) → Int32 → Int32 → Int32 → Option (Int32 × Int32 × Int32 × Int32 × Int32 × Int32 × Int32 × Int32 × (Nat → Int32) × (Nat → Int32) × (Nat → Int32))), (∀ (o_thrown : Int32) (o_bank : Int32) (o_runRadix : Int32) (o_runOrder : Int32) (o_runNear : Int32) (o_runLimit : Int32) (o_runHalves : Int32) (o_all : Nat → Int32) (o_laidIm : Nat → Int32) (o_laidRe : Nat → Int32) (v1 : Int32) (v2 : Int32) (v3 : Int32) (H : Heap) (locs : List Loc) (ls : Array Slot), k15 o_thrown o_bank o_runRadix o_runOrder o_runNear o_runLimit o_runHalves o_all o_laidIm o_laidRe v1 v2 v3 = some (r, out_o_thrown, out_o_bank, out_o_runRadix, out_o_runOrder, out_o_runNear, out_o_runLimit, out_o_runHalves, out_o_all, out_o_laidIm, out_o_laidRe) → va_P G vwCl (wX10_loudest cI cJ cZ h_o h_o_all h_o_laidIm h_o_laidRe h_o_quarter h_o_told h_o_tape h_o_words h_o_isTold h_o_toldWave h_o_isPoint h_o_roots h_o_byOrder h_o_noted1 h_o_counts h_o_binBy o_tapeSize o_thrown o_fault o_faultPlace o_stop o_next o_kind o_which o_at o_pointsRead o_bank o_isImage o_undos o_runRadix o_runOrder o_runNear o_runLimit o_runHalves o_power o_notedMany o_knownTold o_drawn o_all o_laidIm o_laidRe o_quarter o_told) H → va_D A (wX10_loudest cI cJ cZ h_o h_o_all h_o_laidIm h_o_laidRe h_o_quarter h_o_told h_o_tape h_o_words h_o_isTold h_o_toldWave h_o_isPoint h_o_roots h_o_byOrder h_o_noted1 h_o_counts h_o_binBy o_tapeSize o_thrown o_fault o_faultPlace o_stop o_next o_kind o_which o_at o_pointsRead o_bank o_isImage o_undos o_runRadix o_runOrder o_runNear o_runLimit o_runHalves o_power o_notedMany o_knownTold o_drawn o_all o_laidIm o_laidRe o_quarter o_told) → va_S A s.heap H locs → lv_has ls 5 [(0, .ref h_o), (1, .int v1), (2, .int v2), (3, .int v3)] → W p l e ({ frames := 9, cells := 0, slots := 0, locals := 209 } : Room) s m ([.ref h_o] : List Value).toArray below meth c H locs 0 0 Q (F0 m 15 ls [])) → ∀ (o_thrown : Int32) (o_bank : Int32) (o_runRadix : Int32) (o_runOrder : Int32) (o_runNear : Int32) (o_runLimit : Int32) (o_runHalves : Int32) (o_all : Nat → Int32) (o_laidIm : Nat → Int32) (o_laidRe : Nat → Int32) (v1 : Int32) (v3 : Int32) (s0 : Int32) (H : Heap) (locs : List Loc) (ls : Array Slot), fX10_loudest_54 o_power o_quarter o_told k15 o_thrown o_bank o_runRadix o_runOrder o_runNear o_runLimit o_runHalves o_all o_laidIm o_laidRe v1 v3 s0 = some (r, out_o_thrown, out_o_bank, out_o_runRadix, out_o_runOrder, out_o_runNear, out_o_runLimit, out_o_runHalves, out_o_all, out_o_laidIm, out_o_laidRe) → va_P G vwCl (wX10_loudest cI cJ cZ h_o h_o_all h_o_laidIm h_o_laidRe h_o_quarter h_o_told h_o_tape h_o_words h_o_isTold h_o_toldWave h_o_isPoint h_o_roots h_o_byOrder h_o_noted1 h_o_counts h_o_binBy o_tapeSize o_thrown o_fault o_faultPlace o_stop o_next o_kind o_which o_at o_pointsRead o_bank o_isImage o_undos o_runRadix o_runOrder o_runNear o_runLimit o_runHalves o_power o_notedMany o_knownTold o_drawn o_all o_laidIm o_laidRe o_quarter o_told) H → va_D A (wX10_loudest cI cJ cZ h_o h_o_all h_o_laidIm h_o_laidRe h_o_quarter h_o_told h_o_tape h_o_words h_o_isTold h_o_toldWave h_o_isPoint h_o_roots h_o_byOrder h_o_noted1 h_o_counts h_o_binBy o_tapeSize o_thrown o_fault o_faultPlace o_stop o_next o_kind o_which o_at o_pointsRead o_bank o_isImage o_undos o_runRadix o_runOrder o_runNear o_runLimit o_runHalves o_power o_notedMany o_knownTold o_drawn o_all o_laidIm o_laidRe o_quarter o_told) → va_S A s.heap H locs → lv_has ls 5 [(0, .ref h_o), (1, .int v1), (3, .int v3)] → W p l e ({ frames := 9, cells := 0, slots := 0, locals := 209 } : Room) s m ([.ref h_o] : List Value).toArray below meth c H locs 0 0 Q (F0 m 54 ls [.int s0]) := by
    intro k15 hk15 o_thrown o_bank o_runRadix o_runOrder o_runNear o_runLimit o_runHalves o_all o_laidIm o_laidRe v1 v3 s0 H locs ls hf hP hD hS hl
    unfold fX10_loudest_54 at hf
    refine lv_istore_n (lv' := [(2, .int s0), (0, .ref h_o), (1, .int v1), (3, .int v3)]) hx hb dX10_loudest_54 rfl hl (by decide) rfl (fun ls hl => ?_)
    obtain ⟨v3_28, ev3_28⟩ : ∃ y : Int32, y = v3 + (1 : Int32) := ⟨_, rfl⟩
    have hf := nm_x ev3_28 hf
    refine lv_iinc (v := v3_28) (lv' := [(3, .int v3_28), (2, .int s0), (0, .ref h_o), (1, .int v1)]) hx hb dX10_loudest_55 hl (k := 3) rfl (by rw [ev3_28]; rfl) (by decide) rfl (fun ls hl => ?_)
    refine lv_goto (tgt := 15) hx hb dX10_loudest_58 (by decide) ?_
    exact hk15 o_thrown o_bank o_runRadix o_runOrder o_runNear o_runLimit o_runHalves o_all o_laidIm o_laidRe v1 s0 v3_28 H locs ls hf hP hD hS (lv_sub hl [2, 3, 1, 0] rfl)
  have j41 : ∀ (k15 : Int32 → Int32 → Int32 → Int32 → Int32 → Int32 → Int32 → (Nat → Int32) → (Nat → Int32) → (Nat → Int32) → Int32 → Int32 → Int32 → Option (Int32 × Int32 × Int32 × Int32 × Int32 × Int32 × Int32 × Int32 × (Nat → Int32) × (Nat → Int32) × (Nat → Int32))), (∀ (o_thrown : Int32) (o_bank : Int32) (o_runRadix : Int32) (o_runOrder : Int32) (o_runNear : Int32) (o_runLimit : Int32) (o_runHalves : Int32) (o_all : Nat → Int32) (o_laidIm : Nat → Int32) (o_laidRe : Nat → Int32) (v1 : Int32) (v2 : Int32) (v3 : Int32) (H : Heap) (locs : List Loc) (ls : Array Slot), k15 o_thrown o_bank o_runRadix o_runOrder o_runNear o_runLimit o_runHalves o_all o_laidIm o_laidRe v1 v2 v3 = some (r, out_o_thrown, out_o_bank, out_o_runRadix, out_o_runOrder, out_o_runNear, out_o_runLimit, out_o_runHalves, out_o_all, out_o_laidIm, out_o_laidRe) → va_P G vwCl (wX10_loudest cI cJ cZ h_o h_o_all h_o_laidIm h_o_laidRe h_o_quarter h_o_told h_o_tape h_o_words h_o_isTold h_o_toldWave h_o_isPoint h_o_roots h_o_byOrder h_o_noted1 h_o_counts h_o_binBy o_tapeSize o_thrown o_fault o_faultPlace o_stop o_next o_kind o_which o_at o_pointsRead o_bank o_isImage o_undos o_runRadix o_runOrder o_runNear o_runLimit o_runHalves o_power o_notedMany o_knownTold o_drawn o_all o_laidIm o_laidRe o_quarter o_told) H → va_D A (wX10_loudest cI cJ cZ h_o h_o_all h_o_laidIm h_o_laidRe h_o_quarter h_o_told h_o_tape h_o_words h_o_isTold h_o_toldWave h_o_isPoint h_o_roots h_o_byOrder h_o_noted1 h_o_counts h_o_binBy o_tapeSize o_thrown o_fault o_faultPlace o_stop o_next o_kind o_which o_at o_pointsRead o_bank o_isImage o_undos o_runRadix o_runOrder o_runNear o_runLimit o_runHalves o_power o_notedMany o_knownTold o_drawn o_all o_laidIm o_laidRe o_quarter o_told) → va_S A s.heap H locs → lv_has ls 5 [(0, .ref h_o), (1, .int v1), (2, .int v2), (3, .int v3)] → W p l e ({ frames := 9, cells := 0, slots := 0, locals := 209 } : Room) s m ([.ref h_o] : List Value).toArray below meth c H locs 0 0 Q (F0 m 15 ls [])) → ∀ (o_thrown : Int32) (o_bank : Int32) (o_runRadix : Int32) (o_runOrder : Int32) (o_runNear : Int32) (o_runLimit : Int32) (o_runHalves : Int32) (o_all : Nat → Int32) (o_laidIm : Nat → Int32) (o_laidRe : Nat → Int32) (v2 : Int32) (v3 : Int32) (v4 : Int32) (s0 : Int32) (H : Heap) (locs : List Loc) (ls : Array Slot), fX10_loudest_41 o_power o_quarter o_told k15 o_thrown o_bank o_runRadix o_runOrder o_runNear o_runLimit o_runHalves o_all o_laidIm o_laidRe v2 v3 v4 s0 = some (r, out_o_thrown, out_o_bank, out_o_runRadix, out_o_runOrder, out_o_runNear, out_o_runLimit, out_o_runHalves, out_o_all, out_o_laidIm, out_o_laidRe) → va_P G vwCl (wX10_loudest cI cJ cZ h_o h_o_all h_o_laidIm h_o_laidRe h_o_quarter h_o_told h_o_tape h_o_words h_o_isTold h_o_toldWave h_o_isPoint h_o_roots h_o_byOrder h_o_noted1 h_o_counts h_o_binBy o_tapeSize o_thrown o_fault o_faultPlace o_stop o_next o_kind o_which o_at o_pointsRead o_bank o_isImage o_undos o_runRadix o_runOrder o_runNear o_runLimit o_runHalves o_power o_notedMany o_knownTold o_drawn o_all o_laidIm o_laidRe o_quarter o_told) H → va_D A (wX10_loudest cI cJ cZ h_o h_o_all h_o_laidIm h_o_laidRe h_o_quarter h_o_told h_o_tape h_o_words h_o_isTold h_o_toldWave h_o_isPoint h_o_roots h_o_byOrder h_o_noted1 h_o_counts h_o_binBy o_tapeSize o_thrown o_fault o_faultPlace o_stop o_next o_kind o_which o_at o_pointsRead o_bank o_isImage o_undos o_runRadix o_runOrder o_runNear o_runLimit o_runHalves o_power o_notedMany o_knownTold o_drawn o_all o_laidIm o_laidRe o_quarter o_told) → va_S A s.heap H locs → lv_has ls 5 [(0, .ref h_o), (2, .int v2), (3, .int v3), (4, .int v4)] → W p l e ({ frames := 9, cells := 0, slots := 0, locals := 209 } : Room) s m ([.ref h_o] : List Value).toArray below meth c H locs 0 0 Q (F0 m 41 ls [.int s0]) := by
    intro k15 hk15 o_thrown o_bank o_runRadix o_runOrder o_runNear o_runLimit o_runHalves o_all o_laidIm o_laidRe v2 v3 v4 s0 H locs ls hf hP hD hS hl
    unfold fX10_loudest_41 at hf
    refine lv_istore_n (lv' := [(1, .int s0), (0, .ref h_o), (2, .int v2), (3, .int v3), (4, .int v4)]) hx hb dX10_loudest_41 rfl hl (by decide) rfl (fun ls hl => ?_)
    refine lv_iload hx hb dX10_loudest_42 (lv_at hl 4 rfl) ?_
    refine lv_iload_n hx hb dX10_loudest_44 rfl (lv_at hl 2 rfl) ?_
    refine lv_icmp_ge (tgt := 53) hx hb dX10_loudest_45 (by decide) (fun c_27 => ?_) (fun c_27 => ?_)
    · have hf := it_t c_27 hf
      refine lv_iload_n hx hb dX10_loudest_53 rfl (lv_at hl 2 rfl) ?_
      exact j54 k15 hk15 o_thrown o_bank o_runRadix o_runOrder o_runNear o_runLimit o_runHalves o_all o_laidIm o_laidRe s0 v3 v2 H locs ls hf hP hD hS (lv_sub hl [1, 0, 3] rfl)
    · have hf := it_f c_27 hf
      refine lv_iload hx hb dX10_loudest_48 (lv_at hl 4 rfl) ?_
      refine lv_goto (tgt := 54) hx hb dX10_loudest_50 (by decide) ?_
      exact j54 k15 hk15 o_thrown o_bank o_runRadix o_runOrder o_runNear o_runLimit o_runHalves o_all o_laidIm o_laidRe s0 v3 v4 H locs ls hf hP hD hS (lv_sub hl [1, 0, 3] rfl)
  have j15 : ∀ (n : Nat) (o_thrown : Int32) (o_bank : Int32) (o_runRadix : Int32) (o_runOrder : Int32) (o_runNear : Int32) (o_runLimit : Int32) (o_runHalves : Int32) (o_all : Nat → Int32) (o_laidIm : Nat → Int32) (o_laidRe : Nat → Int32) (v1 : Int32) (v2 : Int32) (v3 : Int32) (H : Heap) (locs : List Loc) (ls : Array Slot), fX10_loudest_15 o_power o_quarter o_told n o_thrown o_bank o_runRadix o_runOrder o_runNear o_runLimit o_runHalves o_all o_laidIm o_laidRe v1 v2 v3 = some (r, out_o_thrown, out_o_bank, out_o_runRadix, out_o_runOrder, out_o_runNear, out_o_runLimit, out_o_runHalves, out_o_all, out_o_laidIm, out_o_laidRe) → va_P G vwCl (wX10_loudest cI cJ cZ h_o h_o_all h_o_laidIm h_o_laidRe h_o_quarter h_o_told h_o_tape h_o_words h_o_isTold h_o_toldWave h_o_isPoint h_o_roots h_o_byOrder h_o_noted1 h_o_counts h_o_binBy o_tapeSize o_thrown o_fault o_faultPlace o_stop o_next o_kind o_which o_at o_pointsRead o_bank o_isImage o_undos o_runRadix o_runOrder o_runNear o_runLimit o_runHalves o_power o_notedMany o_knownTold o_drawn o_all o_laidIm o_laidRe o_quarter o_told) H → va_D A (wX10_loudest cI cJ cZ h_o h_o_all h_o_laidIm h_o_laidRe h_o_quarter h_o_told h_o_tape h_o_words h_o_isTold h_o_toldWave h_o_isPoint h_o_roots h_o_byOrder h_o_noted1 h_o_counts h_o_binBy o_tapeSize o_thrown o_fault o_faultPlace o_stop o_next o_kind o_which o_at o_pointsRead o_bank o_isImage o_undos o_runRadix o_runOrder o_runNear o_runLimit o_runHalves o_power o_notedMany o_knownTold o_drawn o_all o_laidIm o_laidRe o_quarter o_told) → va_S A s.heap H locs → lv_has ls 5 [(0, .ref h_o), (1, .int v1), (2, .int v2), (3, .int v3)] → W p l e ({ frames := 9, cells := 0, slots := 0, locals := 209 } : Room) s m ([.ref h_o] : List Value).toArray below meth c H locs 0 0 Q (F0 m 15 ls []) := by
    intro n
    induction n with
    | zero =>
      intro o_thrown o_bank o_runRadix o_runOrder o_runNear o_runLimit o_runHalves o_all o_laidIm o_laidRe v1 v2 v3 H locs ls hf
      have hf : (none : Option (Int32 × Int32 × Int32 × Int32 × Int32 × Int32 × Int32 × Int32 × (Nat → Int32) × (Nat → Int32) × (Nat → Int32))) = some (r, out_o_thrown, out_o_bank, out_o_runRadix, out_o_runOrder, out_o_runNear, out_o_runLimit, out_o_runHalves, out_o_all, out_o_laidIm, out_o_laidRe) := hf
      cases hf
    | succ n ih =>
      intro o_thrown o_bank o_runRadix o_runOrder o_runNear o_runLimit o_runHalves o_all o_laidIm o_laidRe v1 v2 v3 H locs ls hf hP hD hS hl
      rw [fX10_loudest_15.eq_2] at hf
      refine lv_iload_n hx hb dX10_loudest_15 rfl (lv_at hl 3 rfl) ?_
      refine lv_aload_n hx hb dX10_loudest_16 rfl (lv_at hl 0 rfl) ?_
      obtain ⟨r_12, e_13, hf⟩ := bd1_x hf
      refine call_v [] [.int v3] ⟨hx, hb, hml, hown, hts⟩ hK hP hD hS hA hl.1 (tX10_size l G cI cJ cZ H.size h_o h_o_told h_o_tape h_o_words h_o_isTold h_o_toldWave h_o_isPoint h_o_all h_o_quarter h_o_roots h_o_laidRe h_o_laidIm h_o_byOrder h_o_noted1 h_o_counts h_o_binBy o_tapeSize o_thrown o_fault o_faultPlace o_stop o_next o_kind o_which o_at o_pointsRead o_bank o_isImage o_undos o_runRadix o_runOrder o_runNear o_runLimit o_runHalves o_power o_notedMany o_knownTold o_drawn o_told r_12 e_13) (cwV 0 hts (gv q_mX10_196 q_i_yX10_size q_s_yX10_size q_n_RX10 q_k_yX10_size) rfl rfl rfl (by decide +kernel) ⟨by decide, by decide⟩) rfl rfl (Nat.le_of_ble_eq_true rfl) dX10_loudest_17 ⟨Nat.zero_le _, Nat.zero_le _⟩ (ci := 10) rfl 0 rfl [0, 5] [1, 2, 3, 4] [4, 0, 1, 2, 3, 5] rfl rfl (ws2 := (wX10_loudest cI cJ cZ h_o h_o_all h_o_laidIm h_o_laidRe h_o_quarter h_o_told h_o_tape h_o_words h_o_isTold h_o_toldWave h_o_isPoint h_o_roots h_o_byOrder h_o_noted1 h_o_counts h_o_binBy o_tapeSize o_thrown o_fault o_faultPlace o_stop o_next o_kind o_which o_at o_pointsRead o_bank o_isImage o_undos o_runRadix o_runOrder o_runNear o_runLimit o_runHalves o_power o_notedMany o_knownTold o_drawn o_all o_laidIm o_laidRe o_quarter o_told)) rfl (fun H locs hP hD hS => ?_)
      refine W.eq (g2 := F0 m 20 ls [.int r_12, .int v3]) rfl ?_
      refine lv_icmp_ge (tgt := 61) hx hb dX10_loudest_20 (by decide) (fun c_14 => ?_) (fun c_14 => ?_)
      · have hf := it_t c_14 hf
        refine lv_iload_n hx hb dX10_loudest_61 rfl (lv_at hl 1 rfl) ?_
        cases hf
        exact hret _ _ _ _ dX10_loudest_62 hP hD hS
      · have hf := it_f c_14 hf
        refine lv_aload_n hx hb dX10_loudest_23 rfl (lv_at hl 0 rfl) ?_
        refine lv_iload_n hx hb dX10_loudest_24 rfl (lv_at hl 3 rfl) ?_
        obtain ⟨r_15, o_bank_16, o_runRadix_17, o_runOrder_18, o_runNear_19, o_runLimit_20, o_runHalves_21, o_all_22, o_laidIm_23, o_laidRe_24, e_25, hf⟩ := bd10_x hf
        refine call_v [.int v3] [] ⟨hx, hb, hml, hown, hts⟩ hK hP hD hS hA hl.1 (tX10_expWithout l G cI cJ cZ H.size h_o h_o_all h_o_laidIm h_o_laidRe h_o_quarter h_o_told h_o_tape h_o_words h_o_isTold h_o_toldWave h_o_isPoint h_o_roots h_o_byOrder h_o_noted1 h_o_counts h_o_binBy o_tapeSize o_thrown o_fault o_faultPlace o_stop o_next o_kind o_which o_at o_pointsRead o_bank o_isImage o_undos o_runRadix o_runOrder o_runNear o_runLimit o_runHalves o_power o_notedMany o_knownTold o_drawn o_all o_laidIm o_laidRe o_quarter o_told v3 r_15 o_bank_16 o_runRadix_17 o_runOrder_18 o_runNear_19 o_runLimit_20 o_runHalves_21 o_all_22 o_laidIm_23 o_laidRe_24 e_25) (cwV 1 hts (gv q_mX10_408 q_i_yX10_expWithout q_s_yX10_expWithout q_n_RX10 q_k_yX10_expWithout) rfl rfl rfl (by decide +kernel) ⟨by decide, by decide⟩) rfl rfl (Nat.le_of_ble_eq_true rfl) dX10_loudest_25 ⟨Nat.zero_le _, Nat.zero_le _⟩ (ci := 10) rfl 0 rfl [0, 1, 2, 3, 4, 5] [] [0, 1, 2, 3, 4, 5] rfl rfl (ws2 := (wX10_loudest cI cJ cZ h_o h_o_all h_o_laidIm h_o_laidRe h_o_quarter h_o_told h_o_tape h_o_words h_o_isTold h_o_toldWave h_o_isPoint h_o_roots h_o_byOrder h_o_noted1 h_o_counts h_o_binBy o_tapeSize o_thrown o_fault o_faultPlace o_stop o_next o_kind o_which o_at o_pointsRead o_bank_16 o_isImage o_undos o_runRadix_17 o_runOrder_18 o_runNear_19 o_runLimit_20 o_runHalves_21 o_power o_notedMany o_knownTold o_drawn o_all_22 o_laidIm_23 o_laidRe_24 o_quarter o_told)) rfl (fun H locs hP hD hS => ?_)
        refine W.eq (g2 := F0 m 28 ls [.int r_15]) rfl ?_
        refine lv_istore (lv' := [(4, .int r_15), (0, .ref h_o), (1, .int v1), (2, .int v2), (3, .int v3)]) hx hb dX10_loudest_28 hl (by decide) rfl (fun ls hl => ?_)
        refine lv_iload hx hb dX10_loudest_30 (lv_at hl 0 rfl) ?_
        refine lv_iload_n hx hb dX10_loudest_32 rfl (lv_at hl 3 rfl) ?_
        refine lv_icmp_ge (tgt := 40) hx hb dX10_loudest_33 (by decide) (fun c_26 => ?_) (fun c_26 => ?_)
        · have hf := it_t c_26 hf
          refine lv_iload_n hx hb dX10_loudest_40 rfl (lv_at hl 2 rfl) ?_
          exact j41 (fX10_loudest_15 o_power o_quarter o_told n) ih o_thrown o_bank_16 o_runRadix_17 o_runOrder_18 o_runNear_19 o_runLimit_20 o_runHalves_21 o_all_22 o_laidIm_23 o_laidRe_24 v2 v3 r_15 v1 H locs ls hf hP hD hS (lv_sub hl [1, 3, 4, 0] rfl)
        · have hf := it_f c_26 hf
          refine lv_iload_n hx hb dX10_loudest_36 rfl (lv_at hl 4 rfl) ?_
          refine lv_goto (tgt := 41) hx hb dX10_loudest_37 (by decide) ?_
          exact j41 (fX10_loudest_15 o_power o_quarter o_told n) ih o_thrown o_bank_16 o_runRadix_17 o_runOrder_18 o_runNear_19 o_runLimit_20 o_runHalves_21 o_all_22 o_laidIm_23 o_laidRe_24 v2 v3 r_15 v3 H locs ls hf hP hD hS (lv_sub hl [1, 3, 4, 0] rfl)
  unfold fX10_loudest at hf
  obtain ⟨H, eH⟩ : ∃ H, H = s.heap := ⟨_, rfl⟩
  obtain ⟨locs, elocs⟩ : ∃ z : List Loc, z = [] := ⟨_, rfl⟩
  have hP : va_P G vwCl (wX10_loudest cI cJ cZ h_o h_o_all h_o_laidIm h_o_laidRe h_o_quarter h_o_told h_o_tape h_o_words h_o_isTold h_o_toldWave h_o_isPoint h_o_roots h_o_byOrder h_o_noted1 h_o_counts h_o_binBy o_tapeSize o_thrown o_fault o_faultPlace o_stop o_next o_kind o_which o_at o_pointsRead o_bank o_isImage o_undos o_runRadix o_runOrder o_runNear o_runLimit o_runHalves o_power o_notedMany o_knownTold o_drawn o_all o_laidIm o_laidRe o_quarter o_told) H := by rw [eH]; exact hP
  have hS : va_S A s.heap H locs := by rw [eH, elocs]; exact hS
  suffices hgo : W p l e ({ frames := 9, cells := 0, slots := 0, locals := 209 } : Room) s m ([.ref h_o] : List Value).toArray below meth c H locs 0 0 Q (F0 m 0 ls []) by rw [eH, elocs] at hgo; exact hgo
  clear eH elocs
  refine lv_aload_n hx hb dX10_loudest_0 rfl (lv_at hl 0 rfl) ?_
  refine lv_iconst (v := (0 : Int32)) hx hb dX10_loudest_1 (by decide) ?_
  refine wr (ci := 10) (C := RX10) (T := TX10) (N := 37) hx hb hts inX10 tyX10 tyX10_ok nmX10 hown hK hP hD hS 0 2 rfl rfl (by decide) (hts _ q_fX10_70) rfl rfl rfl (Nat.le_of_ble_eq_true rfl) dX10_loudest_2 (ws2 := (wX10_loudest cI cJ cZ h_o h_o_all h_o_laidIm h_o_laidRe h_o_quarter h_o_told h_o_tape h_o_words h_o_isTold h_o_toldWave h_o_isPoint h_o_roots h_o_byOrder h_o_noted1 h_o_counts h_o_binBy o_tapeSize (0 : Int32) o_fault o_faultPlace o_stop o_next o_kind o_which o_at o_pointsRead o_bank o_isImage o_undos o_runRadix o_runOrder o_runNear o_runLimit o_runHalves o_power o_notedMany o_knownTold o_drawn o_all o_laidIm o_laidRe o_quarter o_told)) rfl (fun H locs hP hD hS => ?_)
  refine lv_iconst (v := (0 : Int32)) hx hb dX10_loudest_5 (by decide) ?_
  refine lv_istore_n (lv' := [(1, .int (0 : Int32)), (0, .ref h_o)]) hx hb dX10_loudest_6 rfl hl (by decide) rfl (fun ls hl => ?_)
  refine lv_aload_n hx hb dX10_loudest_7 rfl (lv_at hl 1 rfl) ?_
  refine lv_iconst (v := (0 : Int32)) hx hb dX10_loudest_8 (by decide) ?_
  obtain ⟨r_1, o_bank_2, o_runRadix_3, o_runOrder_4, o_runNear_5, o_runLimit_6, o_runHalves_7, o_all_8, o_laidIm_9, o_laidRe_10, e_11, hf⟩ := bd10_x hf
  refine call_v [.int (0 : Int32)] [] ⟨hx, hb, hml, hown, hts⟩ hK hP hD hS hA hl.1 (tX10_expWithout l G cI cJ cZ H.size h_o h_o_all h_o_laidIm h_o_laidRe h_o_quarter h_o_told h_o_tape h_o_words h_o_isTold h_o_toldWave h_o_isPoint h_o_roots h_o_byOrder h_o_noted1 h_o_counts h_o_binBy o_tapeSize (0 : Int32) o_fault o_faultPlace o_stop o_next o_kind o_which o_at o_pointsRead o_bank o_isImage o_undos o_runRadix o_runOrder o_runNear o_runLimit o_runHalves o_power o_notedMany o_knownTold o_drawn o_all o_laidIm o_laidRe o_quarter o_told (0 : Int32) r_1 o_bank_2 o_runRadix_3 o_runOrder_4 o_runNear_5 o_runLimit_6 o_runHalves_7 o_all_8 o_laidIm_9 o_laidRe_10 e_11) (cwV 1 hts (gv q_mX10_408 q_i_yX10_expWithout q_s_yX10_expWithout q_n_RX10 q_k_yX10_expWithout) rfl rfl rfl (by decide +kernel) ⟨by decide, by decide⟩) rfl rfl (Nat.le_of_ble_eq_true rfl) dX10_loudest_9 ⟨Nat.zero_le _, Nat.zero_le _⟩ (ci := 10) rfl 0 rfl [0, 1, 2, 3, 4, 5] [] [0, 1, 2, 3, 4, 5] rfl rfl (ws2 := (wX10_loudest cI cJ cZ h_o h_o_all h_o_laidIm h_o_laidRe h_o_quarter h_o_told h_o_tape h_o_words h_o_isTold h_o_toldWave h_o_isPoint h_o_roots h_o_byOrder h_o_noted1 h_o_counts h_o_binBy o_tapeSize (0 : Int32) o_fault o_faultPlace o_stop o_next o_kind o_which o_at o_pointsRead o_bank_2 o_isImage o_undos o_runRadix_3 o_runOrder_4 o_runNear_5 o_runLimit_6 o_runHalves_7 o_power o_notedMany o_knownTold o_drawn o_all_8 o_laidIm_9 o_laidRe_10 o_quarter o_told)) rfl (fun H locs hP hD hS => ?_)
  refine W.eq (g2 := F0 m 12 ls [.int r_1]) rfl ?_
  refine lv_istore_n (lv' := [(2, .int r_1), (1, .int (0 : Int32)), (0, .ref h_o)]) hx hb dX10_loudest_12 rfl hl (by decide) rfl (fun ls hl => ?_)
  refine lv_iconst (v := (1 : Int32)) hx hb dX10_loudest_13 (by decide) ?_
  refine lv_istore_n (lv' := [(3, .int (1 : Int32)), (2, .int r_1), (1, .int (0 : Int32)), (0, .ref h_o)]) hx hb dX10_loudest_14 rfl hl (by decide) rfl (fun ls hl => ?_)
  exact j15 FU (0 : Int32) o_bank_2 o_runRadix_3 o_runOrder_4 o_runNear_5 o_runLimit_6 o_runHalves_7 o_all_8 o_laidIm_9 o_laidRe_10 (0 : Int32) r_1 (1 : Int32) H locs ls hf hP hD hS (lv_sub hl [3, 2, 1, 0] rfl)
def wX10_undo (cI cJ cZ : ClassId) (h_o h_o_all h_o_tape h_o_words h_o_told h_o_isTold h_o_toldWave h_o_isPoint h_o_quarter h_o_roots h_o_laidRe h_o_laidIm h_o_byOrder h_o_noted1 h_o_counts h_o_binBy : Nat) (o_tapeSize : Int32) (o_thrown : Int32) (o_fault : Int32) (o_faultPlace : Int32) (o_stop : Int32) (o_next : Int32) (o_kind : Int32) (o_which : Int32) (o_at : Int32) (o_pointsRead : Int32) (o_bank : Int32) (o_isImage : Int32) (o_undos : Int32) (o_runRadix : Int32) (o_runOrder : Int32) (o_runNear : Int32) (o_runLimit : Int32) (o_runHalves : Int32) (o_power : Int32) (o_notedMany : Int32) (o_knownTold : Int32) (o_drawn : Int64) (o_all : Nat → Int32) : va_W := [(h_o, .inr (10, [.ref h_o_tape, .int o_tapeSize, .int o_thrown, .ref h_o_words, .int o_fault, .int o_faultPlace, .int o_stop, .int o_next, .int o_kind, .int o_which, .int o_at, .ref h_o_told, .ref h_o_isTold, .ref h_o_toldWave, .ref h_o_isPoint, .int o_pointsRead, .ref h_o_all, .int o_bank, .int o_isImage, .int o_undos, .int o_runRadix, .int o_runOrder, .int o_runNear, .int o_runLimit, .int o_runHalves, .ref h_o_quarter, .int o_power, .ref h_o_roots, .ref h_o_laidRe, .ref h_o_laidIm, .ref h_o_byOrder, .int o_notedMany, .int o_knownTold, .ref h_o_noted1, .ref h_o_counts, .ref h_o_binBy, .long o_drawn])), (h_o_all, .inl (cI, 3128, .inl o_all))]
def fX10_undo (o_thrown : Int32) (o_undos : Int32) (o_all : Nat → Int32) : Option (Int32 × Int32 × Int32 × (Nat → Int32)) :=
  if o_undos = 0 then (
    some ((-1 : Int32), (0 : Int32), o_undos, o_all)
  ) else (
    nm (o_undos - (1 : Int32)) (fun u_2 =>
    bd1 (fX10_copyBank o_all ((3 : Int32) + u_2) (0 : Int32)) (fun o_all_3 =>
    some (u_2, (0 : Int32), u_2, o_all_3)))
  )
set_option maxHeartbeats 4000000 in
set_option maxRecDepth 100000 in
theorem tX10_undo (l : Launch) (G : va_G) (cI cJ cZ : ClassId) (sz : Nat) (h_o h_o_all h_o_tape h_o_words h_o_told h_o_isTold h_o_toldWave h_o_isPoint h_o_quarter h_o_roots h_o_laidRe h_o_laidIm h_o_byOrder h_o_noted1 h_o_counts h_o_binBy : Nat) (o_tapeSize : Int32) (o_thrown : Int32) (o_fault : Int32) (o_faultPlace : Int32) (o_stop : Int32) (o_next : Int32) (o_kind : Int32) (o_which : Int32) (o_at : Int32) (o_pointsRead : Int32) (o_bank : Int32) (o_isImage : Int32) (o_undos : Int32) (o_runRadix : Int32) (o_runOrder : Int32) (o_runNear : Int32) (o_runLimit : Int32) (o_runHalves : Int32) (o_power : Int32) (o_notedMany : Int32) (o_knownTold : Int32) (o_drawn : Int64) (o_all : Nat → Int32) (r : Int32) (out_o_thrown : Int32) (out_o_undos : Int32) (out_o_all : Nat → Int32) (hf : fX10_undo o_thrown o_undos o_all = some (r, out_o_thrown, out_o_undos, out_o_all)) : Met l yX10_undo (Cond.code yX10_undo cX10_undo 1 (some .int) :: BIG) ({ frames := 1, cells := 0, slots := 0, locals := 23 } : Room) (cP G (TY3 cI cJ cZ) [.ref h_o] sz (wX10_undo cI cJ cZ h_o h_o_all h_o_tape h_o_words h_o_told h_o_isTold h_o_toldWave h_o_isPoint h_o_quarter h_o_roots h_o_laidRe h_o_laidIm h_o_byOrder h_o_noted1 h_o_counts h_o_binBy o_tapeSize o_thrown o_fault o_faultPlace o_stop o_next o_kind o_which o_at o_pointsRead o_bank o_isImage o_undos o_runRadix o_runOrder o_runNear o_runLimit o_runHalves o_power o_notedMany o_knownTold o_drawn o_all)) (cQ G (TY3 cI cJ cZ) sz (wX10_undo cI cJ cZ h_o h_o_all h_o_tape h_o_words h_o_told h_o_isTold h_o_toldWave h_o_isPoint h_o_quarter h_o_roots h_o_laidRe h_o_laidIm h_o_byOrder h_o_noted1 h_o_counts h_o_binBy o_tapeSize o_thrown o_fault o_faultPlace o_stop o_next o_kind o_which o_at o_pointsRead o_bank o_isImage o_undos o_runRadix o_runOrder o_runNear o_runLimit o_runHalves o_power o_notedMany o_knownTold o_drawn o_all) (wX10_undo cI cJ cZ h_o h_o_all h_o_tape h_o_words h_o_told h_o_isTold h_o_toldWave h_o_isPoint h_o_quarter h_o_roots h_o_laidRe h_o_laidIm h_o_byOrder h_o_noted1 h_o_counts h_o_binBy o_tapeSize out_o_thrown o_fault o_faultPlace o_stop o_next o_kind o_which o_at o_pointsRead o_bank o_isImage out_o_undos o_runRadix o_runOrder o_runNear o_runLimit o_runHalves o_power o_notedMany o_knownTold o_drawn out_o_all) (some (.int r))) 0 0 (va_A (wX10_undo cI cJ cZ h_o h_o_all h_o_tape h_o_words h_o_told h_o_isTold h_o_toldWave h_o_isPoint h_o_quarter h_o_roots h_o_laidRe h_o_laidIm h_o_byOrder h_o_noted1 h_o_counts h_o_binBy o_tapeSize o_thrown o_fault o_faultPlace o_stop o_next o_kind o_which o_at o_pointsRead o_bank o_isImage o_undos o_runRadix o_runOrder o_runNear o_runLimit o_runHalves o_power o_notedMany o_knownTold o_drawn o_all) sz) := by
  refine met_i (cc := cX10_undo) (maxL := 1) (plainFor_of_name (by decide)) (Nat.le_of_ble_eq_true rfl) (fun p e s m below meth c A ls Q hx hb hml hts hown hK hP hD hS hA hl hret => ?_)
  have hown : s.vm.findClass RX10 = some m.cls := hown
  have hl : lv_has ls 1 [(0, .ref h_o)] := hl
  unfold fX10_undo at hf
  obtain ⟨H, eH⟩ : ∃ H, H = s.heap := ⟨_, rfl⟩
  obtain ⟨locs, elocs⟩ : ∃ z : List Loc, z = [] := ⟨_, rfl⟩
  have hP : va_P G vwCl (wX10_undo cI cJ cZ h_o h_o_all h_o_tape h_o_words h_o_told h_o_isTold h_o_toldWave h_o_isPoint h_o_quarter h_o_roots h_o_laidRe h_o_laidIm h_o_byOrder h_o_noted1 h_o_counts h_o_binBy o_tapeSize o_thrown o_fault o_faultPlace o_stop o_next o_kind o_which o_at o_pointsRead o_bank o_isImage o_undos o_runRadix o_runOrder o_runNear o_runLimit o_runHalves o_power o_notedMany o_knownTold o_drawn o_all) H := by rw [eH]; exact hP
  have hS : va_S A s.heap H locs := by rw [eH, elocs]; exact hS
  suffices hgo : W p l e ({ frames := 1, cells := 0, slots := 0, locals := 23 } : Room) s m ([.ref h_o] : List Value).toArray below meth c H locs 0 0 Q (F0 m 0 ls []) by rw [eH, elocs] at hgo; exact hgo
  clear eH elocs
  refine lv_aload_n hx hb dX10_undo_0 rfl (lv_at hl 0 rfl) ?_
  refine lv_iconst (v := (0 : Int32)) hx hb dX10_undo_1 (by decide) ?_
  refine wr (ci := 10) (C := RX10) (T := TX10) (N := 37) hx hb hts inX10 tyX10 tyX10_ok nmX10 hown hK hP hD hS 0 2 rfl rfl (by decide) (hts _ q_fX10_70) rfl rfl rfl (Nat.le_of_ble_eq_true rfl) dX10_undo_2 (ws2 := (wX10_undo cI cJ cZ h_o h_o_all h_o_tape h_o_words h_o_told h_o_isTold h_o_toldWave h_o_isPoint h_o_quarter h_o_roots h_o_laidRe h_o_laidIm h_o_byOrder h_o_noted1 h_o_counts h_o_binBy o_tapeSize (0 : Int32) o_fault o_faultPlace o_stop o_next o_kind o_which o_at o_pointsRead o_bank o_isImage o_undos o_runRadix o_runOrder o_runNear o_runLimit o_runHalves o_power o_notedMany o_knownTold o_drawn o_all)) rfl (fun H locs hP hD hS => ?_)
  refine lv_aload_n hx hb dX10_undo_5 rfl (lv_at hl 0 rfl) ?_
  refine rd (ci := 10) (C := RX10) (T := TX10) (N := 37) hx hb hts inX10 hown hK hP 0 19 rfl rfl (by decide) (hts _ q_fX10_129) rfl dX10_undo_6 ?_
  refine lv_if_ne (tgt := 14) hx hb dX10_undo_9 (by decide) (fun c_1 => ?_) (fun c_1 => ?_)
  · have hf := it_f c_1 hf
    refine lv_aload_n hx hb dX10_undo_14 rfl (lv_at hl 0 rfl) ?_
    refine lv_dup hx hb dX10_undo_15 rfl ?_
    refine rd (ci := 10) (C := RX10) (T := TX10) (N := 37) hx hb hts inX10 hown hK hP 0 19 rfl rfl (by decide) (hts _ q_fX10_129) rfl dX10_undo_16 ?_
    refine lv_iconst (v := (1 : Int32)) hx hb dX10_undo_19 (by decide) ?_
    refine lv_isub hx hb dX10_undo_20 ?_
    refine lv_topi (fun u_2 eu_2 => ?_)
    have hf := nm_x eu_2 hf
    refine wr (ci := 10) (C := RX10) (T := TX10) (N := 37) hx hb hts inX10 tyX10 tyX10_ok nmX10 hown hK hP hD hS 0 19 rfl rfl (by decide) (hts _ q_fX10_129) rfl rfl rfl (Nat.le_of_ble_eq_true rfl) dX10_undo_21 (ws2 := (wX10_undo cI cJ cZ h_o h_o_all h_o_tape h_o_words h_o_told h_o_isTold h_o_toldWave h_o_isPoint h_o_quarter h_o_roots h_o_laidRe h_o_laidIm h_o_byOrder h_o_noted1 h_o_counts h_o_binBy o_tapeSize (0 : Int32) o_fault o_faultPlace o_stop o_next o_kind o_which o_at o_pointsRead o_bank o_isImage u_2 o_runRadix o_runOrder o_runNear o_runLimit o_runHalves o_power o_notedMany o_knownTold o_drawn o_all)) rfl (fun H locs hP hD hS => ?_)
    refine lv_aload_n hx hb dX10_undo_24 rfl (lv_at hl 0 rfl) ?_
    refine lv_iconst (v := (3 : Int32)) hx hb dX10_undo_25 (by decide) ?_
    refine lv_aload_n hx hb dX10_undo_26 rfl (lv_at hl 0 rfl) ?_
    refine rd (ci := 10) (C := RX10) (T := TX10) (N := 37) hx hb hts inX10 hown hK hP 0 19 rfl rfl (by decide) (hts _ q_fX10_129) rfl dX10_undo_27 ?_
    refine lv_iadd hx hb dX10_undo_30 ?_
    refine lv_iconst (v := (0 : Int32)) hx hb dX10_undo_31 (by decide) ?_
    obtain ⟨o_all_3, e_4, hf⟩ := bd1_x hf
    refine call_v [.int ((3 : Int32) + u_2), .int (0 : Int32)] [] ⟨hx, hb, hml, hown, hts⟩ hK hP hD hS hA hl.1 (tX10_copyBank l G cI cJ cZ H.size h_o h_o_all h_o_tape h_o_words h_o_told h_o_isTold h_o_toldWave h_o_isPoint h_o_quarter h_o_roots h_o_laidRe h_o_laidIm h_o_byOrder h_o_noted1 h_o_counts h_o_binBy o_tapeSize (0 : Int32) o_fault o_faultPlace o_stop o_next o_kind o_which o_at o_pointsRead o_bank o_isImage u_2 o_runRadix o_runOrder o_runNear o_runLimit o_runHalves o_power o_notedMany o_knownTold o_drawn o_all ((3 : Int32) + u_2) (0 : Int32) o_all_3 e_4) (cwV 2 hts (gv q_mX10_181 q_i_yX10_copyBank q_s_yX10_copyBank q_n_RX10 q_k_yX10_copyBank) rfl rfl rfl (by decide +kernel) ⟨by decide, by decide⟩) rfl rfl (Nat.le_of_ble_eq_true rfl) dX10_undo_32 ⟨Nat.zero_le _, Nat.zero_le _⟩ (ci := 10) rfl 0 rfl [0, 1] [] [0, 1] rfl rfl (ws2 := (wX10_undo cI cJ cZ h_o h_o_all h_o_tape h_o_words h_o_told h_o_isTold h_o_toldWave h_o_isPoint h_o_quarter h_o_roots h_o_laidRe h_o_laidIm h_o_byOrder h_o_noted1 h_o_counts h_o_binBy o_tapeSize (0 : Int32) o_fault o_faultPlace o_stop o_next o_kind o_which o_at o_pointsRead o_bank o_isImage u_2 o_runRadix o_runOrder o_runNear o_runLimit o_runHalves o_power o_notedMany o_knownTold o_drawn o_all_3)) rfl (fun H locs hP hD hS => ?_)
    refine W.eq (g2 := F0 m 35 ls []) rfl ?_
    refine lv_aload_n hx hb dX10_undo_35 rfl (lv_at hl 0 rfl) ?_
    refine rd (ci := 10) (C := RX10) (T := TX10) (N := 37) hx hb hts inX10 hown hK hP 0 19 rfl rfl (by decide) (hts _ q_fX10_129) rfl dX10_undo_36 ?_
    cases hf
    exact hret _ _ _ _ dX10_undo_39 hP hD hS
  · have hf := it_t c_1 hf
    refine lv_iconst (v := (-1 : Int32)) hx hb dX10_undo_12 (by decide) ?_
    cases hf
    exact hret _ _ _ _ dX10_undo_13 hP hD hS
def wX10_keep (cI cJ cZ : ClassId) (h_o h_o_all h_o_tape h_o_words h_o_told h_o_isTold h_o_toldWave h_o_isPoint h_o_quarter h_o_roots h_o_laidRe h_o_laidIm h_o_byOrder h_o_noted1 h_o_counts h_o_binBy : Nat) (o_tapeSize : Int32) (o_thrown : Int32) (o_fault : Int32) (o_faultPlace : Int32) (o_stop : Int32) (o_next : Int32) (o_kind : Int32) (o_which : Int32) (o_at : Int32) (o_pointsRead : Int32) (o_bank : Int32) (o_isImage : Int32) (o_undos : Int32) (o_runRadix : Int32) (o_runOrder : Int32) (o_runNear : Int32) (o_runLimit : Int32) (o_runHalves : Int32) (o_power : Int32) (o_notedMany : Int32) (o_knownTold : Int32) (o_drawn : Int64) (o_all : Nat → Int32) : va_W := [(h_o, .inr (10, [.ref h_o_tape, .int o_tapeSize, .int o_thrown, .ref h_o_words, .int o_fault, .int o_faultPlace, .int o_stop, .int o_next, .int o_kind, .int o_which, .int o_at, .ref h_o_told, .ref h_o_isTold, .ref h_o_toldWave, .ref h_o_isPoint, .int o_pointsRead, .ref h_o_all, .int o_bank, .int o_isImage, .int o_undos, .int o_runRadix, .int o_runOrder, .int o_runNear, .int o_runLimit, .int o_runHalves, .ref h_o_quarter, .int o_power, .ref h_o_roots, .ref h_o_laidRe, .ref h_o_laidIm, .ref h_o_byOrder, .int o_notedMany, .int o_knownTold, .ref h_o_noted1, .ref h_o_counts, .ref h_o_binBy, .long o_drawn])), (h_o_all, .inl (cI, 3128, .inl o_all))]
def fX10_keep (o_thrown : Int32) (o_bank : Int32) (o_isImage : Int32) (o_all : Nat → Int32) : Option (Int32 × Int32 × Int32 × (Nat → Int32)) :=
  bd1 (fX10_copyBank o_all (0 : Int32) (2 : Int32)) (fun o_all_1 =>
  bd1 (fX10_of o_bank o_all_1 (129 : Int32)) (fun r_3 =>
  some (r_3, (0 : Int32), (1 : Int32), o_all_1)))
set_option maxHeartbeats 4000000 in
set_option maxRecDepth 100000 in
theorem tX10_keep (l : Launch) (G : va_G) (cI cJ cZ : ClassId) (sz : Nat) (h_o h_o_all h_o_tape h_o_words h_o_told h_o_isTold h_o_toldWave h_o_isPoint h_o_quarter h_o_roots h_o_laidRe h_o_laidIm h_o_byOrder h_o_noted1 h_o_counts h_o_binBy : Nat) (o_tapeSize : Int32) (o_thrown : Int32) (o_fault : Int32) (o_faultPlace : Int32) (o_stop : Int32) (o_next : Int32) (o_kind : Int32) (o_which : Int32) (o_at : Int32) (o_pointsRead : Int32) (o_bank : Int32) (o_isImage : Int32) (o_undos : Int32) (o_runRadix : Int32) (o_runOrder : Int32) (o_runNear : Int32) (o_runLimit : Int32) (o_runHalves : Int32) (o_power : Int32) (o_notedMany : Int32) (o_knownTold : Int32) (o_drawn : Int64) (o_all : Nat → Int32) (r : Int32) (out_o_thrown : Int32) (out_o_isImage : Int32) (out_o_all : Nat → Int32) (hf : fX10_keep o_thrown o_bank o_isImage o_all = some (r, out_o_thrown, out_o_isImage, out_o_all)) : Met l yX10_keep (Cond.code yX10_keep cX10_keep 1 (some .int) :: BIG) ({ frames := 1, cells := 0, slots := 0, locals := 23 } : Room) (cP G (TY3 cI cJ cZ) [.ref h_o] sz (wX10_keep cI cJ cZ h_o h_o_all h_o_tape h_o_words h_o_told h_o_isTold h_o_toldWave h_o_isPoint h_o_quarter h_o_roots h_o_laidRe h_o_laidIm h_o_byOrder h_o_noted1 h_o_counts h_o_binBy o_tapeSize o_thrown o_fault o_faultPlace o_stop o_next o_kind o_which o_at o_pointsRead o_bank o_isImage o_undos o_runRadix o_runOrder o_runNear o_runLimit o_runHalves o_power o_notedMany o_knownTold o_drawn o_all)) (cQ G (TY3 cI cJ cZ) sz (wX10_keep cI cJ cZ h_o h_o_all h_o_tape h_o_words h_o_told h_o_isTold h_o_toldWave h_o_isPoint h_o_quarter h_o_roots h_o_laidRe h_o_laidIm h_o_byOrder h_o_noted1 h_o_counts h_o_binBy o_tapeSize o_thrown o_fault o_faultPlace o_stop o_next o_kind o_which o_at o_pointsRead o_bank o_isImage o_undos o_runRadix o_runOrder o_runNear o_runLimit o_runHalves o_power o_notedMany o_knownTold o_drawn o_all) (wX10_keep cI cJ cZ h_o h_o_all h_o_tape h_o_words h_o_told h_o_isTold h_o_toldWave h_o_isPoint h_o_quarter h_o_roots h_o_laidRe h_o_laidIm h_o_byOrder h_o_noted1 h_o_counts h_o_binBy o_tapeSize out_o_thrown o_fault o_faultPlace o_stop o_next o_kind o_which o_at o_pointsRead o_bank out_o_isImage o_undos o_runRadix o_runOrder o_runNear o_runLimit o_runHalves o_power o_notedMany o_knownTold o_drawn out_o_all) (some (.int r))) 0 0 (va_A (wX10_keep cI cJ cZ h_o h_o_all h_o_tape h_o_words h_o_told h_o_isTold h_o_toldWave h_o_isPoint h_o_quarter h_o_roots h_o_laidRe h_o_laidIm h_o_byOrder h_o_noted1 h_o_counts h_o_binBy o_tapeSize o_thrown o_fault o_faultPlace o_stop o_next o_kind o_which o_at o_pointsRead o_bank o_isImage o_undos o_runRadix o_runOrder o_runNear o_runLimit o_runHalves o_power o_notedMany o_knownTold o_drawn o_all) sz) := by
  refine met_i (cc := cX10_keep) (maxL := 1) (plainFor_of_name (by decide)) (Nat.le_of_ble_eq_true rfl) (fun p e s m below meth c A ls Q hx hb hml hts hown hK hP hD hS hA hl hret => ?_)
  have hown : s.vm.findClass RX10 = some m.cls := hown
  have hl : lv_has ls 1 [(0, .ref h_o)] := hl
  unfold fX10_keep at hf
  obtain ⟨H, eH⟩ : ∃ H, H = s.heap := ⟨_, rfl⟩
  obtain ⟨locs, elocs⟩ : ∃ z : List Loc, z = [] := ⟨_, rfl⟩
  have hP : va_P G vwCl (wX10_keep cI cJ cZ h_o h_o_all h_o_tape h_o_words h_o_told h_o_isTold h_o_toldWave h_o_isPoint h_o_quarter h_o_roots h_o_laidRe h_o_laidIm h_o_byOrder h_o_noted1 h_o_counts h_o_binBy o_tapeSize o_thrown o_fault o_faultPlace o_stop o_next o_kind o_which o_at o_pointsRead o_bank o_isImage o_undos o_runRadix o_runOrder o_runNear o_runLimit o_runHalves o_power o_notedMany o_knownTold o_drawn o_all) H := by rw [eH]; exact hP
  have hS : va_S A s.heap H locs := by rw [eH, elocs]; exact hS
  suffices hgo : W p l e ({ frames := 1, cells := 0, slots := 0, locals := 23 } : Room) s m ([.ref h_o] : List Value).toArray below meth c H locs 0 0 Q (F0 m 0 ls []) by rw [eH, elocs] at hgo; exact hgo
  clear eH elocs
  refine lv_aload_n hx hb dX10_keep_0 rfl (lv_at hl 0 rfl) ?_
  refine lv_iconst (v := (0 : Int32)) hx hb dX10_keep_1 (by decide) ?_
  refine wr (ci := 10) (C := RX10) (T := TX10) (N := 37) hx hb hts inX10 tyX10 tyX10_ok nmX10 hown hK hP hD hS 0 2 rfl rfl (by decide) (hts _ q_fX10_70) rfl rfl rfl (Nat.le_of_ble_eq_true rfl) dX10_keep_2 (ws2 := (wX10_keep cI cJ cZ h_o h_o_all h_o_tape h_o_words h_o_told h_o_isTold h_o_toldWave h_o_isPoint h_o_quarter h_o_roots h_o_laidRe h_o_laidIm h_o_byOrder h_o_noted1 h_o_counts h_o_binBy o_tapeSize (0 : Int32) o_fault o_faultPlace o_stop o_next o_kind o_which o_at o_pointsRead o_bank o_isImage o_undos o_runRadix o_runOrder o_runNear o_runLimit o_runHalves o_power o_notedMany o_knownTold o_drawn o_all)) rfl (fun H locs hP hD hS => ?_)
  refine lv_aload_n hx hb dX10_keep_5 rfl (lv_at hl 0 rfl) ?_
  refine lv_iconst (v := (0 : Int32)) hx hb dX10_keep_6 (by decide) ?_
  refine lv_iconst (v := (2 : Int32)) hx hb dX10_keep_7 (by decide) ?_
  obtain ⟨o_all_1, e_2, hf⟩ := bd1_x hf
  refine call_v [.int (0 : Int32), .int (2 : Int32)] [] ⟨hx, hb, hml, hown, hts⟩ hK hP hD hS hA hl.1 (tX10_copyBank l G cI cJ cZ H.size h_o h_o_all h_o_tape h_o_words h_o_told h_o_isTold h_o_toldWave h_o_isPoint h_o_quarter h_o_roots h_o_laidRe h_o_laidIm h_o_byOrder h_o_noted1 h_o_counts h_o_binBy o_tapeSize (0 : Int32) o_fault o_faultPlace o_stop o_next o_kind o_which o_at o_pointsRead o_bank o_isImage o_undos o_runRadix o_runOrder o_runNear o_runLimit o_runHalves o_power o_notedMany o_knownTold o_drawn o_all (0 : Int32) (2 : Int32) o_all_1 e_2) (cwV 2 hts (gv q_mX10_181 q_i_yX10_copyBank q_s_yX10_copyBank q_n_RX10 q_k_yX10_copyBank) rfl rfl rfl (by decide +kernel) ⟨by decide, by decide⟩) rfl rfl (Nat.le_of_ble_eq_true rfl) dX10_keep_8 ⟨Nat.zero_le _, Nat.zero_le _⟩ (ci := 10) rfl 0 rfl [0, 1] [] [0, 1] rfl rfl (ws2 := (wX10_keep cI cJ cZ h_o h_o_all h_o_tape h_o_words h_o_told h_o_isTold h_o_toldWave h_o_isPoint h_o_quarter h_o_roots h_o_laidRe h_o_laidIm h_o_byOrder h_o_noted1 h_o_counts h_o_binBy o_tapeSize (0 : Int32) o_fault o_faultPlace o_stop o_next o_kind o_which o_at o_pointsRead o_bank o_isImage o_undos o_runRadix o_runOrder o_runNear o_runLimit o_runHalves o_power o_notedMany o_knownTold o_drawn o_all_1)) rfl (fun H locs hP hD hS => ?_)
  refine W.eq (g2 := F0 m 11 ls []) rfl ?_
  refine lv_aload_n hx hb dX10_keep_11 rfl (lv_at hl 0 rfl) ?_
  refine lv_iconst (v := (1 : Int32)) hx hb dX10_keep_12 (by decide) ?_
  refine wr (ci := 10) (C := RX10) (T := TX10) (N := 37) hx hb hts inX10 tyX10 tyX10_ok nmX10 hown hK hP hD hS 0 18 rfl rfl (by decide) (hts _ q_fX10_125) rfl rfl rfl (Nat.le_of_ble_eq_true rfl) dX10_keep_13 (ws2 := (wX10_keep cI cJ cZ h_o h_o_all h_o_tape h_o_words h_o_told h_o_isTold h_o_toldWave h_o_isPoint h_o_quarter h_o_roots h_o_laidRe h_o_laidIm h_o_byOrder h_o_noted1 h_o_counts h_o_binBy o_tapeSize (0 : Int32) o_fault o_faultPlace o_stop o_next o_kind o_which o_at o_pointsRead o_bank (1 : Int32) o_undos o_runRadix o_runOrder o_runNear o_runLimit o_runHalves o_power o_notedMany o_knownTold o_drawn o_all_1)) rfl (fun H locs hP hD hS => ?_)
  refine lv_aload_n hx hb dX10_keep_16 rfl (lv_at hl 0 rfl) ?_
  refine lv_sipush (v := (129 : Int32)) hx hb dX10_keep_17 (by decide) ?_
  obtain ⟨r_3, e_4, hf⟩ := bd1_x hf
  refine call_v [.int (129 : Int32)] [] ⟨hx, hb, hml, hown, hts⟩ hK hP hD hS hA hl.1 (tX10_of l G cI cJ cZ H.size h_o h_o_all h_o_tape h_o_words h_o_told h_o_isTold h_o_toldWave h_o_isPoint h_o_quarter h_o_roots h_o_laidRe h_o_laidIm h_o_byOrder h_o_noted1 h_o_counts h_o_binBy o_tapeSize (0 : Int32) o_fault o_faultPlace o_stop o_next o_kind o_which o_at o_pointsRead o_bank (1 : Int32) o_undos o_runRadix o_runOrder o_runNear o_runLimit o_runHalves o_power o_notedMany o_knownTold o_drawn o_all_1 (129 : Int32) r_3 e_4) (cwV 1 hts (gv q_mX10_187 q_i_yX10_of q_s_yX10_of q_n_RX10 q_k_yX10_of) rfl rfl rfl (by decide +kernel) ⟨by decide, by decide⟩) rfl rfl (Nat.le_of_ble_eq_true rfl) dX10_keep_20 ⟨Nat.zero_le _, Nat.zero_le _⟩ (ci := 10) rfl 0 rfl [0, 1] [] [0, 1] rfl rfl (ws2 := (wX10_keep cI cJ cZ h_o h_o_all h_o_tape h_o_words h_o_told h_o_isTold h_o_toldWave h_o_isPoint h_o_quarter h_o_roots h_o_laidRe h_o_laidIm h_o_byOrder h_o_noted1 h_o_counts h_o_binBy o_tapeSize (0 : Int32) o_fault o_faultPlace o_stop o_next o_kind o_which o_at o_pointsRead o_bank (1 : Int32) o_undos o_runRadix o_runOrder o_runNear o_runLimit o_runHalves o_power o_notedMany o_knownTold o_drawn o_all_1)) rfl (fun H locs hP hD hS => ?_)
  refine W.eq (g2 := F0 m 23 ls [.int r_3]) rfl ?_
  cases hf
  exact hret _ _ _ _ dX10_keep_23 hP hD hS
def wX10_back (cI cJ cZ : ClassId) (h_o h_o_all h_o_tape h_o_words h_o_told h_o_isTold h_o_toldWave h_o_isPoint h_o_quarter h_o_roots h_o_laidRe h_o_laidIm h_o_byOrder h_o_noted1 h_o_counts h_o_binBy : Nat) (o_tapeSize : Int32) (o_thrown : Int32) (o_fault : Int32) (o_faultPlace : Int32) (o_stop : Int32) (o_next : Int32) (o_kind : Int32) (o_which : Int32) (o_at : Int32) (o_pointsRead : Int32) (o_bank : Int32) (o_isImage : Int32) (o_undos : Int32) (o_runRadix : Int32) (o_runOrder : Int32) (o_runNear : Int32) (o_runLimit : Int32) (o_runHalves : Int32) (o_power : Int32) (o_notedMany : Int32) (o_knownTold : Int32) (o_drawn : Int64) (o_all : Nat → Int32) : va_W := [(h_o, .inr (10, [.ref h_o_tape, .int o_tapeSize, .int o_thrown, .ref h_o_words, .int o_fault, .int o_faultPlace, .int o_stop, .int o_next, .int o_kind, .int o_which, .int o_at, .ref h_o_told, .ref h_o_isTold, .ref h_o_toldWave, .ref h_o_isPoint, .int o_pointsRead, .ref h_o_all, .int o_bank, .int o_isImage, .int o_undos, .int o_runRadix, .int o_runOrder, .int o_runNear, .int o_runLimit, .int o_runHalves, .ref h_o_quarter, .int o_power, .ref h_o_roots, .ref h_o_laidRe, .ref h_o_laidIm, .ref h_o_byOrder, .int o_notedMany, .int o_knownTold, .ref h_o_noted1, .ref h_o_counts, .ref h_o_binBy, .long o_drawn])), (h_o_all, .inl (cI, 3128, .inl o_all))]
def fX10_back (o_thrown : Int32) (o_bank : Int32) (o_isImage : Int32) (o_undos : Int32) (o_all : Nat → Int32) : Option (Int32 × Int32 × Int32 × (Nat → Int32)) :=
  if o_isImage = 0 then (
    some ((-1 : Int32), (0 : Int32), o_undos, o_all)
  ) else (
    bd1 (fX10_copyBank o_all (2 : Int32) (0 : Int32)) (fun o_all_2 =>
    bd1 (fX10_of o_bank o_all_2 (129 : Int32)) (fun r_4 =>
    some (r_4, (0 : Int32), (0 : Int32), o_all_2)))
  )
set_option maxHeartbeats 4000000 in
set_option maxRecDepth 100000 in
theorem tX10_back (l : Launch) (G : va_G) (cI cJ cZ : ClassId) (sz : Nat) (h_o h_o_all h_o_tape h_o_words h_o_told h_o_isTold h_o_toldWave h_o_isPoint h_o_quarter h_o_roots h_o_laidRe h_o_laidIm h_o_byOrder h_o_noted1 h_o_counts h_o_binBy : Nat) (o_tapeSize : Int32) (o_thrown : Int32) (o_fault : Int32) (o_faultPlace : Int32) (o_stop : Int32) (o_next : Int32) (o_kind : Int32) (o_which : Int32) (o_at : Int32) (o_pointsRead : Int32) (o_bank : Int32) (o_isImage : Int32) (o_undos : Int32) (o_runRadix : Int32) (o_runOrder : Int32) (o_runNear : Int32) (o_runLimit : Int32) (o_runHalves : Int32) (o_power : Int32) (o_notedMany : Int32) (o_knownTold : Int32) (o_drawn : Int64) (o_all : Nat → Int32) (r : Int32) (out_o_thrown : Int32) (out_o_undos : Int32) (out_o_all : Nat → Int32) (hf : fX10_back o_thrown o_bank o_isImage o_undos o_all = some (r, out_o_thrown, out_o_undos, out_o_all)) : Met l yX10_back (Cond.code yX10_back cX10_back 1 (some .int) :: BIG) ({ frames := 1, cells := 0, slots := 0, locals := 23 } : Room) (cP G (TY3 cI cJ cZ) [.ref h_o] sz (wX10_back cI cJ cZ h_o h_o_all h_o_tape h_o_words h_o_told h_o_isTold h_o_toldWave h_o_isPoint h_o_quarter h_o_roots h_o_laidRe h_o_laidIm h_o_byOrder h_o_noted1 h_o_counts h_o_binBy o_tapeSize o_thrown o_fault o_faultPlace o_stop o_next o_kind o_which o_at o_pointsRead o_bank o_isImage o_undos o_runRadix o_runOrder o_runNear o_runLimit o_runHalves o_power o_notedMany o_knownTold o_drawn o_all)) (cQ G (TY3 cI cJ cZ) sz (wX10_back cI cJ cZ h_o h_o_all h_o_tape h_o_words h_o_told h_o_isTold h_o_toldWave h_o_isPoint h_o_quarter h_o_roots h_o_laidRe h_o_laidIm h_o_byOrder h_o_noted1 h_o_counts h_o_binBy o_tapeSize o_thrown o_fault o_faultPlace o_stop o_next o_kind o_which o_at o_pointsRead o_bank o_isImage o_undos o_runRadix o_runOrder o_runNear o_runLimit o_runHalves o_power o_notedMany o_knownTold o_drawn o_all) (wX10_back cI cJ cZ h_o h_o_all h_o_tape h_o_words h_o_told h_o_isTold h_o_toldWave h_o_isPoint h_o_quarter h_o_roots h_o_laidRe h_o_laidIm h_o_byOrder h_o_noted1 h_o_counts h_o_binBy o_tapeSize out_o_thrown o_fault o_faultPlace o_stop o_next o_kind o_which o_at o_pointsRead o_bank o_isImage out_o_undos o_runRadix o_runOrder o_runNear o_runLimit o_runHalves o_power o_notedMany o_knownTold o_drawn out_o_all) (some (.int r))) 0 0 (va_A (wX10_back cI cJ cZ h_o h_o_all h_o_tape h_o_words h_o_told h_o_isTold h_o_toldWave h_o_isPoint h_o_quarter h_o_roots h_o_laidRe h_o_laidIm h_o_byOrder h_o_noted1 h_o_counts h_o_binBy o_tapeSize o_thrown o_fault o_faultPlace o_stop o_next o_kind o_which o_at o_pointsRead o_bank o_isImage o_undos o_runRadix o_runOrder o_runNear o_runLimit o_runHalves o_power o_notedMany o_knownTold o_drawn o_all) sz) := by
  refine met_i (cc := cX10_back) (maxL := 1) (plainFor_of_name (by decide)) (Nat.le_of_ble_eq_true rfl) (fun p e s m below meth c A ls Q hx hb hml hts hown hK hP hD hS hA hl hret => ?_)
  have hown : s.vm.findClass RX10 = some m.cls := hown
  have hl : lv_has ls 1 [(0, .ref h_o)] := hl
  unfold fX10_back at hf
  obtain ⟨H, eH⟩ : ∃ H, H = s.heap := ⟨_, rfl⟩
  obtain ⟨locs, elocs⟩ : ∃ z : List Loc, z = [] := ⟨_, rfl⟩
  have hP : va_P G vwCl (wX10_back cI cJ cZ h_o h_o_all h_o_tape h_o_words h_o_told h_o_isTold h_o_toldWave h_o_isPoint h_o_quarter h_o_roots h_o_laidRe h_o_laidIm h_o_byOrder h_o_noted1 h_o_counts h_o_binBy o_tapeSize o_thrown o_fault o_faultPlace o_stop o_next o_kind o_which o_at o_pointsRead o_bank o_isImage o_undos o_runRadix o_runOrder o_runNear o_runLimit o_runHalves o_power o_notedMany o_knownTold o_drawn o_all) H := by rw [eH]; exact hP
  have hS : va_S A s.heap H locs := by rw [eH, elocs]; exact hS
  suffices hgo : W p l e ({ frames := 1, cells := 0, slots := 0, locals := 23 } : Room) s m ([.ref h_o] : List Value).toArray below meth c H locs 0 0 Q (F0 m 0 ls []) by rw [eH, elocs] at hgo; exact hgo
  clear eH elocs
  refine lv_aload_n hx hb dX10_back_0 rfl (lv_at hl 0 rfl) ?_
  refine lv_iconst (v := (0 : Int32)) hx hb dX10_back_1 (by decide) ?_
  refine wr (ci := 10) (C := RX10) (T := TX10) (N := 37) hx hb hts inX10 tyX10 tyX10_ok nmX10 hown hK hP hD hS 0 2 rfl rfl (by decide) (hts _ q_fX10_70) rfl rfl rfl (Nat.le_of_ble_eq_true rfl) dX10_back_2 (ws2 := (wX10_back cI cJ cZ h_o h_o_all h_o_tape h_o_words h_o_told h_o_isTold h_o_toldWave h_o_isPoint h_o_quarter h_o_roots h_o_laidRe h_o_laidIm h_o_byOrder h_o_noted1 h_o_counts h_o_binBy o_tapeSize (0 : Int32) o_fault o_faultPlace o_stop o_next o_kind o_which o_at o_pointsRead o_bank o_isImage o_undos o_runRadix o_runOrder o_runNear o_runLimit o_runHalves o_power o_notedMany o_knownTold o_drawn o_all)) rfl (fun H locs hP hD hS => ?_)
  refine lv_aload_n hx hb dX10_back_5 rfl (lv_at hl 0 rfl) ?_
  refine rd (ci := 10) (C := RX10) (T := TX10) (N := 37) hx hb hts inX10 hown hK hP 0 18 rfl rfl (by decide) (hts _ q_fX10_125) rfl dX10_back_6 ?_
  refine lv_if_ne (tgt := 14) hx hb dX10_back_9 (by decide) (fun c_1 => ?_) (fun c_1 => ?_)
  · have hf := it_f c_1 hf
    refine lv_aload_n hx hb dX10_back_14 rfl (lv_at hl 0 rfl) ?_
    refine lv_iconst (v := (2 : Int32)) hx hb dX10_back_15 (by decide) ?_
    refine lv_iconst (v := (0 : Int32)) hx hb dX10_back_16 (by decide) ?_
    obtain ⟨o_all_2, e_3, hf⟩ := bd1_x hf
    refine call_v [.int (2 : Int32), .int (0 : Int32)] [] ⟨hx, hb, hml, hown, hts⟩ hK hP hD hS hA hl.1 (tX10_copyBank l G cI cJ cZ H.size h_o h_o_all h_o_tape h_o_words h_o_told h_o_isTold h_o_toldWave h_o_isPoint h_o_quarter h_o_roots h_o_laidRe h_o_laidIm h_o_byOrder h_o_noted1 h_o_counts h_o_binBy o_tapeSize (0 : Int32) o_fault o_faultPlace o_stop o_next o_kind o_which o_at o_pointsRead o_bank o_isImage o_undos o_runRadix o_runOrder o_runNear o_runLimit o_runHalves o_power o_notedMany o_knownTold o_drawn o_all (2 : Int32) (0 : Int32) o_all_2 e_3) (cwV 2 hts (gv q_mX10_181 q_i_yX10_copyBank q_s_yX10_copyBank q_n_RX10 q_k_yX10_copyBank) rfl rfl rfl (by decide +kernel) ⟨by decide, by decide⟩) rfl rfl (Nat.le_of_ble_eq_true rfl) dX10_back_17 ⟨Nat.zero_le _, Nat.zero_le _⟩ (ci := 10) rfl 0 rfl [0, 1] [] [0, 1] rfl rfl (ws2 := (wX10_back cI cJ cZ h_o h_o_all h_o_tape h_o_words h_o_told h_o_isTold h_o_toldWave h_o_isPoint h_o_quarter h_o_roots h_o_laidRe h_o_laidIm h_o_byOrder h_o_noted1 h_o_counts h_o_binBy o_tapeSize (0 : Int32) o_fault o_faultPlace o_stop o_next o_kind o_which o_at o_pointsRead o_bank o_isImage o_undos o_runRadix o_runOrder o_runNear o_runLimit o_runHalves o_power o_notedMany o_knownTold o_drawn o_all_2)) rfl (fun H locs hP hD hS => ?_)
    refine W.eq (g2 := F0 m 20 ls []) rfl ?_
    refine lv_aload_n hx hb dX10_back_20 rfl (lv_at hl 0 rfl) ?_
    refine lv_iconst (v := (0 : Int32)) hx hb dX10_back_21 (by decide) ?_
    refine wr (ci := 10) (C := RX10) (T := TX10) (N := 37) hx hb hts inX10 tyX10 tyX10_ok nmX10 hown hK hP hD hS 0 19 rfl rfl (by decide) (hts _ q_fX10_129) rfl rfl rfl (Nat.le_of_ble_eq_true rfl) dX10_back_22 (ws2 := (wX10_back cI cJ cZ h_o h_o_all h_o_tape h_o_words h_o_told h_o_isTold h_o_toldWave h_o_isPoint h_o_quarter h_o_roots h_o_laidRe h_o_laidIm h_o_byOrder h_o_noted1 h_o_counts h_o_binBy o_tapeSize (0 : Int32) o_fault o_faultPlace o_stop o_next o_kind o_which o_at o_pointsRead o_bank o_isImage (0 : Int32) o_runRadix o_runOrder o_runNear o_runLimit o_runHalves o_power o_notedMany o_knownTold o_drawn o_all_2)) rfl (fun H locs hP hD hS => ?_)
    refine lv_aload_n hx hb dX10_back_25 rfl (lv_at hl 0 rfl) ?_
    refine lv_sipush (v := (129 : Int32)) hx hb dX10_back_26 (by decide) ?_
    obtain ⟨r_4, e_5, hf⟩ := bd1_x hf
    refine call_v [.int (129 : Int32)] [] ⟨hx, hb, hml, hown, hts⟩ hK hP hD hS hA hl.1 (tX10_of l G cI cJ cZ H.size h_o h_o_all h_o_tape h_o_words h_o_told h_o_isTold h_o_toldWave h_o_isPoint h_o_quarter h_o_roots h_o_laidRe h_o_laidIm h_o_byOrder h_o_noted1 h_o_counts h_o_binBy o_tapeSize (0 : Int32) o_fault o_faultPlace o_stop o_next o_kind o_which o_at o_pointsRead o_bank o_isImage (0 : Int32) o_runRadix o_runOrder o_runNear o_runLimit o_runHalves o_power o_notedMany o_knownTold o_drawn o_all_2 (129 : Int32) r_4 e_5) (cwV 1 hts (gv q_mX10_187 q_i_yX10_of q_s_yX10_of q_n_RX10 q_k_yX10_of) rfl rfl rfl (by decide +kernel) ⟨by decide, by decide⟩) rfl rfl (Nat.le_of_ble_eq_true rfl) dX10_back_29 ⟨Nat.zero_le _, Nat.zero_le _⟩ (ci := 10) rfl 0 rfl [0, 1] [] [0, 1] rfl rfl (ws2 := (wX10_back cI cJ cZ h_o h_o_all h_o_tape h_o_words h_o_told h_o_isTold h_o_toldWave h_o_isPoint h_o_quarter h_o_roots h_o_laidRe h_o_laidIm h_o_byOrder h_o_noted1 h_o_counts h_o_binBy o_tapeSize (0 : Int32) o_fault o_faultPlace o_stop o_next o_kind o_which o_at o_pointsRead o_bank o_isImage (0 : Int32) o_runRadix o_runOrder o_runNear o_runLimit o_runHalves o_power o_notedMany o_knownTold o_drawn o_all_2)) rfl (fun H locs hP hD hS => ?_)
    refine W.eq (g2 := F0 m 32 ls [.int r_4]) rfl ?_
    cases hf
    exact hret _ _ _ _ dX10_back_32 hP hD hS
  · have hf := it_t c_1 hf
    refine lv_iconst (v := (-1 : Int32)) hx hb dX10_back_12 (by decide) ?_
    cases hf
    exact hret _ _ _ _ dX10_back_13 hP hD hS
def wX10_count (cI cJ cZ : ClassId) (h_o h_o_all h_o_told h_o_tape h_o_words h_o_isTold h_o_toldWave h_o_isPoint h_o_quarter h_o_roots h_o_laidRe h_o_laidIm h_o_byOrder h_o_noted1 h_o_counts h_o_binBy : Nat) (o_tapeSize : Int32) (o_thrown : Int32) (o_fault : Int32) (o_faultPlace : Int32) (o_stop : Int32) (o_next : Int32) (o_kind : Int32) (o_which : Int32) (o_at : Int32) (o_pointsRead : Int32) (o_bank : Int32) (o_isImage : Int32) (o_undos : Int32) (o_runRadix : Int32) (o_runOrder : Int32) (o_runNear : Int32) (o_runLimit : Int32) (o_runHalves : Int32) (o_power : Int32) (o_notedMany : Int32) (o_knownTold : Int32) (o_drawn : Int64) (o_all : Nat → Int32) (o_told : Nat → Int32) : va_W := [(h_o, .inr (10, [.ref h_o_tape, .int o_tapeSize, .int o_thrown, .ref h_o_words, .int o_fault, .int o_faultPlace, .int o_stop, .int o_next, .int o_kind, .int o_which, .int o_at, .ref h_o_told, .ref h_o_isTold, .ref h_o_toldWave, .ref h_o_isPoint, .int o_pointsRead, .ref h_o_all, .int o_bank, .int o_isImage, .int o_undos, .int o_runRadix, .int o_runOrder, .int o_runNear, .int o_runLimit, .int o_runHalves, .ref h_o_quarter, .int o_power, .ref h_o_roots, .ref h_o_laidRe, .ref h_o_laidIm, .ref h_o_byOrder, .int o_notedMany, .int o_knownTold, .ref h_o_noted1, .ref h_o_counts, .ref h_o_binBy, .long o_drawn])), (h_o_all, .inl (cI, 3128, .inl o_all)), (h_o_told, .inl (cI, 12, .inl o_told))]
def fX10_count (o_thrown : Int32) (o_bank : Int32) (o_undos : Int32) (o_runRadix : Int32) (o_runLimit : Int32) (o_power : Int32) (o_notedMany : Int32) (o_knownTold : Int32) (o_all : Nat → Int32) (o_told : Nat → Int32) (p1 : Int32) : Option (Int32 × Int32) :=
  if p1 = (0 : Int32) then (
    gd (inb p1 12) (
    some (o_told (Int32.toNatClampNeg p1), (0 : Int32)))
  ) else (
  if p1 = (1 : Int32) then (
    gd (inb p1 12) (
    some (o_told (Int32.toNatClampNeg p1), (0 : Int32)))
  ) else (
  if p1 = (2 : Int32) then (
    gd (inb p1 12) (
    some (o_told (Int32.toNatClampNeg p1), (0 : Int32)))
  ) else (
  if p1 = (3 : Int32) then (
    gd (inb p1 12) (
    some (o_told (Int32.toNatClampNeg p1), (0 : Int32)))
  ) else (
  if p1 = (4 : Int32) then (
    gd (inb p1 12) (
    some (o_told (Int32.toNatClampNeg p1), (0 : Int32)))
  ) else (
  if p1 = (5 : Int32) then (
    bd1 (fX10_stagesMany o_runRadix o_power) (fun r_12 =>
    some (r_12, (0 : Int32)))
  ) else (
  if p1 = (6 : Int32) then (
    bd1 (fX10_of o_bank o_all (129 : Int32)) (fun r_15 =>
    some (r_15, (0 : Int32)))
  ) else (
  if p1 = (7 : Int32) then (
    bd1 (fX10_of o_bank o_all (130 : Int32)) (fun r_18 =>
    some (r_18, (0 : Int32)))
  ) else (
  if p1 = (8 : Int32) then (
    bd1 (fX10_of o_bank o_all (128 : Int32)) (fun r_21 =>
    some (r_21, (0 : Int32)))
  ) else (
  if p1 = (9 : Int32) then (
    some (o_runLimit, (0 : Int32))
  ) else (
  if p1 = (10 : Int32) then (
    some (o_notedMany, (0 : Int32))
  ) else (
  if p1 = (11 : Int32) then (
    bd1 (fX10_knownBy o_notedMany o_knownTold) (fun r_26 =>
    some (r_26, (0 : Int32)))
  ) else (
  if p1 = (12 : Int32) then (
    some (o_undos, (0 : Int32))
  ) else (
  some ((-2147483648 : Int32), (0 : Int32)))))))))))))))
set_option maxHeartbeats 4000000 in
set_option maxRecDepth 100000 in
theorem tX10_count (l : Launch) (G : va_G) (cI cJ cZ : ClassId) (sz : Nat) (h_o h_o_all h_o_told h_o_tape h_o_words h_o_isTold h_o_toldWave h_o_isPoint h_o_quarter h_o_roots h_o_laidRe h_o_laidIm h_o_byOrder h_o_noted1 h_o_counts h_o_binBy : Nat) (o_tapeSize : Int32) (o_thrown : Int32) (o_fault : Int32) (o_faultPlace : Int32) (o_stop : Int32) (o_next : Int32) (o_kind : Int32) (o_which : Int32) (o_at : Int32) (o_pointsRead : Int32) (o_bank : Int32) (o_isImage : Int32) (o_undos : Int32) (o_runRadix : Int32) (o_runOrder : Int32) (o_runNear : Int32) (o_runLimit : Int32) (o_runHalves : Int32) (o_power : Int32) (o_notedMany : Int32) (o_knownTold : Int32) (o_drawn : Int64) (o_all : Nat → Int32) (o_told : Nat → Int32) (p1 : Int32) (r : Int32) (out_o_thrown : Int32) (hf : fX10_count o_thrown o_bank o_undos o_runRadix o_runLimit o_power o_notedMany o_knownTold o_all o_told p1 = some (r, out_o_thrown)) : Met l yX10_count (Cond.code yX10_count cX10_count 2 (some .int) :: BIG) ({ frames := 2, cells := 0, slots := 0, locals := 40 } : Room) (cP G (TY3 cI cJ cZ) [.ref h_o, .int p1] sz (wX10_count cI cJ cZ h_o h_o_all h_o_told h_o_tape h_o_words h_o_isTold h_o_toldWave h_o_isPoint h_o_quarter h_o_roots h_o_laidRe h_o_laidIm h_o_byOrder h_o_noted1 h_o_counts h_o_binBy o_tapeSize o_thrown o_fault o_faultPlace o_stop o_next o_kind o_which o_at o_pointsRead o_bank o_isImage o_undos o_runRadix o_runOrder o_runNear o_runLimit o_runHalves o_power o_notedMany o_knownTold o_drawn o_all o_told)) (cQ G (TY3 cI cJ cZ) sz (wX10_count cI cJ cZ h_o h_o_all h_o_told h_o_tape h_o_words h_o_isTold h_o_toldWave h_o_isPoint h_o_quarter h_o_roots h_o_laidRe h_o_laidIm h_o_byOrder h_o_noted1 h_o_counts h_o_binBy o_tapeSize o_thrown o_fault o_faultPlace o_stop o_next o_kind o_which o_at o_pointsRead o_bank o_isImage o_undos o_runRadix o_runOrder o_runNear o_runLimit o_runHalves o_power o_notedMany o_knownTold o_drawn o_all o_told) (wX10_count cI cJ cZ h_o h_o_all h_o_told h_o_tape h_o_words h_o_isTold h_o_toldWave h_o_isPoint h_o_quarter h_o_roots h_o_laidRe h_o_laidIm h_o_byOrder h_o_noted1 h_o_counts h_o_binBy o_tapeSize out_o_thrown o_fault o_faultPlace o_stop o_next o_kind o_which o_at o_pointsRead o_bank o_isImage o_undos o_runRadix o_runOrder o_runNear o_runLimit o_runHalves o_power o_notedMany o_knownTold o_drawn o_all o_told) (some (.int r))) 0 0 (va_A (wX10_count cI cJ cZ h_o h_o_all h_o_told h_o_tape h_o_words h_o_isTold h_o_toldWave h_o_isPoint h_o_quarter h_o_roots h_o_laidRe h_o_laidIm h_o_byOrder h_o_noted1 h_o_counts h_o_binBy o_tapeSize o_thrown o_fault o_faultPlace o_stop o_next o_kind o_which o_at o_pointsRead o_bank o_isImage o_undos o_runRadix o_runOrder o_runNear o_runLimit o_runHalves o_power o_notedMany o_knownTold o_drawn o_all o_told) sz) := by
  refine met_i (cc := cX10_count) (maxL := 2) (plainFor_of_name (by decide)) (Nat.le_of_ble_eq_true rfl) (fun p e s m below meth c A ls Q hx hb hml hts hown hK hP hD hS hA hl hret => ?_)
  have hown : s.vm.findClass RX10 = some m.cls := hown
  have hl : lv_has ls 2 [(0, .ref h_o), (1, .int p1)] := hl
  unfold fX10_count at hf
  obtain ⟨H, eH⟩ : ∃ H, H = s.heap := ⟨_, rfl⟩
  obtain ⟨locs, elocs⟩ : ∃ z : List Loc, z = [] := ⟨_, rfl⟩
  have hP : va_P G vwCl (wX10_count cI cJ cZ h_o h_o_all h_o_told h_o_tape h_o_words h_o_isTold h_o_toldWave h_o_isPoint h_o_quarter h_o_roots h_o_laidRe h_o_laidIm h_o_byOrder h_o_noted1 h_o_counts h_o_binBy o_tapeSize o_thrown o_fault o_faultPlace o_stop o_next o_kind o_which o_at o_pointsRead o_bank o_isImage o_undos o_runRadix o_runOrder o_runNear o_runLimit o_runHalves o_power o_notedMany o_knownTold o_drawn o_all o_told) H := by rw [eH]; exact hP
  have hS : va_S A s.heap H locs := by rw [eH, elocs]; exact hS
  suffices hgo : W p l e ({ frames := 2, cells := 0, slots := 0, locals := 40 } : Room) s m ([.ref h_o, .int p1] : List Value).toArray below meth c H locs 0 0 Q (F0 m 0 ls []) by rw [eH, elocs] at hgo; exact hgo
  clear eH elocs
  refine lv_aload_n hx hb dX10_count_0 rfl (lv_at hl 0 rfl) ?_
  refine lv_iconst (v := (0 : Int32)) hx hb dX10_count_1 (by decide) ?_
  refine wr (ci := 10) (C := RX10) (T := TX10) (N := 37) hx hb hts inX10 tyX10 tyX10_ok nmX10 hown hK hP hD hS 0 2 rfl rfl (by decide) (hts _ q_fX10_70) rfl rfl rfl (Nat.le_of_ble_eq_true rfl) dX10_count_2 (ws2 := (wX10_count cI cJ cZ h_o h_o_all h_o_told h_o_tape h_o_words h_o_isTold h_o_toldWave h_o_isPoint h_o_quarter h_o_roots h_o_laidRe h_o_laidIm h_o_byOrder h_o_noted1 h_o_counts h_o_binBy o_tapeSize (0 : Int32) o_fault o_faultPlace o_stop o_next o_kind o_which o_at o_pointsRead o_bank o_isImage o_undos o_runRadix o_runOrder o_runNear o_runLimit o_runHalves o_power o_notedMany o_knownTold o_drawn o_all o_told)) rfl (fun H locs hP hD hS => ?_)
  refine lv_iload_n hx hb dX10_count_5 rfl (lv_at hl 1 rfl) ?_
  by_cases c_1 : p1 = (0 : Int32)
  · have hf := it_t c_1 hf
    refine lv_tableIn (tgt := 72) hx hb dX10_count_6 (by rw [c_1]; decide) (by rw [c_1]; decide) (by rw [c_1]; rfl) (by decide) ?_
    refine lv_aload_n hx hb dX10_count_72 rfl (lv_at hl 0 rfl) ?_
    refine rd (ci := 10) (C := RX10) (T := TX10) (N := 37) hx hb hts inX10 hown hK hP 0 11 rfl rfl (by decide) (hts _ q_fX10_20) rfl dX10_count_73 ?_
    refine lv_iload_n hx hb dX10_count_76 rfl (lv_at hl 1 rfl) ?_
    obtain ⟨g_2, hf⟩ := gd_x hf
    refine va_iald hx hb hK hP 2 0 rfl rfl (inb_x g_2) dX10_count_77 ?_
    cases hf
    exact hret _ _ _ _ dX10_count_78 hP hD hS
  have hf := it_f c_1 hf
  by_cases c_3 : p1 = (1 : Int32)
  · have hf := it_t c_3 hf
    refine lv_tableIn (tgt := 72) hx hb dX10_count_6 (by rw [c_3]; decide) (by rw [c_3]; decide) (by rw [c_3]; rfl) (by decide) ?_
    refine lv_aload_n hx hb dX10_count_72 rfl (lv_at hl 0 rfl) ?_
    refine rd (ci := 10) (C := RX10) (T := TX10) (N := 37) hx hb hts inX10 hown hK hP 0 11 rfl rfl (by decide) (hts _ q_fX10_20) rfl dX10_count_73 ?_
    refine lv_iload_n hx hb dX10_count_76 rfl (lv_at hl 1 rfl) ?_
    obtain ⟨g_4, hf⟩ := gd_x hf
    refine va_iald hx hb hK hP 2 0 rfl rfl (inb_x g_4) dX10_count_77 ?_
    cases hf
    exact hret _ _ _ _ dX10_count_78 hP hD hS
  have hf := it_f c_3 hf
  by_cases c_5 : p1 = (2 : Int32)
  · have hf := it_t c_5 hf
    refine lv_tableIn (tgt := 72) hx hb dX10_count_6 (by rw [c_5]; decide) (by rw [c_5]; decide) (by rw [c_5]; rfl) (by decide) ?_
    refine lv_aload_n hx hb dX10_count_72 rfl (lv_at hl 0 rfl) ?_
    refine rd (ci := 10) (C := RX10) (T := TX10) (N := 37) hx hb hts inX10 hown hK hP 0 11 rfl rfl (by decide) (hts _ q_fX10_20) rfl dX10_count_73 ?_
    refine lv_iload_n hx hb dX10_count_76 rfl (lv_at hl 1 rfl) ?_
    obtain ⟨g_6, hf⟩ := gd_x hf
    refine va_iald hx hb hK hP 2 0 rfl rfl (inb_x g_6) dX10_count_77 ?_
    cases hf
    exact hret _ _ _ _ dX10_count_78 hP hD hS
  have hf := it_f c_5 hf
  by_cases c_7 : p1 = (3 : Int32)
  · have hf := it_t c_7 hf
    refine lv_tableIn (tgt := 72) hx hb dX10_count_6 (by rw [c_7]; decide) (by rw [c_7]; decide) (by rw [c_7]; rfl) (by decide) ?_
    refine lv_aload_n hx hb dX10_count_72 rfl (lv_at hl 0 rfl) ?_
    refine rd (ci := 10) (C := RX10) (T := TX10) (N := 37) hx hb hts inX10 hown hK hP 0 11 rfl rfl (by decide) (hts _ q_fX10_20) rfl dX10_count_73 ?_
    refine lv_iload_n hx hb dX10_count_76 rfl (lv_at hl 1 rfl) ?_
    obtain ⟨g_8, hf⟩ := gd_x hf
    refine va_iald hx hb hK hP 2 0 rfl rfl (inb_x g_8) dX10_count_77 ?_
    cases hf
    exact hret _ _ _ _ dX10_count_78 hP hD hS
  have hf := it_f c_7 hf
  by_cases c_9 : p1 = (4 : Int32)
  · have hf := it_t c_9 hf
    refine lv_tableIn (tgt := 72) hx hb dX10_count_6 (by rw [c_9]; decide) (by rw [c_9]; decide) (by rw [c_9]; rfl) (by decide) ?_
    refine lv_aload_n hx hb dX10_count_72 rfl (lv_at hl 0 rfl) ?_
    refine rd (ci := 10) (C := RX10) (T := TX10) (N := 37) hx hb hts inX10 hown hK hP 0 11 rfl rfl (by decide) (hts _ q_fX10_20) rfl dX10_count_73 ?_
    refine lv_iload_n hx hb dX10_count_76 rfl (lv_at hl 1 rfl) ?_
    obtain ⟨g_10, hf⟩ := gd_x hf
    refine va_iald hx hb hK hP 2 0 rfl rfl (inb_x g_10) dX10_count_77 ?_
    cases hf
    exact hret _ _ _ _ dX10_count_78 hP hD hS
  have hf := it_f c_9 hf
  by_cases c_11 : p1 = (5 : Int32)
  · have hf := it_t c_11 hf
    refine lv_tableIn (tgt := 79) hx hb dX10_count_6 (by rw [c_11]; decide) (by rw [c_11]; decide) (by rw [c_11]; rfl) (by decide) ?_
    refine lv_aload_n hx hb dX10_count_79 rfl (lv_at hl 0 rfl) ?_
    obtain ⟨r_12, e_13, hf⟩ := bd1_x hf
    refine call_v [] [] ⟨hx, hb, hml, hown, hts⟩ hK hP hD hS hA hl.1 (tX10_stagesMany l G cI cJ cZ H.size h_o h_o_tape h_o_words h_o_told h_o_isTold h_o_toldWave h_o_isPoint h_o_all h_o_quarter h_o_roots h_o_laidRe h_o_laidIm h_o_byOrder h_o_noted1 h_o_counts h_o_binBy o_tapeSize (0 : Int32) o_fault o_faultPlace o_stop o_next o_kind o_which o_at o_pointsRead o_bank o_isImage o_undos o_runRadix o_runOrder o_runNear o_runLimit o_runHalves o_power o_notedMany o_knownTold o_drawn r_12 e_13) (cwV 0 hts (gv q_mX10_216 q_i_yX10_stagesMany q_s_yX10_stagesMany q_n_RX10 q_k_yX10_stagesMany) rfl rfl rfl (by decide +kernel) ⟨by decide, by decide⟩) rfl rfl (Nat.le_of_ble_eq_true rfl) dX10_count_80 ⟨Nat.zero_le _, Nat.zero_le _⟩ (ci := 10) rfl 0 rfl [0] [1, 2] [2, 0, 1] rfl rfl (ws2 := (wX10_count cI cJ cZ h_o h_o_all h_o_told h_o_tape h_o_words h_o_isTold h_o_toldWave h_o_isPoint h_o_quarter h_o_roots h_o_laidRe h_o_laidIm h_o_byOrder h_o_noted1 h_o_counts h_o_binBy o_tapeSize (0 : Int32) o_fault o_faultPlace o_stop o_next o_kind o_which o_at o_pointsRead o_bank o_isImage o_undos o_runRadix o_runOrder o_runNear o_runLimit o_runHalves o_power o_notedMany o_knownTold o_drawn o_all o_told)) rfl (fun H locs hP hD hS => ?_)
    refine W.eq (g2 := F0 m 83 ls [.int r_12]) rfl ?_
    cases hf
    exact hret _ _ _ _ dX10_count_83 hP hD hS
  have hf := it_f c_11 hf
  by_cases c_14 : p1 = (6 : Int32)
  · have hf := it_t c_14 hf
    refine lv_tableIn (tgt := 84) hx hb dX10_count_6 (by rw [c_14]; decide) (by rw [c_14]; decide) (by rw [c_14]; rfl) (by decide) ?_
    refine lv_aload_n hx hb dX10_count_84 rfl (lv_at hl 0 rfl) ?_
    refine lv_sipush (v := (129 : Int32)) hx hb dX10_count_85 (by decide) ?_
    obtain ⟨r_15, e_16, hf⟩ := bd1_x hf
    refine call_v [.int (129 : Int32)] [] ⟨hx, hb, hml, hown, hts⟩ hK hP hD hS hA hl.1 (tX10_of l G cI cJ cZ H.size h_o h_o_all h_o_tape h_o_words h_o_told h_o_isTold h_o_toldWave h_o_isPoint h_o_quarter h_o_roots h_o_laidRe h_o_laidIm h_o_byOrder h_o_noted1 h_o_counts h_o_binBy o_tapeSize (0 : Int32) o_fault o_faultPlace o_stop o_next o_kind o_which o_at o_pointsRead o_bank o_isImage o_undos o_runRadix o_runOrder o_runNear o_runLimit o_runHalves o_power o_notedMany o_knownTold o_drawn o_all (129 : Int32) r_15 e_16) (cwV 1 hts (gv q_mX10_187 q_i_yX10_of q_s_yX10_of q_n_RX10 q_k_yX10_of) rfl rfl rfl (by decide +kernel) ⟨by decide, by decide⟩) rfl rfl (Nat.le_of_ble_eq_true rfl) dX10_count_88 ⟨Nat.zero_le _, Nat.zero_le _⟩ (ci := 10) rfl 0 rfl [0, 1] [2] [1, 2, 0] rfl rfl (ws2 := (wX10_count cI cJ cZ h_o h_o_all h_o_told h_o_tape h_o_words h_o_isTold h_o_toldWave h_o_isPoint h_o_quarter h_o_roots h_o_laidRe h_o_laidIm h_o_byOrder h_o_noted1 h_o_counts h_o_binBy o_tapeSize (0 : Int32) o_fault o_faultPlace o_stop o_next o_kind o_which o_at o_pointsRead o_bank o_isImage o_undos o_runRadix o_runOrder o_runNear o_runLimit o_runHalves o_power o_notedMany o_knownTold o_drawn o_all o_told)) rfl (fun H locs hP hD hS => ?_)
    refine W.eq (g2 := F0 m 91 ls [.int r_15]) rfl ?_
    cases hf
    exact hret _ _ _ _ dX10_count_91 hP hD hS
  have hf := it_f c_14 hf
  by_cases c_17 : p1 = (7 : Int32)
  · have hf := it_t c_17 hf
    refine lv_tableIn (tgt := 92) hx hb dX10_count_6 (by rw [c_17]; decide) (by rw [c_17]; decide) (by rw [c_17]; rfl) (by decide) ?_
    refine lv_aload_n hx hb dX10_count_92 rfl (lv_at hl 0 rfl) ?_
    refine lv_sipush (v := (130 : Int32)) hx hb dX10_count_93 (by decide) ?_
    obtain ⟨r_18, e_19, hf⟩ := bd1_x hf
    refine call_v [.int (130 : Int32)] [] ⟨hx, hb, hml, hown, hts⟩ hK hP hD hS hA hl.1 (tX10_of l G cI cJ cZ H.size h_o h_o_all h_o_tape h_o_words h_o_told h_o_isTold h_o_toldWave h_o_isPoint h_o_quarter h_o_roots h_o_laidRe h_o_laidIm h_o_byOrder h_o_noted1 h_o_counts h_o_binBy o_tapeSize (0 : Int32) o_fault o_faultPlace o_stop o_next o_kind o_which o_at o_pointsRead o_bank o_isImage o_undos o_runRadix o_runOrder o_runNear o_runLimit o_runHalves o_power o_notedMany o_knownTold o_drawn o_all (130 : Int32) r_18 e_19) (cwV 1 hts (gv q_mX10_187 q_i_yX10_of q_s_yX10_of q_n_RX10 q_k_yX10_of) rfl rfl rfl (by decide +kernel) ⟨by decide, by decide⟩) rfl rfl (Nat.le_of_ble_eq_true rfl) dX10_count_96 ⟨Nat.zero_le _, Nat.zero_le _⟩ (ci := 10) rfl 0 rfl [0, 1] [2] [1, 2, 0] rfl rfl (ws2 := (wX10_count cI cJ cZ h_o h_o_all h_o_told h_o_tape h_o_words h_o_isTold h_o_toldWave h_o_isPoint h_o_quarter h_o_roots h_o_laidRe h_o_laidIm h_o_byOrder h_o_noted1 h_o_counts h_o_binBy o_tapeSize (0 : Int32) o_fault o_faultPlace o_stop o_next o_kind o_which o_at o_pointsRead o_bank o_isImage o_undos o_runRadix o_runOrder o_runNear o_runLimit o_runHalves o_power o_notedMany o_knownTold o_drawn o_all o_told)) rfl (fun H locs hP hD hS => ?_)
    refine W.eq (g2 := F0 m 99 ls [.int r_18]) rfl ?_
    cases hf
    exact hret _ _ _ _ dX10_count_99 hP hD hS
  have hf := it_f c_17 hf
  by_cases c_20 : p1 = (8 : Int32)
  · have hf := it_t c_20 hf
    refine lv_tableIn (tgt := 100) hx hb dX10_count_6 (by rw [c_20]; decide) (by rw [c_20]; decide) (by rw [c_20]; rfl) (by decide) ?_
    refine lv_aload_n hx hb dX10_count_100 rfl (lv_at hl 0 rfl) ?_
    refine lv_sipush (v := (128 : Int32)) hx hb dX10_count_101 (by decide) ?_
    obtain ⟨r_21, e_22, hf⟩ := bd1_x hf
    refine call_v [.int (128 : Int32)] [] ⟨hx, hb, hml, hown, hts⟩ hK hP hD hS hA hl.1 (tX10_of l G cI cJ cZ H.size h_o h_o_all h_o_tape h_o_words h_o_told h_o_isTold h_o_toldWave h_o_isPoint h_o_quarter h_o_roots h_o_laidRe h_o_laidIm h_o_byOrder h_o_noted1 h_o_counts h_o_binBy o_tapeSize (0 : Int32) o_fault o_faultPlace o_stop o_next o_kind o_which o_at o_pointsRead o_bank o_isImage o_undos o_runRadix o_runOrder o_runNear o_runLimit o_runHalves o_power o_notedMany o_knownTold o_drawn o_all (128 : Int32) r_21 e_22) (cwV 1 hts (gv q_mX10_187 q_i_yX10_of q_s_yX10_of q_n_RX10 q_k_yX10_of) rfl rfl rfl (by decide +kernel) ⟨by decide, by decide⟩) rfl rfl (Nat.le_of_ble_eq_true rfl) dX10_count_104 ⟨Nat.zero_le _, Nat.zero_le _⟩ (ci := 10) rfl 0 rfl [0, 1] [2] [1, 2, 0] rfl rfl (ws2 := (wX10_count cI cJ cZ h_o h_o_all h_o_told h_o_tape h_o_words h_o_isTold h_o_toldWave h_o_isPoint h_o_quarter h_o_roots h_o_laidRe h_o_laidIm h_o_byOrder h_o_noted1 h_o_counts h_o_binBy o_tapeSize (0 : Int32) o_fault o_faultPlace o_stop o_next o_kind o_which o_at o_pointsRead o_bank o_isImage o_undos o_runRadix o_runOrder o_runNear o_runLimit o_runHalves o_power o_notedMany o_knownTold o_drawn o_all o_told)) rfl (fun H locs hP hD hS => ?_)
    refine W.eq (g2 := F0 m 107 ls [.int r_21]) rfl ?_
    cases hf
    exact hret _ _ _ _ dX10_count_107 hP hD hS
  have hf := it_f c_20 hf
  by_cases c_23 : p1 = (9 : Int32)
  · have hf := it_t c_23 hf
    refine lv_tableIn (tgt := 108) hx hb dX10_count_6 (by rw [c_23]; decide) (by rw [c_23]; decide) (by rw [c_23]; rfl) (by decide) ?_
    refine lv_aload_n hx hb dX10_count_108 rfl (lv_at hl 0 rfl) ?_
    refine rd (ci := 10) (C := RX10) (T := TX10) (N := 37) hx hb hts inX10 hown hK hP 0 23 rfl rfl (by decide) (hts _ q_fX10_175) rfl dX10_count_109 ?_
    cases hf
    exact hret _ _ _ _ dX10_count_112 hP hD hS
  have hf := it_f c_23 hf
  by_cases c_24 : p1 = (10 : Int32)
  · have hf := it_t c_24 hf
    refine lv_tableIn (tgt := 113) hx hb dX10_count_6 (by rw [c_24]; decide) (by rw [c_24]; decide) (by rw [c_24]; rfl) (by decide) ?_
    refine lv_aload_n hx hb dX10_count_113 rfl (lv_at hl 0 rfl) ?_
    refine rd (ci := 10) (C := RX10) (T := TX10) (N := 37) hx hb hts inX10 hown hK hP 0 31 rfl rfl (by decide) (hts _ q_fX10_132) rfl dX10_count_114 ?_
    cases hf
    exact hret _ _ _ _ dX10_count_117 hP hD hS
  have hf := it_f c_24 hf
  by_cases c_25 : p1 = (11 : Int32)
  · have hf := it_t c_25 hf
    refine lv_tableIn (tgt := 118) hx hb dX10_count_6 (by rw [c_25]; decide) (by rw [c_25]; decide) (by rw [c_25]; rfl) (by decide) ?_
    refine lv_aload_n hx hb dX10_count_118 rfl (lv_at hl 0 rfl) ?_
    obtain ⟨r_26, e_27, hf⟩ := bd1_x hf
    refine call_v [] [] ⟨hx, hb, hml, hown, hts⟩ hK hP hD hS hA hl.1 (tX10_knownBy l G cI cJ cZ H.size h_o h_o_tape h_o_words h_o_told h_o_isTold h_o_toldWave h_o_isPoint h_o_all h_o_quarter h_o_roots h_o_laidRe h_o_laidIm h_o_byOrder h_o_noted1 h_o_counts h_o_binBy o_tapeSize (0 : Int32) o_fault o_faultPlace o_stop o_next o_kind o_which o_at o_pointsRead o_bank o_isImage o_undos o_runRadix o_runOrder o_runNear o_runLimit o_runHalves o_power o_notedMany o_knownTold o_drawn r_26 e_27) (cwV 0 hts (gv q_mX10_375 q_i_yX10_knownBy q_s_yX10_knownBy q_n_RX10 q_k_yX10_knownBy) rfl rfl rfl (by decide +kernel) ⟨by decide, by decide⟩) rfl rfl (Nat.le_of_ble_eq_true rfl) dX10_count_119 ⟨Nat.zero_le _, Nat.zero_le _⟩ (ci := 10) rfl 0 rfl [0] [1, 2] [2, 0, 1] rfl rfl (ws2 := (wX10_count cI cJ cZ h_o h_o_all h_o_told h_o_tape h_o_words h_o_isTold h_o_toldWave h_o_isPoint h_o_quarter h_o_roots h_o_laidRe h_o_laidIm h_o_byOrder h_o_noted1 h_o_counts h_o_binBy o_tapeSize (0 : Int32) o_fault o_faultPlace o_stop o_next o_kind o_which o_at o_pointsRead o_bank o_isImage o_undos o_runRadix o_runOrder o_runNear o_runLimit o_runHalves o_power o_notedMany o_knownTold o_drawn o_all o_told)) rfl (fun H locs hP hD hS => ?_)
    refine W.eq (g2 := F0 m 122 ls [.int r_26]) rfl ?_
    cases hf
    exact hret _ _ _ _ dX10_count_122 hP hD hS
  have hf := it_f c_25 hf
  by_cases c_28 : p1 = (12 : Int32)
  · have hf := it_t c_28 hf
    refine lv_tableIn (tgt := 123) hx hb dX10_count_6 (by rw [c_28]; decide) (by rw [c_28]; decide) (by rw [c_28]; rfl) (by decide) ?_
    refine lv_aload_n hx hb dX10_count_123 rfl (lv_at hl 0 rfl) ?_
    refine rd (ci := 10) (C := RX10) (T := TX10) (N := 37) hx hb hts inX10 hown hK hP 0 19 rfl rfl (by decide) (hts _ q_fX10_129) rfl dX10_count_124 ?_
    cases hf
    exact hret _ _ _ _ dX10_count_127 hP hD hS
  have hf := it_f c_28 hf
  refine lv_tableOut (tgt := 128) hx hb dX10_count_6 (by have q0 := lv_neT (a := 0) c_1 rfl; have q1 := lv_neT (a := 1) c_3 rfl; have q2 := lv_neT (a := 2) c_5 rfl; have q3 := lv_neT (a := 3) c_7 rfl; have q4 := lv_neT (a := 4) c_9 rfl; have q5 := lv_neT (a := 5) c_11 rfl; have q6 := lv_neT (a := 6) c_14 rfl; have q7 := lv_neT (a := 7) c_17 rfl; have q8 := lv_neT (a := 8) c_20 rfl; have q9 := lv_neT (a := 9) c_23 rfl; have q10 := lv_neT (a := 10) c_24 rfl; have q11 := lv_neT (a := 11) c_25 rfl; have q12 := lv_neT (a := 12) c_28 rfl; omega) (by decide) ?_
  refine lv_ldc (v := (-2147483648 : Int32)) hx hb hown (hts _ q_cX10_206) dX10_count_128 ?_
  cases hf
  exact hret _ _ _ _ dX10_count_130 hP hD hS
