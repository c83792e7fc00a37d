def wX10_thrown (cI cJ cZ : ClassId) (h_o h_o_tape h_o_words h_o_told h_o_isTold h_o_toldWave h_o_isPoint h_o_all h_o_quarter h_o_roots h_o_laidRe h_o_laidIm h_o_byOrder h_o_noted1 h_o_counts h_o_binBy : Nat) (o_tapeSize : Int32) (o_thrown : Int32) (o_fault : Int32) (o_faultPlace : Int32) (o_stop : Int32) (o_next : Int32) (o_kind : Int32) (o_which : Int32) (o_at : Int32) (o_pointsRead : Int32) (o_bank : Int32) (o_isImage : Int32) (o_undos : Int32) (o_runRadix : Int32) (o_runOrder : Int32) (o_runNear : Int32) (o_runLimit : Int32) (o_runHalves : Int32) (o_power : Int32) (o_notedMany : Int32) (o_knownTold : Int32) (o_drawn : Int64) : va_W := [(h_o, .inr (10, [.ref h_o_tape, .int o_tapeSize, .int o_thrown, .ref h_o_words, .int o_fault, .int o_faultPlace, .int o_stop, .int o_next, .int o_kind, .int o_which, .int o_at, .ref h_o_told, .ref h_o_isTold, .ref h_o_toldWave, .ref h_o_isPoint, .int o_pointsRead, .ref h_o_all, .int o_bank, .int o_isImage, .int o_undos, .int o_runRadix, .int o_runOrder, .int o_runNear, .int o_runLimit, .int o_runHalves, .ref h_o_quarter, .int o_power, .ref h_o_roots, .ref h_o_laidRe, .ref h_o_laidIm, .ref h_o_byOrder, .int o_notedMany, .int o_knownTold, .ref h_o_noted1, .ref h_o_counts, .ref h_o_binBy, .long o_drawn]))]
def fX10_thrown (o_thrown : Int32) : Option (Int32) :=
  some o_thrown
set_option maxHeartbeats 4000000 in
set_option maxRecDepth 100000 in
theorem tX10_thrown (l : Launch) (G : va_G) (cI cJ cZ : ClassId) (sz : Nat) (h_o h_o_tape h_o_words h_o_told h_o_isTold h_o_toldWave h_o_isPoint h_o_all h_o_quarter h_o_roots h_o_laidRe h_o_laidIm h_o_byOrder h_o_noted1 h_o_counts h_o_binBy : Nat) (o_tapeSize : Int32) (o_thrown : Int32) (o_fault : Int32) (o_faultPlace : Int32) (o_stop : Int32) (o_next : Int32) (o_kind : Int32) (o_which : Int32) (o_at : Int32) (o_pointsRead : Int32) (o_bank : Int32) (o_isImage : Int32) (o_undos : Int32) (o_runRadix : Int32) (o_runOrder : Int32) (o_runNear : Int32) (o_runLimit : Int32) (o_runHalves : Int32) (o_power : Int32) (o_notedMany : Int32) (o_knownTold : Int32) (o_drawn : Int64) (r : Int32) (hf : fX10_thrown o_thrown = some r) : Met l yX10_thrown (Cond.code yX10_thrown cX10_thrown 1 (some .int) :: BIG) ({ frames := 0, cells := 0, slots := 0, locals := 0 } : Room) (cP G (TY3 cI cJ cZ) [.ref h_o] sz (wX10_thrown cI cJ cZ h_o h_o_tape h_o_words h_o_told h_o_isTold h_o_toldWave h_o_isPoint h_o_all h_o_quarter h_o_roots h_o_laidRe h_o_laidIm h_o_byOrder h_o_noted1 h_o_counts h_o_binBy o_tapeSize o_thrown o_fault o_faultPlace o_stop o_next o_kind o_which o_at o_pointsRead o_bank o_isImage o_undos o_runRadix o_runOrder o_runNear o_runLimit o_runHalves o_power o_notedMany o_knownTold o_drawn)) (cQ G (TY3 cI cJ cZ) sz (wX10_thrown cI cJ cZ h_o h_o_tape h_o_words h_o_told h_o_isTold h_o_toldWave h_o_isPoint h_o_all h_o_quarter h_o_roots h_o_laidRe h_o_laidIm h_o_byOrder h_o_noted1 h_o_counts h_o_binBy o_tapeSize o_thrown o_fault o_faultPlace o_stop o_next o_kind o_which o_at o_pointsRead o_bank o_isImage o_undos o_runRadix o_runOrder o_runNear o_runLimit o_runHalves o_power o_notedMany o_knownTold o_drawn) (wX10_thrown cI cJ cZ h_o h_o_tape h_o_words h_o_told h_o_isTold h_o_toldWave h_o_isPoint h_o_all h_o_quarter h_o_roots h_o_laidRe h_o_laidIm h_o_byOrder h_o_noted1 h_o_counts h_o_binBy o_tapeSize o_thrown o_fault o_faultPlace o_stop o_next o_kind o_which o_at o_pointsRead o_bank o_isImage o_undos o_runRadix o_runOrder o_runNear o_runLimit o_runHalves o_power o_notedMany o_knownTold o_drawn) (some (.int r))) 0 0 (va_A (wX10_thrown cI cJ cZ h_o h_o_tape h_o_words h_o_told h_o_isTold h_o_toldWave h_o_isPoint h_o_all h_o_quarter h_o_roots h_o_laidRe h_o_laidIm h_o_byOrder h_o_noted1 h_o_counts h_o_binBy o_tapeSize o_thrown o_fault o_faultPlace o_stop o_next o_kind o_which o_at o_pointsRead o_bank o_isImage o_undos o_runRadix o_runOrder o_runNear o_runLimit o_runHalves o_power o_notedMany o_knownTold o_drawn) sz) := by
  refine met_i (cc := cX10_thrown) (maxL := 1) (plainFor_of_name (by decide)) (Nat.le_of_ble_eq_true rfl) (fun p e s m below meth c A ls Q hx hb hml hts hown hK hP hD hS hA hl hret => ?_)
  have hown : s.vm.findClass RX10 = some m.cls := hown
  have hl : lv_has ls 1 [(0, .ref h_o)] := hl
  unfold fX10_thrown at hf
  obtain ⟨H, eH⟩ : ∃ H, H = s.heap := ⟨_, rfl⟩
  obtain ⟨locs, elocs⟩ : ∃ z : List Loc, z = [] := ⟨_, rfl⟩
  have hP : va_P G vwCl (wX10_thrown cI cJ cZ h_o h_o_tape h_o_words h_o_told h_o_isTold h_o_toldWave h_o_isPoint h_o_all h_o_quarter h_o_roots h_o_laidRe h_o_laidIm h_o_byOrder h_o_noted1 h_o_counts h_o_binBy o_tapeSize o_thrown o_fault o_faultPlace o_stop o_next o_kind o_which o_at o_pointsRead o_bank o_isImage o_undos o_runRadix o_runOrder o_runNear o_runLimit o_runHalves o_power o_notedMany o_knownTold o_drawn) H := by rw [eH]; exact hP
  have hS : va_S A s.heap H locs := by rw [eH, elocs]; exact hS
  suffices hgo : W p l e ({ frames := 0, cells := 0, slots := 0, locals := 0 } : Room) s m ([.ref h_o] : List Value).toArray below meth c H locs 0 0 Q (F0 m 0 ls []) by rw [eH, elocs] at hgo; exact hgo
  clear eH elocs
  refine lv_aload_n hx hb dX10_thrown_0 rfl (lv_at hl 0 rfl) ?_
  refine rd (ci := 10) (C := RX10) (T := TX10) (N := 37) hx hb hts inX10 hown hK hP 0 2 rfl rfl (by decide) (hts _ q_fX10_70) rfl dX10_thrown_1 ?_
  cases hf
  exact hret _ _ _ _ dX10_thrown_4 hP hD hS
def wX10_feed (cI cJ cZ : ClassId) (h_o h_o_tape h_o_words h_o_told h_o_isTold h_o_toldWave h_o_isPoint h_o_all h_o_quarter h_o_roots h_o_laidRe h_o_laidIm h_o_byOrder h_o_noted1 h_o_counts h_o_binBy : Nat) (o_tapeSize : Int32) (o_thrown : Int32) (o_fault : Int32) (o_faultPlace : Int32) (o_stop : Int32) (o_next : Int32) (o_kind : Int32) (o_which : Int32) (o_at : Int32) (o_pointsRead : Int32) (o_bank : Int32) (o_isImage : Int32) (o_undos : Int32) (o_runRadix : Int32) (o_runOrder : Int32) (o_runNear : Int32) (o_runLimit : Int32) (o_runHalves : Int32) (o_power : Int32) (o_notedMany : Int32) (o_knownTold : Int32) (o_drawn : Int64) (o_tape : Nat → Int32) : va_W := [(h_o, .inr (10, [.ref h_o_tape, .int o_tapeSize, .int o_thrown, .ref h_o_words, .int o_fault, .int o_faultPlace, .int o_stop, .int o_next, .int o_kind, .int o_which, .int o_at, .ref h_o_told, .ref h_o_isTold, .ref h_o_toldWave, .ref h_o_isPoint, .int o_pointsRead, .ref h_o_all, .int o_bank, .int o_isImage, .int o_undos, .int o_runRadix, .int o_runOrder, .int o_runNear, .int o_runLimit, .int o_runHalves, .ref h_o_quarter, .int o_power, .ref h_o_roots, .ref h_o_laidRe, .ref h_o_laidIm, .ref h_o_byOrder, .int o_notedMany, .int o_knownTold, .ref h_o_noted1, .ref h_o_counts, .ref h_o_binBy, .long o_drawn])), (h_o_tape, .inl (cI, 700, .inl o_tape))]
def fX10_feed_113 (o_tapeSize : Int32) (o_thrown : Int32) (o_tape : Nat → Int32) : Option (Int32 × Int32 × Int32 × (Nat → Int32)) :=
  nm (o_tapeSize + (20 : Int32)) (fun u_10 =>
  some (u_10, u_10, o_thrown, o_tape))
def fX10_feed_76 (k23 : Int32 → Int32 → (Nat → Int32) → Int32 → Int32 → Int32 → Int32 → Int32 → Int32 → Option (Int32 × Int32 × Int32 × (Nat → Int32))) (o_tapeSize : Int32) (o_thrown : Int32) (o_tape : Nat → Int32) (v1 : Int32) (v2 : Int32) (v3 : Int32) (v4 : Int32) (v5 : Int32) (v6 : Int32) (s0 : Int32) : Option (Int32 × Int32 × Int32 × (Nat → Int32)) :=
  gd (inb (o_tapeSize + v6) 700) (
  nm (upd o_tape (Int32.toNatClampNeg (o_tapeSize + v6)) ((s0 >>> (((24 : Int32) - ((8 : Int32) * (v6 - v6 / (4 : Int32) * (4 : Int32)))) &&& 31)) &&& (255 : Int32))) (fun o_tape_8 =>
  nm (v6 + (1 : Int32)) (fun v6_9 =>
  k23 o_tapeSize o_thrown o_tape_8 v1 v2 v3 v4 v5 v6_9)))
def fX10_feed_23 : Nat → Int32 → Int32 → (Nat → Int32) → Int32 → Int32 → Int32 → Int32 → Int32 → Int32 → Option (Int32 × Int32 × Int32 × (Nat → Int32))
  | 0, _, _, _, _, _, _, _, _, _ => none
  | n + 1, o_tapeSize, o_thrown, o_tape, v1, v2, v3, v4, v5, v6 =>
    if (20 : Int32) ≤ v6 then (
      fX10_feed_113 o_tapeSize o_thrown o_tape
    ) else (
      if (4 : Int32) ≤ v6 then (
        if (8 : Int32) ≤ v6 then (
          if (12 : Int32) ≤ v6 then (
            if (16 : Int32) ≤ v6 then (
              fX10_feed_76 (fX10_feed_23 n) o_tapeSize o_thrown o_tape v1 v2 v3 v4 v5 v6 v5
            ) else (
              fX10_feed_76 (fX10_feed_23 n) o_tapeSize o_thrown o_tape v1 v2 v3 v4 v5 v6 v4
            )
          ) else (
            fX10_feed_76 (fX10_feed_23 n) o_tapeSize o_thrown o_tape v1 v2 v3 v4 v5 v6 v3
          )
        ) else (
          fX10_feed_76 (fX10_feed_23 n) o_tapeSize o_thrown o_tape v1 v2 v3 v4 v5 v6 v2
        )
      ) else (
        fX10_feed_76 (fX10_feed_23 n) o_tapeSize o_thrown o_tape v1 v2 v3 v4 v5 v6 v1
      )
    )
def fX10_feed (o_tapeSize : Int32) (o_thrown : Int32) (o_tape : Nat → Int32) (p1 : Int32) (p2 : Int32) (p3 : Int32) (p4 : Int32) (p5 : Int32) : Option (Int32 × Int32 × Int32 × (Nat → Int32)) :=
  if (o_tapeSize + (20 : Int32)) ≤ (700 : Int32) then (
    fX10_feed_23 FU o_tapeSize (0 : Int32) o_tape p1 p2 p3 p4 p5 (0 : Int32)
  ) else (
    some ((-1 : Int32), o_tapeSize, (0 : Int32), o_tape)
  )
set_option maxHeartbeats 4000000 in
set_option maxRecDepth 100000 in
theorem tX10_feed (l : Launch) (G : va_G) (cI cJ cZ : ClassId) (sz : Nat) (h_o h_o_tape h_o_words h_o_told h_o_isTold h_o_toldWave h_o_isPoint h_o_all h_o_quarter h_o_roots h_o_laidRe h_o_laidIm h_o_byOrder h_o_noted1 h_o_counts h_o_binBy : Nat) (o_tapeSize : Int32) (o_thrown : Int32) (o_fault : Int32) (o_faultPlace : Int32) (o_stop : Int32) (o_next : Int32) (o_kind : Int32) (o_which : Int32) (o_at : Int32) (o_pointsRead : Int32) (o_bank : Int32) (o_isImage : Int32) (o_undos : Int32) (o_runRadix : Int32) (o_runOrder : Int32) (o_runNear : Int32) (o_runLimit : Int32) (o_runHalves : Int32) (o_power : Int32) (o_notedMany : Int32) (o_knownTold : Int32) (o_drawn : Int64) (o_tape : Nat → Int32) (p1 : Int32) (p2 : Int32) (p3 : Int32) (p4 : Int32) (p5 : Int32) (r : Int32) (out_o_tapeSize : Int32) (out_o_thrown : Int32) (out_o_tape : Nat → Int32) (hf : fX10_feed o_tapeSize o_thrown o_tape p1 p2 p3 p4 p5 = some (r, out_o_tapeSize, out_o_thrown, out_o_tape)) : Met l yX10_feed (Cond.code yX10_feed cX10_feed 8 (some .int) :: BIG) ({ frames := 0, cells := 0, slots := 0, locals := 0 } : Room) (cP G (TY3 cI cJ cZ) [.ref h_o, .int p1, .int p2, .int p3, .int p4, .int p5] sz (wX10_feed cI cJ cZ h_o h_o_tape h_o_words h_o_told h_o_isTold h_o_toldWave h_o_isPoint h_o_all h_o_quarter h_o_roots h_o_laidRe h_o_laidIm h_o_byOrder h_o_noted1 h_o_counts h_o_binBy o_tapeSize o_thrown o_fault o_faultPlace o_stop o_next o_kind o_which o_at o_pointsRead o_bank o_isImage o_undos o_runRadix o_runOrder o_runNear o_runLimit o_runHalves o_power o_notedMany o_knownTold o_drawn o_tape)) (cQ G (TY3 cI cJ cZ) sz (wX10_feed cI cJ cZ h_o h_o_tape h_o_words h_o_told h_o_isTold h_o_toldWave h_o_isPoint h_o_all h_o_quarter h_o_roots h_o_laidRe h_o_laidIm h_o_byOrder h_o_noted1 h_o_counts h_o_binBy o_tapeSize o_thrown o_fault o_faultPlace o_stop o_next o_kind o_which o_at o_pointsRead o_bank o_isImage o_undos o_runRadix o_runOrder o_runNear o_runLimit o_runHalves o_power o_notedMany o_knownTold o_drawn o_tape) (wX10_feed cI cJ cZ h_o h_o_tape h_o_words h_o_told h_o_isTold h_o_toldWave h_o_isPoint h_o_all h_o_quarter h_o_roots h_o_laidRe h_o_laidIm h_o_byOrder h_o_noted1 h_o_counts h_o_binBy out_o_tapeSize out_o_thrown o_fault o_faultPlace o_stop o_next o_kind o_which o_at o_pointsRead o_bank o_isImage o_undos o_runRadix o_runOrder o_runNear o_runLimit o_runHalves o_power o_notedMany o_knownTold o_drawn out_o_tape) (some (.int r))) 0 0 (va_A (wX10_feed cI cJ cZ h_o h_o_tape h_o_words h_o_told h_o_isTold h_o_toldWave h_o_isPoint h_o_all h_o_quarter h_o_roots h_o_laidRe h_o_laidIm h_o_byOrder h_o_noted1 h_o_counts h_o_binBy o_tapeSize o_thrown o_fault o_faultPlace o_stop o_next o_kind o_which o_at o_pointsRead o_bank o_isImage o_undos o_runRadix o_runOrder o_runNear o_runLimit o_runHalves o_power o_notedMany o_knownTold o_drawn o_tape) sz) := by
  refine met_i (cc := cX10_feed) (maxL := 8) (plainFor_of_name (by decide)) (Nat.le_of_ble_eq_true rfl) (fun p e s m below meth c A ls Q hx hb hml hts hown hK hP hD hS hA hl hret => ?_)
  have hown : s.vm.findClass RX10 = some m.cls := hown
  have hl : lv_has ls 8 [(0, .ref h_o), (1, .int p1), (2, .int p2), (3, .int p3), (4, .int p4), (5, .int p5)] := hl
  have j113 : ∀ (o_tapeSize : Int32) (o_thrown : Int32) (o_tape : Nat → Int32) (H : Heap) (locs : List Loc) (ls : Array Slot), fX10_feed_113 o_tapeSize o_thrown o_tape = some (r, out_o_tapeSize, out_o_thrown, out_o_tape) → va_P G vwCl (wX10_feed cI cJ cZ h_o h_o_tape h_o_words h_o_told h_o_isTold h_o_toldWave h_o_isPoint h_o_all h_o_quarter h_o_roots h_o_laidRe h_o_laidIm h_o_byOrder h_o_noted1 h_o_counts h_o_binBy o_tapeSize o_thrown o_fault o_faultPlace o_stop o_next o_kind o_which o_at o_pointsRead o_bank o_isImage o_undos o_runRadix o_runOrder o_runNear o_runLimit o_runHalves o_power o_notedMany o_knownTold o_drawn o_tape) H → va_D A (wX10_feed cI cJ cZ h_o h_o_tape h_o_words h_o_told h_o_isTold h_o_toldWave h_o_isPoint h_o_all h_o_quarter h_o_roots h_o_laidRe h_o_laidIm h_o_byOrder h_o_noted1 h_o_counts h_o_binBy o_tapeSize o_thrown o_fault o_faultPlace o_stop o_next o_kind o_which o_at o_pointsRead o_bank o_isImage o_undos o_runRadix o_runOrder o_runNear o_runLimit o_runHalves o_power o_notedMany o_knownTold o_drawn o_tape) → va_S A s.heap H locs → lv_has ls 8 [(0, .ref h_o)] → W p l e ({ frames := 0, cells := 0, slots := 0, locals := 0 } : Room) s m ([.ref h_o, .int p1, .int p2, .int p3, .int p4, .int p5] : List Value).toArray below meth c H locs 0 0 Q (F0 m 113 ls []) := by
    intro o_tapeSize o_thrown o_tape H locs ls hf hP hD hS hl
    unfold fX10_feed_113 at hf
    refine lv_aload_n hx hb dX10_feed_113 rfl (lv_at hl 0 rfl) ?_
    refine lv_dup hx hb dX10_feed_114 rfl ?_
    refine rd (ci := 10) (C := RX10) (T := TX10) (N := 37) hx hb hts inX10 hown hK hP 0 1 rfl rfl (by decide) (hts _ q_fX10_73) rfl dX10_feed_115 ?_
    refine lv_bipush (v := (20 : Int32)) hx hb dX10_feed_118 (by decide) ?_
    refine lv_iadd hx hb dX10_feed_120 ?_
    refine lv_topi (fun u_10 eu_10 => ?_)
    have hf := nm_x eu_10 hf
    refine wr (ci := 10) (C := RX10) (T := TX10) (N := 37) hx hb hts inX10 tyX10 tyX10_ok nmX10 hown hK hP hD hS 0 1 rfl rfl (by decide) (hts _ q_fX10_73) rfl rfl rfl (Nat.le_of_ble_eq_true rfl) dX10_feed_121 (ws2 := (wX10_feed cI cJ cZ h_o h_o_tape h_o_words h_o_told h_o_isTold h_o_toldWave h_o_isPoint h_o_all h_o_quarter h_o_roots h_o_laidRe h_o_laidIm h_o_byOrder h_o_noted1 h_o_counts h_o_binBy u_10 o_thrown o_fault o_faultPlace o_stop o_next o_kind o_which o_at o_pointsRead o_bank o_isImage o_undos o_runRadix o_runOrder o_runNear o_runLimit o_runHalves o_power o_notedMany o_knownTold o_drawn o_tape)) rfl (fun H locs hP hD hS => ?_)
    refine lv_aload_n hx hb dX10_feed_124 rfl (lv_at hl 0 rfl) ?_
    refine rd (ci := 10) (C := RX10) (T := TX10) (N := 37) hx hb hts inX10 hown hK hP 0 1 rfl rfl (by decide) (hts _ q_fX10_73) rfl dX10_feed_125 ?_
    cases hf
    exact hret _ _ _ _ dX10_feed_128 hP hD hS
  have j76 : ∀ (k23 : Int32 → Int32 → (Nat → Int32) → Int32 → Int32 → Int32 → Int32 → Int32 → Int32 → Option (Int32 × Int32 × Int32 × (Nat → Int32))), (∀ (o_tapeSize : Int32) (o_thrown : Int32) (o_tape : Nat → Int32) (v1 : Int32) (v2 : Int32) (v3 : Int32) (v4 : Int32) (v5 : Int32) (v6 : Int32) (H : Heap) (locs : List Loc) (ls : Array Slot), k23 o_tapeSize o_thrown o_tape v1 v2 v3 v4 v5 v6 = some (r, out_o_tapeSize, out_o_thrown, out_o_tape) → va_P G vwCl (wX10_feed cI cJ cZ h_o h_o_tape h_o_words h_o_told h_o_isTold h_o_toldWave h_o_isPoint h_o_all h_o_quarter h_o_roots h_o_laidRe h_o_laidIm h_o_byOrder h_o_noted1 h_o_counts h_o_binBy o_tapeSize o_thrown o_fault o_faultPlace o_stop o_next o_kind o_which o_at o_pointsRead o_bank o_isImage o_undos o_runRadix o_runOrder o_runNear o_runLimit o_runHalves o_power o_notedMany o_knownTold o_drawn o_tape) H → va_D A (wX10_feed cI cJ cZ h_o h_o_tape h_o_words h_o_told h_o_isTold h_o_toldWave h_o_isPoint h_o_all h_o_quarter h_o_roots h_o_laidRe h_o_laidIm h_o_byOrder h_o_noted1 h_o_counts h_o_binBy o_tapeSize o_thrown o_fault o_faultPlace o_stop o_next o_kind o_which o_at o_pointsRead o_bank o_isImage o_undos o_runRadix o_runOrder o_runNear o_runLimit o_runHalves o_power o_notedMany o_knownTold o_drawn o_tape) → va_S A s.heap H locs → lv_has ls 8 [(0, .ref h_o), (1, .int v1), (2, .int v2), (3, .int v3), (4, .int v4), (5, .int v5), (6, .int v6)] → W p l e ({ frames := 0, cells := 0, slots := 0, locals := 0 } : Room) s m ([.ref h_o, .int p1, .int p2, .int p3, .int p4, .int p5] : List Value).toArray below meth c H locs 0 0 Q (F0 m 23 ls [])) → ∀ (o_tapeSize : Int32) (o_thrown : Int32) (o_tape : Nat → Int32) (v1 : Int32) (v2 : Int32) (v3 : Int32) (v4 : Int32) (v5 : Int32) (v6 : Int32) (s0 : Int32) (H : Heap) (locs : List Loc) (ls : Array Slot), fX10_feed_76 k23 o_tapeSize o_thrown o_tape v1 v2 v3 v4 v5 v6 s0 = some (r, out_o_tapeSize, out_o_thrown, out_o_tape) → va_P G vwCl (wX10_feed cI cJ cZ h_o h_o_tape h_o_words h_o_told h_o_isTold h_o_toldWave h_o_isPoint h_o_all h_o_quarter h_o_roots h_o_laidRe h_o_laidIm h_o_byOrder h_o_noted1 h_o_counts h_o_binBy o_tapeSize o_thrown o_fault o_faultPlace o_stop o_next o_kind o_which o_at o_pointsRead o_bank o_isImage o_undos o_runRadix o_runOrder o_runNear o_runLimit o_runHalves o_power o_notedMany o_knownTold o_drawn o_tape) H → va_D A (wX10_feed cI cJ cZ h_o h_o_tape h_o_words h_o_told h_o_isTold h_o_toldWave h_o_isPoint h_o_all h_o_quarter h_o_roots h_o_laidRe h_o_laidIm h_o_byOrder h_o_noted1 h_o_counts h_o_binBy o_tapeSize o_thrown o_fault o_faultPlace o_stop o_next o_kind o_which o_at o_pointsRead o_bank o_isImage o_undos o_runRadix o_runOrder o_runNear o_runLimit o_runHalves o_power o_notedMany o_knownTold o_drawn o_tape) → va_S A s.heap H locs → lv_has ls 8 [(0, .ref h_o), (1, .int v1), (2, .int v2), (3, .int v3), (4, .int v4), (5, .int v5), (6, .int v6)] → W p l e ({ frames := 0, cells := 0, slots := 0, locals := 0 } : Room) s m ([.ref h_o, .int p1, .int p2, .int p3, .int p4, .int p5] : List Value).toArray below meth c H locs 0 0 Q (F0 m 76 ls [.int s0]) := by
    intro k23 hk23 o_tapeSize o_thrown o_tape v1 v2 v3 v4 v5 v6 s0 H locs ls hf hP hD hS hl
    unfold fX10_feed_76 at hf
    refine lv_istore (lv' := [(7, .int s0), (0, .ref h_o), (1, .int v1), (2, .int v2), (3, .int v3), (4, .int v4), (5, .int v5), (6, .int v6)]) hx hb dX10_feed_76 hl (by decide) rfl (fun ls hl => ?_)
    refine lv_aload_n hx hb dX10_feed_78 rfl (lv_at hl 1 rfl) ?_
    refine rd (ci := 10) (C := RX10) (T := TX10) (N := 37) hx hb hts inX10 hown hK hP 0 0 rfl rfl (by decide) (hts _ q_fX10_7) rfl dX10_feed_79 ?_
    refine lv_aload_n hx hb dX10_feed_82 rfl (lv_at hl 1 rfl) ?_
    refine rd (ci := 10) (C := RX10) (T := TX10) (N := 37) hx hb hts inX10 hown hK hP 0 1 rfl rfl (by decide) (hts _ q_fX10_73) rfl dX10_feed_83 ?_
    refine lv_iload hx hb dX10_feed_86 (lv_at hl 7 rfl) ?_
    refine lv_iadd hx hb dX10_feed_88 ?_
    refine lv_iload hx hb dX10_feed_89 (lv_at hl 0 rfl) ?_
    refine lv_bipush (v := (24 : Int32)) hx hb dX10_feed_91 (by decide) ?_
    refine lv_bipush (v := (8 : Int32)) hx hb dX10_feed_93 (by decide) ?_
    refine lv_iload hx hb dX10_feed_95 (lv_at hl 7 rfl) ?_
    refine lv_iconst (v := (4 : Int32)) hx hb dX10_feed_97 (by decide) ?_
    refine lv_irem hx hb dX10_feed_98 (by decide) ?_
    refine lv_imul hx hb dX10_feed_99 ?_
    refine lv_isub hx hb dX10_feed_100 ?_
    refine lv_ishr hx hb dX10_feed_101 ?_
    refine lv_sipush (v := (255 : Int32)) hx hb dX10_feed_102 (by decide) ?_
    refine lv_iand hx hb dX10_feed_105 ?_
    obtain ⟨g_7, hf⟩ := gd_x hf
    obtain ⟨o_tape_8, eo_tape_8⟩ : ∃ y : Nat → Int32, y = upd o_tape (Int32.toNatClampNeg (o_tapeSize + v6)) ((s0 >>> (((24 : Int32) - ((8 : Int32) * (v6 - v6 / (4 : Int32) * (4 : Int32)))) &&& 31)) &&& (255 : Int32)) := ⟨_, rfl⟩
    have hf := nm_x eo_tape_8 hf
    refine ist hx hb hK hP hD hS 1 0 rfl rfl (inb_x g_7) dX10_feed_106 eo_tape_8 (ws2 := (wX10_feed cI cJ cZ h_o h_o_tape h_o_words h_o_told h_o_isTold h_o_toldWave h_o_isPoint h_o_all h_o_quarter h_o_roots h_o_laidRe h_o_laidIm h_o_byOrder h_o_noted1 h_o_counts h_o_binBy o_tapeSize o_thrown o_fault o_faultPlace o_stop o_next o_kind o_which o_at o_pointsRead o_bank o_isImage o_undos o_runRadix o_runOrder o_runNear o_runLimit o_runHalves o_power o_notedMany o_knownTold o_drawn o_tape_8)) rfl (fun H locs hP hD hS => ?_)
    obtain ⟨v6_9, ev6_9⟩ : ∃ y : Int32, y = v6 + (1 : Int32) := ⟨_, rfl⟩
    have hf := nm_x ev6_9 hf
    refine lv_iinc (v := v6_9) (lv' := [(6, .int v6_9), (7, .int s0), (0, .ref h_o), (1, .int v1), (2, .int v2), (3, .int v3), (4, .int v4), (5, .int v5)]) hx hb dX10_feed_107 hl (k := 7) rfl (by rw [ev6_9]; rfl) (by decide) rfl (fun ls hl => ?_)
    refine lv_goto (tgt := 23) hx hb dX10_feed_110 (by decide) ?_
    exact hk23 o_tapeSize o_thrown o_tape_8 v1 v2 v3 v4 v5 v6_9 H locs ls hf hP hD hS (lv_sub hl [2, 3, 4, 5, 6, 7, 0] rfl)
  have j23 : ∀ (n : Nat) (o_tapeSize : Int32) (o_thrown : Int32) (o_tape : Nat → Int32) (v1 : Int32) (v2 : Int32) (v3 : Int32) (v4 : Int32) (v5 : Int32) (v6 : Int32) (H : Heap) (locs : List Loc) (ls : Array Slot), fX10_feed_23 n o_tapeSize o_thrown o_tape v1 v2 v3 v4 v5 v6 = some (r, out_o_tapeSize, out_o_thrown, out_o_tape) → va_P G vwCl (wX10_feed cI cJ cZ h_o h_o_tape h_o_words h_o_told h_o_isTold h_o_toldWave h_o_isPoint h_o_all h_o_quarter h_o_roots h_o_laidRe h_o_laidIm h_o_byOrder h_o_noted1 h_o_counts h_o_binBy o_tapeSize o_thrown o_fault o_faultPlace o_stop o_next o_kind o_which o_at o_pointsRead o_bank o_isImage o_undos o_runRadix o_runOrder o_runNear o_runLimit o_runHalves o_power o_notedMany o_knownTold o_drawn o_tape) H → va_D A (wX10_feed cI cJ cZ h_o h_o_tape h_o_words h_o_told h_o_isTold h_o_toldWave h_o_isPoint h_o_all h_o_quarter h_o_roots h_o_laidRe h_o_laidIm h_o_byOrder h_o_noted1 h_o_counts h_o_binBy o_tapeSize o_thrown o_fault o_faultPlace o_stop o_next o_kind o_which o_at o_pointsRead o_bank o_isImage o_undos o_runRadix o_runOrder o_runNear o_runLimit o_runHalves o_power o_notedMany o_knownTold o_drawn o_tape) → va_S A s.heap H locs → lv_has ls 8 [(0, .ref h_o), (1, .int v1), (2, .int v2), (3, .int v3), (4, .int v4), (5, .int v5), (6, .int v6)] → W p l e ({ frames := 0, cells := 0, slots := 0, locals := 0 } : Room) s m ([.ref h_o, .int p1, .int p2, .int p3, .int p4, .int p5] : List Value).toArray below meth c H locs 0 0 Q (F0 m 23 ls []) := by
    intro n
    induction n with
    | zero =>
      intro o_tapeSize o_thrown o_tape v1 v2 v3 v4 v5 v6 H locs ls hf
      have hf : (none : Option (Int32 × Int32 × Int32 × (Nat → Int32))) = some (r, out_o_tapeSize, out_o_thrown, out_o_tape) := hf
      cases hf
    | succ n ih =>
      intro o_tapeSize o_thrown o_tape v1 v2 v3 v4 v5 v6 H locs ls hf hP hD hS hl
      rw [fX10_feed_23.eq_2] at hf
      refine lv_iload hx hb dX10_feed_23 (lv_at hl 6 rfl) ?_
      refine lv_bipush (v := (20 : Int32)) hx hb dX10_feed_25 (by decide) ?_
      refine lv_icmp_ge (tgt := 113) hx hb dX10_feed_27 (by decide) (fun c_2 => ?_) (fun c_2 => ?_)
      · have hf := it_t c_2 hf
        exact j113 o_tapeSize o_thrown o_tape H locs ls hf hP hD hS (lv_sub hl [0] rfl)
      · have hf := it_f c_2 hf
        refine lv_iload hx hb dX10_feed_30 (lv_at hl 6 rfl) ?_
        refine lv_iconst (v := (4 : Int32)) hx hb dX10_feed_32 (by decide) ?_
        refine lv_icmp_ge (tgt := 40) hx hb dX10_feed_33 (by decide) (fun c_3 => ?_) (fun c_3 => ?_)
        · have hf := it_t c_3 hf
          refine lv_iload hx hb dX10_feed_40 (lv_at hl 6 rfl) ?_
          refine lv_bipush (v := (8 : Int32)) hx hb dX10_feed_42 (by decide) ?_
          refine lv_icmp_ge (tgt := 51) hx hb dX10_feed_44 (by decide) (fun c_4 => ?_) (fun c_4 => ?_)
          · have hf := it_t c_4 hf
            refine lv_iload hx hb dX10_feed_51 (lv_at hl 6 rfl) ?_
            refine lv_bipush (v := (12 : Int32)) hx hb dX10_feed_53 (by decide) ?_
            refine lv_icmp_ge (tgt := 62) hx hb dX10_feed_55 (by decide) (fun c_5 => ?_) (fun c_5 => ?_)
            · have hf := it_t c_5 hf
              refine lv_iload hx hb dX10_feed_62 (lv_at hl 6 rfl) ?_
              refine lv_bipush (v := (16 : Int32)) hx hb dX10_feed_64 (by decide) ?_
              refine lv_icmp_ge (tgt := 74) hx hb dX10_feed_66 (by decide) (fun c_6 => ?_) (fun c_6 => ?_)
              · have hf := it_t c_6 hf
                refine lv_iload hx hb dX10_feed_74 (lv_at hl 5 rfl) ?_
                exact j76 (fX10_feed_23 n) ih o_tapeSize o_thrown o_tape v1 v2 v3 v4 v5 v6 v5 H locs ls hf hP hD hS (lv_sub hl [0, 1, 2, 3, 4, 5, 6] rfl)
              · have hf := it_f c_6 hf
                refine lv_iload hx hb dX10_feed_69 (lv_at hl 4 rfl) ?_
                refine lv_goto (tgt := 76) hx hb dX10_feed_71 (by decide) ?_
                exact j76 (fX10_feed_23 n) ih o_tapeSize o_thrown o_tape v1 v2 v3 v4 v5 v6 v4 H locs ls hf hP hD hS (lv_sub hl [0, 1, 2, 3, 4, 5, 6] rfl)
            · have hf := it_f c_5 hf
              refine lv_iload_n hx hb dX10_feed_58 rfl (lv_at hl 3 rfl) ?_
              refine lv_goto (tgt := 76) hx hb dX10_feed_59 (by decide) ?_
              exact j76 (fX10_feed_23 n) ih o_tapeSize o_thrown o_tape v1 v2 v3 v4 v5 v6 v3 H locs ls hf hP hD hS (lv_sub hl [0, 1, 2, 3, 4, 5, 6] rfl)
          · have hf := it_f c_4 hf
            refine lv_iload_n hx hb dX10_feed_47 rfl (lv_at hl 2 rfl) ?_
            refine lv_goto (tgt := 76) hx hb dX10_feed_48 (by decide) ?_
            exact j76 (fX10_feed_23 n) ih o_tapeSize o_thrown o_tape v1 v2 v3 v4 v5 v6 v2 H locs ls hf hP hD hS (lv_sub hl [0, 1, 2, 3, 4, 5, 6] rfl)
        · have hf := it_f c_3 hf
          refine lv_iload_n hx hb dX10_feed_36 rfl (lv_at hl 1 rfl) ?_
          refine lv_goto (tgt := 76) hx hb dX10_feed_37 (by decide) ?_
          exact j76 (fX10_feed_23 n) ih o_tapeSize o_thrown o_tape v1 v2 v3 v4 v5 v6 v1 H locs ls hf hP hD hS (lv_sub hl [0, 1, 2, 3, 4, 5, 6] rfl)
  unfold fX10_feed at hf
  obtain ⟨H, eH⟩ : ∃ H, H = s.heap := ⟨_, rfl⟩
  obtain ⟨locs, elocs⟩ : ∃ z : List Loc, z = [] := ⟨_, rfl⟩
  have hP : va_P G vwCl (wX10_feed cI cJ cZ h_o h_o_tape h_o_words h_o_told h_o_isTold h_o_toldWave h_o_isPoint h_o_all h_o_quarter h_o_roots h_o_laidRe h_o_laidIm h_o_byOrder h_o_noted1 h_o_counts h_o_binBy o_tapeSize o_thrown o_fault o_faultPlace o_stop o_next o_kind o_which o_at o_pointsRead o_bank o_isImage o_undos o_runRadix o_runOrder o_runNear o_runLimit o_runHalves o_power o_notedMany o_knownTold o_drawn o_tape) H := by rw [eH]; exact hP
  have hS : va_S A s.heap H locs := by rw [eH, elocs]; exact hS
  suffices hgo : W p l e ({ frames := 0, cells := 0, slots := 0, locals := 0 } : Room) s m ([.ref h_o, .int p1, .int p2, .int p3, .int p4, .int p5] : List Value).toArray below meth c H locs 0 0 Q (F0 m 0 ls []) by rw [eH, elocs] at hgo; exact hgo
  clear eH elocs
  refine lv_aload_n hx hb dX10_feed_0 rfl (lv_at hl 0 rfl) ?_
  refine lv_iconst (v := (0 : Int32)) hx hb dX10_feed_1 (by decide) ?_
  refine wr (ci := 10) (C := RX10) (T := TX10) (N := 37) hx hb hts inX10 tyX10 tyX10_ok nmX10 hown hK hP hD hS 0 2 rfl rfl (by decide) (hts _ q_fX10_70) rfl rfl rfl (Nat.le_of_ble_eq_true rfl) dX10_feed_2 (ws2 := (wX10_feed cI cJ cZ h_o h_o_tape h_o_words h_o_told h_o_isTold h_o_toldWave h_o_isPoint h_o_all h_o_quarter h_o_roots h_o_laidRe h_o_laidIm h_o_byOrder h_o_noted1 h_o_counts h_o_binBy o_tapeSize (0 : Int32) o_fault o_faultPlace o_stop o_next o_kind o_which o_at o_pointsRead o_bank o_isImage o_undos o_runRadix o_runOrder o_runNear o_runLimit o_runHalves o_power o_notedMany o_knownTold o_drawn o_tape)) rfl (fun H locs hP hD hS => ?_)
  refine lv_aload_n hx hb dX10_feed_5 rfl (lv_at hl 0 rfl) ?_
  refine rd (ci := 10) (C := RX10) (T := TX10) (N := 37) hx hb hts inX10 hown hK hP 0 1 rfl rfl (by decide) (hts _ q_fX10_73) rfl dX10_feed_6 ?_
  refine lv_bipush (v := (20 : Int32)) hx hb dX10_feed_9 (by decide) ?_
  refine lv_iadd hx hb dX10_feed_11 ?_
  refine lv_sipush (v := (700 : Int32)) hx hb dX10_feed_12 (by decide) ?_
  refine lv_icmp_le (tgt := 20) hx hb dX10_feed_15 (by decide) (fun c_1 => ?_) (fun c_1 => ?_)
  · have hf := it_t c_1 hf
    refine lv_iconst (v := (0 : Int32)) hx hb dX10_feed_20 (by decide) ?_
    refine lv_istore (lv' := [(6, .int (0 : Int32)), (0, .ref h_o), (1, .int p1), (2, .int p2), (3, .int p3), (4, .int p4), (5, .int p5)]) hx hb dX10_feed_21 hl (by decide) rfl (fun ls hl => ?_)
    exact j23 FU o_tapeSize (0 : Int32) o_tape p1 p2 p3 p4 p5 (0 : Int32) H locs ls hf hP hD hS (lv_sub hl [1, 2, 3, 4, 5, 6, 0] rfl)
  · have hf := it_f c_1 hf
    refine lv_iconst (v := (-1 : Int32)) hx hb dX10_feed_18 (by decide) ?_
    cases hf
    exact hret _ _ _ _ dX10_feed_19 hP hD hS
def wX10_isIn (cI cJ cZ : ClassId) : va_W := []
def fX10_isIn (p1 : Int32) (p2 : Int32) (p3 : Int32) : Option (Int32) :=
  if p1 < p2 then (
    some (0 : Int32)
  ) else (
    if p3 < p1 then (
      some (0 : Int32)
    ) else (
      some (1 : Int32)
    )
  )
set_option maxHeartbeats 4000000 in
set_option maxRecDepth 100000 in
theorem tX10_isIn (l : Launch) (G : va_G) (cI cJ cZ : ClassId) (sz : Nat) (p1 : Int32) (p2 : Int32) (p3 : Int32) (r : Int32) (hf : fX10_isIn p1 p2 p3 = some r) : Met l yX10_isIn (Cond.code yX10_isIn cX10_isIn 3 (some .boolean) :: BIG) ({ frames := 0, cells := 0, slots := 0, locals := 0 } : Room) (cP G (TY3 cI cJ cZ) [.int p1, .int p2, .int p3] sz (wX10_isIn cI cJ cZ)) (cQ G (TY3 cI cJ cZ) sz (wX10_isIn cI cJ cZ) (wX10_isIn cI cJ cZ) (some (.int r))) 0 0 (va_A (wX10_isIn cI cJ cZ) sz) := by
  refine met_z (cc := cX10_isIn) (maxL := 3) (plainFor_of_name (by decide)) (Nat.le_of_ble_eq_true rfl) (fun p e s m below meth c A ls Q hx hb hml hts hown hK hP hD hS hA hl hret => ?_)
  have hown : s.vm.findClass RX10 = some m.cls := hown
  have hl : lv_has ls 3 [(0, .int p1), (1, .int p2), (2, .int p3)] := hl
  unfold fX10_isIn at hf
  obtain ⟨H, eH⟩ : ∃ H, H = s.heap := ⟨_, rfl⟩
  obtain ⟨locs, elocs⟩ : ∃ z : List Loc, z = [] := ⟨_, rfl⟩
  have hP : va_P G vwCl (wX10_isIn cI cJ cZ) H := by rw [eH]; exact hP
  have hS : va_S A s.heap H locs := by rw [eH, elocs]; exact hS
  suffices hgo : W p l e ({ frames := 0, cells := 0, slots := 0, locals := 0 } : Room) s m ([.int p1, .int p2, .int p3] : List Value).toArray below meth c H locs 0 0 Q (F0 m 0 ls []) by rw [eH, elocs] at hgo; exact hgo
  clear eH elocs
  refine lv_iload_n hx hb dX10_isIn_0 rfl (lv_at hl 0 rfl) ?_
  refine lv_iload_n hx hb dX10_isIn_1 rfl (lv_at hl 1 rfl) ?_
  refine lv_icmp_lt (tgt := 14) hx hb dX10_isIn_2 (by decide) (fun c_1 => ?_) (fun c_1 => ?_)
  · have hf := it_t c_1 hf
    refine lv_iconst (v := (0 : Int32)) hx hb dX10_isIn_14 (by decide) ?_
    cases hf
    exact hret _ _ _ _ dX10_isIn_15 rfl hP hD hS
  · have hf := it_f c_1 hf
    refine lv_iload_n hx hb dX10_isIn_5 rfl (lv_at hl 0 rfl) ?_
    refine lv_iload_n hx hb dX10_isIn_6 rfl (lv_at hl 2 rfl) ?_
    refine lv_icmp_gt (tgt := 14) hx hb dX10_isIn_7 (by decide) (fun c_2 => ?_) (fun c_2 => ?_)
    · have hf := it_t c_2 hf
      refine lv_iconst (v := (0 : Int32)) hx hb dX10_isIn_14 (by decide) ?_
      cases hf
      exact hret _ _ _ _ dX10_isIn_15 rfl hP hD hS
    · have hf := it_f c_2 hf
      refine lv_iconst (v := (1 : Int32)) hx hb dX10_isIn_10 (by decide) ?_
      refine lv_goto (tgt := 15) hx hb dX10_isIn_11 (by decide) ?_
      cases hf
      exact hret _ _ _ _ dX10_isIn_15 rfl hP hD hS
def wX10_isOf (cI cJ cZ : ClassId) : va_W := []
def fX10_isOf (p1 : Int32) (p2 : Int32) : Option (Int32) :=
  if ((p1 >>> (p2 &&& 31)) &&& (1 : Int32)) = (1 : Int32) then (
    some (1 : Int32)
  ) else (
    some (0 : Int32)
  )
set_option maxHeartbeats 4000000 in
set_option maxRecDepth 100000 in
theorem tX10_isOf (l : Launch) (G : va_G) (cI cJ cZ : ClassId) (sz : Nat) (p1 : Int32) (p2 : Int32) (r : Int32) (hf : fX10_isOf p1 p2 = some r) : Met l yX10_isOf (Cond.code yX10_isOf cX10_isOf 2 (some .boolean) :: BIG) ({ frames := 0, cells := 0, slots := 0, locals := 0 } : Room) (cP G (TY3 cI cJ cZ) [.int p1, .int p2] sz (wX10_isOf cI cJ cZ)) (cQ G (TY3 cI cJ cZ) sz (wX10_isOf cI cJ cZ) (wX10_isOf cI cJ cZ) (some (.int r))) 0 0 (va_A (wX10_isOf cI cJ cZ) sz) := by
  refine met_z (cc := cX10_isOf) (maxL := 2) (plainFor_of_name (by decide)) (Nat.le_of_ble_eq_true rfl) (fun p e s m below meth c A ls Q hx hb hml hts hown hK hP hD hS hA hl hret => ?_)
  have hown : s.vm.findClass RX10 = some m.cls := hown
  have hl : lv_has ls 2 [(0, .int p1), (1, .int p2)] := hl
  unfold fX10_isOf at hf
  obtain ⟨H, eH⟩ : ∃ H, H = s.heap := ⟨_, rfl⟩
  obtain ⟨locs, elocs⟩ : ∃ z : List Loc, z = [] := ⟨_, rfl⟩
  have hP : va_P G vwCl (wX10_isOf cI cJ cZ) H := by rw [eH]; exact hP
  have hS : va_S A s.heap H locs := by rw [eH, elocs]; exact hS
  suffices hgo : W p l e ({ frames := 0, cells := 0, slots := 0, locals := 0 } : Room) s m ([.int p1, .int p2] : List Value).toArray below meth c H locs 0 0 Q (F0 m 0 ls []) by rw [eH, elocs] at hgo; exact hgo
  clear eH elocs
  refine lv_iload_n hx hb dX10_isOf_0 rfl (lv_at hl 0 rfl) ?_
  refine lv_iload_n hx hb dX10_isOf_1 rfl (lv_at hl 1 rfl) ?_
  refine lv_ishr hx hb dX10_isOf_2 ?_
  refine lv_iconst (v := (1 : Int32)) hx hb dX10_isOf_3 (by decide) ?_
  refine lv_iand hx hb dX10_isOf_4 ?_
  refine lv_iconst (v := (1 : Int32)) hx hb dX10_isOf_5 (by decide) ?_
  refine lv_icmp_ne (tgt := 13) hx hb dX10_isOf_6 (by decide) (fun c_1 => ?_) (fun c_1 => ?_)
  · have hf := it_f c_1 hf
    refine lv_iconst (v := (0 : Int32)) hx hb dX10_isOf_13 (by decide) ?_
    cases hf
    exact hret _ _ _ _ dX10_isOf_14 rfl hP hD hS
  · have hf := it_t c_1 hf
    refine lv_iconst (v := (1 : Int32)) hx hb dX10_isOf_9 (by decide) ?_
    refine lv_goto (tgt := 14) hx hb dX10_isOf_10 (by decide) ?_
    cases hf
    exact hret _ _ _ _ dX10_isOf_14 rfl hP hD hS
def wX10_wrong (cI cJ cZ : ClassId) (h_o h_o_tape h_o_words h_o_told h_o_isTold h_o_toldWave h_o_isPoint h_o_all h_o_quarter h_o_roots h_o_laidRe h_o_laidIm h_o_byOrder h_o_noted1 h_o_counts h_o_binBy : Nat) (o_tapeSize : Int32) (o_thrown : Int32) (o_fault : Int32) (o_faultPlace : Int32) (o_stop : Int32) (o_next : Int32) (o_kind : Int32) (o_which : Int32) (o_at : Int32) (o_pointsRead : Int32) (o_bank : Int32) (o_isImage : Int32) (o_undos : Int32) (o_runRadix : Int32) (o_runOrder : Int32) (o_runNear : Int32) (o_runLimit : Int32) (o_runHalves : Int32) (o_power : Int32) (o_notedMany : Int32) (o_knownTold : Int32) (o_drawn : Int64) : va_W := [(h_o, .inr (10, [.ref h_o_tape, .int o_tapeSize, .int o_thrown, .ref h_o_words, .int o_fault, .int o_faultPlace, .int o_stop, .int o_next, .int o_kind, .int o_which, .int o_at, .ref h_o_told, .ref h_o_isTold, .ref h_o_toldWave, .ref h_o_isPoint, .int o_pointsRead, .ref h_o_all, .int o_bank, .int o_isImage, .int o_undos, .int o_runRadix, .int o_runOrder, .int o_runNear, .int o_runLimit, .int o_runHalves, .ref h_o_quarter, .int o_power, .ref h_o_roots, .ref h_o_laidRe, .ref h_o_laidIm, .ref h_o_byOrder, .int o_notedMany, .int o_knownTold, .ref h_o_noted1, .ref h_o_counts, .ref h_o_binBy, .long o_drawn]))]
def fX10_wrong (o_fault : Int32) (o_faultPlace : Int32) (o_at : Int32) (p1 : Int32) : Option (Int32 × Int32 × Int32) :=
  some ((0 : Int32), p1, o_at)
set_option maxHeartbeats 4000000 in
set_option maxRecDepth 100000 in
theorem tX10_wrong (l : Launch) (G : va_G) (cI cJ cZ : ClassId) (sz : Nat) (h_o h_o_tape h_o_words h_o_told h_o_isTold h_o_toldWave h_o_isPoint h_o_all h_o_quarter h_o_roots h_o_laidRe h_o_laidIm h_o_byOrder h_o_noted1 h_o_counts h_o_binBy : Nat) (o_tapeSize : Int32) (o_thrown : Int32) (o_fault : Int32) (o_faultPlace : Int32) (o_stop : Int32) (o_next : Int32) (o_kind : Int32) (o_which : Int32) (o_at : Int32) (o_pointsRead : Int32) (o_bank : Int32) (o_isImage : Int32) (o_undos : Int32) (o_runRadix : Int32) (o_runOrder : Int32) (o_runNear : Int32) (o_runLimit : Int32) (o_runHalves : Int32) (o_power : Int32) (o_notedMany : Int32) (o_knownTold : Int32) (o_drawn : Int64) (p1 : Int32) (r : Int32) (out_o_fault : Int32) (out_o_faultPlace : Int32) (hf : fX10_wrong o_fault o_faultPlace o_at p1 = some (r, out_o_fault, out_o_faultPlace)) : Met l yX10_wrong (Cond.code yX10_wrong cX10_wrong 2 (some .boolean) :: BIG) ({ frames := 0, cells := 0, slots := 0, locals := 0 } : Room) (cP G (TY3 cI cJ cZ) [.ref h_o, .int p1] sz (wX10_wrong cI cJ cZ h_o h_o_tape h_o_words h_o_told h_o_isTold h_o_toldWave h_o_isPoint h_o_all h_o_quarter h_o_roots h_o_laidRe h_o_laidIm h_o_byOrder h_o_noted1 h_o_counts h_o_binBy o_tapeSize o_thrown o_fault o_faultPlace o_stop o_next o_kind o_which o_at o_pointsRead o_bank o_isImage o_undos o_runRadix o_runOrder o_runNear o_runLimit o_runHalves o_power o_notedMany o_knownTold o_drawn)) (cQ G (TY3 cI cJ cZ) sz (wX10_wrong cI cJ cZ h_o h_o_tape h_o_words h_o_told h_o_isTold h_o_toldWave h_o_isPoint h_o_all h_o_quarter h_o_roots h_o_laidRe h_o_laidIm h_o_byOrder h_o_noted1 h_o_counts h_o_binBy o_tapeSize o_thrown o_fault o_faultPlace o_stop o_next o_kind o_which o_at o_pointsRead o_bank o_isImage o_undos o_runRadix o_runOrder o_runNear o_runLimit o_runHalves o_power o_notedMany o_knownTold o_drawn) (wX10_wrong cI cJ cZ h_o h_o_tape h_o_words h_o_told h_o_isTold h_o_toldWave h_o_isPoint h_o_all h_o_quarter h_o_roots h_o_laidRe h_o_laidIm h_o_byOrder h_o_noted1 h_o_counts h_o_binBy o_tapeSize o_thrown out_o_fault out_o_faultPlace o_stop o_next o_kind o_which o_at o_pointsRead o_bank o_isImage o_undos o_runRadix o_runOrder o_runNear o_runLimit o_runHalves o_power o_notedMany o_knownTold o_drawn) (some (.int r))) 0 0 (va_A (wX10_wrong cI cJ cZ h_o h_o_tape h_o_words h_o_told h_o_isTold h_o_toldWave h_o_isPoint h_o_all h_o_quarter h_o_roots h_o_laidRe h_o_laidIm h_o_byOrder h_o_noted1 h_o_counts h_o_binBy o_tapeSize o_thrown o_fault o_faultPlace o_stop o_next o_kind o_which o_at o_pointsRead o_bank o_isImage o_undos o_runRadix o_runOrder o_runNear o_runLimit o_runHalves o_power o_notedMany o_knownTold o_drawn) sz) := by
  refine met_z (cc := cX10_wrong) (maxL := 2) (plainFor_of_name (by decide)) (Nat.le_of_ble_eq_true rfl) (fun p e s m below meth c A ls Q hx hb hml hts hown hK hP hD hS hA hl hret => ?_)
  have hown : s.vm.findClass RX10 = some m.cls := hown
  have hl : lv_has ls 2 [(0, .ref h_o), (1, .int p1)] := hl
  unfold fX10_wrong at hf
  obtain ⟨H, eH⟩ : ∃ H, H = s.heap := ⟨_, rfl⟩
  obtain ⟨locs, elocs⟩ : ∃ z : List Loc, z = [] := ⟨_, rfl⟩
  have hP : va_P G vwCl (wX10_wrong cI cJ cZ h_o h_o_tape h_o_words h_o_told h_o_isTold h_o_toldWave h_o_isPoint h_o_all h_o_quarter h_o_roots h_o_laidRe h_o_laidIm h_o_byOrder h_o_noted1 h_o_counts h_o_binBy o_tapeSize o_thrown o_fault o_faultPlace o_stop o_next o_kind o_which o_at o_pointsRead o_bank o_isImage o_undos o_runRadix o_runOrder o_runNear o_runLimit o_runHalves o_power o_notedMany o_knownTold o_drawn) H := by rw [eH]; exact hP
  have hS : va_S A s.heap H locs := by rw [eH, elocs]; exact hS
  suffices hgo : W p l e ({ frames := 0, cells := 0, slots := 0, locals := 0 } : Room) s m ([.ref h_o, .int p1] : List Value).toArray below meth c H locs 0 0 Q (F0 m 0 ls []) by rw [eH, elocs] at hgo; exact hgo
  clear eH elocs
  refine lv_aload_n hx hb dX10_wrong_0 rfl (lv_at hl 0 rfl) ?_
  refine lv_iload_n hx hb dX10_wrong_1 rfl (lv_at hl 1 rfl) ?_
  refine wr (ci := 10) (C := RX10) (T := TX10) (N := 37) hx hb hts inX10 tyX10 tyX10_ok nmX10 hown hK hP hD hS 0 4 rfl rfl (by decide) (hts _ q_fX10_76) rfl rfl rfl (Nat.le_of_ble_eq_true rfl) dX10_wrong_2 (ws2 := (wX10_wrong cI cJ cZ h_o h_o_tape h_o_words h_o_told h_o_isTold h_o_toldWave h_o_isPoint h_o_all h_o_quarter h_o_roots h_o_laidRe h_o_laidIm h_o_byOrder h_o_noted1 h_o_counts h_o_binBy o_tapeSize o_thrown p1 o_faultPlace o_stop o_next o_kind o_which o_at o_pointsRead o_bank o_isImage o_undos o_runRadix o_runOrder o_runNear o_runLimit o_runHalves o_power o_notedMany o_knownTold o_drawn)) rfl (fun H locs hP hD hS => ?_)
  refine lv_aload_n hx hb dX10_wrong_5 rfl (lv_at hl 0 rfl) ?_
  refine lv_aload_n hx hb dX10_wrong_6 rfl (lv_at hl 0 rfl) ?_
  refine rd (ci := 10) (C := RX10) (T := TX10) (N := 37) hx hb hts inX10 hown hK hP 0 10 rfl rfl (by decide) (hts _ q_fX10_79) rfl dX10_wrong_7 ?_
  refine wr (ci := 10) (C := RX10) (T := TX10) (N := 37) hx hb hts inX10 tyX10 tyX10_ok nmX10 hown hK hP hD hS 0 5 rfl rfl (by decide) (hts _ q_fX10_16) rfl rfl rfl (Nat.le_of_ble_eq_true rfl) dX10_wrong_10 (ws2 := (wX10_wrong cI cJ cZ h_o h_o_tape h_o_words h_o_told h_o_isTold h_o_toldWave h_o_isPoint h_o_all h_o_quarter h_o_roots h_o_laidRe h_o_laidIm h_o_byOrder h_o_noted1 h_o_counts h_o_binBy o_tapeSize o_thrown p1 o_at o_stop o_next o_kind o_which o_at o_pointsRead o_bank o_isImage o_undos o_runRadix o_runOrder o_runNear o_runLimit o_runHalves o_power o_notedMany o_knownTold o_drawn)) rfl (fun H locs hP hD hS => ?_)
  refine lv_iconst (v := (0 : Int32)) hx hb dX10_wrong_13 (by decide) ?_
  cases hf
  exact hret _ _ _ _ dX10_wrong_14 rfl hP hD hS
def wX10_wordAt (cI cJ cZ : ClassId) (h_o h_o_tape h_o_words h_o_told h_o_isTold h_o_toldWave h_o_isPoint h_o_all h_o_quarter h_o_roots h_o_laidRe h_o_laidIm h_o_byOrder h_o_noted1 h_o_counts h_o_binBy : Nat) (o_tapeSize : Int32) (o_thrown : Int32) (o_fault : Int32) (o_faultPlace : Int32) (o_stop : Int32) (o_next : Int32) (o_kind : Int32) (o_which : Int32) (o_at : Int32) (o_pointsRead : Int32) (o_bank : Int32) (o_isImage : Int32) (o_undos : Int32) (o_runRadix : Int32) (o_runOrder : Int32) (o_runNear : Int32) (o_runLimit : Int32) (o_runHalves : Int32) (o_power : Int32) (o_notedMany : Int32) (o_knownTold : Int32) (o_drawn : Int64) (o_tape : Nat → Int32) (o_words : Nat → Int32) : va_W := [(h_o, .inr (10, [.ref h_o_tape, .int o_tapeSize, .int o_thrown, .ref h_o_words, .int o_fault, .int o_faultPlace, .int o_stop, .int o_next, .int o_kind, .int o_which, .int o_at, .ref h_o_told, .ref h_o_isTold, .ref h_o_toldWave, .ref h_o_isPoint, .int o_pointsRead, .ref h_o_all, .int o_bank, .int o_isImage, .int o_undos, .int o_runRadix, .int o_runOrder, .int o_runNear, .int o_runLimit, .int o_runHalves, .ref h_o_quarter, .int o_power, .ref h_o_roots, .ref h_o_laidRe, .ref h_o_laidIm, .ref h_o_byOrder, .int o_notedMany, .int o_knownTold, .ref h_o_noted1, .ref h_o_counts, .ref h_o_binBy, .long o_drawn])), (h_o_tape, .inl (cI, 700, .inl o_tape)), (h_o_words, .inl (cI, 52, .inl o_words))]
def fX10_wordAt_104 (o_tape : Nat → Int32) (o_words : Nat → Int32) (k5 : Int32 → Int32 → Int32 → Int32 → Option (Int32)) (v1 : Int32) (v2 : Int32) (v3 : Int32) (v4 : Int32) (v5 : Int32) (v6 : Int32) : Option (Int32) :=
  if v6 = 0 then (
    nm (v4 + (v5 + (1 : Int32))) (fun v4_16 =>
    nm (v3 + (1 : Int32)) (fun v3_17 =>
    k5 v1 v2 v3_17 v4_16))
  ) else (
    some v3
  )
def fX10_wordAt_96 (o_tape : Nat → Int32) (o_words : Nat → Int32) (k5 : Int32 → Int32 → Int32 → Int32 → Option (Int32)) (k57 : Int32 → Int32 → Int32 → Int32 → Int32 → Int32 → Int32 → Option (Int32)) (v1 : Int32) (v2 : Int32) (v3 : Int32) (v4 : Int32) (v5 : Int32) (v7 : Int32) (s0 : Int32) : Option (Int32) :=
  nm (v7 + (1 : Int32)) (fun v7_14 =>
  k57 v1 v2 v3 v4 v5 s0 v7_14)
def fX10_wordAt_57 (o_tape : Nat → Int32) (o_words : Nat → Int32) (k5 : Int32 → Int32 → Int32 → Int32 → Option (Int32)) : Nat → Int32 → Int32 → Int32 → Int32 → Int32 → Int32 → Int32 → Option (Int32)
  | 0, _, _, _, _, _, _, _ => none
  | n + 1, v1, v2, v3, v4, v5, v6, v7 =>
    if v5 ≤ v7 then (
      fX10_wordAt_104 o_tape o_words k5 v1 v2 v3 v4 v5 v6
    ) else (
      if v6 = 0 then (
        fX10_wordAt_104 o_tape o_words k5 v1 v2 v3 v4 v5 v6
      ) else (
        nm (v4 + v7) (fun i_9 =>
        gd (inb i_9 52) (
        nm (v1 + v7) (fun i_11 =>
        gd (inb i_11 700) (
        if (o_words (Int32.toNatClampNeg i_9)) = (o_tape (Int32.toNatClampNeg i_11)) then (
          fX10_wordAt_96 o_tape o_words k5 (fX10_wordAt_57 o_tape o_words k5 n) v1 v2 v3 v4 v5 v7 (1 : Int32)
        ) else (
          fX10_wordAt_96 o_tape o_words k5 (fX10_wordAt_57 o_tape o_words k5 n) v1 v2 v3 v4 v5 v7 (0 : Int32)
        )))))
      )
    )
def fX10_wordAt_52 (o_tape : Nat → Int32) (o_words : Nat → Int32) (k5 : Int32 → Int32 → Int32 → Int32 → Option (Int32)) (v1 : Int32) (v2 : Int32) (v3 : Int32) (v4 : Int32) (v5 : Int32) (s0 : Int32) : Option (Int32) :=
  fX10_wordAt_57 o_tape o_words k5 FU v1 v2 v3 v4 v5 s0 (0 : Int32)
def fX10_wordAt_39 (o_tape : Nat → Int32) (o_words : Nat → Int32) (k5 : Int32 → Int32 → Int32 → Int32 → Option (Int32)) (v1 : Int32) (v2 : Int32) (v3 : Int32) (v4 : Int32) (v5 : Int32) : Option (Int32) :=
  if v5 = (v2 - v1) then (
    fX10_wordAt_52 o_tape o_words k5 v1 v2 v3 v4 v5 (1 : Int32)
  ) else (
    fX10_wordAt_52 o_tape o_words k5 v1 v2 v3 v4 v5 (0 : Int32)
  )
def fX10_wordAt_18 (o_tape : Nat → Int32) (o_words : Nat → Int32) (k5 : Int32 → Int32 → Int32 → Int32 → Option (Int32)) : Nat → Int32 → Int32 → Int32 → Int32 → Int32 → Option (Int32)
  | 0, _, _, _, _, _ => none
  | n + 1, v1, v2, v3, v4, v5 =>
    nm (v4 + v5) (fun i_2 =>
    gd (inb i_2 52) (
    if (o_words (Int32.toNatClampNeg i_2)) = (32 : Int32) then (
      fX10_wordAt_39 o_tape o_words k5 v1 v2 v3 v4 v5
    ) else (
      nm (v5 + (1 : Int32)) (fun v5_5 =>
      fX10_wordAt_18 o_tape o_words k5 n v1 v2 v3 v4 v5_5)
    )))
def fX10_wordAt_5 (o_tape : Nat → Int32) (o_words : Nat → Int32) : Nat → Int32 → Int32 → Int32 → Int32 → Option (Int32)
  | 0, _, _, _, _ => none
  | n + 1, v1, v2, v3, v4 =>
    if (52 : Int32) ≤ v4 then (
      some (-1 : Int32)
    ) else (
      fX10_wordAt_18 o_tape o_words (fX10_wordAt_5 o_tape o_words n) FU v1 v2 v3 v4 (0 : Int32)
    )
def fX10_wordAt (o_tape : Nat → Int32) (o_words : Nat → Int32) (p1 : Int32) (p2 : Int32) : Option (Int32) :=
  fX10_wordAt_5 o_tape o_words FU p1 p2 (0 : Int32) (0 : Int32)
set_option maxHeartbeats 4000000 in
set_option maxRecDepth 100000 in
theorem tX10_wordAt (l : Launch) (G : va_G) (cI cJ cZ : ClassId) (sz : Nat) (h_o h_o_tape h_o_words h_o_told h_o_isTold h_o_toldWave h_o_isPoint h_o_all h_o_quarter h_o_roots h_o_laidRe h_o_laidIm h_o_byOrder h_o_noted1 h_o_counts h_o_binBy : Nat) (o_tapeSize : Int32) (o_thrown : Int32) (o_fault : Int32) (o_faultPlace : Int32) (o_stop : Int32) (o_next : Int32) (o_kind : Int32) (o_which : Int32) (o_at : Int32) (o_pointsRead : Int32) (o_bank : Int32) (o_isImage : Int32) (o_undos : Int32) (o_runRadix : Int32) (o_runOrder : Int32) (o_runNear : Int32) (o_runLimit : Int32) (o_runHalves : Int32) (o_power : Int32) (o_notedMany : Int32) (o_knownTold : Int32) (o_drawn : Int64) (o_tape : Nat → Int32) (o_words : Nat → Int32) (p1 : Int32) (p2 : Int32) (r : Int32) (hf : fX10_wordAt o_tape o_words p1 p2 = some r) : Met l yX10_wordAt (Cond.code yX10_wordAt cX10_wordAt 8 (some .int) :: BIG) ({ frames := 0, cells := 0, slots := 0, locals := 0 } : Room) (cP G (TY3 cI cJ cZ) [.ref h_o, .int p1, .int p2] sz (wX10_wordAt cI cJ cZ h_o h_o_tape h_o_words h_o_told h_o_isTold h_o_toldWave h_o_isPoint h_o_all h_o_quarter h_o_roots h_o_laidRe h_o_laidIm h_o_byOrder h_o_noted1 h_o_counts h_o_binBy o_tapeSize o_thrown o_fault o_faultPlace o_stop o_next o_kind o_which o_at o_pointsRead o_bank o_isImage o_undos o_runRadix o_runOrder o_runNear o_runLimit o_runHalves o_power o_notedMany o_knownTold o_drawn o_tape o_words)) (cQ G (TY3 cI cJ cZ) sz (wX10_wordAt cI cJ cZ h_o h_o_tape h_o_words h_o_told h_o_isTold h_o_toldWave h_o_isPoint h_o_all h_o_quarter h_o_roots h_o_laidRe h_o_laidIm h_o_byOrder h_o_noted1 h_o_counts h_o_binBy o_tapeSize o_thrown o_fault o_faultPlace o_stop o_next o_kind o_which o_at o_pointsRead o_bank o_isImage o_undos o_runRadix o_runOrder o_runNear o_runLimit o_runHalves o_power o_notedMany o_knownTold o_drawn o_tape o_words) (wX10_wordAt cI cJ cZ h_o h_o_tape h_o_words h_o_told h_o_isTold h_o_toldWave h_o_isPoint h_o_all h_o_quarter h_o_roots h_o_laidRe h_o_laidIm h_o_byOrder h_o_noted1 h_o_counts h_o_binBy o_tapeSize o_thrown o_fault o_faultPlace o_stop o_next o_kind o_which o_at o_pointsRead o_bank o_isImage o_undos o_runRadix o_runOrder o_runNear o_runLimit o_runHalves o_power o_notedMany o_knownTold o_drawn o_tape o_words) (some (.int r))) 0 0 (va_A (wX10_wordAt cI cJ cZ h_o h_o_tape h_o_words h_o_told h_o_isTold h_o_toldWave h_o_isPoint h_o_all h_o_quarter h_o_roots h_o_laidRe h_o_laidIm h_o_byOrder h_o_noted1 h_o_counts h_o_binBy o_tapeSize o_thrown o_fault o_faultPlace o_stop o_next o_kind o_which o_at o_pointsRead o_bank o_isImage o_undos o_runRadix o_runOrder o_runNear o_runLimit o_runHalves o_power o_notedMany o_knownTold o_drawn o_tape o_words) sz) := by
  refine met_i (cc := cX10_wordAt) (maxL := 8) (plainFor_of_name (by decide)) (Nat.le_of_ble_eq_true rfl) (fun p e s m below meth c A ls Q hx hb hml hts hown hK hP hD hS hA hl hret => ?_)
  have hown : s.vm.findClass RX10 = some m.cls := hown
  have hl : lv_has ls 8 [(0, .ref h_o), (1, .int p1), (2, .int p2)] := hl
  have j104 : ∀ (k5 : Int32 → Int32 → Int32 → Int32 → Option (Int32)), (∀ (v1 : Int32) (v2 : Int32) (v3 : Int32) (v4 : Int32) (H : Heap) (locs : List Loc) (ls : Array Slot), k5 v1 v2 v3 v4 = some r → va_P G vwCl (wX10_wordAt cI cJ cZ h_o h_o_tape h_o_words h_o_told h_o_isTold h_o_toldWave h_o_isPoint h_o_all h_o_quarter h_o_roots h_o_laidRe h_o_laidIm h_o_byOrder h_o_noted1 h_o_counts h_o_binBy o_tapeSize o_thrown o_fault o_faultPlace o_stop o_next o_kind o_which o_at o_pointsRead o_bank o_isImage o_undos o_runRadix o_runOrder o_runNear o_runLimit o_runHalves o_power o_notedMany o_knownTold o_drawn o_tape o_words) H → va_D A (wX10_wordAt cI cJ cZ h_o h_o_tape h_o_words h_o_told h_o_isTold h_o_toldWave h_o_isPoint h_o_all h_o_quarter h_o_roots h_o_laidRe h_o_laidIm h_o_byOrder h_o_noted1 h_o_counts h_o_binBy o_tapeSize o_thrown o_fault o_faultPlace o_stop o_next o_kind o_which o_at o_pointsRead o_bank o_isImage o_undos o_runRadix o_runOrder o_runNear o_runLimit o_runHalves o_power o_notedMany o_knownTold o_drawn o_tape o_words) → va_S A s.heap H locs → lv_has ls 8 [(0, .ref h_o), (1, .int v1), (2, .int v2), (3, .int v3), (4, .int v4)] → W p l e ({ frames := 0, cells := 0, slots := 0, locals := 0 } : Room) s m ([.ref h_o, .int p1, .int p2] : List Value).toArray below meth c H locs 0 0 Q (F0 m 5 ls [])) → ∀ (v1 : Int32) (v2 : Int32) (v3 : Int32) (v4 : Int32) (v5 : Int32) (v6 : Int32) (H : Heap) (locs : List Loc) (ls : Array Slot), fX10_wordAt_104 o_tape o_words k5 v1 v2 v3 v4 v5 v6 = some r → va_P G vwCl (wX10_wordAt cI cJ cZ h_o h_o_tape h_o_words h_o_told h_o_isTold h_o_toldWave h_o_isPoint h_o_all h_o_quarter h_o_roots h_o_laidRe h_o_laidIm h_o_byOrder h_o_noted1 h_o_counts h_o_binBy o_tapeSize o_thrown o_fault o_faultPlace o_stop o_next o_kind o_which o_at o_pointsRead o_bank o_isImage o_undos o_runRadix o_runOrder o_runNear o_runLimit o_runHalves o_power o_notedMany o_knownTold o_drawn o_tape o_words) H → va_D A (wX10_wordAt cI cJ cZ h_o h_o_tape h_o_words h_o_told h_o_isTold h_o_toldWave h_o_isPoint h_o_all h_o_quarter h_o_roots h_o_laidRe h_o_laidIm h_o_byOrder h_o_noted1 h_o_counts h_o_binBy o_tapeSize o_thrown o_fault o_faultPlace o_stop o_next o_kind o_which o_at o_pointsRead o_bank o_isImage o_undos o_runRadix o_runOrder o_runNear o_runLimit o_runHalves o_power o_notedMany o_knownTold o_drawn o_tape o_words) → va_S A s.heap H locs → lv_has ls 8 [(0, .ref h_o), (1, .int v1), (2, .int v2), (3, .int v3), (4, .int v4), (5, .int v5), (6, .int v6)] → W p l e ({ frames := 0, cells := 0, slots := 0, locals := 0 } : Room) s m ([.ref h_o, .int p1, .int p2] : List Value).toArray below meth c H locs 0 0 Q (F0 m 104 ls []) := by
    intro k5 hk5 v1 v2 v3 v4 v5 v6 H locs ls hf hP hD hS hl
    unfold fX10_wordAt_104 at hf
    refine lv_iload hx hb dX10_wordAt_104 (lv_at hl 6 rfl) ?_
    refine lv_if_eq (tgt := 111) hx hb dX10_wordAt_106 (by decide) (fun c_15 => ?_) (fun c_15 => ?_)
    · have hf := it_t c_15 hf
      refine lv_iload hx hb dX10_wordAt_111 (lv_at hl 4 rfl) ?_
      refine lv_iload hx hb dX10_wordAt_113 (lv_at hl 5 rfl) ?_
      refine lv_iconst (v := (1 : Int32)) hx hb dX10_wordAt_115 (by decide) ?_
      refine lv_iadd hx hb dX10_wordAt_116 ?_
      refine lv_iadd hx hb dX10_wordAt_117 ?_
      refine lv_topi (fun v4_16 ev4_16 => ?_)
      have hf := nm_x ev4_16 hf
      refine lv_istore (lv' := [(4, .int v4_16), (0, .ref h_o), (1, .int v1), (2, .int v2), (3, .int v3), (5, .int v5), (6, .int v6)]) hx hb dX10_wordAt_118 hl (by decide) rfl (fun ls hl => ?_)
      obtain ⟨v3_17, ev3_17⟩ : ∃ y : Int32, y = v3 + (1 : Int32) := ⟨_, rfl⟩
      have hf := nm_x ev3_17 hf
      refine lv_iinc (v := v3_17) (lv' := [(3, .int v3_17), (4, .int v4_16), (0, .ref h_o), (1, .int v1), (2, .int v2), (5, .int v5), (6, .int v6)]) hx hb dX10_wordAt_120 hl (k := 4) rfl (by rw [ev3_17]; rfl) (by decide) rfl (fun ls hl => ?_)
      refine lv_goto (tgt := 5) hx hb dX10_wordAt_123 (by decide) ?_
      exact hk5 v1 v2 v3_17 v4_16 H locs ls hf hP hD hS (lv_sub hl [2, 3, 4, 0, 1] rfl)
    · have hf := it_f c_15 hf
      refine lv_iload_n hx hb dX10_wordAt_109 rfl (lv_at hl 3 rfl) ?_
      cases hf
      exact hret _ _ _ _ dX10_wordAt_110 hP hD hS
  have j96 : ∀ (k5 : Int32 → Int32 → Int32 → Int32 → Option (Int32)), (∀ (v1 : Int32) (v2 : Int32) (v3 : Int32) (v4 : Int32) (H : Heap) (locs : List Loc) (ls : Array Slot), k5 v1 v2 v3 v4 = some r → va_P G vwCl (wX10_wordAt cI cJ cZ h_o h_o_tape h_o_words h_o_told h_o_isTold h_o_toldWave h_o_isPoint h_o_all h_o_quarter h_o_roots h_o_laidRe h_o_laidIm h_o_byOrder h_o_noted1 h_o_counts h_o_binBy o_tapeSize o_thrown o_fault o_faultPlace o_stop o_next o_kind o_which o_at o_pointsRead o_bank o_isImage o_undos o_runRadix o_runOrder o_runNear o_runLimit o_runHalves o_power o_notedMany o_knownTold o_drawn o_tape o_words) H → va_D A (wX10_wordAt cI cJ cZ h_o h_o_tape h_o_words h_o_told h_o_isTold h_o_toldWave h_o_isPoint h_o_all h_o_quarter h_o_roots h_o_laidRe h_o_laidIm h_o_byOrder h_o_noted1 h_o_counts h_o_binBy o_tapeSize o_thrown o_fault o_faultPlace o_stop o_next o_kind o_which o_at o_pointsRead o_bank o_isImage o_undos o_runRadix o_runOrder o_runNear o_runLimit o_runHalves o_power o_notedMany o_knownTold o_drawn o_tape o_words) → va_S A s.heap H locs → lv_has ls 8 [(0, .ref h_o), (1, .int v1), (2, .int v2), (3, .int v3), (4, .int v4)] → W p l e ({ frames := 0, cells := 0, slots := 0, locals := 0 } : Room) s m ([.ref h_o, .int p1, .int p2] : List Value).toArray below meth c H locs 0 0 Q (F0 m 5 ls [])) → ∀ (k57 : Int32 → Int32 → Int32 → Int32 → Int32 → Int32 → Int32 → Option (Int32)), (∀ (v1 : Int32) (v2 : Int32) (v3 : Int32) (v4 : Int32) (v5 : Int32) (v6 : Int32) (v7 : Int32) (H : Heap) (locs : List Loc) (ls : Array Slot), k57 v1 v2 v3 v4 v5 v6 v7 = some r → va_P G vwCl (wX10_wordAt cI cJ cZ h_o h_o_tape h_o_words h_o_told h_o_isTold h_o_toldWave h_o_isPoint h_o_all h_o_quarter h_o_roots h_o_laidRe h_o_laidIm h_o_byOrder h_o_noted1 h_o_counts h_o_binBy o_tapeSize o_thrown o_fault o_faultPlace o_stop o_next o_kind o_which o_at o_pointsRead o_bank o_isImage o_undos o_runRadix o_runOrder o_runNear o_runLimit o_runHalves o_power o_notedMany o_knownTold o_drawn o_tape o_words) H → va_D A (wX10_wordAt cI cJ cZ h_o h_o_tape h_o_words h_o_told h_o_isTold h_o_toldWave h_o_isPoint h_o_all h_o_quarter h_o_roots h_o_laidRe h_o_laidIm h_o_byOrder h_o_noted1 h_o_counts h_o_binBy o_tapeSize o_thrown o_fault o_faultPlace o_stop o_next o_kind o_which o_at o_pointsRead o_bank o_isImage o_undos o_runRadix o_runOrder o_runNear o_runLimit o_runHalves o_power o_notedMany o_knownTold o_drawn o_tape o_words) → va_S A s.heap H locs → lv_has ls 8 [(0, .ref h_o), (1, .int v1), (2, .int v2), (3, .int v3), (4, .int v4), (5, .int v5), (6, .int v6), (7, .int v7)] → W p l e ({ frames := 0, cells := 0, slots := 0, locals := 0 } : Room) s m ([.ref h_o, .int p1, .int p2] : List Value).toArray below meth c H locs 0 0 Q (F0 m 57 ls [])) → ∀ (v1 : Int32) (v2 : Int32) (v3 : Int32) (v4 : Int32) (v5 : Int32) (v7 : Int32) (s0 : Int32) (H : Heap) (locs : List Loc) (ls : Array Slot), fX10_wordAt_96 o_tape o_words k5 k57 v1 v2 v3 v4 v5 v7 s0 = some r → va_P G vwCl (wX10_wordAt cI cJ cZ h_o h_o_tape h_o_words h_o_told h_o_isTold h_o_toldWave h_o_isPoint h_o_all h_o_quarter h_o_roots h_o_laidRe h_o_laidIm h_o_byOrder h_o_noted1 h_o_counts h_o_binBy o_tapeSize o_thrown o_fault o_faultPlace o_stop o_next o_kind o_which o_at o_pointsRead o_bank o_isImage o_undos o_runRadix o_runOrder o_runNear o_runLimit o_runHalves o_power o_notedMany o_knownTold o_drawn o_tape o_words) H → va_D A (wX10_wordAt cI cJ cZ h_o h_o_tape h_o_words h_o_told h_o_isTold h_o_toldWave h_o_isPoint h_o_all h_o_quarter h_o_roots h_o_laidRe h_o_laidIm h_o_byOrder h_o_noted1 h_o_counts h_o_binBy o_tapeSize o_thrown o_fault o_faultPlace o_stop o_next o_kind o_which o_at o_pointsRead o_bank o_isImage o_undos o_runRadix o_runOrder o_runNear o_runLimit o_runHalves o_power o_notedMany o_knownTold o_drawn o_tape o_words) → va_S A s.heap H locs → lv_has ls 8 [(0, .ref h_o), (1, .int v1), (2, .int v2), (3, .int v3), (4, .int v4), (5, .int v5), (7, .int v7)] → W p l e ({ frames := 0, cells := 0, slots := 0, locals := 0 } : Room) s m ([.ref h_o, .int p1, .int p2] : List Value).toArray below meth c H locs 0 0 Q (F0 m 96 ls [.int s0]) := by
    intro k5 hk5 k57 hk57 v1 v2 v3 v4 v5 v7 s0 H locs ls hf hP hD hS hl
    unfold fX10_wordAt_96 at hf
    refine lv_istore (lv' := [(6, .int s0), (0, .ref h_o), (1, .int v1), (2, .int v2), (3, .int v3), (4, .int v4), (5, .int v5), (7, .int v7)]) hx hb dX10_wordAt_96 hl (by decide) rfl (fun ls hl => ?_)
    obtain ⟨v7_14, ev7_14⟩ : ∃ y : Int32, y = v7 + (1 : Int32) := ⟨_, rfl⟩
    have hf := nm_x ev7_14 hf
    refine lv_iinc (v := v7_14) (lv' := [(7, .int v7_14), (6, .int s0), (0, .ref h_o), (1, .int v1), (2, .int v2), (3, .int v3), (4, .int v4), (5, .int v5)]) hx hb dX10_wordAt_98 hl (k := 7) rfl (by rw [ev7_14]; rfl) (by decide) rfl (fun ls hl => ?_)
    refine lv_goto (tgt := 57) hx hb dX10_wordAt_101 (by decide) ?_
    exact hk57 v1 v2 v3 v4 v5 s0 v7_14 H locs ls hf hP hD hS (lv_sub hl [2, 3, 4, 5, 6, 7, 1, 0] rfl)
  have j57 : ∀ (k5 : Int32 → Int32 → Int32 → Int32 → Option (Int32)), (∀ (v1 : Int32) (v2 : Int32) (v3 : Int32) (v4 : Int32) (H : Heap) (locs : List Loc) (ls : Array Slot), k5 v1 v2 v3 v4 = some r → va_P G vwCl (wX10_wordAt cI cJ cZ h_o h_o_tape h_o_words h_o_told h_o_isTold h_o_toldWave h_o_isPoint h_o_all h_o_quarter h_o_roots h_o_laidRe h_o_laidIm h_o_byOrder h_o_noted1 h_o_counts h_o_binBy o_tapeSize o_thrown o_fault o_faultPlace o_stop o_next o_kind o_which o_at o_pointsRead o_bank o_isImage o_undos o_runRadix o_runOrder o_runNear o_runLimit o_runHalves o_power o_notedMany o_knownTold o_drawn o_tape o_words) H → va_D A (wX10_wordAt cI cJ cZ h_o h_o_tape h_o_words h_o_told h_o_isTold h_o_toldWave h_o_isPoint h_o_all h_o_quarter h_o_roots h_o_laidRe h_o_laidIm h_o_byOrder h_o_noted1 h_o_counts h_o_binBy o_tapeSize o_thrown o_fault o_faultPlace o_stop o_next o_kind o_which o_at o_pointsRead o_bank o_isImage o_undos o_runRadix o_runOrder o_runNear o_runLimit o_runHalves o_power o_notedMany o_knownTold o_drawn o_tape o_words) → va_S A s.heap H locs → lv_has ls 8 [(0, .ref h_o), (1, .int v1), (2, .int v2), (3, .int v3), (4, .int v4)] → W p l e ({ frames := 0, cells := 0, slots := 0, locals := 0 } : Room) s m ([.ref h_o, .int p1, .int p2] : List Value).toArray below meth c H locs 0 0 Q (F0 m 5 ls [])) → ∀ (n : Nat) (v1 : Int32) (v2 : Int32) (v3 : Int32) (v4 : Int32) (v5 : Int32) (v6 : Int32) (v7 : Int32) (H : Heap) (locs : List Loc) (ls : Array Slot), fX10_wordAt_57 o_tape o_words k5 n v1 v2 v3 v4 v5 v6 v7 = some r → va_P G vwCl (wX10_wordAt cI cJ cZ h_o h_o_tape h_o_words h_o_told h_o_isTold h_o_toldWave h_o_isPoint h_o_all h_o_quarter h_o_roots h_o_laidRe h_o_laidIm h_o_byOrder h_o_noted1 h_o_counts h_o_binBy o_tapeSize o_thrown o_fault o_faultPlace o_stop o_next o_kind o_which o_at o_pointsRead o_bank o_isImage o_undos o_runRadix o_runOrder o_runNear o_runLimit o_runHalves o_power o_notedMany o_knownTold o_drawn o_tape o_words) H → va_D A (wX10_wordAt cI cJ cZ h_o h_o_tape h_o_words h_o_told h_o_isTold h_o_toldWave h_o_isPoint h_o_all h_o_quarter h_o_roots h_o_laidRe h_o_laidIm h_o_byOrder h_o_noted1 h_o_counts h_o_binBy o_tapeSize o_thrown o_fault o_faultPlace o_stop o_next o_kind o_which o_at o_pointsRead o_bank o_isImage o_undos o_runRadix o_runOrder o_runNear o_runLimit o_runHalves o_power o_notedMany o_knownTold o_drawn o_tape o_words) → va_S A s.heap H locs → lv_has ls 8 [(0, .ref h_o), (1, .int v1), (2, .int v2), (3, .int v3), (4, .int v4), (5, .int v5), (6, .int v6), (7, .int v7)] → W p l e ({ frames := 0, cells := 0, slots := 0, locals := 0 } : Room) s m ([.ref h_o, .int p1, .int p2] : List Value).toArray below meth c H locs 0 0 Q (F0 m 57 ls []) := by
    intro k5 hk5 n
    induction n with
    | zero =>
      intro v1 v2 v3 v4 v5 v6 v7 H locs ls hf
      have hf : (none : Option (Int32)) = some r := hf
      cases hf
    | succ n ih =>
      intro v1 v2 v3 v4 v5 v6 v7 H locs ls hf hP hD hS hl
      rw [fX10_wordAt_57.eq_2] at hf
      refine lv_iload hx hb dX10_wordAt_57 (lv_at hl 7 rfl) ?_
      refine lv_iload hx hb dX10_wordAt_59 (lv_at hl 5 rfl) ?_
      refine lv_icmp_ge (tgt := 104) hx hb dX10_wordAt_61 (by decide) (fun c_7 => ?_) (fun c_7 => ?_)
      · have hf := it_t c_7 hf
        exact j104 k5 hk5 v1 v2 v3 v4 v5 v6 H locs ls hf hP hD hS (lv_sub hl [0, 1, 2, 3, 4, 5, 6] rfl)
      · have hf := it_f c_7 hf
        refine lv_iload hx hb dX10_wordAt_64 (lv_at hl 6 rfl) ?_
        refine lv_if_eq (tgt := 104) hx hb dX10_wordAt_66 (by decide) (fun c_8 => ?_) (fun c_8 => ?_)
        · have hf := it_t c_8 hf
          exact j104 k5 hk5 v1 v2 v3 v4 v5 v6 H locs ls hf hP hD hS (lv_sub hl [0, 1, 2, 3, 4, 5, 6] rfl)
        · have hf := it_f c_8 hf
          refine lv_aload_n hx hb dX10_wordAt_69 rfl (lv_at hl 0 rfl) ?_
          refine rd (ci := 10) (C := RX10) (T := TX10) (N := 37) hx hb hts inX10 hown hK hP 0 3 rfl rfl (by decide) (hts _ q_fX10_13) rfl dX10_wordAt_70 ?_
          refine lv_iload hx hb dX10_wordAt_73 (lv_at hl 4 rfl) ?_
          refine lv_iload hx hb dX10_wordAt_75 (lv_at hl 7 rfl) ?_
          refine lv_iadd hx hb dX10_wordAt_77 ?_
          refine lv_topi (fun i_9 ei_9 => ?_)
          have hf := nm_x ei_9 hf
          obtain ⟨g_10, hf⟩ := gd_x hf
          refine va_iald hx hb hK hP 2 0 rfl rfl (inb_x g_10) dX10_wordAt_78 ?_
          refine lv_aload_n hx hb dX10_wordAt_79 rfl (lv_at hl 0 rfl) ?_
          refine rd (ci := 10) (C := RX10) (T := TX10) (N := 37) hx hb hts inX10 hown hK hP 0 0 rfl rfl (by decide) (hts _ q_fX10_7) rfl dX10_wordAt_80 ?_
          refine lv_iload_n hx hb dX10_wordAt_83 rfl (lv_at hl 1 rfl) ?_
          refine lv_iload hx hb dX10_wordAt_84 (lv_at hl 7 rfl) ?_
          refine lv_iadd hx hb dX10_wordAt_86 ?_
          refine lv_topi (fun i_11 ei_11 => ?_)
          have hf := nm_x ei_11 hf
          obtain ⟨g_12, hf⟩ := gd_x hf
          refine va_iald hx hb hK hP 1 0 rfl rfl (inb_x g_12) dX10_wordAt_87 ?_
          refine lv_icmp_ne (tgt := 95) hx hb dX10_wordAt_88 (by decide) (fun c_13 => ?_) (fun c_13 => ?_)
          · have hf := it_f c_13 hf
            refine lv_iconst (v := (0 : Int32)) hx hb dX10_wordAt_95 (by decide) ?_
            exact j96 k5 hk5 (fX10_wordAt_57 o_tape o_words k5 n) ih v1 v2 v3 v4 v5 v7 (0 : Int32) H locs ls hf hP hD hS (lv_sub hl [0, 1, 2, 3, 4, 5, 7] rfl)
          · have hf := it_t c_13 hf
            refine lv_iconst (v := (1 : Int32)) hx hb dX10_wordAt_91 (by decide) ?_
            refine lv_goto (tgt := 96) hx hb dX10_wordAt_92 (by decide) ?_
            exact j96 k5 hk5 (fX10_wordAt_57 o_tape o_words k5 n) ih v1 v2 v3 v4 v5 v7 (1 : Int32) H locs ls hf hP hD hS (lv_sub hl [0, 1, 2, 3, 4, 5, 7] rfl)
  have j52 : ∀ (k5 : Int32 → Int32 → Int32 → Int32 → Option (Int32)), (∀ (v1 : Int32) (v2 : Int32) (v3 : Int32) (v4 : Int32) (H : Heap) (locs : List Loc) (ls : Array Slot), k5 v1 v2 v3 v4 = some r → va_P G vwCl (wX10_wordAt cI cJ cZ h_o h_o_tape h_o_words h_o_told h_o_isTold h_o_toldWave h_o_isPoint h_o_all h_o_quarter h_o_roots h_o_laidRe h_o_laidIm h_o_byOrder h_o_noted1 h_o_counts h_o_binBy o_tapeSize o_thrown o_fault o_faultPlace o_stop o_next o_kind o_which o_at o_pointsRead o_bank o_isImage o_undos o_runRadix o_runOrder o_runNear o_runLimit o_runHalves o_power o_notedMany o_knownTold o_drawn o_tape o_words) H → va_D A (wX10_wordAt cI cJ cZ h_o h_o_tape h_o_words h_o_told h_o_isTold h_o_toldWave h_o_isPoint h_o_all h_o_quarter h_o_roots h_o_laidRe h_o_laidIm h_o_byOrder h_o_noted1 h_o_counts h_o_binBy o_tapeSize o_thrown o_fault o_faultPlace o_stop o_next o_kind o_which o_at o_pointsRead o_bank o_isImage o_undos o_runRadix o_runOrder o_runNear o_runLimit o_runHalves o_power o_notedMany o_knownTold o_drawn o_tape o_words) → va_S A s.heap H locs → lv_has ls 8 [(0, .ref h_o), (1, .int v1), (2, .int v2), (3, .int v3), (4, .int v4)] → W p l e ({ frames := 0, cells := 0, slots := 0, locals := 0 } : Room) s m ([.ref h_o, .int p1, .int p2] : List Value).toArray below meth c H locs 0 0 Q (F0 m 5 ls [])) → ∀ (v1 : Int32) (v2 : Int32) (v3 : Int32) (v4 : Int32) (v5 : Int32) (s0 : Int32) (H : Heap) (locs : List Loc) (ls : Array Slot), fX10_wordAt_52 o_tape o_words k5 v1 v2 v3 v4 v5 s0 = some r → va_P G vwCl (wX10_wordAt cI cJ cZ h_o h_o_tape h_o_words h_o_told h_o_isTold h_o_toldWave h_o_isPoint h_o_all h_o_quarter h_o_roots h_o_laidRe h_o_laidIm h_o_byOrder h_o_noted1 h_o_counts h_o_binBy o_tapeSize o_thrown o_fault o_faultPlace o_stop o_next o_kind o_which o_at o_pointsRead o_bank o_isImage o_undos o_runRadix o_runOrder o_runNear o_runLimit o_runHalves o_power o_notedMany o_knownTold o_drawn o_tape o_words) H → va_D A (wX10_wordAt cI cJ cZ h_o h_o_tape h_o_words h_o_told h_o_isTold h_o_toldWave h_o_isPoint h_o_all h_o_quarter h_o_roots h_o_laidRe h_o_laidIm h_o_byOrder h_o_noted1 h_o_counts h_o_binBy o_tapeSize o_thrown o_fault o_faultPlace o_stop o_next o_kind o_which o_at o_pointsRead o_bank o_isImage o_undos o_runRadix o_runOrder o_runNear o_runLimit o_runHalves o_power o_notedMany o_knownTold o_drawn o_tape o_words) → va_S A s.heap H locs → lv_has ls 8 [(0, .ref h_o), (1, .int v1), (2, .int v2), (3, .int v3), (4, .int v4), (5, .int v5)] → W p l e ({ frames := 0, cells := 0, slots := 0, locals := 0 } : Room) s m ([.ref h_o, .int p1, .int p2] : List Value).toArray below meth c H locs 0 0 Q (F0 m 52 ls [.int s0]) := by
    intro k5 hk5 v1 v2 v3 v4 v5 s0 H locs ls hf hP hD hS hl
    unfold fX10_wordAt_52 at hf
    refine lv_istore (lv' := [(6, .int s0), (0, .ref h_o), (1, .int v1), (2, .int v2), (3, .int v3), (4, .int v4), (5, .int v5)]) hx hb dX10_wordAt_52 hl (by decide) rfl (fun ls hl => ?_)
    refine lv_iconst (v := (0 : Int32)) hx hb dX10_wordAt_54 (by decide) ?_
    refine lv_istore (lv' := [(7, .int (0 : Int32)), (6, .int s0), (0, .ref h_o), (1, .int v1), (2, .int v2), (3, .int v3), (4, .int v4), (5, .int v5)]) hx hb dX10_wordAt_55 hl (by decide) rfl (fun ls hl => ?_)
    exact j57 k5 hk5 FU v1 v2 v3 v4 v5 s0 (0 : Int32) H locs ls hf hP hD hS (lv_sub hl [2, 3, 4, 5, 6, 7, 1, 0] rfl)
  have j39 : ∀ (k5 : Int32 → Int32 → Int32 → Int32 → Option (Int32)), (∀ (v1 : Int32) (v2 : Int32) (v3 : Int32) (v4 : Int32) (H : Heap) (locs : List Loc) (ls : Array Slot), k5 v1 v2 v3 v4 = some r → va_P G vwCl (wX10_wordAt cI cJ cZ h_o h_o_tape h_o_words h_o_told h_o_isTold h_o_toldWave h_o_isPoint h_o_all h_o_quarter h_o_roots h_o_laidRe h_o_laidIm h_o_byOrder h_o_noted1 h_o_counts h_o_binBy o_tapeSize o_thrown o_fault o_faultPlace o_stop o_next o_kind o_which o_at o_pointsRead o_bank o_isImage o_undos o_runRadix o_runOrder o_runNear o_runLimit o_runHalves o_power o_notedMany o_knownTold o_drawn o_tape o_words) H → va_D A (wX10_wordAt cI cJ cZ h_o h_o_tape h_o_words h_o_told h_o_isTold h_o_toldWave h_o_isPoint h_o_all h_o_quarter h_o_roots h_o_laidRe h_o_laidIm h_o_byOrder h_o_noted1 h_o_counts h_o_binBy o_tapeSize o_thrown o_fault o_faultPlace o_stop o_next o_kind o_which o_at o_pointsRead o_bank o_isImage o_undos o_runRadix o_runOrder o_runNear o_runLimit o_runHalves o_power o_notedMany o_knownTold o_drawn o_tape o_words) → va_S A s.heap H locs → lv_has ls 8 [(0, .ref h_o), (1, .int v1), (2, .int v2), (3, .int v3), (4, .int v4)] → W p l e ({ frames := 0, cells := 0, slots := 0, locals := 0 } : Room) s m ([.ref h_o, .int p1, .int p2] : List Value).toArray below meth c H locs 0 0 Q (F0 m 5 ls [])) → ∀ (v1 : Int32) (v2 : Int32) (v3 : Int32) (v4 : Int32) (v5 : Int32) (H : Heap) (locs : List Loc) (ls : Array Slot), fX10_wordAt_39 o_tape o_words k5 v1 v2 v3 v4 v5 = some r → va_P G vwCl (wX10_wordAt cI cJ cZ h_o h_o_tape h_o_words h_o_told h_o_isTold h_o_toldWave h_o_isPoint h_o_all h_o_quarter h_o_roots h_o_laidRe h_o_laidIm h_o_byOrder h_o_noted1 h_o_counts h_o_binBy o_tapeSize o_thrown o_fault o_faultPlace o_stop o_next o_kind o_which o_at o_pointsRead o_bank o_isImage o_undos o_runRadix o_runOrder o_runNear o_runLimit o_runHalves o_power o_notedMany o_knownTold o_drawn o_tape o_words) H → va_D A (wX10_wordAt cI cJ cZ h_o h_o_tape h_o_words h_o_told h_o_isTold h_o_toldWave h_o_isPoint h_o_all h_o_quarter h_o_roots h_o_laidRe h_o_laidIm h_o_byOrder h_o_noted1 h_o_counts h_o_binBy o_tapeSize o_thrown o_fault o_faultPlace o_stop o_next o_kind o_which o_at o_pointsRead o_bank o_isImage o_undos o_runRadix o_runOrder o_runNear o_runLimit o_runHalves o_power o_notedMany o_knownTold o_drawn o_tape o_words) → va_S A s.heap H locs → lv_has ls 8 [(0, .ref h_o), (1, .int v1), (2, .int v2), (3, .int v3), (4, .int v4), (5, .int v5)] → W p l e ({ frames := 0, cells := 0, slots := 0, locals := 0 } : Room) s m ([.ref h_o, .int p1, .int p2] : List Value).toArray below meth c H locs 0 0 Q (F0 m 39 ls []) := by
    intro k5 hk5 v1 v2 v3 v4 v5 H locs ls hf hP hD hS hl
    unfold fX10_wordAt_39 at hf
    refine lv_iload hx hb dX10_wordAt_39 (lv_at hl 5 rfl) ?_
    refine lv_iload_n hx hb dX10_wordAt_41 rfl (lv_at hl 2 rfl) ?_
    refine lv_iload_n hx hb dX10_wordAt_42 rfl (lv_at hl 1 rfl) ?_
    refine lv_isub hx hb dX10_wordAt_43 ?_
    refine lv_icmp_ne (tgt := 51) hx hb dX10_wordAt_44 (by decide) (fun c_6 => ?_) (fun c_6 => ?_)
    · have hf := it_f c_6 hf
      refine lv_iconst (v := (0 : Int32)) hx hb dX10_wordAt_51 (by decide) ?_
      exact j52 k5 hk5 v1 v2 v3 v4 v5 (0 : Int32) H locs ls hf hP hD hS (lv_sub hl [0, 1, 2, 3, 4, 5] rfl)
    · have hf := it_t c_6 hf
      refine lv_iconst (v := (1 : Int32)) hx hb dX10_wordAt_47 (by decide) ?_
      refine lv_goto (tgt := 52) hx hb dX10_wordAt_48 (by decide) ?_
      exact j52 k5 hk5 v1 v2 v3 v4 v5 (1 : Int32) H locs ls hf hP hD hS (lv_sub hl [0, 1, 2, 3, 4, 5] rfl)
  have j18 : ∀ (k5 : Int32 → Int32 → Int32 → Int32 → Option (Int32)), (∀ (v1 : Int32) (v2 : Int32) (v3 : Int32) (v4 : Int32) (H : Heap) (locs : List Loc) (ls : Array Slot), k5 v1 v2 v3 v4 = some r → va_P G vwCl (wX10_wordAt cI cJ cZ h_o h_o_tape h_o_words h_o_told h_o_isTold h_o_toldWave h_o_isPoint h_o_all h_o_quarter h_o_roots h_o_laidRe h_o_laidIm h_o_byOrder h_o_noted1 h_o_counts h_o_binBy o_tapeSize o_thrown o_fault o_faultPlace o_stop o_next o_kind o_which o_at o_pointsRead o_bank o_isImage o_undos o_runRadix o_runOrder o_runNear o_runLimit o_runHalves o_power o_notedMany o_knownTold o_drawn o_tape o_words) H → va_D A (wX10_wordAt cI cJ cZ h_o h_o_tape h_o_words h_o_told h_o_isTold h_o_toldWave h_o_isPoint h_o_all h_o_quarter h_o_roots h_o_laidRe h_o_laidIm h_o_byOrder h_o_noted1 h_o_counts h_o_binBy o_tapeSize o_thrown o_fault o_faultPlace o_stop o_next o_kind o_which o_at o_pointsRead o_bank o_isImage o_undos o_runRadix o_runOrder o_runNear o_runLimit o_runHalves o_power o_notedMany o_knownTold o_drawn o_tape o_words) → va_S A s.heap H locs → lv_has ls 8 [(0, .ref h_o), (1, .int v1), (2, .int v2), (3, .int v3), (4, .int v4)] → W p l e ({ frames := 0, cells := 0, slots := 0, locals := 0 } : Room) s m ([.ref h_o, .int p1, .int p2] : List Value).toArray below meth c H locs 0 0 Q (F0 m 5 ls [])) → ∀ (n : Nat) (v1 : Int32) (v2 : Int32) (v3 : Int32) (v4 : Int32) (v5 : Int32) (H : Heap) (locs : List Loc) (ls : Array Slot), fX10_wordAt_18 o_tape o_words k5 n v1 v2 v3 v4 v5 = some r → va_P G vwCl (wX10_wordAt cI cJ cZ h_o h_o_tape h_o_words h_o_told h_o_isTold h_o_toldWave h_o_isPoint h_o_all h_o_quarter h_o_roots h_o_laidRe h_o_laidIm h_o_byOrder h_o_noted1 h_o_counts h_o_binBy o_tapeSize o_thrown o_fault o_faultPlace o_stop o_next o_kind o_which o_at o_pointsRead o_bank o_isImage o_undos o_runRadix o_runOrder o_runNear o_runLimit o_runHalves o_power o_notedMany o_knownTold o_drawn o_tape o_words) H → va_D A (wX10_wordAt cI cJ cZ h_o h_o_tape h_o_words h_o_told h_o_isTold h_o_toldWave h_o_isPoint h_o_all h_o_quarter h_o_roots h_o_laidRe h_o_laidIm h_o_byOrder h_o_noted1 h_o_counts h_o_binBy o_tapeSize o_thrown o_fault o_faultPlace o_stop o_next o_kind o_which o_at o_pointsRead o_bank o_isImage o_undos o_runRadix o_runOrder o_runNear o_runLimit o_runHalves o_power o_notedMany o_knownTold o_drawn o_tape o_words) → va_S A s.heap H locs → lv_has ls 8 [(0, .ref h_o), (1, .int v1), (2, .int v2), (3, .int v3), (4, .int v4), (5, .int v5)] → W p l e ({ frames := 0, cells := 0, slots := 0, locals := 0 } : Room) s m ([.ref h_o, .int p1, .int p2] : List Value).toArray below meth c H locs 0 0 Q (F0 m 18 ls []) := by
    intro k5 hk5 n
    induction n with
    | zero =>
      intro v1 v2 v3 v4 v5 H locs ls hf
      have hf : (none : Option (Int32)) = some r := hf
      cases hf
    | succ n ih =>
      intro v1 v2 v3 v4 v5 H locs ls hf hP hD hS hl
      rw [fX10_wordAt_18.eq_2] at hf
      refine lv_aload_n hx hb dX10_wordAt_18 rfl (lv_at hl 0 rfl) ?_
      refine rd (ci := 10) (C := RX10) (T := TX10) (N := 37) hx hb hts inX10 hown hK hP 0 3 rfl rfl (by decide) (hts _ q_fX10_13) rfl dX10_wordAt_19 ?_
      refine lv_iload hx hb dX10_wordAt_22 (lv_at hl 4 rfl) ?_
      refine lv_iload hx hb dX10_wordAt_24 (lv_at hl 5 rfl) ?_
      refine lv_iadd hx hb dX10_wordAt_26 ?_
      refine lv_topi (fun i_2 ei_2 => ?_)
      have hf := nm_x ei_2 hf
      obtain ⟨g_3, hf⟩ := gd_x hf
      refine va_iald hx hb hK hP 2 0 rfl rfl (inb_x g_3) dX10_wordAt_27 ?_
      refine lv_bipush (v := (32 : Int32)) hx hb dX10_wordAt_28 (by decide) ?_
      refine lv_icmp_eq (tgt := 39) hx hb dX10_wordAt_30 (by decide) (fun c_4 => ?_) (fun c_4 => ?_)
      · have hf := it_t c_4 hf
        exact j39 k5 hk5 v1 v2 v3 v4 v5 H locs ls hf hP hD hS (lv_sub hl [0, 1, 2, 3, 4, 5] rfl)
      · have hf := it_f c_4 hf
        obtain ⟨v5_5, ev5_5⟩ : ∃ y : Int32, y = v5 + (1 : Int32) := ⟨_, rfl⟩
        have hf := nm_x ev5_5 hf
        refine lv_iinc (v := v5_5) (lv' := [(5, .int v5_5), (0, .ref h_o), (1, .int v1), (2, .int v2), (3, .int v3), (4, .int v4)]) hx hb dX10_wordAt_33 hl (k := 5) rfl (by rw [ev5_5]; rfl) (by decide) rfl (fun ls hl => ?_)
        refine lv_goto (tgt := 18) hx hb dX10_wordAt_36 (by decide) ?_
        exact ih v1 v2 v3 v4 v5_5 H locs ls hf hP hD hS (lv_sub hl [1, 2, 3, 4, 5, 0] rfl)
  have j5 : ∀ (n : Nat) (v1 : Int32) (v2 : Int32) (v3 : Int32) (v4 : Int32) (H : Heap) (locs : List Loc) (ls : Array Slot), fX10_wordAt_5 o_tape o_words n v1 v2 v3 v4 = some r → va_P G vwCl (wX10_wordAt cI cJ cZ h_o h_o_tape h_o_words h_o_told h_o_isTold h_o_toldWave h_o_isPoint h_o_all h_o_quarter h_o_roots h_o_laidRe h_o_laidIm h_o_byOrder h_o_noted1 h_o_counts h_o_binBy o_tapeSize o_thrown o_fault o_faultPlace o_stop o_next o_kind o_which o_at o_pointsRead o_bank o_isImage o_undos o_runRadix o_runOrder o_runNear o_runLimit o_runHalves o_power o_notedMany o_knownTold o_drawn o_tape o_words) H → va_D A (wX10_wordAt cI cJ cZ h_o h_o_tape h_o_words h_o_told h_o_isTold h_o_toldWave h_o_isPoint h_o_all h_o_quarter h_o_roots h_o_laidRe h_o_laidIm h_o_byOrder h_o_noted1 h_o_counts h_o_binBy o_tapeSize o_thrown o_fault o_faultPlace o_stop o_next o_kind o_which o_at o_pointsRead o_bank o_isImage o_undos o_runRadix o_runOrder o_runNear o_runLimit o_runHalves o_power o_notedMany o_knownTold o_drawn o_tape o_words) → va_S A s.heap H locs → lv_has ls 8 [(0, .ref h_o), (1, .int v1), (2, .int v2), (3, .int v3), (4, .int v4)] → W p l e ({ frames := 0, cells := 0, slots := 0, locals := 0 } : Room) s m ([.ref h_o, .int p1, .int p2] : List Value).toArray below meth c H locs 0 0 Q (F0 m 5 ls []) := by
    intro n
    induction n with
    | zero =>
      intro v1 v2 v3 v4 H locs ls hf
      have hf : (none : Option (Int32)) = some r := hf
      cases hf
    | succ n ih =>
      intro v1 v2 v3 v4 H locs ls hf hP hD hS hl
      rw [fX10_wordAt_5.eq_2] at hf
      refine lv_iload hx hb dX10_wordAt_5 (lv_at hl 4 rfl) ?_
      refine lv_aload_n hx hb dX10_wordAt_7 rfl (lv_at hl 0 rfl) ?_
      refine rd (ci := 10) (C := RX10) (T := TX10) (N := 37) hx hb hts inX10 hown hK hP 0 3 rfl rfl (by decide) (hts _ q_fX10_13) rfl dX10_wordAt_8 ?_
      refine va_alen hx hb hK hP 2 0 rfl rfl rfl dX10_wordAt_11 ?_
      refine W.eq (g2 := F0 m 12 ls [.int (52 : Int32), .int v4]) rfl ?_
      refine lv_icmp_ge (tgt := 126) hx hb dX10_wordAt_12 (by decide) (fun c_1 => ?_) (fun c_1 => ?_)
      · have hf := it_t c_1 hf
        refine lv_iconst (v := (-1 : Int32)) hx hb dX10_wordAt_126 (by decide) ?_
        cases hf
        exact hret _ _ _ _ dX10_wordAt_127 hP hD hS
      · have hf := it_f c_1 hf
        refine lv_iconst (v := (0 : Int32)) hx hb dX10_wordAt_15 (by decide) ?_
        refine lv_istore (lv' := [(5, .int (0 : Int32)), (0, .ref h_o), (1, .int v1), (2, .int v2), (3, .int v3), (4, .int v4)]) hx hb dX10_wordAt_16 hl (by decide) rfl (fun ls hl => ?_)
        exact j18 (fX10_wordAt_5 o_tape o_words n) ih FU v1 v2 v3 v4 (0 : Int32) H locs ls hf hP hD hS (lv_sub hl [1, 2, 3, 4, 5, 0] rfl)
  unfold fX10_wordAt at hf
  obtain ⟨H, eH⟩ : ∃ H, H = s.heap := ⟨_, rfl⟩
  obtain ⟨locs, elocs⟩ : ∃ z : List Loc, z = [] := ⟨_, rfl⟩
  have hP : va_P G vwCl (wX10_wordAt cI cJ cZ h_o h_o_tape h_o_words h_o_told h_o_isTold h_o_toldWave h_o_isPoint h_o_all h_o_quarter h_o_roots h_o_laidRe h_o_laidIm h_o_byOrder h_o_noted1 h_o_counts h_o_binBy o_tapeSize o_thrown o_fault o_faultPlace o_stop o_next o_kind o_which o_at o_pointsRead o_bank o_isImage o_undos o_runRadix o_runOrder o_runNear o_runLimit o_runHalves o_power o_notedMany o_knownTold o_drawn o_tape o_words) H := by rw [eH]; exact hP
  have hS : va_S A s.heap H locs := by rw [eH, elocs]; exact hS
  suffices hgo : W p l e ({ frames := 0, cells := 0, slots := 0, locals := 0 } : Room) s m ([.ref h_o, .int p1, .int p2] : List Value).toArray below meth c H locs 0 0 Q (F0 m 0 ls []) by rw [eH, elocs] at hgo; exact hgo
  clear eH elocs
  refine lv_iconst (v := (0 : Int32)) hx hb dX10_wordAt_0 (by decide) ?_
  refine lv_istore_n (lv' := [(3, .int (0 : Int32)), (0, .ref h_o), (1, .int p1), (2, .int p2)]) hx hb dX10_wordAt_1 rfl hl (by decide) rfl (fun ls hl => ?_)
  refine lv_iconst (v := (0 : Int32)) hx hb dX10_wordAt_2 (by decide) ?_
  refine lv_istore (lv' := [(4, .int (0 : Int32)), (3, .int (0 : Int32)), (0, .ref h_o), (1, .int p1), (2, .int p2)]) hx hb dX10_wordAt_3 hl (by decide) rfl (fun ls hl => ?_)
  exact j5 FU p1 p2 (0 : Int32) (0 : Int32) H locs ls hf hP hD hS (lv_sub hl [2, 3, 4, 1, 0] rfl)
def wX10_isSmall (cI cJ cZ : ClassId) (h_o h_o_tape h_o_words h_o_told h_o_isTold h_o_toldWave h_o_isPoint h_o_all h_o_quarter h_o_roots h_o_laidRe h_o_laidIm h_o_byOrder h_o_noted1 h_o_counts h_o_binBy : Nat) (o_tapeSize : Int32) (o_thrown : Int32) (o_fault : Int32) (o_faultPlace : Int32) (o_stop : Int32) (o_next : Int32) (o_kind : Int32) (o_which : Int32) (o_at : Int32) (o_pointsRead : Int32) (o_bank : Int32) (o_isImage : Int32) (o_undos : Int32) (o_runRadix : Int32) (o_runOrder : Int32) (o_runNear : Int32) (o_runLimit : Int32) (o_runHalves : Int32) (o_power : Int32) (o_notedMany : Int32) (o_knownTold : Int32) (o_drawn : Int64) (o_tape : Nat → Int32) : va_W := [(h_o, .inr (10, [.ref h_o_tape, .int o_tapeSize, .int o_thrown, .ref h_o_words, .int o_fault, .int o_faultPlace, .int o_stop, .int o_next, .int o_kind, .int o_which, .int o_at, .ref h_o_told, .ref h_o_isTold, .ref h_o_toldWave, .ref h_o_isPoint, .int o_pointsRead, .ref h_o_all, .int o_bank, .int o_isImage, .int o_undos, .int o_runRadix, .int o_runOrder, .int o_runNear, .int o_runLimit, .int o_runHalves, .ref h_o_quarter, .int o_power, .ref h_o_roots, .ref h_o_laidRe, .ref h_o_laidIm, .ref h_o_byOrder, .int o_notedMany, .int o_knownTold, .ref h_o_noted1, .ref h_o_counts, .ref h_o_binBy, .long o_drawn])), (h_o_tape, .inl (cI, 700, .inl o_tape))]
def fX10_isSmall (o_stop : Int32) (o_tape : Nat → Int32) (p1 : Int32) : Option (Int32) :=
  if o_stop ≤ p1 then (
    some (0 : Int32)
  ) else (
    gd (inb p1 700) (
    if (o_tape (Int32.toNatClampNeg p1)) < (97 : Int32) then (
      some (0 : Int32)
    ) else (
      gd (inb p1 700) (
      if (122 : Int32) < (o_tape (Int32.toNatClampNeg p1)) then (
        some (0 : Int32)
      ) else (
        some (1 : Int32)
      ))
    ))
  )
set_option maxHeartbeats 4000000 in
set_option maxRecDepth 100000 in
theorem tX10_isSmall (l : Launch) (G : va_G) (cI cJ cZ : ClassId) (sz : Nat) (h_o h_o_tape h_o_words h_o_told h_o_isTold h_o_toldWave h_o_isPoint h_o_all h_o_quarter h_o_roots h_o_laidRe h_o_laidIm h_o_byOrder h_o_noted1 h_o_counts h_o_binBy : Nat) (o_tapeSize : Int32) (o_thrown : Int32) (o_fault : Int32) (o_faultPlace : Int32) (o_stop : Int32) (o_next : Int32) (o_kind : Int32) (o_which : Int32) (o_at : Int32) (o_pointsRead : Int32) (o_bank : Int32) (o_isImage : Int32) (o_undos : Int32) (o_runRadix : Int32) (o_runOrder : Int32) (o_runNear : Int32) (o_runLimit : Int32) (o_runHalves : Int32) (o_power : Int32) (o_notedMany : Int32) (o_knownTold : Int32) (o_drawn : Int64) (o_tape : Nat → Int32) (p1 : Int32) (r : Int32) (hf : fX10_isSmall o_stop o_tape p1 = some r) : Met l yX10_isSmall (Cond.code yX10_isSmall cX10_isSmall 2 (some .boolean) :: BIG) ({ frames := 0, cells := 0, slots := 0, locals := 0 } : Room) (cP G (TY3 cI cJ cZ) [.ref h_o, .int p1] sz (wX10_isSmall cI cJ cZ h_o h_o_tape h_o_words h_o_told h_o_isTold h_o_toldWave h_o_isPoint h_o_all h_o_quarter h_o_roots h_o_laidRe h_o_laidIm h_o_byOrder h_o_noted1 h_o_counts h_o_binBy o_tapeSize o_thrown o_fault o_faultPlace o_stop o_next o_kind o_which o_at o_pointsRead o_bank o_isImage o_undos o_runRadix o_runOrder o_runNear o_runLimit o_runHalves o_power o_notedMany o_knownTold o_drawn o_tape)) (cQ G (TY3 cI cJ cZ) sz (wX10_isSmall cI cJ cZ h_o h_o_tape h_o_words h_o_told h_o_isTold h_o_toldWave h_o_isPoint h_o_all h_o_quarter h_o_roots h_o_laidRe h_o_laidIm h_o_byOrder h_o_noted1 h_o_counts h_o_binBy o_tapeSize o_thrown o_fault o_faultPlace o_stop o_next o_kind o_which o_at o_pointsRead o_bank o_isImage o_undos o_runRadix o_runOrder o_runNear o_runLimit o_runHalves o_power o_notedMany o_knownTold o_drawn o_tape) (wX10_isSmall cI cJ cZ h_o h_o_tape h_o_words h_o_told h_o_isTold h_o_toldWave h_o_isPoint h_o_all h_o_quarter h_o_roots h_o_laidRe h_o_laidIm h_o_byOrder h_o_noted1 h_o_counts h_o_binBy o_tapeSize o_thrown o_fault o_faultPlace o_stop o_next o_kind o_which o_at o_pointsRead o_bank o_isImage o_undos o_runRadix o_runOrder o_runNear o_runLimit o_runHalves o_power o_notedMany o_knownTold o_drawn o_tape) (some (.int r))) 0 0 (va_A (wX10_isSmall cI cJ cZ h_o h_o_tape h_o_words h_o_told h_o_isTold h_o_toldWave h_o_isPoint h_o_all h_o_quarter h_o_roots h_o_laidRe h_o_laidIm h_o_byOrder h_o_noted1 h_o_counts h_o_binBy o_tapeSize o_thrown o_fault o_faultPlace o_stop o_next o_kind o_which o_at o_pointsRead o_bank o_isImage o_undos o_runRadix o_runOrder o_runNear o_runLimit o_runHalves o_power o_notedMany o_knownTold o_drawn o_tape) sz) := by
  refine met_z (cc := cX10_isSmall) (maxL := 2) (plainFor_of_name (by decide)) (Nat.le_of_ble_eq_true rfl) (fun p e s m below meth c A ls Q hx hb hml hts hown hK hP hD hS hA hl hret => ?_)
  have hown : s.vm.findClass RX10 = some m.cls := hown
  have hl : lv_has ls 2 [(0, .ref h_o), (1, .int p1)] := hl
  unfold fX10_isSmall at hf
  obtain ⟨H, eH⟩ : ∃ H, H = s.heap := ⟨_, rfl⟩
  obtain ⟨locs, elocs⟩ : ∃ z : List Loc, z = [] := ⟨_, rfl⟩
  have hP : va_P G vwCl (wX10_isSmall cI cJ cZ h_o h_o_tape h_o_words h_o_told h_o_isTold h_o_toldWave h_o_isPoint h_o_all h_o_quarter h_o_roots h_o_laidRe h_o_laidIm h_o_byOrder h_o_noted1 h_o_counts h_o_binBy o_tapeSize o_thrown o_fault o_faultPlace o_stop o_next o_kind o_which o_at o_pointsRead o_bank o_isImage o_undos o_runRadix o_runOrder o_runNear o_runLimit o_runHalves o_power o_notedMany o_knownTold o_drawn o_tape) H := by rw [eH]; exact hP
  have hS : va_S A s.heap H locs := by rw [eH, elocs]; exact hS
  suffices hgo : W p l e ({ frames := 0, cells := 0, slots := 0, locals := 0 } : Room) s m ([.ref h_o, .int p1] : List Value).toArray below meth c H locs 0 0 Q (F0 m 0 ls []) by rw [eH, elocs] at hgo; exact hgo
  clear eH elocs
  refine lv_iload_n hx hb dX10_isSmall_0 rfl (lv_at hl 1 rfl) ?_
  refine lv_aload_n hx hb dX10_isSmall_1 rfl (lv_at hl 0 rfl) ?_
  refine rd (ci := 10) (C := RX10) (T := TX10) (N := 37) hx hb hts inX10 hown hK hP 0 6 rfl rfl (by decide) (hts _ q_fX10_82) rfl dX10_isSmall_2 ?_
  refine lv_icmp_ge (tgt := 34) hx hb dX10_isSmall_5 (by decide) (fun c_1 => ?_) (fun c_1 => ?_)
  · have hf := it_t c_1 hf
    refine lv_iconst (v := (0 : Int32)) hx hb dX10_isSmall_34 (by decide) ?_
    cases hf
    exact hret _ _ _ _ dX10_isSmall_35 rfl hP hD hS
  · have hf := it_f c_1 hf
    refine lv_aload_n hx hb dX10_isSmall_8 rfl (lv_at hl 0 rfl) ?_
    refine rd (ci := 10) (C := RX10) (T := TX10) (N := 37) hx hb hts inX10 hown hK hP 0 0 rfl rfl (by decide) (hts _ q_fX10_7) rfl dX10_isSmall_9 ?_
    refine lv_iload_n hx hb dX10_isSmall_12 rfl (lv_at hl 1 rfl) ?_
    obtain ⟨g_2, hf⟩ := gd_x hf
    refine va_iald hx hb hK hP 1 0 rfl rfl (inb_x g_2) dX10_isSmall_13 ?_
    refine lv_bipush (v := (97 : Int32)) hx hb dX10_isSmall_14 (by decide) ?_
    refine lv_icmp_lt (tgt := 34) hx hb dX10_isSmall_16 (by decide) (fun c_3 => ?_) (fun c_3 => ?_)
    · have hf := it_t c_3 hf
      refine lv_iconst (v := (0 : Int32)) hx hb dX10_isSmall_34 (by decide) ?_
      cases hf
      exact hret _ _ _ _ dX10_isSmall_35 rfl hP hD hS
    · have hf := it_f c_3 hf
      refine lv_aload_n hx hb dX10_isSmall_19 rfl (lv_at hl 0 rfl) ?_
      refine rd (ci := 10) (C := RX10) (T := TX10) (N := 37) hx hb hts inX10 hown hK hP 0 0 rfl rfl (by decide) (hts _ q_fX10_7) rfl dX10_isSmall_20 ?_
      refine lv_iload_n hx hb dX10_isSmall_23 rfl (lv_at hl 1 rfl) ?_
      obtain ⟨g_4, hf⟩ := gd_x hf
      refine va_iald hx hb hK hP 1 0 rfl rfl (inb_x g_4) dX10_isSmall_24 ?_
      refine lv_bipush (v := (122 : Int32)) hx hb dX10_isSmall_25 (by decide) ?_
      refine lv_icmp_gt (tgt := 34) hx hb dX10_isSmall_27 (by decide) (fun c_5 => ?_) (fun c_5 => ?_)
      · have hf := it_t c_5 hf
        refine lv_iconst (v := (0 : Int32)) hx hb dX10_isSmall_34 (by decide) ?_
        cases hf
        exact hret _ _ _ _ dX10_isSmall_35 rfl hP hD hS
      · have hf := it_f c_5 hf
        refine lv_iconst (v := (1 : Int32)) hx hb dX10_isSmall_30 (by decide) ?_
        refine lv_goto (tgt := 35) hx hb dX10_isSmall_31 (by decide) ?_
        cases hf
        exact hret _ _ _ _ dX10_isSmall_35 rfl hP hD hS
def wX10_isDigit (cI cJ cZ : ClassId) (h_o h_o_tape h_o_words h_o_told h_o_isTold h_o_toldWave h_o_isPoint h_o_all h_o_quarter h_o_roots h_o_laidRe h_o_laidIm h_o_byOrder h_o_noted1 h_o_counts h_o_binBy : Nat) (o_tapeSize : Int32) (o_thrown : Int32) (o_fault : Int32) (o_faultPlace : Int32) (o_stop : Int32) (o_next : Int32) (o_kind : Int32) (o_which : Int32) (o_at : Int32) (o_pointsRead : Int32) (o_bank : Int32) (o_isImage : Int32) (o_undos : Int32) (o_runRadix : Int32) (o_runOrder : Int32) (o_runNear : Int32) (o_runLimit : Int32) (o_runHalves : Int32) (o_power : Int32) (o_notedMany : Int32) (o_knownTold : Int32) (o_drawn : Int64) (o_tape : Nat → Int32) : va_W := [(h_o, .inr (10, [.ref h_o_tape, .int o_tapeSize, .int o_thrown, .ref h_o_words, .int o_fault, .int o_faultPlace, .int o_stop, .int o_next, .int o_kind, .int o_which, .int o_at, .ref h_o_told, .ref h_o_isTold, .ref h_o_toldWave, .ref h_o_isPoint, .int o_pointsRead, .ref h_o_all, .int o_bank, .int o_isImage, .int o_undos, .int o_runRadix, .int o_runOrder, .int o_runNear, .int o_runLimit, .int o_runHalves, .ref h_o_quarter, .int o_power, .ref h_o_roots, .ref h_o_laidRe, .ref h_o_laidIm, .ref h_o_byOrder, .int o_notedMany, .int o_knownTold, .ref h_o_noted1, .ref h_o_counts, .ref h_o_binBy, .long o_drawn])), (h_o_tape, .inl (cI, 700, .inl o_tape))]
def fX10_isDigit (o_stop : Int32) (o_tape : Nat → Int32) (p1 : Int32) : Option (Int32) :=
  if o_stop ≤ p1 then (
    some (0 : Int32)
  ) else (
    gd (inb p1 700) (
    if (o_tape (Int32.toNatClampNeg p1)) < (48 : Int32) then (
      some (0 : Int32)
    ) else (
      gd (inb p1 700) (
      if (57 : Int32) < (o_tape (Int32.toNatClampNeg p1)) then (
        some (0 : Int32)
      ) else (
        some (1 : Int32)
      ))
    ))
  )
set_option maxHeartbeats 4000000 in
set_option maxRecDepth 100000 in
theorem tX10_isDigit (l : Launch) (G : va_G) (cI cJ cZ : ClassId) (sz : Nat) (h_o h_o_tape h_o_words h_o_told h_o_isTold h_o_toldWave h_o_isPoint h_o_all h_o_quarter h_o_roots h_o_laidRe h_o_laidIm h_o_byOrder h_o_noted1 h_o_counts h_o_binBy : Nat) (o_tapeSize : Int32) (o_thrown : Int32) (o_fault : Int32) (o_faultPlace : Int32) (o_stop : Int32) (o_next : Int32) (o_kind : Int32) (o_which : Int32) (o_at : Int32) (o_pointsRead : Int32) (o_bank : Int32) (o_isImage : Int32) (o_undos : Int32) (o_runRadix : Int32) (o_runOrder : Int32) (o_runNear : Int32) (o_runLimit : Int32) (o_runHalves : Int32) (o_power : Int32) (o_notedMany : Int32) (o_knownTold : Int32) (o_drawn : Int64) (o_tape : Nat → Int32) (p1 : Int32) (r : Int32) (hf : fX10_isDigit o_stop o_tape p1 = some r) : Met l yX10_isDigit (Cond.code yX10_isDigit cX10_isDigit 2 (some .boolean) :: BIG) ({ frames := 0, cells := 0, slots := 0, locals := 0 } : Room) (cP G (TY3 cI cJ cZ) [.ref h_o, .int p1] sz (wX10_isDigit cI cJ cZ h_o h_o_tape h_o_words h_o_told h_o_isTold h_o_toldWave h_o_isPoint h_o_all h_o_quarter h_o_roots h_o_laidRe h_o_laidIm h_o_byOrder h_o_noted1 h_o_counts h_o_binBy o_tapeSize o_thrown o_fault o_faultPlace o_stop o_next o_kind o_which o_at o_pointsRead o_bank o_isImage o_undos o_runRadix o_runOrder o_runNear o_runLimit o_runHalves o_power o_notedMany o_knownTold o_drawn o_tape)) (cQ G (TY3 cI cJ cZ) sz (wX10_isDigit cI cJ cZ h_o h_o_tape h_o_words h_o_told h_o_isTold h_o_toldWave h_o_isPoint h_o_all h_o_quarter h_o_roots h_o_laidRe h_o_laidIm h_o_byOrder h_o_noted1 h_o_counts h_o_binBy o_tapeSize o_thrown o_fault o_faultPlace o_stop o_next o_kind o_which o_at o_pointsRead o_bank o_isImage o_undos o_runRadix o_runOrder o_runNear o_runLimit o_runHalves o_power o_notedMany o_knownTold o_drawn o_tape) (wX10_isDigit cI cJ cZ h_o h_o_tape h_o_words h_o_told h_o_isTold h_o_toldWave h_o_isPoint h_o_all h_o_quarter h_o_roots h_o_laidRe h_o_laidIm h_o_byOrder h_o_noted1 h_o_counts h_o_binBy o_tapeSize o_thrown o_fault o_faultPlace o_stop o_next o_kind o_which o_at o_pointsRead o_bank o_isImage o_undos o_runRadix o_runOrder o_runNear o_runLimit o_runHalves o_power o_notedMany o_knownTold o_drawn o_tape) (some (.int r))) 0 0 (va_A (wX10_isDigit cI cJ cZ h_o h_o_tape h_o_words h_o_told h_o_isTold h_o_toldWave h_o_isPoint h_o_all h_o_quarter h_o_roots h_o_laidRe h_o_laidIm h_o_byOrder h_o_noted1 h_o_counts h_o_binBy o_tapeSize o_thrown o_fault o_faultPlace o_stop o_next o_kind o_which o_at o_pointsRead o_bank o_isImage o_undos o_runRadix o_runOrder o_runNear o_runLimit o_runHalves o_power o_notedMany o_knownTold o_drawn o_tape) sz) := by
  refine met_z (cc := cX10_isDigit) (maxL := 2) (plainFor_of_name (by decide)) (Nat.le_of_ble_eq_true rfl) (fun p e s m below meth c A ls Q hx hb hml hts hown hK hP hD hS hA hl hret => ?_)
  have hown : s.vm.findClass RX10 = some m.cls := hown
  have hl : lv_has ls 2 [(0, .ref h_o), (1, .int p1)] := hl
  unfold fX10_isDigit at hf
  obtain ⟨H, eH⟩ : ∃ H, H = s.heap := ⟨_, rfl⟩
  obtain ⟨locs, elocs⟩ : ∃ z : List Loc, z = [] := ⟨_, rfl⟩
  have hP : va_P G vwCl (wX10_isDigit cI cJ cZ h_o h_o_tape h_o_words h_o_told h_o_isTold h_o_toldWave h_o_isPoint h_o_all h_o_quarter h_o_roots h_o_laidRe h_o_laidIm h_o_byOrder h_o_noted1 h_o_counts h_o_binBy o_tapeSize o_thrown o_fault o_faultPlace o_stop o_next o_kind o_which o_at o_pointsRead o_bank o_isImage o_undos o_runRadix o_runOrder o_runNear o_runLimit o_runHalves o_power o_notedMany o_knownTold o_drawn o_tape) H := by rw [eH]; exact hP
  have hS : va_S A s.heap H locs := by rw [eH, elocs]; exact hS
  suffices hgo : W p l e ({ frames := 0, cells := 0, slots := 0, locals := 0 } : Room) s m ([.ref h_o, .int p1] : List Value).toArray below meth c H locs 0 0 Q (F0 m 0 ls []) by rw [eH, elocs] at hgo; exact hgo
  clear eH elocs
  refine lv_iload_n hx hb dX10_isDigit_0 rfl (lv_at hl 1 rfl) ?_
  refine lv_aload_n hx hb dX10_isDigit_1 rfl (lv_at hl 0 rfl) ?_
  refine rd (ci := 10) (C := RX10) (T := TX10) (N := 37) hx hb hts inX10 hown hK hP 0 6 rfl rfl (by decide) (hts _ q_fX10_82) rfl dX10_isDigit_2 ?_
  refine lv_icmp_ge (tgt := 34) hx hb dX10_isDigit_5 (by decide) (fun c_1 => ?_) (fun c_1 => ?_)
  · have hf := it_t c_1 hf
    refine lv_iconst (v := (0 : Int32)) hx hb dX10_isDigit_34 (by decide) ?_
    cases hf
    exact hret _ _ _ _ dX10_isDigit_35 rfl hP hD hS
  · have hf := it_f c_1 hf
    refine lv_aload_n hx hb dX10_isDigit_8 rfl (lv_at hl 0 rfl) ?_
    refine rd (ci := 10) (C := RX10) (T := TX10) (N := 37) hx hb hts inX10 hown hK hP 0 0 rfl rfl (by decide) (hts _ q_fX10_7) rfl dX10_isDigit_9 ?_
    refine lv_iload_n hx hb dX10_isDigit_12 rfl (lv_at hl 1 rfl) ?_
    obtain ⟨g_2, hf⟩ := gd_x hf
    refine va_iald hx hb hK hP 1 0 rfl rfl (inb_x g_2) dX10_isDigit_13 ?_
    refine lv_bipush (v := (48 : Int32)) hx hb dX10_isDigit_14 (by decide) ?_
    refine lv_icmp_lt (tgt := 34) hx hb dX10_isDigit_16 (by decide) (fun c_3 => ?_) (fun c_3 => ?_)
    · have hf := it_t c_3 hf
      refine lv_iconst (v := (0 : Int32)) hx hb dX10_isDigit_34 (by decide) ?_
      cases hf
      exact hret _ _ _ _ dX10_isDigit_35 rfl hP hD hS
    · have hf := it_f c_3 hf
      refine lv_aload_n hx hb dX10_isDigit_19 rfl (lv_at hl 0 rfl) ?_
      refine rd (ci := 10) (C := RX10) (T := TX10) (N := 37) hx hb hts inX10 hown hK hP 0 0 rfl rfl (by decide) (hts _ q_fX10_7) rfl dX10_isDigit_20 ?_
      refine lv_iload_n hx hb dX10_isDigit_23 rfl (lv_at hl 1 rfl) ?_
      obtain ⟨g_4, hf⟩ := gd_x hf
      refine va_iald hx hb hK hP 1 0 rfl rfl (inb_x g_4) dX10_isDigit_24 ?_
      refine lv_bipush (v := (57 : Int32)) hx hb dX10_isDigit_25 (by decide) ?_
      refine lv_icmp_gt (tgt := 34) hx hb dX10_isDigit_27 (by decide) (fun c_5 => ?_) (fun c_5 => ?_)
      · have hf := it_t c_5 hf
        refine lv_iconst (v := (0 : Int32)) hx hb dX10_isDigit_34 (by decide) ?_
        cases hf
        exact hret _ _ _ _ dX10_isDigit_35 rfl hP hD hS
      · have hf := it_f c_5 hf
        refine lv_iconst (v := (1 : Int32)) hx hb dX10_isDigit_30 (by decide) ?_
        refine lv_goto (tgt := 35) hx hb dX10_isDigit_31 (by decide) ?_
        cases hf
        exact hret _ _ _ _ dX10_isDigit_35 rfl hP hD hS
def wX10_token (cI cJ cZ : ClassId) (h_o h_o_tape h_o_words h_o_told h_o_isTold h_o_toldWave h_o_isPoint h_o_all h_o_quarter h_o_roots h_o_laidRe h_o_laidIm h_o_byOrder h_o_noted1 h_o_counts h_o_binBy : Nat) (o_tapeSize : Int32) (o_thrown : Int32) (o_fault : Int32) (o_faultPlace : Int32) (o_stop : Int32) (o_next : Int32) (o_kind : Int32) (o_which : Int32) (o_at : Int32) (o_pointsRead : Int32) (o_bank : Int32) (o_isImage : Int32) (o_undos : Int32) (o_runRadix : Int32) (o_runOrder : Int32) (o_runNear : Int32) (o_runLimit : Int32) (o_runHalves : Int32) (o_power : Int32) (o_notedMany : Int32) (o_knownTold : Int32) (o_drawn : Int64) (o_tape : Nat → Int32) (o_words : Nat → Int32) : va_W := [(h_o, .inr (10, [.ref h_o_tape, .int o_tapeSize, .int o_thrown, .ref h_o_words, .int o_fault, .int o_faultPlace, .int o_stop, .int o_next, .int o_kind, .int o_which, .int o_at, .ref h_o_told, .ref h_o_isTold, .ref h_o_toldWave, .ref h_o_isPoint, .int o_pointsRead, .ref h_o_all, .int o_bank, .int o_isImage, .int o_undos, .int o_runRadix, .int o_runOrder, .int o_runNear, .int o_runLimit, .int o_runHalves, .ref h_o_quarter, .int o_power, .ref h_o_roots, .ref h_o_laidRe, .ref h_o_laidIm, .ref h_o_byOrder, .int o_notedMany, .int o_knownTold, .ref h_o_noted1, .ref h_o_counts, .ref h_o_binBy, .long o_drawn])), (h_o_tape, .inl (cI, 700, .inl o_tape)), (h_o_words, .inl (cI, 52, .inl o_words))]
def fX10_token_254 (o_next : Int32) (o_kind : Int32) (o_which : Int32) (o_at : Int32) (s1 : Int32) : Option (Int32 × Int32 × Int32 × Int32) :=
  nm (o_next + (1 : Int32)) (fun u_29 =>
  some (u_29, s1, o_which, o_at))
def fX10_token_218 (o_stop : Int32) (o_tape : Nat → Int32) (k170 : Int32 → Int32 → Int32 → Int32 → Option (Int32 × Int32 × Int32 × Int32)) (o_next : Int32) (o_kind : Int32) (o_which : Int32) (o_at : Int32) (s1 : Int32) : Option (Int32 × Int32 × Int32 × Int32) :=
  nm (o_next + (1 : Int32)) (fun u_28 =>
  k170 u_28 o_kind s1 o_at)
def fX10_token_170 (o_stop : Int32) (o_tape : Nat → Int32) : Nat → Int32 → Int32 → Int32 → Int32 → Option (Int32 × Int32 × Int32 × Int32)
  | 0, _, _, _, _ => none
  | n + 1, o_next, o_kind, o_which, o_at =>
    bd1 (fX10_isDigit o_stop o_tape o_next) (fun r_23 =>
    if r_23 = 0 then (
      some (o_next, o_kind, o_which, o_at)
    ) else (
      if o_which ≤ (99999 : Int32) then (
        gd (inb o_next 700) (
        fX10_token_218 o_stop o_tape (fX10_token_170 o_stop o_tape n) o_next o_kind o_which o_at ((((10 : Int32) * o_which) + (o_tape (Int32.toNatClampNeg o_next))) - (48 : Int32)))
      ) else (
        fX10_token_218 o_stop o_tape (fX10_token_170 o_stop o_tape n) o_next o_kind o_which o_at o_which
      )
    ))
def fX10_token_143 (o_next : Int32) (o_kind : Int32) (o_which : Int32) (o_at : Int32) (s1 : Int32) : Option (Int32 × Int32 × Int32 × Int32) :=
  some (o_next, s1, o_which, o_at)
def fX10_token_114 (o_tape : Nat → Int32) (o_words : Nat → Int32) (o_next : Int32) (o_kind : Int32) (o_which : Int32) (o_at : Int32) : Option (Int32 × Int32 × Int32 × Int32) :=
  bd1 (fX10_wordAt o_tape o_words o_at o_next) (fun r_20 =>
  if r_20 < 0 then (
    fX10_token_143 o_next o_kind r_20 o_at (4 : Int32)
  ) else (
    fX10_token_143 o_next o_kind r_20 o_at (1 : Int32)
  ))
def fX10_token_90 (o_stop : Int32) (o_tape : Nat → Int32) (o_words : Nat → Int32) : Nat → Int32 → Int32 → Int32 → Int32 → Option (Int32 × Int32 × Int32 × Int32)
  | 0, _, _, _, _ => none
  | n + 1, o_next, o_kind, o_which, o_at =>
    bd1 (fX10_isSmall o_stop o_tape o_next) (fun r_16 =>
    if r_16 = 0 then (
      fX10_token_114 o_tape o_words o_next o_kind o_which o_at
    ) else (
      nm (o_next + (1 : Int32)) (fun u_19 =>
      fX10_token_90 o_stop o_tape o_words n u_19 o_kind o_which o_at)
    ))
def fX10_token_52 (o_stop : Int32) (o_tape : Nat → Int32) (o_words : Nat → Int32) (o_next : Int32) (o_kind : Int32) (o_which : Int32) (o_at : Int32) : Option (Int32 × Int32 × Int32 × Int32) :=
  if o_next = o_stop then (
    some (o_next, (0 : Int32), o_which, o_next)
  ) else (
    bd1 (fX10_isSmall o_stop o_tape o_next) (fun r_8 =>
    if r_8 = 0 then (
      bd1 (fX10_isDigit o_stop o_tape o_next) (fun r_11 =>
      if r_11 = 0 then (
        gd (inb o_next 700) (
        if (o_tape (Int32.toNatClampNeg o_next)) = (59 : Int32) then (
          fX10_token_254 o_next o_kind o_which o_next (3 : Int32)
        ) else (
          fX10_token_254 o_next o_kind o_which o_next (4 : Int32)
        ))
      ) else (
        fX10_token_170 o_stop o_tape FU o_next (2 : Int32) (0 : Int32) o_next
      ))
    ) else (
      fX10_token_90 o_stop o_tape o_words FU o_next o_kind o_which o_next
    ))
  )
def fX10_token_39 (o_stop : Int32) (o_tape : Nat → Int32) (o_words : Nat → Int32) (k0 : Int32 → Int32 → Int32 → Int32 → Option (Int32 × Int32 × Int32 × Int32)) (o_next : Int32) (o_kind : Int32) (o_which : Int32) (o_at : Int32) : Option (Int32 × Int32 × Int32 × Int32) :=
  nm (o_next + (1 : Int32)) (fun u_6 =>
  k0 u_6 o_kind o_which o_at)
def fX10_token_0 (o_stop : Int32) (o_tape : Nat → Int32) (o_words : Nat → Int32) : Nat → Int32 → Int32 → Int32 → Int32 → Option (Int32 × Int32 × Int32 × Int32)
  | 0, _, _, _, _ => none
  | n + 1, o_next, o_kind, o_which, o_at =>
    if o_stop ≤ o_next then (
      fX10_token_52 o_stop o_tape o_words o_next o_kind o_which o_at
    ) else (
      gd (inb o_next 700) (
      if (o_tape (Int32.toNatClampNeg o_next)) = (10 : Int32) then (
        fX10_token_39 o_stop o_tape o_words (fX10_token_0 o_stop o_tape o_words n) o_next o_kind o_which o_at
      ) else (
        gd (inb o_next 700) (
        if (o_tape (Int32.toNatClampNeg o_next)) = (32 : Int32) then (
          fX10_token_39 o_stop o_tape o_words (fX10_token_0 o_stop o_tape o_words n) o_next o_kind o_which o_at
        ) else (
          fX10_token_52 o_stop o_tape o_words o_next o_kind o_which o_at
        ))
      ))
    )
def fX10_token (o_stop : Int32) (o_next : Int32) (o_kind : Int32) (o_which : Int32) (o_at : Int32) (o_tape : Nat → Int32) (o_words : Nat → Int32) : Option (Int32 × Int32 × Int32 × Int32) :=
  fX10_token_0 o_stop o_tape o_words FU o_next o_kind o_which o_at
set_option maxHeartbeats 4000000 in
set_option maxRecDepth 100000 in
theorem tX10_token (l : Launch) (G : va_G) (cI cJ cZ : ClassId) (sz : Nat) (h_o h_o_tape h_o_words h_o_told h_o_isTold h_o_toldWave h_o_isPoint h_o_all h_o_quarter h_o_roots h_o_laidRe h_o_laidIm h_o_byOrder h_o_noted1 h_o_counts h_o_binBy : Nat) (o_tapeSize : Int32) (o_thrown : Int32) (o_fault : Int32) (o_faultPlace : Int32) (o_stop : Int32) (o_next : Int32) (o_kind : Int32) (o_which : Int32) (o_at : Int32) (o_pointsRead : Int32) (o_bank : Int32) (o_isImage : Int32) (o_undos : Int32) (o_runRadix : Int32) (o_runOrder : Int32) (o_runNear : Int32) (o_runLimit : Int32) (o_runHalves : Int32) (o_power : Int32) (o_notedMany : Int32) (o_knownTold : Int32) (o_drawn : Int64) (o_tape : Nat → Int32) (o_words : Nat → Int32) (out_o_next : Int32) (out_o_kind : Int32) (out_o_which : Int32) (out_o_at : Int32) (hf : fX10_token o_stop o_next o_kind o_which o_at o_tape o_words = some (out_o_next, out_o_kind, out_o_which, out_o_at)) : Met l yX10_token (Cond.code yX10_token cX10_token 1 none :: BIG) ({ frames := 1, cells := 0, slots := 0, locals := 27 } : Room) (cP G (TY3 cI cJ cZ) [.ref h_o] sz (wX10_token cI cJ cZ h_o h_o_tape h_o_words h_o_told h_o_isTold h_o_toldWave h_o_isPoint h_o_all h_o_quarter h_o_roots h_o_laidRe h_o_laidIm h_o_byOrder h_o_noted1 h_o_counts h_o_binBy o_tapeSize o_thrown o_fault o_faultPlace o_stop o_next o_kind o_which o_at o_pointsRead o_bank o_isImage o_undos o_runRadix o_runOrder o_runNear o_runLimit o_runHalves o_power o_notedMany o_knownTold o_drawn o_tape o_words)) (cQ G (TY3 cI cJ cZ) sz (wX10_token cI cJ cZ h_o h_o_tape h_o_words h_o_told h_o_isTold h_o_toldWave h_o_isPoint h_o_all h_o_quarter h_o_roots h_o_laidRe h_o_laidIm h_o_byOrder h_o_noted1 h_o_counts h_o_binBy o_tapeSize o_thrown o_fault o_faultPlace o_stop o_next o_kind o_which o_at o_pointsRead o_bank o_isImage o_undos o_runRadix o_runOrder o_runNear o_runLimit o_runHalves o_power o_notedMany o_knownTold o_drawn o_tape o_words) (wX10_token cI cJ cZ h_o h_o_tape h_o_words h_o_told h_o_isTold h_o_toldWave h_o_isPoint h_o_all h_o_quarter h_o_roots h_o_laidRe h_o_laidIm h_o_byOrder h_o_noted1 h_o_counts h_o_binBy o_tapeSize o_thrown o_fault o_faultPlace o_stop out_o_next out_o_kind out_o_which out_o_at o_pointsRead o_bank o_isImage o_undos o_runRadix o_runOrder o_runNear o_runLimit o_runHalves o_power o_notedMany o_knownTold o_drawn o_tape o_words) none) 0 0 (va_A (wX10_token cI cJ cZ h_o h_o_tape h_o_words h_o_told h_o_isTold h_o_toldWave h_o_isPoint h_o_all h_o_quarter h_o_roots h_o_laidRe h_o_laidIm h_o_byOrder h_o_noted1 h_o_counts h_o_binBy o_tapeSize o_thrown o_fault o_faultPlace o_stop o_next o_kind o_which o_at o_pointsRead o_bank o_isImage o_undos o_runRadix o_runOrder o_runNear o_runLimit o_runHalves o_power o_notedMany o_knownTold o_drawn o_tape o_words) sz) := by
  refine met_v (cc := cX10_token) (maxL := 1) (plainFor_of_name (by decide)) (Nat.le_of_ble_eq_true rfl) (fun p e s m below meth c A ls Q hx hb hml hts hown hK hP hD hS hA hl hret => ?_)
  have hown : s.vm.findClass RX10 = some m.cls := hown
  have hl : lv_has ls 1 [(0, .ref h_o)] := hl
  have j254 : ∀ (o_next : Int32) (o_kind : Int32) (o_which : Int32) (o_at : Int32) (s1 : Int32) (H : Heap) (locs : List Loc) (ls : Array Slot), fX10_token_254 o_next o_kind o_which o_at s1 = some (out_o_next, out_o_kind, out_o_which, out_o_at) → va_P G vwCl (wX10_token cI cJ cZ h_o h_o_tape h_o_words h_o_told h_o_isTold h_o_toldWave h_o_isPoint h_o_all h_o_quarter h_o_roots h_o_laidRe h_o_laidIm h_o_byOrder h_o_noted1 h_o_counts h_o_binBy o_tapeSize o_thrown o_fault o_faultPlace o_stop o_next o_kind o_which o_at o_pointsRead o_bank o_isImage o_undos o_runRadix o_runOrder o_runNear o_runLimit o_runHalves o_power o_notedMany o_knownTold o_drawn o_tape o_words) H → va_D A (wX10_token cI cJ cZ h_o h_o_tape h_o_words h_o_told h_o_isTold h_o_toldWave h_o_isPoint h_o_all h_o_quarter h_o_roots h_o_laidRe h_o_laidIm h_o_byOrder h_o_noted1 h_o_counts h_o_binBy o_tapeSize o_thrown o_fault o_faultPlace o_stop o_next o_kind o_which o_at o_pointsRead o_bank o_isImage o_undos o_runRadix o_runOrder o_runNear o_runLimit o_runHalves o_power o_notedMany o_knownTold o_drawn o_tape o_words) → va_S A s.heap H locs → lv_has ls 1 [(0, .ref h_o)] → W p l e ({ frames := 1, cells := 0, slots := 0, locals := 27 } : Room) s m ([.ref h_o] : List Value).toArray below meth c H locs 0 0 Q (F0 m 254 ls [.int s1, .ref h_o]) := by
    intro o_next o_kind o_which o_at s1 H locs ls hf hP hD hS hl
    unfold fX10_token_254 at hf
    refine wr (ci := 10) (C := RX10) (T := TX10) (N := 37) hx hb hts inX10 tyX10 tyX10_ok nmX10 hown hK hP hD hS 0 8 rfl rfl (by decide) (hts _ q_fX10_88) rfl rfl rfl (Nat.le_of_ble_eq_true rfl) dX10_token_254 (ws2 := (wX10_token cI cJ cZ h_o h_o_tape h_o_words h_o_told h_o_isTold h_o_toldWave h_o_isPoint h_o_all h_o_quarter h_o_roots h_o_laidRe h_o_laidIm h_o_byOrder h_o_noted1 h_o_counts h_o_binBy o_tapeSize o_thrown o_fault o_faultPlace o_stop o_next s1 o_which o_at o_pointsRead o_bank o_isImage o_undos o_runRadix o_runOrder o_runNear o_runLimit o_runHalves o_power o_notedMany o_knownTold o_drawn o_tape o_words)) rfl (fun H locs hP hD hS => ?_)
    refine lv_aload_n hx hb dX10_token_257 rfl (lv_at hl 0 rfl) ?_
    refine lv_dup hx hb dX10_token_258 rfl ?_
    refine rd (ci := 10) (C := RX10) (T := TX10) (N := 37) hx hb hts inX10 hown hK hP 0 7 rfl rfl (by decide) (hts _ q_fX10_85) rfl dX10_token_259 ?_
    refine lv_iconst (v := (1 : Int32)) hx hb dX10_token_262 (by decide) ?_
    refine lv_iadd hx hb dX10_token_263 ?_
    refine lv_topi (fun u_29 eu_29 => ?_)
    have hf := nm_x eu_29 hf
    refine wr (ci := 10) (C := RX10) (T := TX10) (N := 37) hx hb hts inX10 tyX10 tyX10_ok nmX10 hown hK hP hD hS 0 7 rfl rfl (by decide) (hts _ q_fX10_85) rfl rfl rfl (Nat.le_of_ble_eq_true rfl) dX10_token_264 (ws2 := (wX10_token cI cJ cZ h_o h_o_tape h_o_words h_o_told h_o_isTold h_o_toldWave h_o_isPoint h_o_all h_o_quarter h_o_roots h_o_laidRe h_o_laidIm h_o_byOrder h_o_noted1 h_o_counts h_o_binBy o_tapeSize o_thrown o_fault o_faultPlace o_stop u_29 s1 o_which o_at o_pointsRead o_bank o_isImage o_undos o_runRadix o_runOrder o_runNear o_runLimit o_runHalves o_power o_notedMany o_knownTold o_drawn o_tape o_words)) rfl (fun H locs hP hD hS => ?_)
    cases hf
    exact hret _ _ _ _ dX10_token_267 hP hD hS
  have j218 : ∀ (k170 : Int32 → Int32 → Int32 → Int32 → Option (Int32 × Int32 × Int32 × Int32)), (∀ (o_next : Int32) (o_kind : Int32) (o_which : Int32) (o_at : Int32) (H : Heap) (locs : List Loc) (ls : Array Slot), k170 o_next o_kind o_which o_at = some (out_o_next, out_o_kind, out_o_which, out_o_at) → va_P G vwCl (wX10_token cI cJ cZ h_o h_o_tape h_o_words h_o_told h_o_isTold h_o_toldWave h_o_isPoint h_o_all h_o_quarter h_o_roots h_o_laidRe h_o_laidIm h_o_byOrder h_o_noted1 h_o_counts h_o_binBy o_tapeSize o_thrown o_fault o_faultPlace o_stop o_next o_kind o_which o_at o_pointsRead o_bank o_isImage o_undos o_runRadix o_runOrder o_runNear o_runLimit o_runHalves o_power o_notedMany o_knownTold o_drawn o_tape o_words) H → va_D A (wX10_token cI cJ cZ h_o h_o_tape h_o_words h_o_told h_o_isTold h_o_toldWave h_o_isPoint h_o_all h_o_quarter h_o_roots h_o_laidRe h_o_laidIm h_o_byOrder h_o_noted1 h_o_counts h_o_binBy o_tapeSize o_thrown o_fault o_faultPlace o_stop o_next o_kind o_which o_at o_pointsRead o_bank o_isImage o_undos o_runRadix o_runOrder o_runNear o_runLimit o_runHalves o_power o_notedMany o_knownTold o_drawn o_tape o_words) → va_S A s.heap H locs → lv_has ls 1 [(0, .ref h_o)] → W p l e ({ frames := 1, cells := 0, slots := 0, locals := 27 } : Room) s m ([.ref h_o] : List Value).toArray below meth c H locs 0 0 Q (F0 m 170 ls [])) → ∀ (o_next : Int32) (o_kind : Int32) (o_which : Int32) (o_at : Int32) (s1 : Int32) (H : Heap) (locs : List Loc) (ls : Array Slot), fX10_token_218 o_stop o_tape k170 o_next o_kind o_which o_at s1 = some (out_o_next, out_o_kind, out_o_which, out_o_at) → va_P G vwCl (wX10_token cI cJ cZ h_o h_o_tape h_o_words h_o_told h_o_isTold h_o_toldWave h_o_isPoint h_o_all h_o_quarter h_o_roots h_o_laidRe h_o_laidIm h_o_byOrder h_o_noted1 h_o_counts h_o_binBy o_tapeSize o_thrown o_fault o_faultPlace o_stop o_next o_kind o_which o_at o_pointsRead o_bank o_isImage o_undos o_runRadix o_runOrder o_runNear o_runLimit o_runHalves o_power o_notedMany o_knownTold o_drawn o_tape o_words) H → va_D A (wX10_token cI cJ cZ h_o h_o_tape h_o_words h_o_told h_o_isTold h_o_toldWave h_o_isPoint h_o_all h_o_quarter h_o_roots h_o_laidRe h_o_laidIm h_o_byOrder h_o_noted1 h_o_counts h_o_binBy o_tapeSize o_thrown o_fault o_faultPlace o_stop o_next o_kind o_which o_at o_pointsRead o_bank o_isImage o_undos o_runRadix o_runOrder o_runNear o_runLimit o_runHalves o_power o_notedMany o_knownTold o_drawn o_tape o_words) → va_S A s.heap H locs → lv_has ls 1 [(0, .ref h_o)] → W p l e ({ frames := 1, cells := 0, slots := 0, locals := 27 } : Room) s m ([.ref h_o] : List Value).toArray below meth c H locs 0 0 Q (F0 m 218 ls [.int s1, .ref h_o]) := by
    intro k170 hk170 o_next o_kind o_which o_at s1 H locs ls hf hP hD hS hl
    unfold fX10_token_218 at hf
    refine wr (ci := 10) (C := RX10) (T := TX10) (N := 37) hx hb hts inX10 tyX10 tyX10_ok nmX10 hown hK hP hD hS 0 9 rfl rfl (by decide) (hts _ q_fX10_99) rfl rfl rfl (Nat.le_of_ble_eq_true rfl) dX10_token_218 (ws2 := (wX10_token cI cJ cZ h_o h_o_tape h_o_words h_o_told h_o_isTold h_o_toldWave h_o_isPoint h_o_all h_o_quarter h_o_roots h_o_laidRe h_o_laidIm h_o_byOrder h_o_noted1 h_o_counts h_o_binBy o_tapeSize o_thrown o_fault o_faultPlace o_stop o_next o_kind s1 o_at o_pointsRead o_bank o_isImage o_undos o_runRadix o_runOrder o_runNear o_runLimit o_runHalves o_power o_notedMany o_knownTold o_drawn o_tape o_words)) rfl (fun H locs hP hD hS => ?_)
    refine lv_aload_n hx hb dX10_token_221 rfl (lv_at hl 0 rfl) ?_
    refine lv_dup hx hb dX10_token_222 rfl ?_
    refine rd (ci := 10) (C := RX10) (T := TX10) (N := 37) hx hb hts inX10 hown hK hP 0 7 rfl rfl (by decide) (hts _ q_fX10_85) rfl dX10_token_223 ?_
    refine lv_iconst (v := (1 : Int32)) hx hb dX10_token_226 (by decide) ?_
    refine lv_iadd hx hb dX10_token_227 ?_
    refine lv_topi (fun u_28 eu_28 => ?_)
    have hf := nm_x eu_28 hf
    refine wr (ci := 10) (C := RX10) (T := TX10) (N := 37) hx hb hts inX10 tyX10 tyX10_ok nmX10 hown hK hP hD hS 0 7 rfl rfl (by decide) (hts _ q_fX10_85) rfl rfl rfl (Nat.le_of_ble_eq_true rfl) dX10_token_228 (ws2 := (wX10_token cI cJ cZ h_o h_o_tape h_o_words h_o_told h_o_isTold h_o_toldWave h_o_isPoint h_o_all h_o_quarter h_o_roots h_o_laidRe h_o_laidIm h_o_byOrder h_o_noted1 h_o_counts h_o_binBy o_tapeSize o_thrown o_fault o_faultPlace o_stop u_28 o_kind s1 o_at o_pointsRead o_bank o_isImage o_undos o_runRadix o_runOrder o_runNear o_runLimit o_runHalves o_power o_notedMany o_knownTold o_drawn o_tape o_words)) rfl (fun H locs hP hD hS => ?_)
    refine lv_goto (tgt := 170) hx hb dX10_token_231 (by decide) ?_
    exact hk170 u_28 o_kind s1 o_at H locs ls hf hP hD hS (lv_sub hl [0] rfl)
  have j170 : ∀ (n : Nat) (o_next : Int32) (o_kind : Int32) (o_which : Int32) (o_at : Int32) (H : Heap) (locs : List Loc) (ls : Array Slot), fX10_token_170 o_stop o_tape n o_next o_kind o_which o_at = some (out_o_next, out_o_kind, out_o_which, out_o_at) → va_P G vwCl (wX10_token cI cJ cZ h_o h_o_tape h_o_words h_o_told h_o_isTold h_o_toldWave h_o_isPoint h_o_all h_o_quarter h_o_roots h_o_laidRe h_o_laidIm h_o_byOrder h_o_noted1 h_o_counts h_o_binBy o_tapeSize o_thrown o_fault o_faultPlace o_stop o_next o_kind o_which o_at o_pointsRead o_bank o_isImage o_undos o_runRadix o_runOrder o_runNear o_runLimit o_runHalves o_power o_notedMany o_knownTold o_drawn o_tape o_words) H → va_D A (wX10_token cI cJ cZ h_o h_o_tape h_o_words h_o_told h_o_isTold h_o_toldWave h_o_isPoint h_o_all h_o_quarter h_o_roots h_o_laidRe h_o_laidIm h_o_byOrder h_o_noted1 h_o_counts h_o_binBy o_tapeSize o_thrown o_fault o_faultPlace o_stop o_next o_kind o_which o_at o_pointsRead o_bank o_isImage o_undos o_runRadix o_runOrder o_runNear o_runLimit o_runHalves o_power o_notedMany o_knownTold o_drawn o_tape o_words) → va_S A s.heap H locs → lv_has ls 1 [(0, .ref h_o)] → W p l e ({ frames := 1, cells := 0, slots := 0, locals := 27 } : Room) s m ([.ref h_o] : List Value).toArray below meth c H locs 0 0 Q (F0 m 170 ls []) := by
    intro n
    induction n with
    | zero =>
      intro o_next o_kind o_which o_at H locs ls hf
      have hf : (none : Option (Int32 × Int32 × Int32 × Int32)) = some (out_o_next, out_o_kind, out_o_which, out_o_at) := hf
      cases hf
    | succ n ih =>
      intro o_next o_kind o_which o_at H locs ls hf hP hD hS hl
      rw [fX10_token_170.eq_2] at hf
      refine lv_aload_n hx hb dX10_token_170 rfl (lv_at hl 0 rfl) ?_
      refine lv_aload_n hx hb dX10_token_171 rfl (lv_at hl 0 rfl) ?_
      refine rd (ci := 10) (C := RX10) (T := TX10) (N := 37) hx hb hts inX10 hown hK hP 0 7 rfl rfl (by decide) (hts _ q_fX10_85) rfl dX10_token_172 ?_
      obtain ⟨r_23, e_24, hf⟩ := bd1_x hf
      refine call_v [.int o_next] [] ⟨hx, hb, hml, hown, hts⟩ hK hP hD hS hA hl.1 (tX10_isDigit l G cI cJ cZ H.size h_o h_o_tape h_o_words h_o_told h_o_isTold h_o_toldWave h_o_isPoint h_o_all h_o_quarter h_o_roots h_o_laidRe h_o_laidIm h_o_byOrder h_o_noted1 h_o_counts h_o_binBy o_tapeSize o_thrown o_fault o_faultPlace o_stop o_next o_kind o_which o_at o_pointsRead o_bank o_isImage o_undos o_runRadix o_runOrder o_runNear o_runLimit o_runHalves o_power o_notedMany o_knownTold o_drawn o_tape o_next r_23 e_24) (cwV 1 hts (gv q_mX10_102 q_i_yX10_isDigit q_s_yX10_isDigit q_n_RX10 q_k_yX10_isDigit) rfl rfl rfl (by decide +kernel) ⟨by decide, by decide⟩) rfl rfl (Nat.le_of_ble_eq_true rfl) dX10_token_175 ⟨Nat.zero_le _, Nat.zero_le _⟩ (ci := 10) rfl 0 rfl [0, 1] [2] [1, 2, 0] rfl rfl (ws2 := (wX10_token cI cJ cZ h_o h_o_tape h_o_words h_o_told h_o_isTold h_o_toldWave h_o_isPoint h_o_all h_o_quarter h_o_roots h_o_laidRe h_o_laidIm h_o_byOrder h_o_noted1 h_o_counts h_o_binBy o_tapeSize o_thrown o_fault o_faultPlace o_stop o_next o_kind o_which o_at o_pointsRead o_bank o_isImage o_undos o_runRadix o_runOrder o_runNear o_runLimit o_runHalves o_power o_notedMany o_knownTold o_drawn o_tape o_words)) rfl (fun H locs hP hD hS => ?_)
      refine W.eq (g2 := F0 m 178 ls [.int r_23]) rfl ?_
      refine lv_if_eq (tgt := 267) hx hb dX10_token_178 (by decide) (fun c_25 => ?_) (fun c_25 => ?_)
      · have hf := it_t c_25 hf
        cases hf
        exact hret _ _ _ _ dX10_token_267 hP hD hS
      · have hf := it_f c_25 hf
        refine lv_aload_n hx hb dX10_token_181 rfl (lv_at hl 0 rfl) ?_
        refine lv_aload_n hx hb dX10_token_182 rfl (lv_at hl 0 rfl) ?_
        refine rd (ci := 10) (C := RX10) (T := TX10) (N := 37) hx hb hts inX10 hown hK hP 0 9 rfl rfl (by decide) (hts _ q_fX10_99) rfl dX10_token_183 ?_
        refine lv_ldc (v := (99999 : Int32)) hx hb hown (hts _ q_cX10_105) dX10_token_186 ?_
        refine lv_icmp_le (tgt := 198) hx hb dX10_token_188 (by decide) (fun c_26 => ?_) (fun c_26 => ?_)
        · have hf := it_t c_26 hf
          refine lv_bipush (v := (10 : Int32)) hx hb dX10_token_198 (by decide) ?_
          refine lv_aload_n hx hb dX10_token_200 rfl (lv_at hl 0 rfl) ?_
          refine rd (ci := 10) (C := RX10) (T := TX10) (N := 37) hx hb hts inX10 hown hK hP 0 9 rfl rfl (by decide) (hts _ q_fX10_99) rfl dX10_token_201 ?_
          refine lv_imul hx hb dX10_token_204 ?_
          refine lv_aload_n hx hb dX10_token_205 rfl (lv_at hl 0 rfl) ?_
          refine rd (ci := 10) (C := RX10) (T := TX10) (N := 37) hx hb hts inX10 hown hK hP 0 0 rfl rfl (by decide) (hts _ q_fX10_7) rfl dX10_token_206 ?_
          refine lv_aload_n hx hb dX10_token_209 rfl (lv_at hl 0 rfl) ?_
          refine rd (ci := 10) (C := RX10) (T := TX10) (N := 37) hx hb hts inX10 hown hK hP 0 7 rfl rfl (by decide) (hts _ q_fX10_85) rfl dX10_token_210 ?_
          obtain ⟨g_27, hf⟩ := gd_x hf
          refine va_iald hx hb hK hP 1 0 rfl rfl (inb_x g_27) dX10_token_213 ?_
          refine lv_iadd hx hb dX10_token_214 ?_
          refine lv_bipush (v := (48 : Int32)) hx hb dX10_token_215 (by decide) ?_
          refine lv_isub hx hb dX10_token_217 ?_
          exact j218 (fX10_token_170 o_stop o_tape n) ih o_next o_kind o_which o_at ((((10 : Int32) * o_which) + (o_tape (Int32.toNatClampNeg o_next))) - (48 : Int32)) H locs ls hf hP hD hS (lv_sub hl [0] rfl)
        · have hf := it_f c_26 hf
          refine lv_aload_n hx hb dX10_token_191 rfl (lv_at hl 0 rfl) ?_
          refine rd (ci := 10) (C := RX10) (T := TX10) (N := 37) hx hb hts inX10 hown hK hP 0 9 rfl rfl (by decide) (hts _ q_fX10_99) rfl dX10_token_192 ?_
          refine lv_goto (tgt := 218) hx hb dX10_token_195 (by decide) ?_
          exact j218 (fX10_token_170 o_stop o_tape n) ih o_next o_kind o_which o_at o_which H locs ls hf hP hD hS (lv_sub hl [0] rfl)
  have j143 : ∀ (o_next : Int32) (o_kind : Int32) (o_which : Int32) (o_at : Int32) (s1 : Int32) (H : Heap) (locs : List Loc) (ls : Array Slot), fX10_token_143 o_next o_kind o_which o_at s1 = some (out_o_next, out_o_kind, out_o_which, out_o_at) → va_P G vwCl (wX10_token cI cJ cZ h_o h_o_tape h_o_words h_o_told h_o_isTold h_o_toldWave h_o_isPoint h_o_all h_o_quarter h_o_roots h_o_laidRe h_o_laidIm h_o_byOrder h_o_noted1 h_o_counts h_o_binBy o_tapeSize o_thrown o_fault o_faultPlace o_stop o_next o_kind o_which o_at o_pointsRead o_bank o_isImage o_undos o_runRadix o_runOrder o_runNear o_runLimit o_runHalves o_power o_notedMany o_knownTold o_drawn o_tape o_words) H → va_D A (wX10_token cI cJ cZ h_o h_o_tape h_o_words h_o_told h_o_isTold h_o_toldWave h_o_isPoint h_o_all h_o_quarter h_o_roots h_o_laidRe h_o_laidIm h_o_byOrder h_o_noted1 h_o_counts h_o_binBy o_tapeSize o_thrown o_fault o_faultPlace o_stop o_next o_kind o_which o_at o_pointsRead o_bank o_isImage o_undos o_runRadix o_runOrder o_runNear o_runLimit o_runHalves o_power o_notedMany o_knownTold o_drawn o_tape o_words) → va_S A s.heap H locs → lv_has ls 1 [] → W p l e ({ frames := 1, cells := 0, slots := 0, locals := 27 } : Room) s m ([.ref h_o] : List Value).toArray below meth c H locs 0 0 Q (F0 m 143 ls [.int s1, .ref h_o]) := by
    intro o_next o_kind o_which o_at s1 H locs ls hf hP hD hS hl
    unfold fX10_token_143 at hf
    refine wr (ci := 10) (C := RX10) (T := TX10) (N := 37) hx hb hts inX10 tyX10 tyX10_ok nmX10 hown hK hP hD hS 0 8 rfl rfl (by decide) (hts _ q_fX10_88) rfl rfl rfl (Nat.le_of_ble_eq_true rfl) dX10_token_143 (ws2 := (wX10_token cI cJ cZ h_o h_o_tape h_o_words h_o_told h_o_isTold h_o_toldWave h_o_isPoint h_o_all h_o_quarter h_o_roots h_o_laidRe h_o_laidIm h_o_byOrder h_o_noted1 h_o_counts h_o_binBy o_tapeSize o_thrown o_fault o_faultPlace o_stop o_next s1 o_which o_at o_pointsRead o_bank o_isImage o_undos o_runRadix o_runOrder o_runNear o_runLimit o_runHalves o_power o_notedMany o_knownTold o_drawn o_tape o_words)) rfl (fun H locs hP hD hS => ?_)
    refine lv_goto (tgt := 267) hx hb dX10_token_146 (by decide) ?_
    cases hf
    exact hret _ _ _ _ dX10_token_267 hP hD hS
  have j114 : ∀ (o_next : Int32) (o_kind : Int32) (o_which : Int32) (o_at : Int32) (H : Heap) (locs : List Loc) (ls : Array Slot), fX10_token_114 o_tape o_words o_next o_kind o_which o_at = some (out_o_next, out_o_kind, out_o_which, out_o_at) → va_P G vwCl (wX10_token cI cJ cZ h_o h_o_tape h_o_words h_o_told h_o_isTold h_o_toldWave h_o_isPoint h_o_all h_o_quarter h_o_roots h_o_laidRe h_o_laidIm h_o_byOrder h_o_noted1 h_o_counts h_o_binBy o_tapeSize o_thrown o_fault o_faultPlace o_stop o_next o_kind o_which o_at o_pointsRead o_bank o_isImage o_undos o_runRadix o_runOrder o_runNear o_runLimit o_runHalves o_power o_notedMany o_knownTold o_drawn o_tape o_words) H → va_D A (wX10_token cI cJ cZ h_o h_o_tape h_o_words h_o_told h_o_isTold h_o_toldWave h_o_isPoint h_o_all h_o_quarter h_o_roots h_o_laidRe h_o_laidIm h_o_byOrder h_o_noted1 h_o_counts h_o_binBy o_tapeSize o_thrown o_fault o_faultPlace o_stop o_next o_kind o_which o_at o_pointsRead o_bank o_isImage o_undos o_runRadix o_runOrder o_runNear o_runLimit o_runHalves o_power o_notedMany o_knownTold o_drawn o_tape o_words) → va_S A s.heap H locs → lv_has ls 1 [(0, .ref h_o)] → W p l e ({ frames := 1, cells := 0, slots := 0, locals := 27 } : Room) s m ([.ref h_o] : List Value).toArray below meth c H locs 0 0 Q (F0 m 114 ls []) := by
    intro o_next o_kind o_which o_at H locs ls hf hP hD hS hl
    unfold fX10_token_114 at hf
    refine lv_aload_n hx hb dX10_token_114 rfl (lv_at hl 0 rfl) ?_
    refine lv_aload_n hx hb dX10_token_115 rfl (lv_at hl 0 rfl) ?_
    refine lv_aload_n hx hb dX10_token_116 rfl (lv_at hl 0 rfl) ?_
    refine rd (ci := 10) (C := RX10) (T := TX10) (N := 37) hx hb hts inX10 hown hK hP 0 10 rfl rfl (by decide) (hts _ q_fX10_79) rfl dX10_token_117 ?_
    refine lv_aload_n hx hb dX10_token_120 rfl (lv_at hl 0 rfl) ?_
    refine rd (ci := 10) (C := RX10) (T := TX10) (N := 37) hx hb hts inX10 hown hK hP 0 7 rfl rfl (by decide) (hts _ q_fX10_85) rfl dX10_token_121 ?_
    obtain ⟨r_20, e_21, hf⟩ := bd1_x hf
    refine call_v [.int o_at, .int o_next] [.ref h_o] ⟨hx, hb, hml, hown, hts⟩ hK hP hD hS hA hl.1 (tX10_wordAt l G cI cJ cZ H.size h_o h_o_tape h_o_words h_o_told h_o_isTold h_o_toldWave h_o_isPoint h_o_all h_o_quarter h_o_roots h_o_laidRe h_o_laidIm h_o_byOrder h_o_noted1 h_o_counts h_o_binBy o_tapeSize o_thrown o_fault o_faultPlace o_stop o_next o_kind o_which o_at o_pointsRead o_bank o_isImage o_undos o_runRadix o_runOrder o_runNear o_runLimit o_runHalves o_power o_notedMany o_knownTold o_drawn o_tape o_words o_at o_next r_20 e_21) (cwV 2 hts (gv q_mX10_95 q_i_yX10_wordAt q_s_yX10_wordAt q_n_RX10 q_k_yX10_wordAt) rfl rfl rfl (by decide +kernel) ⟨by decide, by decide⟩) rfl rfl (Nat.le_of_ble_eq_true rfl) dX10_token_124 ⟨Nat.zero_le _, Nat.zero_le _⟩ (ci := 10) rfl 0 rfl [0, 1, 2] [] [0, 1, 2] rfl rfl (ws2 := (wX10_token cI cJ cZ h_o h_o_tape h_o_words h_o_told h_o_isTold h_o_toldWave h_o_isPoint h_o_all h_o_quarter h_o_roots h_o_laidRe h_o_laidIm h_o_byOrder h_o_noted1 h_o_counts h_o_binBy o_tapeSize o_thrown o_fault o_faultPlace o_stop o_next o_kind o_which o_at o_pointsRead o_bank o_isImage o_undos o_runRadix o_runOrder o_runNear o_runLimit o_runHalves o_power o_notedMany o_knownTold o_drawn o_tape o_words)) rfl (fun H locs hP hD hS => ?_)
    refine W.eq (g2 := F0 m 127 ls [.int r_20, .ref h_o]) rfl ?_
    refine wr (ci := 10) (C := RX10) (T := TX10) (N := 37) hx hb hts inX10 tyX10 tyX10_ok nmX10 hown hK hP hD hS 0 9 rfl rfl (by decide) (hts _ q_fX10_99) rfl rfl rfl (Nat.le_of_ble_eq_true rfl) dX10_token_127 (ws2 := (wX10_token cI cJ cZ h_o h_o_tape h_o_words h_o_told h_o_isTold h_o_toldWave h_o_isPoint h_o_all h_o_quarter h_o_roots h_o_laidRe h_o_laidIm h_o_byOrder h_o_noted1 h_o_counts h_o_binBy o_tapeSize o_thrown o_fault o_faultPlace o_stop o_next o_kind r_20 o_at o_pointsRead o_bank o_isImage o_undos o_runRadix o_runOrder o_runNear o_runLimit o_runHalves o_power o_notedMany o_knownTold o_drawn o_tape o_words)) rfl (fun H locs hP hD hS => ?_)
    refine lv_aload_n hx hb dX10_token_130 rfl (lv_at hl 0 rfl) ?_
    refine lv_aload_n hx hb dX10_token_131 rfl (lv_at hl 0 rfl) ?_
    refine rd (ci := 10) (C := RX10) (T := TX10) (N := 37) hx hb hts inX10 hown hK hP 0 9 rfl rfl (by decide) (hts _ q_fX10_99) rfl dX10_token_132 ?_
    refine lv_if_lt (tgt := 142) hx hb dX10_token_135 (by decide) (fun c_22 => ?_) (fun c_22 => ?_)
    · have hf := it_t c_22 hf
      refine lv_iconst (v := (4 : Int32)) hx hb dX10_token_142 (by decide) ?_
      exact j143 o_next o_kind r_20 o_at (4 : Int32) H locs ls hf hP hD hS (lv_sub hl [] rfl)
    · have hf := it_f c_22 hf
      refine lv_iconst (v := (1 : Int32)) hx hb dX10_token_138 (by decide) ?_
      refine lv_goto (tgt := 143) hx hb dX10_token_139 (by decide) ?_
      exact j143 o_next o_kind r_20 o_at (1 : Int32) H locs ls hf hP hD hS (lv_sub hl [] rfl)
  have j90 : ∀ (n : Nat) (o_next : Int32) (o_kind : Int32) (o_which : Int32) (o_at : Int32) (H : Heap) (locs : List Loc) (ls : Array Slot), fX10_token_90 o_stop o_tape o_words n o_next o_kind o_which o_at = some (out_o_next, out_o_kind, out_o_which, out_o_at) → va_P G vwCl (wX10_token cI cJ cZ h_o h_o_tape h_o_words h_o_told h_o_isTold h_o_toldWave h_o_isPoint h_o_all h_o_quarter h_o_roots h_o_laidRe h_o_laidIm h_o_byOrder h_o_noted1 h_o_counts h_o_binBy o_tapeSize o_thrown o_fault o_faultPlace o_stop o_next o_kind o_which o_at o_pointsRead o_bank o_isImage o_undos o_runRadix o_runOrder o_runNear o_runLimit o_runHalves o_power o_notedMany o_knownTold o_drawn o_tape o_words) H → va_D A (wX10_token cI cJ cZ h_o h_o_tape h_o_words h_o_told h_o_isTold h_o_toldWave h_o_isPoint h_o_all h_o_quarter h_o_roots h_o_laidRe h_o_laidIm h_o_byOrder h_o_noted1 h_o_counts h_o_binBy o_tapeSize o_thrown o_fault o_faultPlace o_stop o_next o_kind o_which o_at o_pointsRead o_bank o_isImage o_undos o_runRadix o_runOrder o_runNear o_runLimit o_runHalves o_power o_notedMany o_knownTold o_drawn o_tape o_words) → va_S A s.heap H locs → lv_has ls 1 [(0, .ref h_o)] → W p l e ({ frames := 1, cells := 0, slots := 0, locals := 27 } : Room) s m ([.ref h_o] : List Value).toArray below meth c H locs 0 0 Q (F0 m 90 ls []) := by
    intro n
    induction n with
    | zero =>
      intro o_next o_kind o_which o_at H locs ls hf
      have hf : (none : Option (Int32 × Int32 × Int32 × Int32)) = some (out_o_next, out_o_kind, out_o_which, out_o_at) := hf
      cases hf
    | succ n ih =>
      intro o_next o_kind o_which o_at H locs ls hf hP hD hS hl
      rw [fX10_token_90.eq_2] at hf
      refine lv_aload_n hx hb dX10_token_90 rfl (lv_at hl 0 rfl) ?_
      refine lv_aload_n hx hb dX10_token_91 rfl (lv_at hl 0 rfl) ?_
      refine rd (ci := 10) (C := RX10) (T := TX10) (N := 37) hx hb hts inX10 hown hK hP 0 7 rfl rfl (by decide) (hts _ q_fX10_85) rfl dX10_token_92 ?_
      obtain ⟨r_16, e_17, hf⟩ := bd1_x hf
      refine call_v [.int o_next] [] ⟨hx, hb, hml, hown, hts⟩ hK hP hD hS hA hl.1 (tX10_isSmall l G cI cJ cZ H.size h_o h_o_tape h_o_words h_o_told h_o_isTold h_o_toldWave h_o_isPoint h_o_all h_o_quarter h_o_roots h_o_laidRe h_o_laidIm h_o_byOrder h_o_noted1 h_o_counts h_o_binBy o_tapeSize o_thrown o_fault o_faultPlace o_stop o_next o_kind o_which o_at o_pointsRead o_bank o_isImage o_undos o_runRadix o_runOrder o_runNear o_runLimit o_runHalves o_power o_notedMany o_knownTold o_drawn o_tape o_next r_16 e_17) (cwV 1 hts (gv q_mX10_91 q_i_yX10_isSmall q_s_yX10_isSmall q_n_RX10 q_k_yX10_isSmall) rfl rfl rfl (by decide +kernel) ⟨by decide, by decide⟩) rfl rfl (Nat.le_of_ble_eq_true rfl) dX10_token_95 ⟨Nat.zero_le _, Nat.zero_le _⟩ (ci := 10) rfl 0 rfl [0, 1] [2] [1, 2, 0] rfl rfl (ws2 := (wX10_token cI cJ cZ h_o h_o_tape h_o_words h_o_told h_o_isTold h_o_toldWave h_o_isPoint h_o_all h_o_quarter h_o_roots h_o_laidRe h_o_laidIm h_o_byOrder h_o_noted1 h_o_counts h_o_binBy o_tapeSize o_thrown o_fault o_faultPlace o_stop o_next o_kind o_which o_at o_pointsRead o_bank o_isImage o_undos o_runRadix o_runOrder o_runNear o_runLimit o_runHalves o_power o_notedMany o_knownTold o_drawn o_tape o_words)) rfl (fun H locs hP hD hS => ?_)
      refine W.eq (g2 := F0 m 98 ls [.int r_16]) rfl ?_
      refine lv_if_eq (tgt := 114) hx hb dX10_token_98 (by decide) (fun c_18 => ?_) (fun c_18 => ?_)
      · have hf := it_t c_18 hf
        exact j114 o_next o_kind o_which o_at H locs ls hf hP hD hS (lv_sub hl [0] rfl)
      · have hf := it_f c_18 hf
        refine lv_aload_n hx hb dX10_token_101 rfl (lv_at hl 0 rfl) ?_
        refine lv_dup hx hb dX10_token_102 rfl ?_
        refine rd (ci := 10) (C := RX10) (T := TX10) (N := 37) hx hb hts inX10 hown hK hP 0 7 rfl rfl (by decide) (hts _ q_fX10_85) rfl dX10_token_103 ?_
        refine lv_iconst (v := (1 : Int32)) hx hb dX10_token_106 (by decide) ?_
        refine lv_iadd hx hb dX10_token_107 ?_
        refine lv_topi (fun u_19 eu_19 => ?_)
        have hf := nm_x eu_19 hf
        refine wr (ci := 10) (C := RX10) (T := TX10) (N := 37) hx hb hts inX10 tyX10 tyX10_ok nmX10 hown hK hP hD hS 0 7 rfl rfl (by decide) (hts _ q_fX10_85) rfl rfl rfl (Nat.le_of_ble_eq_true rfl) dX10_token_108 (ws2 := (wX10_token cI cJ cZ h_o h_o_tape h_o_words h_o_told h_o_isTold h_o_toldWave h_o_isPoint h_o_all h_o_quarter h_o_roots h_o_laidRe h_o_laidIm h_o_byOrder h_o_noted1 h_o_counts h_o_binBy o_tapeSize o_thrown o_fault o_faultPlace o_stop u_19 o_kind o_which o_at o_pointsRead o_bank o_isImage o_undos o_runRadix o_runOrder o_runNear o_runLimit o_runHalves o_power o_notedMany o_knownTold o_drawn o_tape o_words)) rfl (fun H locs hP hD hS => ?_)
        refine lv_goto (tgt := 90) hx hb dX10_token_111 (by decide) ?_
        exact ih u_19 o_kind o_which o_at H locs ls hf hP hD hS (lv_sub hl [0] rfl)
  have j52 : ∀ (o_next : Int32) (o_kind : Int32) (o_which : Int32) (o_at : Int32) (H : Heap) (locs : List Loc) (ls : Array Slot), fX10_token_52 o_stop o_tape o_words o_next o_kind o_which o_at = some (out_o_next, out_o_kind, out_o_which, out_o_at) → va_P G vwCl (wX10_token cI cJ cZ h_o h_o_tape h_o_words h_o_told h_o_isTold h_o_toldWave h_o_isPoint h_o_all h_o_quarter h_o_roots h_o_laidRe h_o_laidIm h_o_byOrder h_o_noted1 h_o_counts h_o_binBy o_tapeSize o_thrown o_fault o_faultPlace o_stop o_next o_kind o_which o_at o_pointsRead o_bank o_isImage o_undos o_runRadix o_runOrder o_runNear o_runLimit o_runHalves o_power o_notedMany o_knownTold o_drawn o_tape o_words) H → va_D A (wX10_token cI cJ cZ h_o h_o_tape h_o_words h_o_told h_o_isTold h_o_toldWave h_o_isPoint h_o_all h_o_quarter h_o_roots h_o_laidRe h_o_laidIm h_o_byOrder h_o_noted1 h_o_counts h_o_binBy o_tapeSize o_thrown o_fault o_faultPlace o_stop o_next o_kind o_which o_at o_pointsRead o_bank o_isImage o_undos o_runRadix o_runOrder o_runNear o_runLimit o_runHalves o_power o_notedMany o_knownTold o_drawn o_tape o_words) → va_S A s.heap H locs → lv_has ls 1 [(0, .ref h_o)] → W p l e ({ frames := 1, cells := 0, slots := 0, locals := 27 } : Room) s m ([.ref h_o] : List Value).toArray below meth c H locs 0 0 Q (F0 m 52 ls []) := by
    intro o_next o_kind o_which o_at H locs ls hf hP hD hS hl
    unfold fX10_token_52 at hf
    refine lv_aload_n hx hb dX10_token_52 rfl (lv_at hl 0 rfl) ?_
    refine lv_aload_n hx hb dX10_token_53 rfl (lv_at hl 0 rfl) ?_
    refine rd (ci := 10) (C := RX10) (T := TX10) (N := 37) hx hb hts inX10 hown hK hP 0 7 rfl rfl (by decide) (hts _ q_fX10_85) rfl dX10_token_54 ?_
    refine wr (ci := 10) (C := RX10) (T := TX10) (N := 37) hx hb hts inX10 tyX10 tyX10_ok nmX10 hown hK hP hD hS 0 10 rfl rfl (by decide) (hts _ q_fX10_79) rfl rfl rfl (Nat.le_of_ble_eq_true rfl) dX10_token_57 (ws2 := (wX10_token cI cJ cZ h_o h_o_tape h_o_words h_o_told h_o_isTold h_o_toldWave h_o_isPoint h_o_all h_o_quarter h_o_roots h_o_laidRe h_o_laidIm h_o_byOrder h_o_noted1 h_o_counts h_o_binBy o_tapeSize o_thrown o_fault o_faultPlace o_stop o_next o_kind o_which o_next o_pointsRead o_bank o_isImage o_undos o_runRadix o_runOrder o_runNear o_runLimit o_runHalves o_power o_notedMany o_knownTold o_drawn o_tape o_words)) rfl (fun H locs hP hD hS => ?_)
    refine lv_aload_n hx hb dX10_token_60 rfl (lv_at hl 0 rfl) ?_
    refine rd (ci := 10) (C := RX10) (T := TX10) (N := 37) hx hb hts inX10 hown hK hP 0 7 rfl rfl (by decide) (hts _ q_fX10_85) rfl dX10_token_61 ?_
    refine lv_aload_n hx hb dX10_token_64 rfl (lv_at hl 0 rfl) ?_
    refine rd (ci := 10) (C := RX10) (T := TX10) (N := 37) hx hb hts inX10 hown hK hP 0 6 rfl rfl (by decide) (hts _ q_fX10_82) rfl dX10_token_65 ?_
    refine lv_icmp_ne (tgt := 79) hx hb dX10_token_68 (by decide) (fun c_7 => ?_) (fun c_7 => ?_)
    · have hf := it_f c_7 hf
      refine lv_aload_n hx hb dX10_token_79 rfl (lv_at hl 0 rfl) ?_
      refine lv_aload_n hx hb dX10_token_80 rfl (lv_at hl 0 rfl) ?_
      refine rd (ci := 10) (C := RX10) (T := TX10) (N := 37) hx hb hts inX10 hown hK hP 0 7 rfl rfl (by decide) (hts _ q_fX10_85) rfl dX10_token_81 ?_
      obtain ⟨r_8, e_9, hf⟩ := bd1_x hf
      refine call_v [.int o_next] [] ⟨hx, hb, hml, hown, hts⟩ hK hP hD hS hA hl.1 (tX10_isSmall l G cI cJ cZ H.size h_o h_o_tape h_o_words h_o_told h_o_isTold h_o_toldWave h_o_isPoint h_o_all h_o_quarter h_o_roots h_o_laidRe h_o_laidIm h_o_byOrder h_o_noted1 h_o_counts h_o_binBy o_tapeSize o_thrown o_fault o_faultPlace o_stop o_next o_kind o_which o_next o_pointsRead o_bank o_isImage o_undos o_runRadix o_runOrder o_runNear o_runLimit o_runHalves o_power o_notedMany o_knownTold o_drawn o_tape o_next r_8 e_9) (cwV 1 hts (gv q_mX10_91 q_i_yX10_isSmall q_s_yX10_isSmall q_n_RX10 q_k_yX10_isSmall) rfl rfl rfl (by decide +kernel) ⟨by decide, by decide⟩) rfl rfl (Nat.le_of_ble_eq_true rfl) dX10_token_84 ⟨Nat.zero_le _, Nat.zero_le _⟩ (ci := 10) rfl 0 rfl [0, 1] [2] [1, 2, 0] rfl rfl (ws2 := (wX10_token cI cJ cZ h_o h_o_tape h_o_words h_o_told h_o_isTold h_o_toldWave h_o_isPoint h_o_all h_o_quarter h_o_roots h_o_laidRe h_o_laidIm h_o_byOrder h_o_noted1 h_o_counts h_o_binBy o_tapeSize o_thrown o_fault o_faultPlace o_stop o_next o_kind o_which o_next o_pointsRead o_bank o_isImage o_undos o_runRadix o_runOrder o_runNear o_runLimit o_runHalves o_power o_notedMany o_knownTold o_drawn o_tape o_words)) rfl (fun H locs hP hD hS => ?_)
      refine W.eq (g2 := F0 m 87 ls [.int r_8]) rfl ?_
      refine lv_if_eq (tgt := 149) hx hb dX10_token_87 (by decide) (fun c_10 => ?_) (fun c_10 => ?_)
      · have hf := it_t c_10 hf
        refine lv_aload_n hx hb dX10_token_149 rfl (lv_at hl 0 rfl) ?_
        refine lv_aload_n hx hb dX10_token_150 rfl (lv_at hl 0 rfl) ?_
        refine rd (ci := 10) (C := RX10) (T := TX10) (N := 37) hx hb hts inX10 hown hK hP 0 7 rfl rfl (by decide) (hts _ q_fX10_85) rfl dX10_token_151 ?_
        obtain ⟨r_11, e_12, hf⟩ := bd1_x hf
        refine call_v [.int o_next] [] ⟨hx, hb, hml, hown, hts⟩ hK hP hD hS hA hl.1 (tX10_isDigit l G cI cJ cZ H.size h_o h_o_tape h_o_words h_o_told h_o_isTold h_o_toldWave h_o_isPoint h_o_all h_o_quarter h_o_roots h_o_laidRe h_o_laidIm h_o_byOrder h_o_noted1 h_o_counts h_o_binBy o_tapeSize o_thrown o_fault o_faultPlace o_stop o_next o_kind o_which o_next o_pointsRead o_bank o_isImage o_undos o_runRadix o_runOrder o_runNear o_runLimit o_runHalves o_power o_notedMany o_knownTold o_drawn o_tape o_next r_11 e_12) (cwV 1 hts (gv q_mX10_102 q_i_yX10_isDigit q_s_yX10_isDigit q_n_RX10 q_k_yX10_isDigit) rfl rfl rfl (by decide +kernel) ⟨by decide, by decide⟩) rfl rfl (Nat.le_of_ble_eq_true rfl) dX10_token_154 ⟨Nat.zero_le _, Nat.zero_le _⟩ (ci := 10) rfl 0 rfl [0, 1] [2] [1, 2, 0] rfl rfl (ws2 := (wX10_token cI cJ cZ h_o h_o_tape h_o_words h_o_told h_o_isTold h_o_toldWave h_o_isPoint h_o_all h_o_quarter h_o_roots h_o_laidRe h_o_laidIm h_o_byOrder h_o_noted1 h_o_counts h_o_binBy o_tapeSize o_thrown o_fault o_faultPlace o_stop o_next o_kind o_which o_next o_pointsRead o_bank o_isImage o_undos o_runRadix o_runOrder o_runNear o_runLimit o_runHalves o_power o_notedMany o_knownTold o_drawn o_tape o_words)) rfl (fun H locs hP hD hS => ?_)
        refine W.eq (g2 := F0 m 157 ls [.int r_11]) rfl ?_
        refine lv_if_eq (tgt := 234) hx hb dX10_token_157 (by decide) (fun c_13 => ?_) (fun c_13 => ?_)
        · have hf := it_t c_13 hf
          refine lv_aload_n hx hb dX10_token_234 rfl (lv_at hl 0 rfl) ?_
          refine lv_aload_n hx hb dX10_token_235 rfl (lv_at hl 0 rfl) ?_
          refine rd (ci := 10) (C := RX10) (T := TX10) (N := 37) hx hb hts inX10 hown hK hP 0 0 rfl rfl (by decide) (hts _ q_fX10_7) rfl dX10_token_236 ?_
          refine lv_aload_n hx hb dX10_token_239 rfl (lv_at hl 0 rfl) ?_
          refine rd (ci := 10) (C := RX10) (T := TX10) (N := 37) hx hb hts inX10 hown hK hP 0 7 rfl rfl (by decide) (hts _ q_fX10_85) rfl dX10_token_240 ?_
          obtain ⟨g_14, hf⟩ := gd_x hf
          refine va_iald hx hb hK hP 1 0 rfl rfl (inb_x g_14) dX10_token_243 ?_
          refine lv_bipush (v := (59 : Int32)) hx hb dX10_token_244 (by decide) ?_
          refine lv_icmp_ne (tgt := 253) hx hb dX10_token_246 (by decide) (fun c_15 => ?_) (fun c_15 => ?_)
          · have hf := it_f c_15 hf
            refine lv_iconst (v := (4 : Int32)) hx hb dX10_token_253 (by decide) ?_
            exact j254 o_next o_kind o_which o_next (4 : Int32) H locs ls hf hP hD hS (lv_sub hl [0] rfl)
          · have hf := it_t c_15 hf
            refine lv_iconst (v := (3 : Int32)) hx hb dX10_token_249 (by decide) ?_
            refine lv_goto (tgt := 254) hx hb dX10_token_250 (by decide) ?_
            exact j254 o_next o_kind o_which o_next (3 : Int32) H locs ls hf hP hD hS (lv_sub hl [0] rfl)
        · have hf := it_f c_13 hf
          refine lv_aload_n hx hb dX10_token_160 rfl (lv_at hl 0 rfl) ?_
          refine lv_iconst (v := (2 : Int32)) hx hb dX10_token_161 (by decide) ?_
          refine wr (ci := 10) (C := RX10) (T := TX10) (N := 37) hx hb hts inX10 tyX10 tyX10_ok nmX10 hown hK hP hD hS 0 8 rfl rfl (by decide) (hts _ q_fX10_88) rfl rfl rfl (Nat.le_of_ble_eq_true rfl) dX10_token_162 (ws2 := (wX10_token cI cJ cZ h_o h_o_tape h_o_words h_o_told h_o_isTold h_o_toldWave h_o_isPoint h_o_all h_o_quarter h_o_roots h_o_laidRe h_o_laidIm h_o_byOrder h_o_noted1 h_o_counts h_o_binBy o_tapeSize o_thrown o_fault o_faultPlace o_stop o_next (2 : Int32) o_which o_next o_pointsRead o_bank o_isImage o_undos o_runRadix o_runOrder o_runNear o_runLimit o_runHalves o_power o_notedMany o_knownTold o_drawn o_tape o_words)) rfl (fun H locs hP hD hS => ?_)
          refine lv_aload_n hx hb dX10_token_165 rfl (lv_at hl 0 rfl) ?_
          refine lv_iconst (v := (0 : Int32)) hx hb dX10_token_166 (by decide) ?_
          refine wr (ci := 10) (C := RX10) (T := TX10) (N := 37) hx hb hts inX10 tyX10 tyX10_ok nmX10 hown hK hP hD hS 0 9 rfl rfl (by decide) (hts _ q_fX10_99) rfl rfl rfl (Nat.le_of_ble_eq_true rfl) dX10_token_167 (ws2 := (wX10_token cI cJ cZ h_o h_o_tape h_o_words h_o_told h_o_isTold h_o_toldWave h_o_isPoint h_o_all h_o_quarter h_o_roots h_o_laidRe h_o_laidIm h_o_byOrder h_o_noted1 h_o_counts h_o_binBy o_tapeSize o_thrown o_fault o_faultPlace o_stop o_next (2 : Int32) (0 : Int32) o_next o_pointsRead o_bank o_isImage o_undos o_runRadix o_runOrder o_runNear o_runLimit o_runHalves o_power o_notedMany o_knownTold o_drawn o_tape o_words)) rfl (fun H locs hP hD hS => ?_)
          exact j170 FU o_next (2 : Int32) (0 : Int32) o_next H locs ls hf hP hD hS (lv_sub hl [0] rfl)
      · have hf := it_f c_10 hf
        exact j90 FU o_next o_kind o_which o_next H locs ls hf hP hD hS (lv_sub hl [0] rfl)
    · have hf := it_t c_7 hf
      refine lv_aload_n hx hb dX10_token_71 rfl (lv_at hl 0 rfl) ?_
      refine lv_iconst (v := (0 : Int32)) hx hb dX10_token_72 (by decide) ?_
      refine wr (ci := 10) (C := RX10) (T := TX10) (N := 37) hx hb hts inX10 tyX10 tyX10_ok nmX10 hown hK hP hD hS 0 8 rfl rfl (by decide) (hts _ q_fX10_88) rfl rfl rfl (Nat.le_of_ble_eq_true rfl) dX10_token_73 (ws2 := (wX10_token cI cJ cZ h_o h_o_tape h_o_words h_o_told h_o_isTold h_o_toldWave h_o_isPoint h_o_all h_o_quarter h_o_roots h_o_laidRe h_o_laidIm h_o_byOrder h_o_noted1 h_o_counts h_o_binBy o_tapeSize o_thrown o_fault o_faultPlace o_stop o_next (0 : Int32) o_which o_next o_pointsRead o_bank o_isImage o_undos o_runRadix o_runOrder o_runNear o_runLimit o_runHalves o_power o_notedMany o_knownTold o_drawn o_tape o_words)) rfl (fun H locs hP hD hS => ?_)
      refine lv_goto (tgt := 267) hx hb dX10_token_76 (by decide) ?_
      cases hf
      exact hret _ _ _ _ dX10_token_267 hP hD hS
  have j39 : ∀ (k0 : Int32 → Int32 → Int32 → Int32 → Option (Int32 × Int32 × Int32 × Int32)), (∀ (o_next : Int32) (o_kind : Int32) (o_which : Int32) (o_at : Int32) (H : Heap) (locs : List Loc) (ls : Array Slot), k0 o_next o_kind o_which o_at = some (out_o_next, out_o_kind, out_o_which, out_o_at) → va_P G vwCl (wX10_token cI cJ cZ h_o h_o_tape h_o_words h_o_told h_o_isTold h_o_toldWave h_o_isPoint h_o_all h_o_quarter h_o_roots h_o_laidRe h_o_laidIm h_o_byOrder h_o_noted1 h_o_counts h_o_binBy o_tapeSize o_thrown o_fault o_faultPlace o_stop o_next o_kind o_which o_at o_pointsRead o_bank o_isImage o_undos o_runRadix o_runOrder o_runNear o_runLimit o_runHalves o_power o_notedMany o_knownTold o_drawn o_tape o_words) H → va_D A (wX10_token cI cJ cZ h_o h_o_tape h_o_words h_o_told h_o_isTold h_o_toldWave h_o_isPoint h_o_all h_o_quarter h_o_roots h_o_laidRe h_o_laidIm h_o_byOrder h_o_noted1 h_o_counts h_o_binBy o_tapeSize o_thrown o_fault o_faultPlace o_stop o_next o_kind o_which o_at o_pointsRead o_bank o_isImage o_undos o_runRadix o_runOrder o_runNear o_runLimit o_runHalves o_power o_notedMany o_knownTold o_drawn o_tape o_words) → va_S A s.heap H locs → lv_has ls 1 [(0, .ref h_o)] → W p l e ({ frames := 1, cells := 0, slots := 0, locals := 27 } : Room) s m ([.ref h_o] : List Value).toArray below meth c H locs 0 0 Q (F0 m 0 ls [])) → ∀ (o_next : Int32) (o_kind : Int32) (o_which : Int32) (o_at : Int32) (H : Heap) (locs : List Loc) (ls : Array Slot), fX10_token_39 o_stop o_tape o_words k0 o_next o_kind o_which o_at = some (out_o_next, out_o_kind, out_o_which, out_o_at) → va_P G vwCl (wX10_token cI cJ cZ h_o h_o_tape h_o_words h_o_told h_o_isTold h_o_toldWave h_o_isPoint h_o_all h_o_quarter h_o_roots h_o_laidRe h_o_laidIm h_o_byOrder h_o_noted1 h_o_counts h_o_binBy o_tapeSize o_thrown o_fault o_faultPlace o_stop o_next o_kind o_which o_at o_pointsRead o_bank o_isImage o_undos o_runRadix o_runOrder o_runNear o_runLimit o_runHalves o_power o_notedMany o_knownTold o_drawn o_tape o_words) H → va_D A (wX10_token cI cJ cZ h_o h_o_tape h_o_words h_o_told h_o_isTold h_o_toldWave h_o_isPoint h_o_all h_o_quarter h_o_roots h_o_laidRe h_o_laidIm h_o_byOrder h_o_noted1 h_o_counts h_o_binBy o_tapeSize o_thrown o_fault o_faultPlace o_stop o_next o_kind o_which o_at o_pointsRead o_bank o_isImage o_undos o_runRadix o_runOrder o_runNear o_runLimit o_runHalves o_power o_notedMany o_knownTold o_drawn o_tape o_words) → va_S A s.heap H locs → lv_has ls 1 [(0, .ref h_o)] → W p l e ({ frames := 1, cells := 0, slots := 0, locals := 27 } : Room) s m ([.ref h_o] : List Value).toArray below meth c H locs 0 0 Q (F0 m 39 ls []) := by
    intro k0 hk0 o_next o_kind o_which o_at H locs ls hf hP hD hS hl
    unfold fX10_token_39 at hf
    refine lv_aload_n hx hb dX10_token_39 rfl (lv_at hl 0 rfl) ?_
    refine lv_dup hx hb dX10_token_40 rfl ?_
    refine rd (ci := 10) (C := RX10) (T := TX10) (N := 37) hx hb hts inX10 hown hK hP 0 7 rfl rfl (by decide) (hts _ q_fX10_85) rfl dX10_token_41 ?_
    refine lv_iconst (v := (1 : Int32)) hx hb dX10_token_44 (by decide) ?_
    refine lv_iadd hx hb dX10_token_45 ?_
    refine lv_topi (fun u_6 eu_6 => ?_)
    have hf := nm_x eu_6 hf
    refine wr (ci := 10) (C := RX10) (T := TX10) (N := 37) hx hb hts inX10 tyX10 tyX10_ok nmX10 hown hK hP hD hS 0 7 rfl rfl (by decide) (hts _ q_fX10_85) rfl rfl rfl (Nat.le_of_ble_eq_true rfl) dX10_token_46 (ws2 := (wX10_token cI cJ cZ h_o h_o_tape h_o_words h_o_told h_o_isTold h_o_toldWave h_o_isPoint h_o_all h_o_quarter h_o_roots h_o_laidRe h_o_laidIm h_o_byOrder h_o_noted1 h_o_counts h_o_binBy o_tapeSize o_thrown o_fault o_faultPlace o_stop u_6 o_kind o_which o_at o_pointsRead o_bank o_isImage o_undos o_runRadix o_runOrder o_runNear o_runLimit o_runHalves o_power o_notedMany o_knownTold o_drawn o_tape o_words)) rfl (fun H locs hP hD hS => ?_)
    refine lv_goto (tgt := 0) hx hb dX10_token_49 (by decide) ?_
    exact hk0 u_6 o_kind o_which o_at H locs ls hf hP hD hS (lv_sub hl [0] rfl)
  have j0 : ∀ (n : Nat) (o_next : Int32) (o_kind : Int32) (o_which : Int32) (o_at : Int32) (H : Heap) (locs : List Loc) (ls : Array Slot), fX10_token_0 o_stop o_tape o_words n o_next o_kind o_which o_at = some (out_o_next, out_o_kind, out_o_which, out_o_at) → va_P G vwCl (wX10_token cI cJ cZ h_o h_o_tape h_o_words h_o_told h_o_isTold h_o_toldWave h_o_isPoint h_o_all h_o_quarter h_o_roots h_o_laidRe h_o_laidIm h_o_byOrder h_o_noted1 h_o_counts h_o_binBy o_tapeSize o_thrown o_fault o_faultPlace o_stop o_next o_kind o_which o_at o_pointsRead o_bank o_isImage o_undos o_runRadix o_runOrder o_runNear o_runLimit o_runHalves o_power o_notedMany o_knownTold o_drawn o_tape o_words) H → va_D A (wX10_token cI cJ cZ h_o h_o_tape h_o_words h_o_told h_o_isTold h_o_toldWave h_o_isPoint h_o_all h_o_quarter h_o_roots h_o_laidRe h_o_laidIm h_o_byOrder h_o_noted1 h_o_counts h_o_binBy o_tapeSize o_thrown o_fault o_faultPlace o_stop o_next o_kind o_which o_at o_pointsRead o_bank o_isImage o_undos o_runRadix o_runOrder o_runNear o_runLimit o_runHalves o_power o_notedMany o_knownTold o_drawn o_tape o_words) → va_S A s.heap H locs → lv_has ls 1 [(0, .ref h_o)] → W p l e ({ frames := 1, cells := 0, slots := 0, locals := 27 } : Room) s m ([.ref h_o] : List Value).toArray below meth c H locs 0 0 Q (F0 m 0 ls []) := by
    intro n
    induction n with
    | zero =>
      intro o_next o_kind o_which o_at H locs ls hf
      have hf : (none : Option (Int32 × Int32 × Int32 × Int32)) = some (out_o_next, out_o_kind, out_o_which, out_o_at) := hf
      cases hf
    | succ n ih =>
      intro o_next o_kind o_which o_at H locs ls hf hP hD hS hl
      rw [fX10_token_0.eq_2] at hf
      refine lv_aload_n hx hb dX10_token_0 rfl (lv_at hl 0 rfl) ?_
      refine rd (ci := 10) (C := RX10) (T := TX10) (N := 37) hx hb hts inX10 hown hK hP 0 7 rfl rfl (by decide) (hts _ q_fX10_85) rfl dX10_token_1 ?_
      refine lv_aload_n hx hb dX10_token_4 rfl (lv_at hl 0 rfl) ?_
      refine rd (ci := 10) (C := RX10) (T := TX10) (N := 37) hx hb hts inX10 hown hK hP 0 6 rfl rfl (by decide) (hts _ q_fX10_82) rfl dX10_token_5 ?_
      refine lv_icmp_ge (tgt := 52) hx hb dX10_token_8 (by decide) (fun c_1 => ?_) (fun c_1 => ?_)
      · have hf := it_t c_1 hf
        exact j52 o_next o_kind o_which o_at H locs ls hf hP hD hS (lv_sub hl [0] rfl)
      · have hf := it_f c_1 hf
        refine lv_aload_n hx hb dX10_token_11 rfl (lv_at hl 0 rfl) ?_
        refine rd (ci := 10) (C := RX10) (T := TX10) (N := 37) hx hb hts inX10 hown hK hP 0 0 rfl rfl (by decide) (hts _ q_fX10_7) rfl dX10_token_12 ?_
        refine lv_aload_n hx hb dX10_token_15 rfl (lv_at hl 0 rfl) ?_
        refine rd (ci := 10) (C := RX10) (T := TX10) (N := 37) hx hb hts inX10 hown hK hP 0 7 rfl rfl (by decide) (hts _ q_fX10_85) rfl dX10_token_16 ?_
        obtain ⟨g_2, hf⟩ := gd_x hf
        refine va_iald hx hb hK hP 1 0 rfl rfl (inb_x g_2) dX10_token_19 ?_
        refine lv_bipush (v := (10 : Int32)) hx hb dX10_token_20 (by decide) ?_
        refine lv_icmp_eq (tgt := 39) hx hb dX10_token_22 (by decide) (fun c_3 => ?_) (fun c_3 => ?_)
        · have hf := it_t c_3 hf
          exact j39 (fX10_token_0 o_stop o_tape o_words n) ih o_next o_kind o_which o_at H locs ls hf hP hD hS (lv_sub hl [0] rfl)
        · have hf := it_f c_3 hf
          refine lv_aload_n hx hb dX10_token_25 rfl (lv_at hl 0 rfl) ?_
          refine rd (ci := 10) (C := RX10) (T := TX10) (N := 37) hx hb hts inX10 hown hK hP 0 0 rfl rfl (by decide) (hts _ q_fX10_7) rfl dX10_token_26 ?_
          refine lv_aload_n hx hb dX10_token_29 rfl (lv_at hl 0 rfl) ?_
          refine rd (ci := 10) (C := RX10) (T := TX10) (N := 37) hx hb hts inX10 hown hK hP 0 7 rfl rfl (by decide) (hts _ q_fX10_85) rfl dX10_token_30 ?_
          obtain ⟨g_4, hf⟩ := gd_x hf
          refine va_iald hx hb hK hP 1 0 rfl rfl (inb_x g_4) dX10_token_33 ?_
          refine lv_bipush (v := (32 : Int32)) hx hb dX10_token_34 (by decide) ?_
          refine lv_icmp_ne (tgt := 52) hx hb dX10_token_36 (by decide) (fun c_5 => ?_) (fun c_5 => ?_)
          · have hf := it_f c_5 hf
            exact j52 o_next o_kind o_which o_at H locs ls hf hP hD hS (lv_sub hl [0] rfl)
          · have hf := it_t c_5 hf
            exact j39 (fX10_token_0 o_stop o_tape o_words n) ih o_next o_kind o_which o_at H locs ls hf hP hD hS (lv_sub hl [0] rfl)
  unfold fX10_token at hf
  obtain ⟨H, eH⟩ : ∃ H, H = s.heap := ⟨_, rfl⟩
  obtain ⟨locs, elocs⟩ : ∃ z : List Loc, z = [] := ⟨_, rfl⟩
  have hP : va_P G vwCl (wX10_token cI cJ cZ h_o h_o_tape h_o_words h_o_told h_o_isTold h_o_toldWave h_o_isPoint h_o_all h_o_quarter h_o_roots h_o_laidRe h_o_laidIm h_o_byOrder h_o_noted1 h_o_counts h_o_binBy o_tapeSize o_thrown o_fault o_faultPlace o_stop o_next o_kind o_which o_at o_pointsRead o_bank o_isImage o_undos o_runRadix o_runOrder o_runNear o_runLimit o_runHalves o_power o_notedMany o_knownTold o_drawn o_tape o_words) H := by rw [eH]; exact hP
  have hS : va_S A s.heap H locs := by rw [eH, elocs]; exact hS
  suffices hgo : W p l e ({ frames := 1, cells := 0, slots := 0, locals := 27 } : Room) s m ([.ref h_o] : List Value).toArray below meth c H locs 0 0 Q (F0 m 0 ls []) by rw [eH, elocs] at hgo; exact hgo
  clear eH elocs
  exact j0 FU o_next o_kind o_which o_at H locs ls hf hP hD hS (lv_sub hl [0] rfl)
def wX10_plain (cI cJ cZ : ClassId) (h_o h_o_isPoint h_o_isTold h_o_told h_o_toldWave h_o_tape h_o_words h_o_all h_o_quarter h_o_roots h_o_laidRe h_o_laidIm h_o_byOrder h_o_noted1 h_o_counts h_o_binBy : Nat) (o_tapeSize : Int32) (o_thrown : Int32) (o_fault : Int32) (o_faultPlace : Int32) (o_stop : Int32) (o_next : Int32) (o_kind : Int32) (o_which : Int32) (o_at : Int32) (o_pointsRead : Int32) (o_bank : Int32) (o_isImage : Int32) (o_undos : Int32) (o_runRadix : Int32) (o_runOrder : Int32) (o_runNear : Int32) (o_runLimit : Int32) (o_runHalves : Int32) (o_power : Int32) (o_notedMany : Int32) (o_knownTold : Int32) (o_drawn : Int64) (o_isPoint : Nat → Int32) (o_isTold : Nat → Int32) (o_told : Nat → Int32) (o_toldWave : Nat → Int32) : va_W := [(h_o, .inr (10, [.ref h_o_tape, .int o_tapeSize, .int o_thrown, .ref h_o_words, .int o_fault, .int o_faultPlace, .int o_stop, .int o_next, .int o_kind, .int o_which, .int o_at, .ref h_o_told, .ref h_o_isTold, .ref h_o_toldWave, .ref h_o_isPoint, .int o_pointsRead, .ref h_o_all, .int o_bank, .int o_isImage, .int o_undos, .int o_runRadix, .int o_runOrder, .int o_runNear, .int o_runLimit, .int o_runHalves, .ref h_o_quarter, .int o_power, .ref h_o_roots, .ref h_o_laidRe, .ref h_o_laidIm, .ref h_o_byOrder, .int o_notedMany, .int o_knownTold, .ref h_o_noted1, .ref h_o_counts, .ref h_o_binBy, .long o_drawn])), (h_o_isPoint, .inl (cZ, 64, .inl o_isPoint)), (h_o_isTold, .inl (cZ, 6, .inl o_isTold)), (h_o_told, .inl (cI, 12, .inl o_told)), (h_o_toldWave, .inl (cI, 128, .inl o_toldWave))]
def fX10_plain_102 (o_pointsRead : Int32) (o_isPoint : Nat → Int32) (o_isTold : Nat → Int32) (o_told : Nat → Int32) (o_toldWave : Nat → Int32) : Option (Int32 × (Nat → Int32) × (Nat → Int32) × (Nat → Int32) × (Nat → Int32)) :=
  some ((0 : Int32), o_isPoint, o_isTold, o_told, o_toldWave)
def fX10_plain_73 : Nat → Int32 → (Nat → Int32) → (Nat → Int32) → (Nat → Int32) → (Nat → Int32) → Int32 → Option (Int32 × (Nat → Int32) × (Nat → Int32) × (Nat → Int32) × (Nat → Int32))
  | 0, _, _, _, _, _, _ => none
  | n + 1, o_pointsRead, o_isPoint, o_isTold, o_told, o_toldWave, v1 =>
    if (64 : Int32) ≤ v1 then (
      fX10_plain_102 o_pointsRead o_isPoint o_isTold o_told o_toldWave
    ) else (
      gd (inb ((64 : Int32) + v1) 128) (
      nm (upd o_toldWave (Int32.toNatClampNeg ((64 : Int32) + v1)) (0 : Int32)) (fun o_toldWave_19 =>
      gd (inb v1 64) (
      nm (upd o_isPoint (Int32.toNatClampNeg v1) (vp_nar .boolean (0 : Int32))) (fun o_isPoint_21 =>
      nm (v1 + (1 : Int32)) (fun v1_22 =>
      fX10_plain_73 n o_pointsRead o_isPoint_21 o_isTold o_told o_toldWave_19 v1_22)))))
    )
def fX10_plain_71 (o_pointsRead : Int32) (o_isPoint : Nat → Int32) (o_isTold : Nat → Int32) (o_told : Nat → Int32) (o_toldWave : Nat → Int32) : Option (Int32 × (Nat → Int32) × (Nat → Int32) × (Nat → Int32) × (Nat → Int32)) :=
  fX10_plain_73 FU o_pointsRead o_isPoint o_isTold o_told o_toldWave (0 : Int32)
def fX10_plain_52 : Nat → Int32 → (Nat → Int32) → (Nat → Int32) → (Nat → Int32) → (Nat → Int32) → Int32 → Option (Int32 × (Nat → Int32) × (Nat → Int32) × (Nat → Int32) × (Nat → Int32))
  | 0, _, _, _, _, _, _ => none
  | n + 1, o_pointsRead, o_isPoint, o_isTold, o_told, o_toldWave, v1 =>
    if (6 : Int32) ≤ v1 then (
      fX10_plain_71 o_pointsRead o_isPoint o_isTold o_told o_toldWave
    ) else (
      gd (inb v1 6) (
      nm (upd o_isTold (Int32.toNatClampNeg v1) (vp_nar .boolean (0 : Int32))) (fun o_isTold_15 =>
      nm (v1 + (1 : Int32)) (fun v1_16 =>
      fX10_plain_52 n o_pointsRead o_isPoint o_isTold_15 o_told o_toldWave v1_16)))
    )
def fX10_plain (o_pointsRead : Int32) (o_isPoint : Nat → Int32) (o_isTold : Nat → Int32) (o_told : Nat → Int32) (o_toldWave : Nat → Int32) : Option (Int32 × (Nat → Int32) × (Nat → Int32) × (Nat → Int32) × (Nat → Int32)) :=
  gd (inb (6 : Int32) 12) (
  nm (upd o_told (Int32.toNatClampNeg (6 : Int32)) (8 : Int32)) (fun o_told_2 =>
  gd (inb (7 : Int32) 12) (
  nm (upd o_told_2 (Int32.toNatClampNeg (7 : Int32)) (16 : Int32)) (fun o_told_4 =>
  gd (inb (8 : Int32) 12) (
  nm (upd o_told_4 (Int32.toNatClampNeg (8 : Int32)) (2 : Int32)) (fun o_told_6 =>
  gd (inb (9 : Int32) 12) (
  nm (upd o_told_6 (Int32.toNatClampNeg (9 : Int32)) (0 : Int32)) (fun o_told_8 =>
  gd (inb (10 : Int32) 12) (
  nm (upd o_told_8 (Int32.toNatClampNeg (10 : Int32)) (1 : Int32)) (fun o_told_10 =>
  gd (inb (11 : Int32) 12) (
  nm (upd o_told_10 (Int32.toNatClampNeg (11 : Int32)) (0 : Int32)) (fun o_told_12 =>
  fX10_plain_52 FU o_pointsRead o_isPoint o_isTold o_told_12 o_toldWave (0 : Int32)))))))))))))
set_option maxHeartbeats 4000000 in
set_option maxRecDepth 100000 in
theorem tX10_plain (l : Launch) (G : va_G) (cI cJ cZ : ClassId) (sz : Nat) (h_o h_o_isPoint h_o_isTold h_o_told h_o_toldWave h_o_tape h_o_words h_o_all h_o_quarter h_o_roots h_o_laidRe h_o_laidIm h_o_byOrder h_o_noted1 h_o_counts h_o_binBy : Nat) (o_tapeSize : Int32) (o_thrown : Int32) (o_fault : Int32) (o_faultPlace : Int32) (o_stop : Int32) (o_next : Int32) (o_kind : Int32) (o_which : Int32) (o_at : Int32) (o_pointsRead : Int32) (o_bank : Int32) (o_isImage : Int32) (o_undos : Int32) (o_runRadix : Int32) (o_runOrder : Int32) (o_runNear : Int32) (o_runLimit : Int32) (o_runHalves : Int32) (o_power : Int32) (o_notedMany : Int32) (o_knownTold : Int32) (o_drawn : Int64) (o_isPoint : Nat → Int32) (o_isTold : Nat → Int32) (o_told : Nat → Int32) (o_toldWave : Nat → Int32) (out_o_pointsRead : Int32) (out_o_isPoint : Nat → Int32) (out_o_isTold : Nat → Int32) (out_o_told : Nat → Int32) (out_o_toldWave : Nat → Int32) (hf : fX10_plain o_pointsRead o_isPoint o_isTold o_told o_toldWave = some (out_o_pointsRead, out_o_isPoint, out_o_isTold, out_o_told, out_o_toldWave)) : Met l yX10_plain (Cond.code yX10_plain cX10_plain 2 none :: BIG) ({ frames := 0, cells := 0, slots := 0, locals := 0 } : Room) (cP G (TY3 cI cJ cZ) [.ref h_o] sz (wX10_plain cI cJ cZ h_o h_o_isPoint h_o_isTold h_o_told h_o_toldWave h_o_tape h_o_words h_o_all h_o_quarter h_o_roots h_o_laidRe h_o_laidIm h_o_byOrder h_o_noted1 h_o_counts h_o_binBy o_tapeSize o_thrown o_fault o_faultPlace o_stop o_next o_kind o_which o_at o_pointsRead o_bank o_isImage o_undos o_runRadix o_runOrder o_runNear o_runLimit o_runHalves o_power o_notedMany o_knownTold o_drawn o_isPoint o_isTold o_told o_toldWave)) (cQ G (TY3 cI cJ cZ) sz (wX10_plain cI cJ cZ h_o h_o_isPoint h_o_isTold h_o_told h_o_toldWave h_o_tape h_o_words h_o_all h_o_quarter h_o_roots h_o_laidRe h_o_laidIm h_o_byOrder h_o_noted1 h_o_counts h_o_binBy o_tapeSize o_thrown o_fault o_faultPlace o_stop o_next o_kind o_which o_at o_pointsRead o_bank o_isImage o_undos o_runRadix o_runOrder o_runNear o_runLimit o_runHalves o_power o_notedMany o_knownTold o_drawn o_isPoint o_isTold o_told o_toldWave) (wX10_plain cI cJ cZ h_o h_o_isPoint h_o_isTold h_o_told h_o_toldWave h_o_tape h_o_words h_o_all h_o_quarter h_o_roots h_o_laidRe h_o_laidIm h_o_byOrder h_o_noted1 h_o_counts h_o_binBy o_tapeSize o_thrown o_fault o_faultPlace o_stop o_next o_kind o_which o_at out_o_pointsRead o_bank o_isImage o_undos o_runRadix o_runOrder o_runNear o_runLimit o_runHalves o_power o_notedMany o_knownTold o_drawn out_o_isPoint out_o_isTold out_o_told out_o_toldWave) none) 0 0 (va_A (wX10_plain cI cJ cZ h_o h_o_isPoint h_o_isTold h_o_told h_o_toldWave h_o_tape h_o_words h_o_all h_o_quarter h_o_roots h_o_laidRe h_o_laidIm h_o_byOrder h_o_noted1 h_o_counts h_o_binBy o_tapeSize o_thrown o_fault o_faultPlace o_stop o_next o_kind o_which o_at o_pointsRead o_bank o_isImage o_undos o_runRadix o_runOrder o_runNear o_runLimit o_runHalves o_power o_notedMany o_knownTold o_drawn o_isPoint o_isTold o_told o_toldWave) sz) := by
  refine met_v (cc := cX10_plain) (maxL := 2) (plainFor_of_name (by decide)) (Nat.le_of_ble_eq_true rfl) (fun p e s m below meth c A ls Q hx hb hml hts hown hK hP hD hS hA hl hret => ?_)
  have hown : s.vm.findClass RX10 = some m.cls := hown
  have hl : lv_has ls 2 [(0, .ref h_o)] := hl
  have j102 : ∀ (o_pointsRead : Int32) (o_isPoint : Nat → Int32) (o_isTold : Nat → Int32) (o_told : Nat → Int32) (o_toldWave : Nat → Int32) (H : Heap) (locs : List Loc) (ls : Array Slot), fX10_plain_102 o_pointsRead o_isPoint o_isTold o_told o_toldWave = some (out_o_pointsRead, out_o_isPoint, out_o_isTold, out_o_told, out_o_toldWave) → va_P G vwCl (wX10_plain cI cJ cZ h_o h_o_isPoint h_o_isTold h_o_told h_o_toldWave h_o_tape h_o_words h_o_all h_o_quarter h_o_roots h_o_laidRe h_o_laidIm h_o_byOrder h_o_noted1 h_o_counts h_o_binBy o_tapeSize o_thrown o_fault o_faultPlace o_stop o_next o_kind o_which o_at o_pointsRead o_bank o_isImage o_undos o_runRadix o_runOrder o_runNear o_runLimit o_runHalves o_power o_notedMany o_knownTold o_drawn o_isPoint o_isTold o_told o_toldWave) H → va_D A (wX10_plain cI cJ cZ h_o h_o_isPoint h_o_isTold h_o_told h_o_toldWave h_o_tape h_o_words h_o_all h_o_quarter h_o_roots h_o_laidRe h_o_laidIm h_o_byOrder h_o_noted1 h_o_counts h_o_binBy o_tapeSize o_thrown o_fault o_faultPlace o_stop o_next o_kind o_which o_at o_pointsRead o_bank o_isImage o_undos o_runRadix o_runOrder o_runNear o_runLimit o_runHalves o_power o_notedMany o_knownTold o_drawn o_isPoint o_isTold o_told o_toldWave) → va_S A s.heap H locs → lv_has ls 2 [(0, .ref h_o)] → W p l e ({ frames := 0, cells := 0, slots := 0, locals := 0 } : Room) s m ([.ref h_o] : List Value).toArray below meth c H locs 0 0 Q (F0 m 102 ls []) := by
    intro o_pointsRead o_isPoint o_isTold o_told o_toldWave H locs ls hf hP hD hS hl
    unfold fX10_plain_102 at hf
    refine lv_aload_n hx hb dX10_plain_102 rfl (lv_at hl 0 rfl) ?_
    refine lv_iconst (v := (0 : Int32)) hx hb dX10_plain_103 (by decide) ?_
    refine wr (ci := 10) (C := RX10) (T := TX10) (N := 37) hx hb hts inX10 tyX10 tyX10_ok nmX10 hown hK hP hD hS 0 15 rfl rfl (by decide) (hts _ q_fX10_106) rfl rfl rfl (Nat.le_of_ble_eq_true rfl) dX10_plain_104 (ws2 := (wX10_plain cI cJ cZ h_o h_o_isPoint h_o_isTold h_o_told h_o_toldWave h_o_tape h_o_words h_o_all h_o_quarter h_o_roots h_o_laidRe h_o_laidIm h_o_byOrder h_o_noted1 h_o_counts h_o_binBy o_tapeSize o_thrown o_fault o_faultPlace o_stop o_next o_kind o_which o_at (0 : Int32) o_bank o_isImage o_undos o_runRadix o_runOrder o_runNear o_runLimit o_runHalves o_power o_notedMany o_knownTold o_drawn o_isPoint o_isTold o_told o_toldWave)) rfl (fun H locs hP hD hS => ?_)
    cases hf
    exact hret _ _ _ _ dX10_plain_107 hP hD hS
  have j73 : ∀ (n : Nat) (o_pointsRead : Int32) (o_isPoint : Nat → Int32) (o_isTold : Nat → Int32) (o_told : Nat → Int32) (o_toldWave : Nat → Int32) (v1 : Int32) (H : Heap) (locs : List Loc) (ls : Array Slot), fX10_plain_73 n o_pointsRead o_isPoint o_isTold o_told o_toldWave v1 = some (out_o_pointsRead, out_o_isPoint, out_o_isTold, out_o_told, out_o_toldWave) → va_P G vwCl (wX10_plain cI cJ cZ h_o h_o_isPoint h_o_isTold h_o_told h_o_toldWave h_o_tape h_o_words h_o_all h_o_quarter h_o_roots h_o_laidRe h_o_laidIm h_o_byOrder h_o_noted1 h_o_counts h_o_binBy o_tapeSize o_thrown o_fault o_faultPlace o_stop o_next o_kind o_which o_at o_pointsRead o_bank o_isImage o_undos o_runRadix o_runOrder o_runNear o_runLimit o_runHalves o_power o_notedMany o_knownTold o_drawn o_isPoint o_isTold o_told o_toldWave) H → va_D A (wX10_plain cI cJ cZ h_o h_o_isPoint h_o_isTold h_o_told h_o_toldWave h_o_tape h_o_words h_o_all h_o_quarter h_o_roots h_o_laidRe h_o_laidIm h_o_byOrder h_o_noted1 h_o_counts h_o_binBy o_tapeSize o_thrown o_fault o_faultPlace o_stop o_next o_kind o_which o_at o_pointsRead o_bank o_isImage o_undos o_runRadix o_runOrder o_runNear o_runLimit o_runHalves o_power o_notedMany o_knownTold o_drawn o_isPoint o_isTold o_told o_toldWave) → va_S A s.heap H locs → lv_has ls 2 [(0, .ref h_o), (1, .int v1)] → W p l e ({ frames := 0, cells := 0, slots := 0, locals := 0 } : Room) s m ([.ref h_o] : List Value).toArray below meth c H locs 0 0 Q (F0 m 73 ls []) := by
    intro n
    induction n with
    | zero =>
      intro o_pointsRead o_isPoint o_isTold o_told o_toldWave v1 H locs ls hf
      have hf : (none : Option (Int32 × (Nat → Int32) × (Nat → Int32) × (Nat → Int32) × (Nat → Int32))) = some (out_o_pointsRead, out_o_isPoint, out_o_isTold, out_o_told, out_o_toldWave) := hf
      cases hf
    | succ n ih =>
      intro o_pointsRead o_isPoint o_isTold o_told o_toldWave v1 H locs ls hf hP hD hS hl
      rw [fX10_plain_73.eq_2] at hf
      refine lv_iload_n hx hb dX10_plain_73 rfl (lv_at hl 1 rfl) ?_
      refine lv_bipush (v := (64 : Int32)) hx hb dX10_plain_74 (by decide) ?_
      refine lv_icmp_ge (tgt := 102) hx hb dX10_plain_76 (by decide) (fun c_17 => ?_) (fun c_17 => ?_)
      · have hf := it_t c_17 hf
        exact j102 o_pointsRead o_isPoint o_isTold o_told o_toldWave H locs ls hf hP hD hS (lv_sub hl [0] rfl)
      · have hf := it_f c_17 hf
        refine lv_aload_n hx hb dX10_plain_79 rfl (lv_at hl 0 rfl) ?_
        refine rd (ci := 10) (C := RX10) (T := TX10) (N := 37) hx hb hts inX10 hown hK hP 0 13 rfl rfl (by decide) (hts _ q_fX10_27) rfl dX10_plain_80 ?_
        refine lv_bipush (v := (64 : Int32)) hx hb dX10_plain_83 (by decide) ?_
        refine lv_iload_n hx hb dX10_plain_85 rfl (lv_at hl 1 rfl) ?_
        refine lv_iadd hx hb dX10_plain_86 ?_
        refine lv_iconst (v := (0 : Int32)) hx hb dX10_plain_87 (by decide) ?_
        obtain ⟨g_18, hf⟩ := gd_x hf
        obtain ⟨o_toldWave_19, eo_toldWave_19⟩ : ∃ y : Nat → Int32, y = upd o_toldWave (Int32.toNatClampNeg ((64 : Int32) + v1)) (0 : Int32) := ⟨_, rfl⟩
        have hf := nm_x eo_toldWave_19 hf
        refine ist hx hb hK hP hD hS 4 0 rfl rfl (inb_x g_18) dX10_plain_88 eo_toldWave_19 (ws2 := (wX10_plain cI cJ cZ h_o h_o_isPoint h_o_isTold h_o_told h_o_toldWave h_o_tape h_o_words h_o_all h_o_quarter h_o_roots h_o_laidRe h_o_laidIm h_o_byOrder h_o_noted1 h_o_counts h_o_binBy o_tapeSize o_thrown o_fault o_faultPlace o_stop o_next o_kind o_which o_at o_pointsRead o_bank o_isImage o_undos o_runRadix o_runOrder o_runNear o_runLimit o_runHalves o_power o_notedMany o_knownTold o_drawn o_isPoint o_isTold o_told o_toldWave_19)) rfl (fun H locs hP hD hS => ?_)
        refine lv_aload_n hx hb dX10_plain_89 rfl (lv_at hl 0 rfl) ?_
        refine rd (ci := 10) (C := RX10) (T := TX10) (N := 37) hx hb hts inX10 hown hK hP 0 14 rfl rfl (by decide) (hts _ q_fX10_30) rfl dX10_plain_90 ?_
        refine lv_iload_n hx hb dX10_plain_93 rfl (lv_at hl 1 rfl) ?_
        refine lv_iconst (v := (0 : Int32)) hx hb dX10_plain_94 (by decide) ?_
        obtain ⟨g_20, hf⟩ := gd_x hf
        obtain ⟨o_isPoint_21, eo_isPoint_21⟩ : ∃ y : Nat → Int32, y = upd o_isPoint (Int32.toNatClampNeg v1) (vp_nar .boolean (0 : Int32)) := ⟨_, rfl⟩
        have hf := nm_x eo_isPoint_21 hf
        refine zst hx hb hK hP hD hS 1 2 rfl rfl (inb_x g_20) dX10_plain_95 eo_isPoint_21 (ws2 := (wX10_plain cI cJ cZ h_o h_o_isPoint h_o_isTold h_o_told h_o_toldWave h_o_tape h_o_words h_o_all h_o_quarter h_o_roots h_o_laidRe h_o_laidIm h_o_byOrder h_o_noted1 h_o_counts h_o_binBy o_tapeSize o_thrown o_fault o_faultPlace o_stop o_next o_kind o_which o_at o_pointsRead o_bank o_isImage o_undos o_runRadix o_runOrder o_runNear o_runLimit o_runHalves o_power o_notedMany o_knownTold o_drawn o_isPoint_21 o_isTold o_told o_toldWave_19)) rfl (fun H locs hP hD hS => ?_)
        obtain ⟨v1_22, ev1_22⟩ : ∃ y : Int32, y = v1 + (1 : Int32) := ⟨_, rfl⟩
        have hf := nm_x ev1_22 hf
        refine lv_iinc (v := v1_22) (lv' := [(1, .int v1_22), (0, .ref h_o)]) hx hb dX10_plain_96 hl (k := 1) rfl (by rw [ev1_22]; rfl) (by decide) rfl (fun ls hl => ?_)
        refine lv_goto (tgt := 73) hx hb dX10_plain_99 (by decide) ?_
        exact ih o_pointsRead o_isPoint_21 o_isTold o_told o_toldWave_19 v1_22 H locs ls hf hP hD hS (lv_sub hl [1, 0] rfl)
  have j71 : ∀ (o_pointsRead : Int32) (o_isPoint : Nat → Int32) (o_isTold : Nat → Int32) (o_told : Nat → Int32) (o_toldWave : Nat → Int32) (H : Heap) (locs : List Loc) (ls : Array Slot), fX10_plain_71 o_pointsRead o_isPoint o_isTold o_told o_toldWave = some (out_o_pointsRead, out_o_isPoint, out_o_isTold, out_o_told, out_o_toldWave) → va_P G vwCl (wX10_plain cI cJ cZ h_o h_o_isPoint h_o_isTold h_o_told h_o_toldWave h_o_tape h_o_words h_o_all h_o_quarter h_o_roots h_o_laidRe h_o_laidIm h_o_byOrder h_o_noted1 h_o_counts h_o_binBy o_tapeSize o_thrown o_fault o_faultPlace o_stop o_next o_kind o_which o_at o_pointsRead o_bank o_isImage o_undos o_runRadix o_runOrder o_runNear o_runLimit o_runHalves o_power o_notedMany o_knownTold o_drawn o_isPoint o_isTold o_told o_toldWave) H → va_D A (wX10_plain cI cJ cZ h_o h_o_isPoint h_o_isTold h_o_told h_o_toldWave h_o_tape h_o_words h_o_all h_o_quarter h_o_roots h_o_laidRe h_o_laidIm h_o_byOrder h_o_noted1 h_o_counts h_o_binBy o_tapeSize o_thrown o_fault o_faultPlace o_stop o_next o_kind o_which o_at o_pointsRead o_bank o_isImage o_undos o_runRadix o_runOrder o_runNear o_runLimit o_runHalves o_power o_notedMany o_knownTold o_drawn o_isPoint o_isTold o_told o_toldWave) → va_S A s.heap H locs → lv_has ls 2 [(0, .ref h_o)] → W p l e ({ frames := 0, cells := 0, slots := 0, locals := 0 } : Room) s m ([.ref h_o] : List Value).toArray below meth c H locs 0 0 Q (F0 m 71 ls []) := by
    intro o_pointsRead o_isPoint o_isTold o_told o_toldWave H locs ls hf hP hD hS hl
    unfold fX10_plain_71 at hf
    refine lv_iconst (v := (0 : Int32)) hx hb dX10_plain_71 (by decide) ?_
    refine lv_istore_n (lv' := [(1, .int (0 : Int32)), (0, .ref h_o)]) hx hb dX10_plain_72 rfl hl (by decide) rfl (fun ls hl => ?_)
    exact j73 FU o_pointsRead o_isPoint o_isTold o_told o_toldWave (0 : Int32) H locs ls hf hP hD hS (lv_sub hl [1, 0] rfl)
  have j52 : ∀ (n : Nat) (o_pointsRead : Int32) (o_isPoint : Nat → Int32) (o_isTold : Nat → Int32) (o_told : Nat → Int32) (o_toldWave : Nat → Int32) (v1 : Int32) (H : Heap) (locs : List Loc) (ls : Array Slot), fX10_plain_52 n o_pointsRead o_isPoint o_isTold o_told o_toldWave v1 = some (out_o_pointsRead, out_o_isPoint, out_o_isTold, out_o_told, out_o_toldWave) → va_P G vwCl (wX10_plain cI cJ cZ h_o h_o_isPoint h_o_isTold h_o_told h_o_toldWave h_o_tape h_o_words h_o_all h_o_quarter h_o_roots h_o_laidRe h_o_laidIm h_o_byOrder h_o_noted1 h_o_counts h_o_binBy o_tapeSize o_thrown o_fault o_faultPlace o_stop o_next o_kind o_which o_at o_pointsRead o_bank o_isImage o_undos o_runRadix o_runOrder o_runNear o_runLimit o_runHalves o_power o_notedMany o_knownTold o_drawn o_isPoint o_isTold o_told o_toldWave) H → va_D A (wX10_plain cI cJ cZ h_o h_o_isPoint h_o_isTold h_o_told h_o_toldWave h_o_tape h_o_words h_o_all h_o_quarter h_o_roots h_o_laidRe h_o_laidIm h_o_byOrder h_o_noted1 h_o_counts h_o_binBy o_tapeSize o_thrown o_fault o_faultPlace o_stop o_next o_kind o_which o_at o_pointsRead o_bank o_isImage o_undos o_runRadix o_runOrder o_runNear o_runLimit o_runHalves o_power o_notedMany o_knownTold o_drawn o_isPoint o_isTold o_told o_toldWave) → va_S A s.heap H locs → lv_has ls 2 [(0, .ref h_o), (1, .int v1)] → W p l e ({ frames := 0, cells := 0, slots := 0, locals := 0 } : Room) s m ([.ref h_o] : List Value).toArray below meth c H locs 0 0 Q (F0 m 52 ls []) := by
    intro n
    induction n with
    | zero =>
      intro o_pointsRead o_isPoint o_isTold o_told o_toldWave v1 H locs ls hf
      have hf : (none : Option (Int32 × (Nat → Int32) × (Nat → Int32) × (Nat → Int32) × (Nat → Int32))) = some (out_o_pointsRead, out_o_isPoint, out_o_isTold, out_o_told, out_o_toldWave) := hf
      cases hf
    | succ n ih =>
      intro o_pointsRead o_isPoint o_isTold o_told o_toldWave v1 H locs ls hf hP hD hS hl
      rw [fX10_plain_52.eq_2] at hf
      refine lv_iload_n hx hb dX10_plain_52 rfl (lv_at hl 1 rfl) ?_
      refine lv_bipush (v := (6 : Int32)) hx hb dX10_plain_53 (by decide) ?_
      refine lv_icmp_ge (tgt := 71) hx hb dX10_plain_55 (by decide) (fun c_13 => ?_) (fun c_13 => ?_)
      · have hf := it_t c_13 hf
        exact j71 o_pointsRead o_isPoint o_isTold o_told o_toldWave H locs ls hf hP hD hS (lv_sub hl [0] rfl)
      · have hf := it_f c_13 hf
        refine lv_aload_n hx hb dX10_plain_58 rfl (lv_at hl 0 rfl) ?_
        refine rd (ci := 10) (C := RX10) (T := TX10) (N := 37) hx hb hts inX10 hown hK hP 0 12 rfl rfl (by decide) (hts _ q_fX10_23) rfl dX10_plain_59 ?_
        refine lv_iload_n hx hb dX10_plain_62 rfl (lv_at hl 1 rfl) ?_
        refine lv_iconst (v := (0 : Int32)) hx hb dX10_plain_63 (by decide) ?_
        obtain ⟨g_14, hf⟩ := gd_x hf
        obtain ⟨o_isTold_15, eo_isTold_15⟩ : ∃ y : Nat → Int32, y = upd o_isTold (Int32.toNatClampNeg v1) (vp_nar .boolean (0 : Int32)) := ⟨_, rfl⟩
        have hf := nm_x eo_isTold_15 hf
        refine zst hx hb hK hP hD hS 2 2 rfl rfl (inb_x g_14) dX10_plain_64 eo_isTold_15 (ws2 := (wX10_plain cI cJ cZ h_o h_o_isPoint h_o_isTold h_o_told h_o_toldWave h_o_tape h_o_words h_o_all h_o_quarter h_o_roots h_o_laidRe h_o_laidIm h_o_byOrder h_o_noted1 h_o_counts h_o_binBy o_tapeSize o_thrown o_fault o_faultPlace o_stop o_next o_kind o_which o_at o_pointsRead o_bank o_isImage o_undos o_runRadix o_runOrder o_runNear o_runLimit o_runHalves o_power o_notedMany o_knownTold o_drawn o_isPoint o_isTold_15 o_told o_toldWave)) rfl (fun H locs hP hD hS => ?_)
        obtain ⟨v1_16, ev1_16⟩ : ∃ y : Int32, y = v1 + (1 : Int32) := ⟨_, rfl⟩
        have hf := nm_x ev1_16 hf
        refine lv_iinc (v := v1_16) (lv' := [(1, .int v1_16), (0, .ref h_o)]) hx hb dX10_plain_65 hl (k := 1) rfl (by rw [ev1_16]; rfl) (by decide) rfl (fun ls hl => ?_)
        refine lv_goto (tgt := 52) hx hb dX10_plain_68 (by decide) ?_
        exact ih o_pointsRead o_isPoint o_isTold_15 o_told o_toldWave v1_16 H locs ls hf hP hD hS (lv_sub hl [1, 0] rfl)
  unfold fX10_plain at hf
  obtain ⟨H, eH⟩ : ∃ H, H = s.heap := ⟨_, rfl⟩
  obtain ⟨locs, elocs⟩ : ∃ z : List Loc, z = [] := ⟨_, rfl⟩
  have hP : va_P G vwCl (wX10_plain cI cJ cZ h_o h_o_isPoint h_o_isTold h_o_told h_o_toldWave h_o_tape h_o_words h_o_all h_o_quarter h_o_roots h_o_laidRe h_o_laidIm h_o_byOrder h_o_noted1 h_o_counts h_o_binBy o_tapeSize o_thrown o_fault o_faultPlace o_stop o_next o_kind o_which o_at o_pointsRead o_bank o_isImage o_undos o_runRadix o_runOrder o_runNear o_runLimit o_runHalves o_power o_notedMany o_knownTold o_drawn o_isPoint o_isTold o_told o_toldWave) H := by rw [eH]; exact hP
  have hS : va_S A s.heap H locs := by rw [eH, elocs]; exact hS
  suffices hgo : W p l e ({ frames := 0, cells := 0, slots := 0, locals := 0 } : Room) s m ([.ref h_o] : List Value).toArray below meth c H locs 0 0 Q (F0 m 0 ls []) by rw [eH, elocs] at hgo; exact hgo
  clear eH elocs
  refine lv_aload_n hx hb dX10_plain_0 rfl (lv_at hl 0 rfl) ?_
  refine rd (ci := 10) (C := RX10) (T := TX10) (N := 37) hx hb hts inX10 hown hK hP 0 11 rfl rfl (by decide) (hts _ q_fX10_20) rfl dX10_plain_1 ?_
  refine lv_bipush (v := (6 : Int32)) hx hb dX10_plain_4 (by decide) ?_
  refine lv_bipush (v := (8 : Int32)) hx hb dX10_plain_6 (by decide) ?_
  obtain ⟨g_1, hf⟩ := gd_x hf
  obtain ⟨o_told_2, eo_told_2⟩ : ∃ y : Nat → Int32, y = upd o_told (Int32.toNatClampNeg (6 : Int32)) (8 : Int32) := ⟨_, rfl⟩
  have hf := nm_x eo_told_2 hf
  refine ist hx hb hK hP hD hS 3 0 rfl rfl (inb_x g_1) dX10_plain_8 eo_told_2 (ws2 := (wX10_plain cI cJ cZ h_o h_o_isPoint h_o_isTold h_o_told h_o_toldWave h_o_tape h_o_words h_o_all h_o_quarter h_o_roots h_o_laidRe h_o_laidIm h_o_byOrder h_o_noted1 h_o_counts h_o_binBy o_tapeSize o_thrown o_fault o_faultPlace o_stop o_next o_kind o_which o_at o_pointsRead o_bank o_isImage o_undos o_runRadix o_runOrder o_runNear o_runLimit o_runHalves o_power o_notedMany o_knownTold o_drawn o_isPoint o_isTold o_told_2 o_toldWave)) rfl (fun H locs hP hD hS => ?_)
  refine lv_aload_n hx hb dX10_plain_9 rfl (lv_at hl 0 rfl) ?_
  refine rd (ci := 10) (C := RX10) (T := TX10) (N := 37) hx hb hts inX10 hown hK hP 0 11 rfl rfl (by decide) (hts _ q_fX10_20) rfl dX10_plain_10 ?_
  refine lv_bipush (v := (7 : Int32)) hx hb dX10_plain_13 (by decide) ?_
  refine lv_bipush (v := (16 : Int32)) hx hb dX10_plain_15 (by decide) ?_
  obtain ⟨g_3, hf⟩ := gd_x hf
  obtain ⟨o_told_4, eo_told_4⟩ : ∃ y : Nat → Int32, y = upd o_told_2 (Int32.toNatClampNeg (7 : Int32)) (16 : Int32) := ⟨_, rfl⟩
  have hf := nm_x eo_told_4 hf
  refine ist hx hb hK hP hD hS 3 0 rfl rfl (inb_x g_3) dX10_plain_17 eo_told_4 (ws2 := (wX10_plain cI cJ cZ h_o h_o_isPoint h_o_isTold h_o_told h_o_toldWave h_o_tape h_o_words h_o_all h_o_quarter h_o_roots h_o_laidRe h_o_laidIm h_o_byOrder h_o_noted1 h_o_counts h_o_binBy o_tapeSize o_thrown o_fault o_faultPlace o_stop o_next o_kind o_which o_at o_pointsRead o_bank o_isImage o_undos o_runRadix o_runOrder o_runNear o_runLimit o_runHalves o_power o_notedMany o_knownTold o_drawn o_isPoint o_isTold o_told_4 o_toldWave)) rfl (fun H locs hP hD hS => ?_)
  refine lv_aload_n hx hb dX10_plain_18 rfl (lv_at hl 0 rfl) ?_
  refine rd (ci := 10) (C := RX10) (T := TX10) (N := 37) hx hb hts inX10 hown hK hP 0 11 rfl rfl (by decide) (hts _ q_fX10_20) rfl dX10_plain_19 ?_
  refine lv_bipush (v := (8 : Int32)) hx hb dX10_plain_22 (by decide) ?_
  refine lv_iconst (v := (2 : Int32)) hx hb dX10_plain_24 (by decide) ?_
  obtain ⟨g_5, hf⟩ := gd_x hf
  obtain ⟨o_told_6, eo_told_6⟩ : ∃ y : Nat → Int32, y = upd o_told_4 (Int32.toNatClampNeg (8 : Int32)) (2 : Int32) := ⟨_, rfl⟩
  have hf := nm_x eo_told_6 hf
  refine ist hx hb hK hP hD hS 3 0 rfl rfl (inb_x g_5) dX10_plain_25 eo_told_6 (ws2 := (wX10_plain cI cJ cZ h_o h_o_isPoint h_o_isTold h_o_told h_o_toldWave h_o_tape h_o_words h_o_all h_o_quarter h_o_roots h_o_laidRe h_o_laidIm h_o_byOrder h_o_noted1 h_o_counts h_o_binBy o_tapeSize o_thrown o_fault o_faultPlace o_stop o_next o_kind o_which o_at o_pointsRead o_bank o_isImage o_undos o_runRadix o_runOrder o_runNear o_runLimit o_runHalves o_power o_notedMany o_knownTold o_drawn o_isPoint o_isTold o_told_6 o_toldWave)) rfl (fun H locs hP hD hS => ?_)
  refine lv_aload_n hx hb dX10_plain_26 rfl (lv_at hl 0 rfl) ?_
  refine rd (ci := 10) (C := RX10) (T := TX10) (N := 37) hx hb hts inX10 hown hK hP 0 11 rfl rfl (by decide) (hts _ q_fX10_20) rfl dX10_plain_27 ?_
  refine lv_bipush (v := (9 : Int32)) hx hb dX10_plain_30 (by decide) ?_
  refine lv_iconst (v := (0 : Int32)) hx hb dX10_plain_32 (by decide) ?_
  obtain ⟨g_7, hf⟩ := gd_x hf
  obtain ⟨o_told_8, eo_told_8⟩ : ∃ y : Nat → Int32, y = upd o_told_6 (Int32.toNatClampNeg (9 : Int32)) (0 : Int32) := ⟨_, rfl⟩
  have hf := nm_x eo_told_8 hf
  refine ist hx hb hK hP hD hS 3 0 rfl rfl (inb_x g_7) dX10_plain_33 eo_told_8 (ws2 := (wX10_plain cI cJ cZ h_o h_o_isPoint h_o_isTold h_o_told h_o_toldWave h_o_tape h_o_words h_o_all h_o_quarter h_o_roots h_o_laidRe h_o_laidIm h_o_byOrder h_o_noted1 h_o_counts h_o_binBy o_tapeSize o_thrown o_fault o_faultPlace o_stop o_next o_kind o_which o_at o_pointsRead o_bank o_isImage o_undos o_runRadix o_runOrder o_runNear o_runLimit o_runHalves o_power o_notedMany o_knownTold o_drawn o_isPoint o_isTold o_told_8 o_toldWave)) rfl (fun H locs hP hD hS => ?_)
  refine lv_aload_n hx hb dX10_plain_34 rfl (lv_at hl 0 rfl) ?_
  refine rd (ci := 10) (C := RX10) (T := TX10) (N := 37) hx hb hts inX10 hown hK hP 0 11 rfl rfl (by decide) (hts _ q_fX10_20) rfl dX10_plain_35 ?_
  refine lv_bipush (v := (10 : Int32)) hx hb dX10_plain_38 (by decide) ?_
  refine lv_iconst (v := (1 : Int32)) hx hb dX10_plain_40 (by decide) ?_
  obtain ⟨g_9, hf⟩ := gd_x hf
  obtain ⟨o_told_10, eo_told_10⟩ : ∃ y : Nat → Int32, y = upd o_told_8 (Int32.toNatClampNeg (10 : Int32)) (1 : Int32) := ⟨_, rfl⟩
  have hf := nm_x eo_told_10 hf
  refine ist hx hb hK hP hD hS 3 0 rfl rfl (inb_x g_9) dX10_plain_41 eo_told_10 (ws2 := (wX10_plain cI cJ cZ h_o h_o_isPoint h_o_isTold h_o_told h_o_toldWave h_o_tape h_o_words h_o_all h_o_quarter h_o_roots h_o_laidRe h_o_laidIm h_o_byOrder h_o_noted1 h_o_counts h_o_binBy o_tapeSize o_thrown o_fault o_faultPlace o_stop o_next o_kind o_which o_at o_pointsRead o_bank o_isImage o_undos o_runRadix o_runOrder o_runNear o_runLimit o_runHalves o_power o_notedMany o_knownTold o_drawn o_isPoint o_isTold o_told_10 o_toldWave)) rfl (fun H locs hP hD hS => ?_)
  refine lv_aload_n hx hb dX10_plain_42 rfl (lv_at hl 0 rfl) ?_
  refine rd (ci := 10) (C := RX10) (T := TX10) (N := 37) hx hb hts inX10 hown hK hP 0 11 rfl rfl (by decide) (hts _ q_fX10_20) rfl dX10_plain_43 ?_
  refine lv_bipush (v := (11 : Int32)) hx hb dX10_plain_46 (by decide) ?_
  refine lv_iconst (v := (0 : Int32)) hx hb dX10_plain_48 (by decide) ?_
  obtain ⟨g_11, hf⟩ := gd_x hf
  obtain ⟨o_told_12, eo_told_12⟩ : ∃ y : Nat → Int32, y = upd o_told_10 (Int32.toNatClampNeg (11 : Int32)) (0 : Int32) := ⟨_, rfl⟩
  have hf := nm_x eo_told_12 hf
  refine ist hx hb hK hP hD hS 3 0 rfl rfl (inb_x g_11) dX10_plain_49 eo_told_12 (ws2 := (wX10_plain cI cJ cZ h_o h_o_isPoint h_o_isTold h_o_told h_o_toldWave h_o_tape h_o_words h_o_all h_o_quarter h_o_roots h_o_laidRe h_o_laidIm h_o_byOrder h_o_noted1 h_o_counts h_o_binBy o_tapeSize o_thrown o_fault o_faultPlace o_stop o_next o_kind o_which o_at o_pointsRead o_bank o_isImage o_undos o_runRadix o_runOrder o_runNear o_runLimit o_runHalves o_power o_notedMany o_knownTold o_drawn o_isPoint o_isTold o_told_12 o_toldWave)) rfl (fun H locs hP hD hS => ?_)
  refine lv_iconst (v := (0 : Int32)) hx hb dX10_plain_50 (by decide) ?_
  refine lv_istore_n (lv' := [(1, .int (0 : Int32)), (0, .ref h_o)]) hx hb dX10_plain_51 rfl hl (by decide) rfl (fun ls hl => ?_)
  exact j52 FU o_pointsRead o_isPoint o_isTold o_told_12 o_toldWave (0 : Int32) H locs ls hf hP hD hS (lv_sub hl [1, 0] rfl)
def wX10_limitOf (cI cJ cZ : ClassId) : va_W := []
def fX10_limitOf (p1 : Int32) : Option (Int32) :=
  some (((1 : Int32) <<< ((p1 - (1 : Int32)) &&& 31)) - (1 : Int32))
set_option maxHeartbeats 4000000 in
set_option maxRecDepth 100000 in
theorem tX10_limitOf (l : Launch) (G : va_G) (cI cJ cZ : ClassId) (sz : Nat) (p1 : Int32) (r : Int32) (hf : fX10_limitOf p1 = some r) : Met l yX10_limitOf (Cond.code yX10_limitOf cX10_limitOf 1 (some .int) :: BIG) ({ frames := 0, cells := 0, slots := 0, locals := 0 } : Room) (cP G (TY3 cI cJ cZ) [.int p1] sz (wX10_limitOf cI cJ cZ)) (cQ G (TY3 cI cJ cZ) sz (wX10_limitOf cI cJ cZ) (wX10_limitOf cI cJ cZ) (some (.int r))) 0 0 (va_A (wX10_limitOf cI cJ cZ) sz) := by
  refine met_i (cc := cX10_limitOf) (maxL := 1) (plainFor_of_name (by decide)) (Nat.le_of_ble_eq_true rfl) (fun p e s m below meth c A ls Q hx hb hml hts hown hK hP hD hS hA hl hret => ?_)
  have hown : s.vm.findClass RX10 = some m.cls := hown
  have hl : lv_has ls 1 [(0, .int p1)] := hl
  unfold fX10_limitOf at hf
  obtain ⟨H, eH⟩ : ∃ H, H = s.heap := ⟨_, rfl⟩
  obtain ⟨locs, elocs⟩ : ∃ z : List Loc, z = [] := ⟨_, rfl⟩
  have hP : va_P G vwCl (wX10_limitOf cI cJ cZ) H := by rw [eH]; exact hP
  have hS : va_S A s.heap H locs := by rw [eH, elocs]; exact hS
  suffices hgo : W p l e ({ frames := 0, cells := 0, slots := 0, locals := 0 } : Room) s m ([.int p1] : List Value).toArray below meth c H locs 0 0 Q (F0 m 0 ls []) by rw [eH, elocs] at hgo; exact hgo
  clear eH elocs
  refine lv_iconst (v := (1 : Int32)) hx hb dX10_limitOf_0 (by decide) ?_
  refine lv_iload_n hx hb dX10_limitOf_1 rfl (lv_at hl 0 rfl) ?_
  refine lv_iconst (v := (1 : Int32)) hx hb dX10_limitOf_2 (by decide) ?_
  refine lv_isub hx hb dX10_limitOf_3 ?_
  refine lv_ishl hx hb dX10_limitOf_4 ?_
  refine lv_iconst (v := (1 : Int32)) hx hb dX10_limitOf_5 (by decide) ?_
  refine lv_isub hx hb dX10_limitOf_6 ?_
  cases hf
  exact hret _ _ _ _ dX10_limitOf_7 hP hD hS
def wX10_size (cI cJ cZ : ClassId) (h_o h_o_told h_o_tape h_o_words h_o_isTold h_o_toldWave h_o_isPoint h_o_all h_o_quarter h_o_roots h_o_laidRe h_o_laidIm h_o_byOrder h_o_noted1 h_o_counts h_o_binBy : Nat) (o_tapeSize : Int32) (o_thrown : Int32) (o_fault : Int32) (o_faultPlace : Int32) (o_stop : Int32) (o_next : Int32) (o_kind : Int32) (o_which : Int32) (o_at : Int32) (o_pointsRead : Int32) (o_bank : Int32) (o_isImage : Int32) (o_undos : Int32) (o_runRadix : Int32) (o_runOrder : Int32) (o_runNear : Int32) (o_runLimit : Int32) (o_runHalves : Int32) (o_power : Int32) (o_notedMany : Int32) (o_knownTold : Int32) (o_drawn : Int64) (o_told : Nat → Int32) : va_W := [(h_o, .inr (10, [.ref h_o_tape, .int o_tapeSize, .int o_thrown, .ref h_o_words, .int o_fault, .int o_faultPlace, .int o_stop, .int o_next, .int o_kind, .int o_which, .int o_at, .ref h_o_told, .ref h_o_isTold, .ref h_o_toldWave, .ref h_o_isPoint, .int o_pointsRead, .ref h_o_all, .int o_bank, .int o_isImage, .int o_undos, .int o_runRadix, .int o_runOrder, .int o_runNear, .int o_runLimit, .int o_runHalves, .ref h_o_quarter, .int o_power, .ref h_o_roots, .ref h_o_laidRe, .ref h_o_laidIm, .ref h_o_byOrder, .int o_notedMany, .int o_knownTold, .ref h_o_noted1, .ref h_o_counts, .ref h_o_binBy, .long o_drawn])), (h_o_told, .inl (cI, 12, .inl o_told))]
def fX10_size (o_told : Nat → Int32) : Option (Int32) :=
  gd (inb (0 : Int32) 12) (
  some (o_told (Int32.toNatClampNeg (0 : Int32))))
set_option maxHeartbeats 4000000 in
set_option maxRecDepth 100000 in
theorem tX10_size (l : Launch) (G : va_G) (cI cJ cZ : ClassId) (sz : Nat) (h_o h_o_told h_o_tape h_o_words h_o_isTold h_o_toldWave h_o_isPoint h_o_all h_o_quarter h_o_roots h_o_laidRe h_o_laidIm h_o_byOrder h_o_noted1 h_o_counts h_o_binBy : Nat) (o_tapeSize : Int32) (o_thrown : Int32) (o_fault : Int32) (o_faultPlace : Int32) (o_stop : Int32) (o_next : Int32) (o_kind : Int32) (o_which : Int32) (o_at : Int32) (o_pointsRead : Int32) (o_bank : Int32) (o_isImage : Int32) (o_undos : Int32) (o_runRadix : Int32) (o_runOrder : Int32) (o_runNear : Int32) (o_runLimit : Int32) (o_runHalves : Int32) (o_power : Int32) (o_notedMany : Int32) (o_knownTold : Int32) (o_drawn : Int64) (o_told : Nat → Int32) (r : Int32) (hf : fX10_size o_told = some r) : Met l yX10_size (Cond.code yX10_size cX10_size 1 (some .int) :: BIG) ({ frames := 0, cells := 0, slots := 0, locals := 0 } : Room) (cP G (TY3 cI cJ cZ) [.ref h_o] sz (wX10_size cI cJ cZ h_o h_o_told h_o_tape h_o_words h_o_isTold h_o_toldWave h_o_isPoint h_o_all h_o_quarter h_o_roots h_o_laidRe h_o_laidIm h_o_byOrder h_o_noted1 h_o_counts h_o_binBy o_tapeSize o_thrown o_fault o_faultPlace o_stop o_next o_kind o_which o_at o_pointsRead o_bank o_isImage o_undos o_runRadix o_runOrder o_runNear o_runLimit o_runHalves o_power o_notedMany o_knownTold o_drawn o_told)) (cQ G (TY3 cI cJ cZ) sz (wX10_size cI cJ cZ h_o h_o_told h_o_tape h_o_words h_o_isTold h_o_toldWave h_o_isPoint h_o_all h_o_quarter h_o_roots h_o_laidRe h_o_laidIm h_o_byOrder h_o_noted1 h_o_counts h_o_binBy o_tapeSize o_thrown o_fault o_faultPlace o_stop o_next o_kind o_which o_at o_pointsRead o_bank o_isImage o_undos o_runRadix o_runOrder o_runNear o_runLimit o_runHalves o_power o_notedMany o_knownTold o_drawn o_told) (wX10_size cI cJ cZ h_o h_o_told h_o_tape h_o_words h_o_isTold h_o_toldWave h_o_isPoint h_o_all h_o_quarter h_o_roots h_o_laidRe h_o_laidIm h_o_byOrder h_o_noted1 h_o_counts h_o_binBy o_tapeSize o_thrown o_fault o_faultPlace o_stop o_next o_kind o_which o_at o_pointsRead o_bank o_isImage o_undos o_runRadix o_runOrder o_runNear o_runLimit o_runHalves o_power o_notedMany o_knownTold o_drawn o_told) (some (.int r))) 0 0 (va_A (wX10_size cI cJ cZ h_o h_o_told h_o_tape h_o_words h_o_isTold h_o_toldWave h_o_isPoint h_o_all h_o_quarter h_o_roots h_o_laidRe h_o_laidIm h_o_byOrder h_o_noted1 h_o_counts h_o_binBy o_tapeSize o_thrown o_fault o_faultPlace o_stop o_next o_kind o_which o_at o_pointsRead o_bank o_isImage o_undos o_runRadix o_runOrder o_runNear o_runLimit o_runHalves o_power o_notedMany o_knownTold o_drawn o_told) sz) := by
  refine met_i (cc := cX10_size) (maxL := 1) (plainFor_of_name (by decide)) (Nat.le_of_ble_eq_true rfl) (fun p e s m below meth c A ls Q hx hb hml hts hown hK hP hD hS hA hl hret => ?_)
  have hown : s.vm.findClass RX10 = some m.cls := hown
  have hl : lv_has ls 1 [(0, .ref h_o)] := hl
  unfold fX10_size at hf
  obtain ⟨H, eH⟩ : ∃ H, H = s.heap := ⟨_, rfl⟩
  obtain ⟨locs, elocs⟩ : ∃ z : List Loc, z = [] := ⟨_, rfl⟩
  have hP : va_P G vwCl (wX10_size cI cJ cZ h_o h_o_told h_o_tape h_o_words h_o_isTold h_o_toldWave h_o_isPoint h_o_all h_o_quarter h_o_roots h_o_laidRe h_o_laidIm h_o_byOrder h_o_noted1 h_o_counts h_o_binBy o_tapeSize o_thrown o_fault o_faultPlace o_stop o_next o_kind o_which o_at o_pointsRead o_bank o_isImage o_undos o_runRadix o_runOrder o_runNear o_runLimit o_runHalves o_power o_notedMany o_knownTold o_drawn o_told) H := by rw [eH]; exact hP
  have hS : va_S A s.heap H locs := by rw [eH, elocs]; exact hS
  suffices hgo : W p l e ({ frames := 0, cells := 0, slots := 0, locals := 0 } : Room) s m ([.ref h_o] : List Value).toArray below meth c H locs 0 0 Q (F0 m 0 ls []) by rw [eH, elocs] at hgo; exact hgo
  clear eH elocs
  refine lv_aload_n hx hb dX10_size_0 rfl (lv_at hl 0 rfl) ?_
  refine rd (ci := 10) (C := RX10) (T := TX10) (N := 37) hx hb hts inX10 hown hK hP 0 11 rfl rfl (by decide) (hts _ q_fX10_20) rfl dX10_size_1 ?_
  refine lv_iconst (v := (0 : Int32)) hx hb dX10_size_4 (by decide) ?_
  obtain ⟨g_1, hf⟩ := gd_x hf
  refine va_iald hx hb hK hP 1 0 rfl rfl (inb_x g_1) dX10_size_5 ?_
  cases hf
  exact hret _ _ _ _ dX10_size_6 hP hD hS
def wX10_bySize (cI cJ cZ : ClassId) (h_o h_o_roots h_o_told h_o_tape h_o_words h_o_isTold h_o_toldWave h_o_isPoint h_o_all h_o_quarter h_o_laidRe h_o_laidIm h_o_byOrder h_o_noted1 h_o_counts h_o_binBy : Nat) (o_tapeSize : Int32) (o_thrown : Int32) (o_fault : Int32) (o_faultPlace : Int32) (o_stop : Int32) (o_next : Int32) (o_kind : Int32) (o_which : Int32) (o_at : Int32) (o_pointsRead : Int32) (o_bank : Int32) (o_isImage : Int32) (o_undos : Int32) (o_runRadix : Int32) (o_runOrder : Int32) (o_runNear : Int32) (o_runLimit : Int32) (o_runHalves : Int32) (o_power : Int32) (o_notedMany : Int32) (o_knownTold : Int32) (o_drawn : Int64) (o_roots : Nat → Int32) (o_told : Nat → Int32) : va_W := [(h_o, .inr (10, [.ref h_o_tape, .int o_tapeSize, .int o_thrown, .ref h_o_words, .int o_fault, .int o_faultPlace, .int o_stop, .int o_next, .int o_kind, .int o_which, .int o_at, .ref h_o_told, .ref h_o_isTold, .ref h_o_toldWave, .ref h_o_isPoint, .int o_pointsRead, .ref h_o_all, .int o_bank, .int o_isImage, .int o_undos, .int o_runRadix, .int o_runOrder, .int o_runNear, .int o_runLimit, .int o_runHalves, .ref h_o_quarter, .int o_power, .ref h_o_roots, .ref h_o_laidRe, .ref h_o_laidIm, .ref h_o_byOrder, .int o_notedMany, .int o_knownTold, .ref h_o_noted1, .ref h_o_counts, .ref h_o_binBy, .long o_drawn])), (h_o_roots, .inl (cI, 32, .inl o_roots)), (h_o_told, .inl (cI, 12, .inl o_told))]
def fX10_bySize_98 (o_told : Nat → Int32) : Nat → Int32 → (Nat → Int32) → Int32 → Int32 → Option (Int32 × (Nat → Int32))
  | 0, _, _, _, _ => none
  | n + 1, o_power, o_roots, v1, v2 =>
    bd1 (fX10_size o_told) (fun r_19 =>
    if r_19 ≤ v2 then (
      some (o_power, o_roots)
    ) else (
      nm (v2 - (1 : Int32)) (fun i_22 =>
      gd (inb i_22 32) (
      gd (inb v2 32) (
      nm (upd o_roots (Int32.toNatClampNeg v2) (((o_roots (Int32.toNatClampNeg i_22)) * v1) - ((o_roots (Int32.toNatClampNeg i_22)) * v1) / (97 : Int32) * (97 : Int32))) (fun o_roots_25 =>
      nm (v2 + (1 : Int32)) (fun v2_26 =>
      fX10_bySize_98 o_told n o_power o_roots_25 v1 v2_26)))))
    ))
def fX10_bySize_88 (o_told : Nat → Int32) (o_power : Int32) (o_roots : Nat → Int32) (s0 : Int32) : Option (Int32 × (Nat → Int32)) :=
  gd (inb (0 : Int32) 32) (
  nm (upd o_roots (Int32.toNatClampNeg (0 : Int32)) (1 : Int32)) (fun o_roots_18 =>
  fX10_bySize_98 o_told FU o_power o_roots_18 s0 (1 : Int32)))
def fX10_bySize_31 (o_told : Nat → Int32) (o_power : Int32) (o_roots : Nat → Int32) : Option (Int32 × (Nat → Int32)) :=
  bd1 (fX10_size o_told) (fun r_5 =>
  if r_5 = (32 : Int32) then (
    fX10_bySize_88 o_told o_power o_roots (28 : Int32)
  ) else (
    bd1 (fX10_size o_told) (fun r_8 =>
    if r_8 = (16 : Int32) then (
      fX10_bySize_88 o_told o_power o_roots (8 : Int32)
    ) else (
      bd1 (fX10_size o_told) (fun r_11 =>
      if r_11 = (8 : Int32) then (
        fX10_bySize_88 o_told o_power o_roots (64 : Int32)
      ) else (
        bd1 (fX10_size o_told) (fun r_14 =>
        if r_14 = (4 : Int32) then (
          fX10_bySize_88 o_told o_power o_roots (22 : Int32)
        ) else (
          fX10_bySize_88 o_told o_power o_roots (96 : Int32)
        ))
      ))
    ))
  ))
def fX10_bySize_5 (o_told : Nat → Int32) : Nat → Int32 → (Nat → Int32) → Option (Int32 × (Nat → Int32))
  | 0, _, _ => none
  | n + 1, o_power, o_roots =>
    bd1 (fX10_size o_told) (fun r_1 =>
    if r_1 ≤ ((1 : Int32) <<< (o_power &&& 31)) then (
      fX10_bySize_31 o_told o_power o_roots
    ) else (
      nm (o_power + (1 : Int32)) (fun u_4 =>
      fX10_bySize_5 o_told n u_4 o_roots)
    ))
def fX10_bySize (o_power : Int32) (o_roots : Nat → Int32) (o_told : Nat → Int32) : Option (Int32 × (Nat → Int32)) :=
  fX10_bySize_5 o_told FU (0 : Int32) o_roots
set_option maxHeartbeats 4000000 in
set_option maxRecDepth 100000 in
theorem tX10_bySize (l : Launch) (G : va_G) (cI cJ cZ : ClassId) (sz : Nat) (h_o h_o_roots h_o_told h_o_tape h_o_words h_o_isTold h_o_toldWave h_o_isPoint h_o_all h_o_quarter h_o_laidRe h_o_laidIm h_o_byOrder h_o_noted1 h_o_counts h_o_binBy : Nat) (o_tapeSize : Int32) (o_thrown : Int32) (o_fault : Int32) (o_faultPlace : Int32) (o_stop : Int32) (o_next : Int32) (o_kind : Int32) (o_which : Int32) (o_at : Int32) (o_pointsRead : Int32) (o_bank : Int32) (o_isImage : Int32) (o_undos : Int32) (o_runRadix : Int32) (o_runOrder : Int32) (o_runNear : Int32) (o_runLimit : Int32) (o_runHalves : Int32) (o_power : Int32) (o_notedMany : Int32) (o_knownTold : Int32) (o_drawn : Int64) (o_roots : Nat → Int32) (o_told : Nat → Int32) (out_o_power : Int32) (out_o_roots : Nat → Int32) (hf : fX10_bySize o_power o_roots o_told = some (out_o_power, out_o_roots)) : Met l yX10_bySize (Cond.code yX10_bySize cX10_bySize 3 none :: BIG) ({ frames := 1, cells := 0, slots := 0, locals := 20 } : Room) (cP G (TY3 cI cJ cZ) [.ref h_o] sz (wX10_bySize cI cJ cZ h_o h_o_roots h_o_told h_o_tape h_o_words h_o_isTold h_o_toldWave h_o_isPoint h_o_all h_o_quarter h_o_laidRe h_o_laidIm h_o_byOrder h_o_noted1 h_o_counts h_o_binBy o_tapeSize o_thrown o_fault o_faultPlace o_stop o_next o_kind o_which o_at o_pointsRead o_bank o_isImage o_undos o_runRadix o_runOrder o_runNear o_runLimit o_runHalves o_power o_notedMany o_knownTold o_drawn o_roots o_told)) (cQ G (TY3 cI cJ cZ) sz (wX10_bySize cI cJ cZ h_o h_o_roots h_o_told h_o_tape h_o_words h_o_isTold h_o_toldWave h_o_isPoint h_o_all h_o_quarter h_o_laidRe h_o_laidIm h_o_byOrder h_o_noted1 h_o_counts h_o_binBy o_tapeSize o_thrown o_fault o_faultPlace o_stop o_next o_kind o_which o_at o_pointsRead o_bank o_isImage o_undos o_runRadix o_runOrder o_runNear o_runLimit o_runHalves o_power o_notedMany o_knownTold o_drawn o_roots o_told) (wX10_bySize cI cJ cZ h_o h_o_roots h_o_told h_o_tape h_o_words h_o_isTold h_o_toldWave h_o_isPoint h_o_all h_o_quarter h_o_laidRe h_o_laidIm h_o_byOrder h_o_noted1 h_o_counts h_o_binBy o_tapeSize o_thrown o_fault o_faultPlace o_stop o_next o_kind o_which o_at o_pointsRead o_bank o_isImage o_undos o_runRadix o_runOrder o_runNear o_runLimit o_runHalves out_o_power o_notedMany o_knownTold o_drawn out_o_roots o_told) none) 0 0 (va_A (wX10_bySize cI cJ cZ h_o h_o_roots h_o_told h_o_tape h_o_words h_o_isTold h_o_toldWave h_o_isPoint h_o_all h_o_quarter h_o_laidRe h_o_laidIm h_o_byOrder h_o_noted1 h_o_counts h_o_binBy o_tapeSize o_thrown o_fault o_faultPlace o_stop o_next o_kind o_which o_at o_pointsRead o_bank o_isImage o_undos o_runRadix o_runOrder o_runNear o_runLimit o_runHalves o_power o_notedMany o_knownTold o_drawn o_roots o_told) sz) := by
  refine met_v (cc := cX10_bySize) (maxL := 3) (plainFor_of_name (by decide)) (Nat.le_of_ble_eq_true rfl) (fun p e s m below meth c A ls Q hx hb hml hts hown hK hP hD hS hA hl hret => ?_)
  have hown : s.vm.findClass RX10 = some m.cls := hown
  have hl : lv_has ls 3 [(0, .ref h_o)] := hl
  have j98 : ∀ (n : Nat) (o_power : Int32) (o_roots : Nat → Int32) (v1 : Int32) (v2 : Int32) (H : Heap) (locs : List Loc) (ls : Array Slot), fX10_bySize_98 o_told n o_power o_roots v1 v2 = some (out_o_power, out_o_roots) → va_P G vwCl (wX10_bySize cI cJ cZ h_o h_o_roots h_o_told h_o_tape h_o_words h_o_isTold h_o_toldWave h_o_isPoint h_o_all h_o_quarter h_o_laidRe h_o_laidIm h_o_byOrder h_o_noted1 h_o_counts h_o_binBy o_tapeSize o_thrown o_fault o_faultPlace o_stop o_next o_kind o_which o_at o_pointsRead o_bank o_isImage o_undos o_runRadix o_runOrder o_runNear o_runLimit o_runHalves o_power o_notedMany o_knownTold o_drawn o_roots o_told) H → va_D A (wX10_bySize cI cJ cZ h_o h_o_roots h_o_told h_o_tape h_o_words h_o_isTold h_o_toldWave h_o_isPoint h_o_all h_o_quarter h_o_laidRe h_o_laidIm h_o_byOrder h_o_noted1 h_o_counts h_o_binBy o_tapeSize o_thrown o_fault o_faultPlace o_stop o_next o_kind o_which o_at o_pointsRead o_bank o_isImage o_undos o_runRadix o_runOrder o_runNear o_runLimit o_runHalves o_power o_notedMany o_knownTold o_drawn o_roots o_told) → va_S A s.heap H locs → lv_has ls 3 [(0, .ref h_o), (1, .int v1), (2, .int v2)] → W p l e ({ frames := 1, cells := 0, slots := 0, locals := 20 } : Room) s m ([.ref h_o] : List Value).toArray below meth c H locs 0 0 Q (F0 m 98 ls []) := by
    intro n
    induction n with
    | zero =>
      intro o_power o_roots v1 v2 H locs ls hf
      have hf : (none : Option (Int32 × (Nat → Int32))) = some (out_o_power, out_o_roots) := hf
      cases hf
    | succ n ih =>
      intro o_power o_roots v1 v2 H locs ls hf hP hD hS hl
      rw [fX10_bySize_98.eq_2] at hf
      refine lv_iload_n hx hb dX10_bySize_98 rfl (lv_at hl 2 rfl) ?_
      refine lv_aload_n hx hb dX10_bySize_99 rfl (lv_at hl 0 rfl) ?_
      obtain ⟨r_19, e_20, hf⟩ := bd1_x hf
      refine call_v [] [.int v2] ⟨hx, hb, hml, hown, hts⟩ hK hP hD hS hA hl.1 (tX10_size l G cI cJ cZ H.size h_o h_o_told h_o_tape h_o_words h_o_isTold h_o_toldWave h_o_isPoint h_o_all h_o_quarter h_o_roots h_o_laidRe h_o_laidIm h_o_byOrder h_o_noted1 h_o_counts h_o_binBy o_tapeSize o_thrown o_fault o_faultPlace o_stop o_next o_kind o_which o_at o_pointsRead o_bank o_isImage o_undos o_runRadix o_runOrder o_runNear o_runLimit o_runHalves o_power o_notedMany o_knownTold o_drawn o_told r_19 e_20) (cwV 0 hts (gv q_mX10_196 q_i_yX10_size q_s_yX10_size q_n_RX10 q_k_yX10_size) rfl rfl rfl (by decide +kernel) ⟨by decide, by decide⟩) rfl rfl (Nat.le_of_ble_eq_true rfl) dX10_bySize_100 ⟨Nat.zero_le _, Nat.zero_le _⟩ (ci := 10) rfl 0 rfl [0, 2] [1] [1, 0, 2] rfl rfl (ws2 := (wX10_bySize cI cJ cZ h_o h_o_roots h_o_told h_o_tape h_o_words h_o_isTold h_o_toldWave h_o_isPoint h_o_all h_o_quarter h_o_laidRe h_o_laidIm h_o_byOrder h_o_noted1 h_o_counts h_o_binBy o_tapeSize o_thrown o_fault o_faultPlace o_stop o_next o_kind o_which o_at o_pointsRead o_bank o_isImage o_undos o_runRadix o_runOrder o_runNear o_runLimit o_runHalves o_power o_notedMany o_knownTold o_drawn o_roots o_told)) rfl (fun H locs hP hD hS => ?_)
      refine W.eq (g2 := F0 m 103 ls [.int r_19, .int v2]) rfl ?_
      refine lv_icmp_ge (tgt := 131) hx hb dX10_bySize_103 (by decide) (fun c_21 => ?_) (fun c_21 => ?_)
      · have hf := it_t c_21 hf
        cases hf
        exact hret _ _ _ _ dX10_bySize_131 hP hD hS
      · have hf := it_f c_21 hf
        refine lv_aload_n hx hb dX10_bySize_106 rfl (lv_at hl 0 rfl) ?_
        refine rd (ci := 10) (C := RX10) (T := TX10) (N := 37) hx hb hts inX10 hown hK hP 0 27 rfl rfl (by decide) (hts _ q_fX10_39) rfl dX10_bySize_107 ?_
        refine lv_iload_n hx hb dX10_bySize_110 rfl (lv_at hl 2 rfl) ?_
        refine lv_aload_n hx hb dX10_bySize_111 rfl (lv_at hl 0 rfl) ?_
        refine rd (ci := 10) (C := RX10) (T := TX10) (N := 37) hx hb hts inX10 hown hK hP 0 27 rfl rfl (by decide) (hts _ q_fX10_39) rfl dX10_bySize_112 ?_
        refine lv_iload_n hx hb dX10_bySize_115 rfl (lv_at hl 2 rfl) ?_
        refine lv_iconst (v := (1 : Int32)) hx hb dX10_bySize_116 (by decide) ?_
        refine lv_isub hx hb dX10_bySize_117 ?_
        refine lv_topi (fun i_22 ei_22 => ?_)
        have hf := nm_x ei_22 hf
        obtain ⟨g_23, hf⟩ := gd_x hf
        refine va_iald hx hb hK hP 1 0 rfl rfl (inb_x g_23) dX10_bySize_118 ?_
        refine lv_iload_n hx hb dX10_bySize_119 rfl (lv_at hl 1 rfl) ?_
        refine lv_imul hx hb dX10_bySize_120 ?_
        refine lv_bipush (v := (97 : Int32)) hx hb dX10_bySize_121 (by decide) ?_
        refine lv_irem hx hb dX10_bySize_123 (by decide) ?_
        obtain ⟨g_24, hf⟩ := gd_x hf
        obtain ⟨o_roots_25, eo_roots_25⟩ : ∃ y : Nat → Int32, y = upd o_roots (Int32.toNatClampNeg v2) (((o_roots (Int32.toNatClampNeg i_22)) * v1) - ((o_roots (Int32.toNatClampNeg i_22)) * v1) / (97 : Int32) * (97 : Int32)) := ⟨_, rfl⟩
        have hf := nm_x eo_roots_25 hf
        refine ist hx hb hK hP hD hS 1 0 rfl rfl (inb_x g_24) dX10_bySize_124 eo_roots_25 (ws2 := (wX10_bySize cI cJ cZ h_o h_o_roots h_o_told h_o_tape h_o_words h_o_isTold h_o_toldWave h_o_isPoint h_o_all h_o_quarter h_o_laidRe h_o_laidIm h_o_byOrder h_o_noted1 h_o_counts h_o_binBy o_tapeSize o_thrown o_fault o_faultPlace o_stop o_next o_kind o_which o_at o_pointsRead o_bank o_isImage o_undos o_runRadix o_runOrder o_runNear o_runLimit o_runHalves o_power o_notedMany o_knownTold o_drawn o_roots_25 o_told)) rfl (fun H locs hP hD hS => ?_)
        obtain ⟨v2_26, ev2_26⟩ : ∃ y : Int32, y = v2 + (1 : Int32) := ⟨_, rfl⟩
        have hf := nm_x ev2_26 hf
        refine lv_iinc (v := v2_26) (lv' := [(2, .int v2_26), (0, .ref h_o), (1, .int v1)]) hx hb dX10_bySize_125 hl (k := 2) rfl (by rw [ev2_26]; rfl) (by decide) rfl (fun ls hl => ?_)
        refine lv_goto (tgt := 98) hx hb dX10_bySize_128 (by decide) ?_
        exact ih o_power o_roots_25 v1 v2_26 H locs ls hf hP hD hS (lv_sub hl [1, 2, 0] rfl)
  have j88 : ∀ (o_power : Int32) (o_roots : Nat → Int32) (s0 : Int32) (H : Heap) (locs : List Loc) (ls : Array Slot), fX10_bySize_88 o_told o_power o_roots s0 = some (out_o_power, out_o_roots) → va_P G vwCl (wX10_bySize cI cJ cZ h_o h_o_roots h_o_told h_o_tape h_o_words h_o_isTold h_o_toldWave h_o_isPoint h_o_all h_o_quarter h_o_laidRe h_o_laidIm h_o_byOrder h_o_noted1 h_o_counts h_o_binBy o_tapeSize o_thrown o_fault o_faultPlace o_stop o_next o_kind o_which o_at o_pointsRead o_bank o_isImage o_undos o_runRadix o_runOrder o_runNear o_runLimit o_runHalves o_power o_notedMany o_knownTold o_drawn o_roots o_told) H → va_D A (wX10_bySize cI cJ cZ h_o h_o_roots h_o_told h_o_tape h_o_words h_o_isTold h_o_toldWave h_o_isPoint h_o_all h_o_quarter h_o_laidRe h_o_laidIm h_o_byOrder h_o_noted1 h_o_counts h_o_binBy o_tapeSize o_thrown o_fault o_faultPlace o_stop o_next o_kind o_which o_at o_pointsRead o_bank o_isImage o_undos o_runRadix o_runOrder o_runNear o_runLimit o_runHalves o_power o_notedMany o_knownTold o_drawn o_roots o_told) → va_S A s.heap H locs → lv_has ls 3 [(0, .ref h_o)] → W p l e ({ frames := 1, cells := 0, slots := 0, locals := 20 } : Room) s m ([.ref h_o] : List Value).toArray below meth c H locs 0 0 Q (F0 m 88 ls [.int s0]) := by
    intro o_power o_roots s0 H locs ls hf hP hD hS hl
    unfold fX10_bySize_88 at hf
    refine lv_istore_n (lv' := [(1, .int s0), (0, .ref h_o)]) hx hb dX10_bySize_88 rfl hl (by decide) rfl (fun ls hl => ?_)
    refine lv_aload_n hx hb dX10_bySize_89 rfl (lv_at hl 1 rfl) ?_
    refine rd (ci := 10) (C := RX10) (T := TX10) (N := 37) hx hb hts inX10 hown hK hP 0 27 rfl rfl (by decide) (hts _ q_fX10_39) rfl dX10_bySize_90 ?_
    refine lv_iconst (v := (0 : Int32)) hx hb dX10_bySize_93 (by decide) ?_
    refine lv_iconst (v := (1 : Int32)) hx hb dX10_bySize_94 (by decide) ?_
    obtain ⟨g_17, hf⟩ := gd_x hf
    obtain ⟨o_roots_18, eo_roots_18⟩ : ∃ y : Nat → Int32, y = upd o_roots (Int32.toNatClampNeg (0 : Int32)) (1 : Int32) := ⟨_, rfl⟩
    have hf := nm_x eo_roots_18 hf
    refine ist hx hb hK hP hD hS 1 0 rfl rfl (inb_x g_17) dX10_bySize_95 eo_roots_18 (ws2 := (wX10_bySize cI cJ cZ h_o h_o_roots h_o_told h_o_tape h_o_words h_o_isTold h_o_toldWave h_o_isPoint h_o_all h_o_quarter h_o_laidRe h_o_laidIm h_o_byOrder h_o_noted1 h_o_counts h_o_binBy o_tapeSize o_thrown o_fault o_faultPlace o_stop o_next o_kind o_which o_at o_pointsRead o_bank o_isImage o_undos o_runRadix o_runOrder o_runNear o_runLimit o_runHalves o_power o_notedMany o_knownTold o_drawn o_roots_18 o_told)) rfl (fun H locs hP hD hS => ?_)
    refine lv_iconst (v := (1 : Int32)) hx hb dX10_bySize_96 (by decide) ?_
    refine lv_istore_n (lv' := [(2, .int (1 : Int32)), (1, .int s0), (0, .ref h_o)]) hx hb dX10_bySize_97 rfl hl (by decide) rfl (fun ls hl => ?_)
    exact j98 FU o_power o_roots_18 s0 (1 : Int32) H locs ls hf hP hD hS (lv_sub hl [2, 1, 0] rfl)
  have j31 : ∀ (o_power : Int32) (o_roots : Nat → Int32) (H : Heap) (locs : List Loc) (ls : Array Slot), fX10_bySize_31 o_told o_power o_roots = some (out_o_power, out_o_roots) → va_P G vwCl (wX10_bySize cI cJ cZ h_o h_o_roots h_o_told h_o_tape h_o_words h_o_isTold h_o_toldWave h_o_isPoint h_o_all h_o_quarter h_o_laidRe h_o_laidIm h_o_byOrder h_o_noted1 h_o_counts h_o_binBy o_tapeSize o_thrown o_fault o_faultPlace o_stop o_next o_kind o_which o_at o_pointsRead o_bank o_isImage o_undos o_runRadix o_runOrder o_runNear o_runLimit o_runHalves o_power o_notedMany o_knownTold o_drawn o_roots o_told) H → va_D A (wX10_bySize cI cJ cZ h_o h_o_roots h_o_told h_o_tape h_o_words h_o_isTold h_o_toldWave h_o_isPoint h_o_all h_o_quarter h_o_laidRe h_o_laidIm h_o_byOrder h_o_noted1 h_o_counts h_o_binBy o_tapeSize o_thrown o_fault o_faultPlace o_stop o_next o_kind o_which o_at o_pointsRead o_bank o_isImage o_undos o_runRadix o_runOrder o_runNear o_runLimit o_runHalves o_power o_notedMany o_knownTold o_drawn o_roots o_told) → va_S A s.heap H locs → lv_has ls 3 [(0, .ref h_o)] → W p l e ({ frames := 1, cells := 0, slots := 0, locals := 20 } : Room) s m ([.ref h_o] : List Value).toArray below meth c H locs 0 0 Q (F0 m 31 ls []) := by
    intro o_power o_roots H locs ls hf hP hD hS hl
    unfold fX10_bySize_31 at hf
    refine lv_aload_n hx hb dX10_bySize_31 rfl (lv_at hl 0 rfl) ?_
    obtain ⟨r_5, e_6, hf⟩ := bd1_x hf
    refine call_v [] [] ⟨hx, hb, hml, hown, hts⟩ hK hP hD hS hA hl.1 (tX10_size l G cI cJ cZ H.size h_o h_o_told h_o_tape h_o_words h_o_isTold h_o_toldWave h_o_isPoint h_o_all h_o_quarter h_o_roots h_o_laidRe h_o_laidIm h_o_byOrder h_o_noted1 h_o_counts h_o_binBy o_tapeSize o_thrown o_fault o_faultPlace o_stop o_next o_kind o_which o_at o_pointsRead o_bank o_isImage o_undos o_runRadix o_runOrder o_runNear o_runLimit o_runHalves o_power o_notedMany o_knownTold o_drawn o_told r_5 e_6) (cwV 0 hts (gv q_mX10_196 q_i_yX10_size q_s_yX10_size q_n_RX10 q_k_yX10_size) rfl rfl rfl (by decide +kernel) ⟨by decide, by decide⟩) rfl rfl (Nat.le_of_ble_eq_true rfl) dX10_bySize_32 ⟨Nat.zero_le _, Nat.zero_le _⟩ (ci := 10) rfl 0 rfl [0, 2] [1] [1, 0, 2] rfl rfl (ws2 := (wX10_bySize cI cJ cZ h_o h_o_roots h_o_told h_o_tape h_o_words h_o_isTold h_o_toldWave h_o_isPoint h_o_all h_o_quarter h_o_laidRe h_o_laidIm h_o_byOrder h_o_noted1 h_o_counts h_o_binBy o_tapeSize o_thrown o_fault o_faultPlace o_stop o_next o_kind o_which o_at o_pointsRead o_bank o_isImage o_undos o_runRadix o_runOrder o_runNear o_runLimit o_runHalves o_power o_notedMany o_knownTold o_drawn o_roots o_told)) rfl (fun H locs hP hD hS => ?_)
    refine W.eq (g2 := F0 m 35 ls [.int r_5]) rfl ?_
    refine lv_bipush (v := (32 : Int32)) hx hb dX10_bySize_35 (by decide) ?_
    refine lv_icmp_ne (tgt := 45) hx hb dX10_bySize_37 (by decide) (fun c_7 => ?_) (fun c_7 => ?_)
    · have hf := it_f c_7 hf
      refine lv_aload_n hx hb dX10_bySize_45 rfl (lv_at hl 0 rfl) ?_
      obtain ⟨r_8, e_9, hf⟩ := bd1_x hf
      refine call_v [] [] ⟨hx, hb, hml, hown, hts⟩ hK hP hD hS hA hl.1 (tX10_size l G cI cJ cZ H.size h_o h_o_told h_o_tape h_o_words h_o_isTold h_o_toldWave h_o_isPoint h_o_all h_o_quarter h_o_roots h_o_laidRe h_o_laidIm h_o_byOrder h_o_noted1 h_o_counts h_o_binBy o_tapeSize o_thrown o_fault o_faultPlace o_stop o_next o_kind o_which o_at o_pointsRead o_bank o_isImage o_undos o_runRadix o_runOrder o_runNear o_runLimit o_runHalves o_power o_notedMany o_knownTold o_drawn o_told r_8 e_9) (cwV 0 hts (gv q_mX10_196 q_i_yX10_size q_s_yX10_size q_n_RX10 q_k_yX10_size) rfl rfl rfl (by decide +kernel) ⟨by decide, by decide⟩) rfl rfl (Nat.le_of_ble_eq_true rfl) dX10_bySize_46 ⟨Nat.zero_le _, Nat.zero_le _⟩ (ci := 10) rfl 0 rfl [0, 2] [1] [1, 0, 2] rfl rfl (ws2 := (wX10_bySize cI cJ cZ h_o h_o_roots h_o_told h_o_tape h_o_words h_o_isTold h_o_toldWave h_o_isPoint h_o_all h_o_quarter h_o_laidRe h_o_laidIm h_o_byOrder h_o_noted1 h_o_counts h_o_binBy o_tapeSize o_thrown o_fault o_faultPlace o_stop o_next o_kind o_which o_at o_pointsRead o_bank o_isImage o_undos o_runRadix o_runOrder o_runNear o_runLimit o_runHalves o_power o_notedMany o_knownTold o_drawn o_roots o_told)) rfl (fun H locs hP hD hS => ?_)
      refine W.eq (g2 := F0 m 49 ls [.int r_8]) rfl ?_
      refine lv_bipush (v := (16 : Int32)) hx hb dX10_bySize_49 (by decide) ?_
      refine lv_icmp_ne (tgt := 59) hx hb dX10_bySize_51 (by decide) (fun c_10 => ?_) (fun c_10 => ?_)
      · have hf := it_f c_10 hf
        refine lv_aload_n hx hb dX10_bySize_59 rfl (lv_at hl 0 rfl) ?_
        obtain ⟨r_11, e_12, hf⟩ := bd1_x hf
        refine call_v [] [] ⟨hx, hb, hml, hown, hts⟩ hK hP hD hS hA hl.1 (tX10_size l G cI cJ cZ H.size h_o h_o_told h_o_tape h_o_words h_o_isTold h_o_toldWave h_o_isPoint h_o_all h_o_quarter h_o_roots h_o_laidRe h_o_laidIm h_o_byOrder h_o_noted1 h_o_counts h_o_binBy o_tapeSize o_thrown o_fault o_faultPlace o_stop o_next o_kind o_which o_at o_pointsRead o_bank o_isImage o_undos o_runRadix o_runOrder o_runNear o_runLimit o_runHalves o_power o_notedMany o_knownTold o_drawn o_told r_11 e_12) (cwV 0 hts (gv q_mX10_196 q_i_yX10_size q_s_yX10_size q_n_RX10 q_k_yX10_size) rfl rfl rfl (by decide +kernel) ⟨by decide, by decide⟩) rfl rfl (Nat.le_of_ble_eq_true rfl) dX10_bySize_60 ⟨Nat.zero_le _, Nat.zero_le _⟩ (ci := 10) rfl 0 rfl [0, 2] [1] [1, 0, 2] rfl rfl (ws2 := (wX10_bySize cI cJ cZ h_o h_o_roots h_o_told h_o_tape h_o_words h_o_isTold h_o_toldWave h_o_isPoint h_o_all h_o_quarter h_o_laidRe h_o_laidIm h_o_byOrder h_o_noted1 h_o_counts h_o_binBy o_tapeSize o_thrown o_fault o_faultPlace o_stop o_next o_kind o_which o_at o_pointsRead o_bank o_isImage o_undos o_runRadix o_runOrder o_runNear o_runLimit o_runHalves o_power o_notedMany o_knownTold o_drawn o_roots o_told)) rfl (fun H locs hP hD hS => ?_)
        refine W.eq (g2 := F0 m 63 ls [.int r_11]) rfl ?_
        refine lv_bipush (v := (8 : Int32)) hx hb dX10_bySize_63 (by decide) ?_
        refine lv_icmp_ne (tgt := 73) hx hb dX10_bySize_65 (by decide) (fun c_13 => ?_) (fun c_13 => ?_)
        · have hf := it_f c_13 hf
          refine lv_aload_n hx hb dX10_bySize_73 rfl (lv_at hl 0 rfl) ?_
          obtain ⟨r_14, e_15, hf⟩ := bd1_x hf
          refine call_v [] [] ⟨hx, hb, hml, hown, hts⟩ hK hP hD hS hA hl.1 (tX10_size l G cI cJ cZ H.size h_o h_o_told h_o_tape h_o_words h_o_isTold h_o_toldWave h_o_isPoint h_o_all h_o_quarter h_o_roots h_o_laidRe h_o_laidIm h_o_byOrder h_o_noted1 h_o_counts h_o_binBy o_tapeSize o_thrown o_fault o_faultPlace o_stop o_next o_kind o_which o_at o_pointsRead o_bank o_isImage o_undos o_runRadix o_runOrder o_runNear o_runLimit o_runHalves o_power o_notedMany o_knownTold o_drawn o_told r_14 e_15) (cwV 0 hts (gv q_mX10_196 q_i_yX10_size q_s_yX10_size q_n_RX10 q_k_yX10_size) rfl rfl rfl (by decide +kernel) ⟨by decide, by decide⟩) rfl rfl (Nat.le_of_ble_eq_true rfl) dX10_bySize_74 ⟨Nat.zero_le _, Nat.zero_le _⟩ (ci := 10) rfl 0 rfl [0, 2] [1] [1, 0, 2] rfl rfl (ws2 := (wX10_bySize cI cJ cZ h_o h_o_roots h_o_told h_o_tape h_o_words h_o_isTold h_o_toldWave h_o_isPoint h_o_all h_o_quarter h_o_laidRe h_o_laidIm h_o_byOrder h_o_noted1 h_o_counts h_o_binBy o_tapeSize o_thrown o_fault o_faultPlace o_stop o_next o_kind o_which o_at o_pointsRead o_bank o_isImage o_undos o_runRadix o_runOrder o_runNear o_runLimit o_runHalves o_power o_notedMany o_knownTold o_drawn o_roots o_told)) rfl (fun H locs hP hD hS => ?_)
          refine W.eq (g2 := F0 m 77 ls [.int r_14]) rfl ?_
          refine lv_iconst (v := (4 : Int32)) hx hb dX10_bySize_77 (by decide) ?_
          refine lv_icmp_ne (tgt := 86) hx hb dX10_bySize_78 (by decide) (fun c_16 => ?_) (fun c_16 => ?_)
          · have hf := it_f c_16 hf
            refine lv_bipush (v := (96 : Int32)) hx hb dX10_bySize_86 (by decide) ?_
            exact j88 o_power o_roots (96 : Int32) H locs ls hf hP hD hS (lv_sub hl [0] rfl)
          · have hf := it_t c_16 hf
            refine lv_bipush (v := (22 : Int32)) hx hb dX10_bySize_81 (by decide) ?_
            refine lv_goto (tgt := 88) hx hb dX10_bySize_83 (by decide) ?_
            exact j88 o_power o_roots (22 : Int32) H locs ls hf hP hD hS (lv_sub hl [0] rfl)
        · have hf := it_t c_13 hf
          refine lv_bipush (v := (64 : Int32)) hx hb dX10_bySize_68 (by decide) ?_
          refine lv_goto (tgt := 88) hx hb dX10_bySize_70 (by decide) ?_
          exact j88 o_power o_roots (64 : Int32) H locs ls hf hP hD hS (lv_sub hl [0] rfl)
      · have hf := it_t c_10 hf
        refine lv_bipush (v := (8 : Int32)) hx hb dX10_bySize_54 (by decide) ?_
        refine lv_goto (tgt := 88) hx hb dX10_bySize_56 (by decide) ?_
        exact j88 o_power o_roots (8 : Int32) H locs ls hf hP hD hS (lv_sub hl [0] rfl)
    · have hf := it_t c_7 hf
      refine lv_bipush (v := (28 : Int32)) hx hb dX10_bySize_40 (by decide) ?_
      refine lv_goto (tgt := 88) hx hb dX10_bySize_42 (by decide) ?_
      exact j88 o_power o_roots (28 : Int32) H locs ls hf hP hD hS (lv_sub hl [0] rfl)
  have j5 : ∀ (n : Nat) (o_power : Int32) (o_roots : Nat → Int32) (H : Heap) (locs : List Loc) (ls : Array Slot), fX10_bySize_5 o_told n o_power o_roots = some (out_o_power, out_o_roots) → va_P G vwCl (wX10_bySize cI cJ cZ h_o h_o_roots h_o_told h_o_tape h_o_words h_o_isTold h_o_toldWave h_o_isPoint h_o_all h_o_quarter h_o_laidRe h_o_laidIm h_o_byOrder h_o_noted1 h_o_counts h_o_binBy o_tapeSize o_thrown o_fault o_faultPlace o_stop o_next o_kind o_which o_at o_pointsRead o_bank o_isImage o_undos o_runRadix o_runOrder o_runNear o_runLimit o_runHalves o_power o_notedMany o_knownTold o_drawn o_roots o_told) H → va_D A (wX10_bySize cI cJ cZ h_o h_o_roots h_o_told h_o_tape h_o_words h_o_isTold h_o_toldWave h_o_isPoint h_o_all h_o_quarter h_o_laidRe h_o_laidIm h_o_byOrder h_o_noted1 h_o_counts h_o_binBy o_tapeSize o_thrown o_fault o_faultPlace o_stop o_next o_kind o_which o_at o_pointsRead o_bank o_isImage o_undos o_runRadix o_runOrder o_runNear o_runLimit o_runHalves o_power o_notedMany o_knownTold o_drawn o_roots o_told) → va_S A s.heap H locs → lv_has ls 3 [(0, .ref h_o)] → W p l e ({ frames := 1, cells := 0, slots := 0, locals := 20 } : Room) s m ([.ref h_o] : List Value).toArray below meth c H locs 0 0 Q (F0 m 5 ls []) := by
    intro n
    induction n with
    | zero =>
      intro o_power o_roots H locs ls hf
      have hf : (none : Option (Int32 × (Nat → Int32))) = some (out_o_power, out_o_roots) := hf
      cases hf
    | succ n ih =>
      intro o_power o_roots H locs ls hf hP hD hS hl
      rw [fX10_bySize_5.eq_2] at hf
      refine lv_iconst (v := (1 : Int32)) hx hb dX10_bySize_5 (by decide) ?_
      refine lv_aload_n hx hb dX10_bySize_6 rfl (lv_at hl 0 rfl) ?_
      refine rd (ci := 10) (C := RX10) (T := TX10) (N := 37) hx hb hts inX10 hown hK hP 0 26 rfl rfl (by decide) (hts _ q_fX10_193) rfl dX10_bySize_7 ?_
      refine lv_ishl hx hb dX10_bySize_10 ?_
      refine lv_aload_n hx hb dX10_bySize_11 rfl (lv_at hl 0 rfl) ?_
      obtain ⟨r_1, e_2, hf⟩ := bd1_x hf
      refine call_v [] [.int ((1 : Int32) <<< (o_power &&& 31))] ⟨hx, hb, hml, hown, hts⟩ hK hP hD hS hA hl.1 (tX10_size l G cI cJ cZ H.size h_o h_o_told h_o_tape h_o_words h_o_isTold h_o_toldWave h_o_isPoint h_o_all h_o_quarter h_o_roots h_o_laidRe h_o_laidIm h_o_byOrder h_o_noted1 h_o_counts h_o_binBy o_tapeSize o_thrown o_fault o_faultPlace o_stop o_next o_kind o_which o_at o_pointsRead o_bank o_isImage o_undos o_runRadix o_runOrder o_runNear o_runLimit o_runHalves o_power o_notedMany o_knownTold o_drawn o_told r_1 e_2) (cwV 0 hts (gv q_mX10_196 q_i_yX10_size q_s_yX10_size q_n_RX10 q_k_yX10_size) rfl rfl rfl (by decide +kernel) ⟨by decide, by decide⟩) rfl rfl (Nat.le_of_ble_eq_true rfl) dX10_bySize_12 ⟨Nat.zero_le _, Nat.zero_le _⟩ (ci := 10) rfl 0 rfl [0, 2] [1] [1, 0, 2] rfl rfl (ws2 := (wX10_bySize cI cJ cZ h_o h_o_roots h_o_told h_o_tape h_o_words h_o_isTold h_o_toldWave h_o_isPoint h_o_all h_o_quarter h_o_laidRe h_o_laidIm h_o_byOrder h_o_noted1 h_o_counts h_o_binBy o_tapeSize o_thrown o_fault o_faultPlace o_stop o_next o_kind o_which o_at o_pointsRead o_bank o_isImage o_undos o_runRadix o_runOrder o_runNear o_runLimit o_runHalves o_power o_notedMany o_knownTold o_drawn o_roots o_told)) rfl (fun H locs hP hD hS => ?_)
      refine W.eq (g2 := F0 m 15 ls [.int r_1, .int ((1 : Int32) <<< (o_power &&& 31))]) rfl ?_
      refine lv_icmp_ge (tgt := 31) hx hb dX10_bySize_15 (by decide) (fun c_3 => ?_) (fun c_3 => ?_)
      · have hf := it_t c_3 hf
        exact j31 o_power o_roots H locs ls hf hP hD hS (lv_sub hl [0] rfl)
      · have hf := it_f c_3 hf
        refine lv_aload_n hx hb dX10_bySize_18 rfl (lv_at hl 0 rfl) ?_
        refine lv_dup hx hb dX10_bySize_19 rfl ?_
        refine rd (ci := 10) (C := RX10) (T := TX10) (N := 37) hx hb hts inX10 hown hK hP 0 26 rfl rfl (by decide) (hts _ q_fX10_193) rfl dX10_bySize_20 ?_
        refine lv_iconst (v := (1 : Int32)) hx hb dX10_bySize_23 (by decide) ?_
        refine lv_iadd hx hb dX10_bySize_24 ?_
        refine lv_topi (fun u_4 eu_4 => ?_)
        have hf := nm_x eu_4 hf
        refine wr (ci := 10) (C := RX10) (T := TX10) (N := 37) hx hb hts inX10 tyX10 tyX10_ok nmX10 hown hK hP hD hS 0 26 rfl rfl (by decide) (hts _ q_fX10_193) rfl rfl rfl (Nat.le_of_ble_eq_true rfl) dX10_bySize_25 (ws2 := (wX10_bySize cI cJ cZ h_o h_o_roots h_o_told h_o_tape h_o_words h_o_isTold h_o_toldWave h_o_isPoint h_o_all h_o_quarter h_o_laidRe h_o_laidIm h_o_byOrder h_o_noted1 h_o_counts h_o_binBy o_tapeSize o_thrown o_fault o_faultPlace o_stop o_next o_kind o_which o_at o_pointsRead o_bank o_isImage o_undos o_runRadix o_runOrder o_runNear o_runLimit o_runHalves u_4 o_notedMany o_knownTold o_drawn o_roots o_told)) rfl (fun H locs hP hD hS => ?_)
        refine lv_goto (tgt := 5) hx hb dX10_bySize_28 (by decide) ?_
        exact ih u_4 o_roots H locs ls hf hP hD hS (lv_sub hl [0] rfl)
  unfold fX10_bySize at hf
  obtain ⟨H, eH⟩ : ∃ H, H = s.heap := ⟨_, rfl⟩
  obtain ⟨locs, elocs⟩ : ∃ z : List Loc, z = [] := ⟨_, rfl⟩
  have hP : va_P G vwCl (wX10_bySize cI cJ cZ h_o h_o_roots h_o_told h_o_tape h_o_words h_o_isTold h_o_toldWave h_o_isPoint h_o_all h_o_quarter h_o_laidRe h_o_laidIm h_o_byOrder h_o_noted1 h_o_counts h_o_binBy o_tapeSize o_thrown o_fault o_faultPlace o_stop o_next o_kind o_which o_at o_pointsRead o_bank o_isImage o_undos o_runRadix o_runOrder o_runNear o_runLimit o_runHalves o_power o_notedMany o_knownTold o_drawn o_roots o_told) H := by rw [eH]; exact hP
  have hS : va_S A s.heap H locs := by rw [eH, elocs]; exact hS
  suffices hgo : W p l e ({ frames := 1, cells := 0, slots := 0, locals := 20 } : Room) s m ([.ref h_o] : List Value).toArray below meth c H locs 0 0 Q (F0 m 0 ls []) by rw [eH, elocs] at hgo; exact hgo
  clear eH elocs
  refine lv_aload_n hx hb dX10_bySize_0 rfl (lv_at hl 0 rfl) ?_
  refine lv_iconst (v := (0 : Int32)) hx hb dX10_bySize_1 (by decide) ?_
  refine wr (ci := 10) (C := RX10) (T := TX10) (N := 37) hx hb hts inX10 tyX10 tyX10_ok nmX10 hown hK hP hD hS 0 26 rfl rfl (by decide) (hts _ q_fX10_193) rfl rfl rfl (Nat.le_of_ble_eq_true rfl) dX10_bySize_2 (ws2 := (wX10_bySize cI cJ cZ h_o h_o_roots h_o_told h_o_tape h_o_words h_o_isTold h_o_toldWave h_o_isPoint h_o_all h_o_quarter h_o_laidRe h_o_laidIm h_o_byOrder h_o_noted1 h_o_counts h_o_binBy o_tapeSize o_thrown o_fault o_faultPlace o_stop o_next o_kind o_which o_at o_pointsRead o_bank o_isImage o_undos o_runRadix o_runOrder o_runNear o_runLimit o_runHalves (0 : Int32) o_notedMany o_knownTold o_drawn o_roots o_told)) rfl (fun H locs hP hD hS => ?_)
  exact j5 FU (0 : Int32) o_roots H locs ls hf hP hD hS (lv_sub hl [0] rfl)
def wX10_byText (cI cJ cZ : ClassId) (h_o h_o_told h_o_tape h_o_words h_o_isTold h_o_toldWave h_o_isPoint h_o_all h_o_quarter h_o_roots h_o_laidRe h_o_laidIm h_o_byOrder h_o_noted1 h_o_counts h_o_binBy : Nat) (o_tapeSize : Int32) (o_thrown : Int32) (o_fault : Int32) (o_faultPlace : Int32) (o_stop : Int32) (o_next : Int32) (o_kind : Int32) (o_which : Int32) (o_at : Int32) (o_pointsRead : Int32) (o_bank : Int32) (o_isImage : Int32) (o_undos : Int32) (o_runRadix : Int32) (o_runOrder : Int32) (o_runNear : Int32) (o_runLimit : Int32) (o_runHalves : Int32) (o_power : Int32) (o_notedMany : Int32) (o_knownTold : Int32) (o_drawn : Int64) (o_told : Nat → Int32) : va_W := [(h_o, .inr (10, [.ref h_o_tape, .int o_tapeSize, .int o_thrown, .ref h_o_words, .int o_fault, .int o_faultPlace, .int o_stop, .int o_next, .int o_kind, .int o_which, .int o_at, .ref h_o_told, .ref h_o_isTold, .ref h_o_toldWave, .ref h_o_isPoint, .int o_pointsRead, .ref h_o_all, .int o_bank, .int o_isImage, .int o_undos, .int o_runRadix, .int o_runOrder, .int o_runNear, .int o_runLimit, .int o_runHalves, .ref h_o_quarter, .int o_power, .ref h_o_roots, .ref h_o_laidRe, .ref h_o_laidIm, .ref h_o_byOrder, .int o_notedMany, .int o_knownTold, .ref h_o_noted1, .ref h_o_counts, .ref h_o_binBy, .long o_drawn])), (h_o_told, .inl (cI, 12, .inl o_told))]
def fX10_byText (o_runRadix : Int32) (o_runOrder : Int32) (o_runNear : Int32) (o_runLimit : Int32) (o_runHalves : Int32) (o_told : Nat → Int32) : Option (Int32 × Int32 × Int32 × Int32 × Int32) :=
  gd (inb (2 : Int32) 12) (
  nm (o_told (Int32.toNatClampNeg (2 : Int32))) (fun u_2 =>
  gd (inb (3 : Int32) 12) (
  nm (o_told (Int32.toNatClampNeg (3 : Int32))) (fun u_4 =>
  gd (inb (4 : Int32) 12) (
  nm (o_told (Int32.toNatClampNeg (4 : Int32))) (fun u_6 =>
  gd (inb (1 : Int32) 12) (
  bd1 (fX10_limitOf (o_told (Int32.toNatClampNeg (1 : Int32)))) (fun r_8 =>
  some (u_2, u_4, u_6, r_8, (1 : Int32))))))))))
set_option maxHeartbeats 4000000 in
set_option maxRecDepth 100000 in
theorem tX10_byText (l : Launch) (G : va_G) (cI cJ cZ : ClassId) (sz : Nat) (h_o h_o_told h_o_tape h_o_words h_o_isTold h_o_toldWave h_o_isPoint h_o_all h_o_quarter h_o_roots h_o_laidRe h_o_laidIm h_o_byOrder h_o_noted1 h_o_counts h_o_binBy : Nat) (o_tapeSize : Int32) (o_thrown : Int32) (o_fault : Int32) (o_faultPlace : Int32) (o_stop : Int32) (o_next : Int32) (o_kind : Int32) (o_which : Int32) (o_at : Int32) (o_pointsRead : Int32) (o_bank : Int32) (o_isImage : Int32) (o_undos : Int32) (o_runRadix : Int32) (o_runOrder : Int32) (o_runNear : Int32) (o_runLimit : Int32) (o_runHalves : Int32) (o_power : Int32) (o_notedMany : Int32) (o_knownTold : Int32) (o_drawn : Int64) (o_told : Nat → Int32) (out_o_runRadix : Int32) (out_o_runOrder : Int32) (out_o_runNear : Int32) (out_o_runLimit : Int32) (out_o_runHalves : Int32) (hf : fX10_byText o_runRadix o_runOrder o_runNear o_runLimit o_runHalves o_told = some (out_o_runRadix, out_o_runOrder, out_o_runNear, out_o_runLimit, out_o_runHalves)) : Met l yX10_byText (Cond.code yX10_byText cX10_byText 1 none :: BIG) ({ frames := 1, cells := 0, slots := 0, locals := 20 } : Room) (cP G (TY3 cI cJ cZ) [.ref h_o] sz (wX10_byText cI cJ cZ h_o h_o_told h_o_tape h_o_words h_o_isTold h_o_toldWave h_o_isPoint h_o_all h_o_quarter h_o_roots h_o_laidRe h_o_laidIm h_o_byOrder h_o_noted1 h_o_counts h_o_binBy o_tapeSize o_thrown o_fault o_faultPlace o_stop o_next o_kind o_which o_at o_pointsRead o_bank o_isImage o_undos o_runRadix o_runOrder o_runNear o_runLimit o_runHalves o_power o_notedMany o_knownTold o_drawn o_told)) (cQ G (TY3 cI cJ cZ) sz (wX10_byText cI cJ cZ h_o h_o_told h_o_tape h_o_words h_o_isTold h_o_toldWave h_o_isPoint h_o_all h_o_quarter h_o_roots h_o_laidRe h_o_laidIm h_o_byOrder h_o_noted1 h_o_counts h_o_binBy o_tapeSize o_thrown o_fault o_faultPlace o_stop o_next o_kind o_which o_at o_pointsRead o_bank o_isImage o_undos o_runRadix o_runOrder o_runNear o_runLimit o_runHalves o_power o_notedMany o_knownTold o_drawn o_told) (wX10_byText cI cJ cZ h_o h_o_told h_o_tape h_o_words h_o_isTold h_o_toldWave h_o_isPoint h_o_all h_o_quarter h_o_roots h_o_laidRe h_o_laidIm h_o_byOrder h_o_noted1 h_o_counts h_o_binBy o_tapeSize o_thrown o_fault o_faultPlace o_stop o_next o_kind o_which o_at o_pointsRead o_bank o_isImage o_undos out_o_runRadix out_o_runOrder out_o_runNear out_o_runLimit out_o_runHalves o_power o_notedMany o_knownTold o_drawn o_told) none) 0 0 (va_A (wX10_byText cI cJ cZ h_o h_o_told h_o_tape h_o_words h_o_isTold h_o_toldWave h_o_isPoint h_o_all h_o_quarter h_o_roots h_o_laidRe h_o_laidIm h_o_byOrder h_o_noted1 h_o_counts h_o_binBy o_tapeSize o_thrown o_fault o_faultPlace o_stop o_next o_kind o_which o_at o_pointsRead o_bank o_isImage o_undos o_runRadix o_runOrder o_runNear o_runLimit o_runHalves o_power o_notedMany o_knownTold o_drawn o_told) sz) := by
  refine met_v (cc := cX10_byText) (maxL := 1) (plainFor_of_name (by decide)) (Nat.le_of_ble_eq_true rfl) (fun p e s m below meth c A ls Q hx hb hml hts hown hK hP hD hS hA hl hret => ?_)
  have hown : s.vm.findClass RX10 = some m.cls := hown
  have hl : lv_has ls 1 [(0, .ref h_o)] := hl
  unfold fX10_byText at hf
  obtain ⟨H, eH⟩ : ∃ H, H = s.heap := ⟨_, rfl⟩
  obtain ⟨locs, elocs⟩ : ∃ z : List Loc, z = [] := ⟨_, rfl⟩
  have hP : va_P G vwCl (wX10_byText cI cJ cZ h_o h_o_told h_o_tape h_o_words h_o_isTold h_o_toldWave h_o_isPoint h_o_all h_o_quarter h_o_roots h_o_laidRe h_o_laidIm h_o_byOrder h_o_noted1 h_o_counts h_o_binBy o_tapeSize o_thrown o_fault o_faultPlace o_stop o_next o_kind o_which o_at o_pointsRead o_bank o_isImage o_undos o_runRadix o_runOrder o_runNear o_runLimit o_runHalves o_power o_notedMany o_knownTold o_drawn o_told) H := by rw [eH]; exact hP
  have hS : va_S A s.heap H locs := by rw [eH, elocs]; exact hS
  suffices hgo : W p l e ({ frames := 1, cells := 0, slots := 0, locals := 20 } : Room) s m ([.ref h_o] : List Value).toArray below meth c H locs 0 0 Q (F0 m 0 ls []) by rw [eH, elocs] at hgo; exact hgo
  clear eH elocs
  refine lv_aload_n hx hb dX10_byText_0 rfl (lv_at hl 0 rfl) ?_
  refine lv_aload_n hx hb dX10_byText_1 rfl (lv_at hl 0 rfl) ?_
  refine rd (ci := 10) (C := RX10) (T := TX10) (N := 37) hx hb hts inX10 hown hK hP 0 11 rfl rfl (by decide) (hts _ q_fX10_20) rfl dX10_byText_2 ?_
  refine lv_iconst (v := (2 : Int32)) hx hb dX10_byText_5 (by decide) ?_
  obtain ⟨g_1, hf⟩ := gd_x hf
  refine va_iald hx hb hK hP 1 0 rfl rfl (inb_x g_1) dX10_byText_6 ?_
  refine lv_topi (fun u_2 eu_2 => ?_)
  have hf := nm_x eu_2 hf
  refine wr (ci := 10) (C := RX10) (T := TX10) (N := 37) hx hb hts inX10 tyX10 tyX10_ok nmX10 hown hK hP hD hS 0 20 rfl rfl (by decide) (hts _ q_fX10_166) rfl rfl rfl (Nat.le_of_ble_eq_true rfl) dX10_byText_7 (ws2 := (wX10_byText cI cJ cZ h_o h_o_told h_o_tape h_o_words h_o_isTold h_o_toldWave h_o_isPoint h_o_all h_o_quarter h_o_roots h_o_laidRe h_o_laidIm h_o_byOrder h_o_noted1 h_o_counts h_o_binBy o_tapeSize o_thrown o_fault o_faultPlace o_stop o_next o_kind o_which o_at o_pointsRead o_bank o_isImage o_undos u_2 o_runOrder o_runNear o_runLimit o_runHalves o_power o_notedMany o_knownTold o_drawn o_told)) rfl (fun H locs hP hD hS => ?_)
  refine lv_aload_n hx hb dX10_byText_10 rfl (lv_at hl 0 rfl) ?_
  refine lv_aload_n hx hb dX10_byText_11 rfl (lv_at hl 0 rfl) ?_
  refine rd (ci := 10) (C := RX10) (T := TX10) (N := 37) hx hb hts inX10 hown hK hP 0 11 rfl rfl (by decide) (hts _ q_fX10_20) rfl dX10_byText_12 ?_
  refine lv_iconst (v := (3 : Int32)) hx hb dX10_byText_15 (by decide) ?_
  obtain ⟨g_3, hf⟩ := gd_x hf
  refine va_iald hx hb hK hP 1 0 rfl rfl (inb_x g_3) dX10_byText_16 ?_
  refine lv_topi (fun u_4 eu_4 => ?_)
  have hf := nm_x eu_4 hf
  refine wr (ci := 10) (C := RX10) (T := TX10) (N := 37) hx hb hts inX10 tyX10 tyX10_ok nmX10 hown hK hP hD hS 0 21 rfl rfl (by decide) (hts _ q_fX10_169) rfl rfl rfl (Nat.le_of_ble_eq_true rfl) dX10_byText_17 (ws2 := (wX10_byText cI cJ cZ h_o h_o_told h_o_tape h_o_words h_o_isTold h_o_toldWave h_o_isPoint h_o_all h_o_quarter h_o_roots h_o_laidRe h_o_laidIm h_o_byOrder h_o_noted1 h_o_counts h_o_binBy o_tapeSize o_thrown o_fault o_faultPlace o_stop o_next o_kind o_which o_at o_pointsRead o_bank o_isImage o_undos u_2 u_4 o_runNear o_runLimit o_runHalves o_power o_notedMany o_knownTold o_drawn o_told)) rfl (fun H locs hP hD hS => ?_)
  refine lv_aload_n hx hb dX10_byText_20 rfl (lv_at hl 0 rfl) ?_
  refine lv_aload_n hx hb dX10_byText_21 rfl (lv_at hl 0 rfl) ?_
  refine rd (ci := 10) (C := RX10) (T := TX10) (N := 37) hx hb hts inX10 hown hK hP 0 11 rfl rfl (by decide) (hts _ q_fX10_20) rfl dX10_byText_22 ?_
  refine lv_iconst (v := (4 : Int32)) hx hb dX10_byText_25 (by decide) ?_
  obtain ⟨g_5, hf⟩ := gd_x hf
  refine va_iald hx hb hK hP 1 0 rfl rfl (inb_x g_5) dX10_byText_26 ?_
  refine lv_topi (fun u_6 eu_6 => ?_)
  have hf := nm_x eu_6 hf
  refine wr (ci := 10) (C := RX10) (T := TX10) (N := 37) hx hb hts inX10 tyX10 tyX10_ok nmX10 hown hK hP hD hS 0 22 rfl rfl (by decide) (hts _ q_fX10_172) rfl rfl rfl (Nat.le_of_ble_eq_true rfl) dX10_byText_27 (ws2 := (wX10_byText cI cJ cZ h_o h_o_told h_o_tape h_o_words h_o_isTold h_o_toldWave h_o_isPoint h_o_all h_o_quarter h_o_roots h_o_laidRe h_o_laidIm h_o_byOrder h_o_noted1 h_o_counts h_o_binBy o_tapeSize o_thrown o_fault o_faultPlace o_stop o_next o_kind o_which o_at o_pointsRead o_bank o_isImage o_undos u_2 u_4 u_6 o_runLimit o_runHalves o_power o_notedMany o_knownTold o_drawn o_told)) rfl (fun H locs hP hD hS => ?_)
  refine lv_aload_n hx hb dX10_byText_30 rfl (lv_at hl 0 rfl) ?_
  refine lv_aload_n hx hb dX10_byText_31 rfl (lv_at hl 0 rfl) ?_
  refine rd (ci := 10) (C := RX10) (T := TX10) (N := 37) hx hb hts inX10 hown hK hP 0 11 rfl rfl (by decide) (hts _ q_fX10_20) rfl dX10_byText_32 ?_
  refine lv_iconst (v := (1 : Int32)) hx hb dX10_byText_35 (by decide) ?_
  obtain ⟨g_7, hf⟩ := gd_x hf
  refine va_iald hx hb hK hP 1 0 rfl rfl (inb_x g_7) dX10_byText_36 ?_
  obtain ⟨r_8, e_9, hf⟩ := bd1_x hf
  refine call_s [.int (o_told (Int32.toNatClampNeg (1 : Int32)))] [.ref h_o] ⟨hx, hb, hml, hown, hts⟩ hK hP hD hS hA hl.1 (tX10_limitOf l G cI cJ cZ H.size (o_told (Int32.toNatClampNeg (1 : Int32))) r_8 e_9) (va_cwS 1 hts (gs q_mX10_152 q_s_yX10_limitOf q_n_RX10 q_k_yX10_limitOf) rfl rfl rfl (by decide +kernel) ⟨by decide, by decide⟩) rfl rfl (Nat.le_of_ble_eq_true rfl) dX10_byText_37 ⟨Nat.zero_le _, Nat.zero_le _⟩ [] [0, 1] [0, 1] rfl rfl (ws2 := (wX10_byText cI cJ cZ h_o h_o_told h_o_tape h_o_words h_o_isTold h_o_toldWave h_o_isPoint h_o_all h_o_quarter h_o_roots h_o_laidRe h_o_laidIm h_o_byOrder h_o_noted1 h_o_counts h_o_binBy o_tapeSize o_thrown o_fault o_faultPlace o_stop o_next o_kind o_which o_at o_pointsRead o_bank o_isImage o_undos u_2 u_4 u_6 o_runLimit o_runHalves o_power o_notedMany o_knownTold o_drawn o_told)) rfl (fun H locs hP hD hS => ?_)
  refine W.eq (g2 := F0 m 40 ls [.int r_8, .ref h_o]) rfl ?_
  refine wr (ci := 10) (C := RX10) (T := TX10) (N := 37) hx hb hts inX10 tyX10 tyX10_ok nmX10 hown hK hP hD hS 0 23 rfl rfl (by decide) (hts _ q_fX10_175) rfl rfl rfl (Nat.le_of_ble_eq_true rfl) dX10_byText_40 (ws2 := (wX10_byText cI cJ cZ h_o h_o_told h_o_tape h_o_words h_o_isTold h_o_toldWave h_o_isPoint h_o_all h_o_quarter h_o_roots h_o_laidRe h_o_laidIm h_o_byOrder h_o_noted1 h_o_counts h_o_binBy o_tapeSize o_thrown o_fault o_faultPlace o_stop o_next o_kind o_which o_at o_pointsRead o_bank o_isImage o_undos u_2 u_4 u_6 r_8 o_runHalves o_power o_notedMany o_knownTold o_drawn o_told)) rfl (fun H locs hP hD hS => ?_)
  refine lv_aload_n hx hb dX10_byText_43 rfl (lv_at hl 0 rfl) ?_
  refine lv_iconst (v := (1 : Int32)) hx hb dX10_byText_44 (by decide) ?_
  refine wr (ci := 10) (C := RX10) (T := TX10) (N := 37) hx hb hts inX10 tyX10 tyX10_ok nmX10 hown hK hP hD hS 0 24 rfl rfl (by decide) (hts _ q_fX10_178) rfl rfl rfl (Nat.le_of_ble_eq_true rfl) dX10_byText_45 (ws2 := (wX10_byText cI cJ cZ h_o h_o_told h_o_tape h_o_words h_o_isTold h_o_toldWave h_o_isPoint h_o_all h_o_quarter h_o_roots h_o_laidRe h_o_laidIm h_o_byOrder h_o_noted1 h_o_counts h_o_binBy o_tapeSize o_thrown o_fault o_faultPlace o_stop o_next o_kind o_which o_at o_pointsRead o_bank o_isImage o_undos u_2 u_4 u_6 r_8 (1 : Int32) o_power o_notedMany o_knownTold o_drawn o_told)) rfl (fun H locs hP hD hS => ?_)
  cases hf
  exact hret _ _ _ _ dX10_byText_48 hP hD hS
def wX10_lay (cI cJ cZ : ClassId) (h_o h_o_all h_o_tape h_o_words h_o_told h_o_isTold h_o_toldWave h_o_isPoint h_o_quarter h_o_roots h_o_laidRe h_o_laidIm h_o_byOrder h_o_noted1 h_o_counts h_o_binBy : Nat) (o_tapeSize : Int32) (o_thrown : Int32) (o_fault : Int32) (o_faultPlace : Int32) (o_stop : Int32) (o_next : Int32) (o_kind : Int32) (o_which : Int32) (o_at : Int32) (o_pointsRead : Int32) (o_bank : Int32) (o_isImage : Int32) (o_undos : Int32) (o_runRadix : Int32) (o_runOrder : Int32) (o_runNear : Int32) (o_runLimit : Int32) (o_runHalves : Int32) (o_power : Int32) (o_notedMany : Int32) (o_knownTold : Int32) (o_drawn : Int64) (o_all : Nat → Int32) : va_W := [(h_o, .inr (10, [.ref h_o_tape, .int o_tapeSize, .int o_thrown, .ref h_o_words, .int o_fault, .int o_faultPlace, .int o_stop, .int o_next, .int o_kind, .int o_which, .int o_at, .ref h_o_told, .ref h_o_isTold, .ref h_o_toldWave, .ref h_o_isPoint, .int o_pointsRead, .ref h_o_all, .int o_bank, .int o_isImage, .int o_undos, .int o_runRadix, .int o_runOrder, .int o_runNear, .int o_runLimit, .int o_runHalves, .ref h_o_quarter, .int o_power, .ref h_o_roots, .ref h_o_laidRe, .ref h_o_laidIm, .ref h_o_byOrder, .int o_notedMany, .int o_knownTold, .ref h_o_noted1, .ref h_o_counts, .ref h_o_binBy, .long o_drawn])), (h_o_all, .inl (cI, 3128, .inl o_all))]
def fX10_lay (o_bank : Int32) (o_all : Nat → Int32) (p1 : Int32) (p2 : Int32) : Option ((Nat → Int32)) :=
  gd (inb (((136 : Int32) * o_bank) + p1) 3128) (
  nm (upd o_all (Int32.toNatClampNeg (((136 : Int32) * o_bank) + p1)) p2) (fun o_all_2 =>
  some o_all_2))
set_option maxHeartbeats 4000000 in
set_option maxRecDepth 100000 in
theorem tX10_lay (l : Launch) (G : va_G) (cI cJ cZ : ClassId) (sz : Nat) (h_o h_o_all h_o_tape h_o_words h_o_told h_o_isTold h_o_toldWave h_o_isPoint h_o_quarter h_o_roots h_o_laidRe h_o_laidIm h_o_byOrder h_o_noted1 h_o_counts h_o_binBy : Nat) (o_tapeSize : Int32) (o_thrown : Int32) (o_fault : Int32) (o_faultPlace : Int32) (o_stop : Int32) (o_next : Int32) (o_kind : Int32) (o_which : Int32) (o_at : Int32) (o_pointsRead : Int32) (o_bank : Int32) (o_isImage : Int32) (o_undos : Int32) (o_runRadix : Int32) (o_runOrder : Int32) (o_runNear : Int32) (o_runLimit : Int32) (o_runHalves : Int32) (o_power : Int32) (o_notedMany : Int32) (o_knownTold : Int32) (o_drawn : Int64) (o_all : Nat → Int32) (p1 : Int32) (p2 : Int32) (out_o_all : Nat → Int32) (hf : fX10_lay o_bank o_all p1 p2 = some out_o_all) : Met l yX10_lay (Cond.code yX10_lay cX10_lay 3 none :: BIG) ({ frames := 0, cells := 0, slots := 0, locals := 0 } : Room) (cP G (TY3 cI cJ cZ) [.ref h_o, .int p1, .int p2] sz (wX10_lay cI cJ cZ h_o h_o_all h_o_tape h_o_words h_o_told h_o_isTold h_o_toldWave h_o_isPoint h_o_quarter h_o_roots h_o_laidRe h_o_laidIm h_o_byOrder h_o_noted1 h_o_counts h_o_binBy o_tapeSize o_thrown o_fault o_faultPlace o_stop o_next o_kind o_which o_at o_pointsRead o_bank o_isImage o_undos o_runRadix o_runOrder o_runNear o_runLimit o_runHalves o_power o_notedMany o_knownTold o_drawn o_all)) (cQ G (TY3 cI cJ cZ) sz (wX10_lay cI cJ cZ h_o h_o_all h_o_tape h_o_words h_o_told h_o_isTold h_o_toldWave h_o_isPoint h_o_quarter h_o_roots h_o_laidRe h_o_laidIm h_o_byOrder h_o_noted1 h_o_counts h_o_binBy o_tapeSize o_thrown o_fault o_faultPlace o_stop o_next o_kind o_which o_at o_pointsRead o_bank o_isImage o_undos o_runRadix o_runOrder o_runNear o_runLimit o_runHalves o_power o_notedMany o_knownTold o_drawn o_all) (wX10_lay cI cJ cZ h_o h_o_all h_o_tape h_o_words h_o_told h_o_isTold h_o_toldWave h_o_isPoint h_o_quarter h_o_roots h_o_laidRe h_o_laidIm h_o_byOrder h_o_noted1 h_o_counts h_o_binBy o_tapeSize o_thrown o_fault o_faultPlace o_stop o_next o_kind o_which o_at o_pointsRead o_bank o_isImage o_undos o_runRadix o_runOrder o_runNear o_runLimit o_runHalves o_power o_notedMany o_knownTold o_drawn out_o_all) none) 0 0 (va_A (wX10_lay cI cJ cZ h_o h_o_all h_o_tape h_o_words h_o_told h_o_isTold h_o_toldWave h_o_isPoint h_o_quarter h_o_roots h_o_laidRe h_o_laidIm h_o_byOrder h_o_noted1 h_o_counts h_o_binBy o_tapeSize o_thrown o_fault o_faultPlace o_stop o_next o_kind o_which o_at o_pointsRead o_bank o_isImage o_undos o_runRadix o_runOrder o_runNear o_runLimit o_runHalves o_power o_notedMany o_knownTold o_drawn o_all) sz) := by
  refine met_v (cc := cX10_lay) (maxL := 3) (plainFor_of_name (by decide)) (Nat.le_of_ble_eq_true rfl) (fun p e s m below meth c A ls Q hx hb hml hts hown hK hP hD hS hA hl hret => ?_)
  have hown : s.vm.findClass RX10 = some m.cls := hown
  have hl : lv_has ls 3 [(0, .ref h_o), (1, .int p1), (2, .int p2)] := hl
  unfold fX10_lay at hf
  obtain ⟨H, eH⟩ : ∃ H, H = s.heap := ⟨_, rfl⟩
  obtain ⟨locs, elocs⟩ : ∃ z : List Loc, z = [] := ⟨_, rfl⟩
  have hP : va_P G vwCl (wX10_lay cI cJ cZ h_o h_o_all h_o_tape h_o_words h_o_told h_o_isTold h_o_toldWave h_o_isPoint h_o_quarter h_o_roots h_o_laidRe h_o_laidIm h_o_byOrder h_o_noted1 h_o_counts h_o_binBy o_tapeSize o_thrown o_fault o_faultPlace o_stop o_next o_kind o_which o_at o_pointsRead o_bank o_isImage o_undos o_runRadix o_runOrder o_runNear o_runLimit o_runHalves o_power o_notedMany o_knownTold o_drawn o_all) H := by rw [eH]; exact hP
  have hS : va_S A s.heap H locs := by rw [eH, elocs]; exact hS
  suffices hgo : W p l e ({ frames := 0, cells := 0, slots := 0, locals := 0 } : Room) s m ([.ref h_o, .int p1, .int p2] : List Value).toArray below meth c H locs 0 0 Q (F0 m 0 ls []) by rw [eH, elocs] at hgo; exact hgo
  clear eH elocs
  refine lv_aload_n hx hb dX10_lay_0 rfl (lv_at hl 0 rfl) ?_
  refine rd (ci := 10) (C := RX10) (T := TX10) (N := 37) hx hb hts inX10 hown hK hP 0 16 rfl rfl (by decide) (hts _ q_fX10_33) rfl dX10_lay_1 ?_
  refine lv_sipush (v := (136 : Int32)) hx hb dX10_lay_4 (by decide) ?_
  refine lv_aload_n hx hb dX10_lay_7 rfl (lv_at hl 0 rfl) ?_
  refine rd (ci := 10) (C := RX10) (T := TX10) (N := 37) hx hb hts inX10 hown hK hP 0 17 rfl rfl (by decide) (hts _ q_fX10_112) rfl dX10_lay_8 ?_
  refine lv_imul hx hb dX10_lay_11 ?_
  refine lv_iload_n hx hb dX10_lay_12 rfl (lv_at hl 1 rfl) ?_
  refine lv_iadd hx hb dX10_lay_13 ?_
  refine lv_iload_n hx hb dX10_lay_14 rfl (lv_at hl 2 rfl) ?_
  obtain ⟨g_1, hf⟩ := gd_x hf
  obtain ⟨o_all_2, eo_all_2⟩ : ∃ y : Nat → Int32, y = upd o_all (Int32.toNatClampNeg (((136 : Int32) * o_bank) + p1)) p2 := ⟨_, rfl⟩
  have hf := nm_x eo_all_2 hf
  refine ist hx hb hK hP hD hS 1 0 rfl rfl (inb_x g_1) dX10_lay_15 eo_all_2 (ws2 := (wX10_lay cI cJ cZ h_o h_o_all h_o_tape h_o_words h_o_told h_o_isTold h_o_toldWave h_o_isPoint h_o_quarter h_o_roots h_o_laidRe h_o_laidIm h_o_byOrder h_o_noted1 h_o_counts h_o_binBy o_tapeSize o_thrown o_fault o_faultPlace o_stop o_next o_kind o_which o_at o_pointsRead o_bank o_isImage o_undos o_runRadix o_runOrder o_runNear o_runLimit o_runHalves o_power o_notedMany o_knownTold o_drawn o_all_2)) rfl (fun H locs hP hD hS => ?_)
  cases hf
  exact hret _ _ _ _ dX10_lay_16 hP hD hS
def wX10_noneHalved (cI cJ cZ : ClassId) (h_o h_o_all h_o_tape h_o_words h_o_told h_o_isTold h_o_toldWave h_o_isPoint h_o_quarter h_o_roots h_o_laidRe h_o_laidIm h_o_byOrder h_o_noted1 h_o_counts h_o_binBy : Nat) (o_tapeSize : Int32) (o_thrown : Int32) (o_fault : Int32) (o_faultPlace : Int32) (o_stop : Int32) (o_next : Int32) (o_kind : Int32) (o_which : Int32) (o_at : Int32) (o_pointsRead : Int32) (o_bank : Int32) (o_isImage : Int32) (o_undos : Int32) (o_runRadix : Int32) (o_runOrder : Int32) (o_runNear : Int32) (o_runLimit : Int32) (o_runHalves : Int32) (o_power : Int32) (o_notedMany : Int32) (o_knownTold : Int32) (o_drawn : Int64) (o_all : Nat → Int32) : va_W := [(h_o, .inr (10, [.ref h_o_tape, .int o_tapeSize, .int o_thrown, .ref h_o_words, .int o_fault, .int o_faultPlace, .int o_stop, .int o_next, .int o_kind, .int o_which, .int o_at, .ref h_o_told, .ref h_o_isTold, .ref h_o_toldWave, .ref h_o_isPoint, .int o_pointsRead, .ref h_o_all, .int o_bank, .int o_isImage, .int o_undos, .int o_runRadix, .int o_runOrder, .int o_runNear, .int o_runLimit, .int o_runHalves, .ref h_o_quarter, .int o_power, .ref h_o_roots, .ref h_o_laidRe, .ref h_o_laidIm, .ref h_o_byOrder, .int o_notedMany, .int o_knownTold, .ref h_o_noted1, .ref h_o_counts, .ref h_o_binBy, .long o_drawn])), (h_o_all, .inl (cI, 3128, .inl o_all))]
def fX10_noneHalved_2 (o_bank : Int32) : Nat → (Nat → Int32) → Int32 → Option ((Nat → Int32))
  | 0, _, _ => none
  | n + 1, o_all, v1 =>
    if (5 : Int32) ≤ v1 then (
      some o_all
    ) else (
      bd1 (fX10_lay o_bank o_all ((131 : Int32) + v1) (-2 : Int32)) (fun o_all_2 =>
      nm (v1 + (1 : Int32)) (fun v1_4 =>
      fX10_noneHalved_2 o_bank n o_all_2 v1_4))
    )
def fX10_noneHalved (o_bank : Int32) (o_all : Nat → Int32) : Option ((Nat → Int32)) :=
  fX10_noneHalved_2 o_bank FU o_all (0 : Int32)
set_option maxHeartbeats 4000000 in
set_option maxRecDepth 100000 in
theorem tX10_noneHalved (l : Launch) (G : va_G) (cI cJ cZ : ClassId) (sz : Nat) (h_o h_o_all h_o_tape h_o_words h_o_told h_o_isTold h_o_toldWave h_o_isPoint h_o_quarter h_o_roots h_o_laidRe h_o_laidIm h_o_byOrder h_o_noted1 h_o_counts h_o_binBy : Nat) (o_tapeSize : Int32) (o_thrown : Int32) (o_fault : Int32) (o_faultPlace : Int32) (o_stop : Int32) (o_next : Int32) (o_kind : Int32) (o_which : Int32) (o_at : Int32) (o_pointsRead : Int32) (o_bank : Int32) (o_isImage : Int32) (o_undos : Int32) (o_runRadix : Int32) (o_runOrder : Int32) (o_runNear : Int32) (o_runLimit : Int32) (o_runHalves : Int32) (o_power : Int32) (o_notedMany : Int32) (o_knownTold : Int32) (o_drawn : Int64) (o_all : Nat → Int32) (out_o_all : Nat → Int32) (hf : fX10_noneHalved o_bank o_all = some out_o_all) : Met l yX10_noneHalved (Cond.code yX10_noneHalved cX10_noneHalved 2 none :: BIG) ({ frames := 1, cells := 0, slots := 0, locals := 22 } : Room) (cP G (TY3 cI cJ cZ) [.ref h_o] sz (wX10_noneHalved cI cJ cZ h_o h_o_all h_o_tape h_o_words h_o_told h_o_isTold h_o_toldWave h_o_isPoint h_o_quarter h_o_roots h_o_laidRe h_o_laidIm h_o_byOrder h_o_noted1 h_o_counts h_o_binBy o_tapeSize o_thrown o_fault o_faultPlace o_stop o_next o_kind o_which o_at o_pointsRead o_bank o_isImage o_undos o_runRadix o_runOrder o_runNear o_runLimit o_runHalves o_power o_notedMany o_knownTold o_drawn o_all)) (cQ G (TY3 cI cJ cZ) sz (wX10_noneHalved cI cJ cZ h_o h_o_all h_o_tape h_o_words h_o_told h_o_isTold h_o_toldWave h_o_isPoint h_o_quarter h_o_roots h_o_laidRe h_o_laidIm h_o_byOrder h_o_noted1 h_o_counts h_o_binBy o_tapeSize o_thrown o_fault o_faultPlace o_stop o_next o_kind o_which o_at o_pointsRead o_bank o_isImage o_undos o_runRadix o_runOrder o_runNear o_runLimit o_runHalves o_power o_notedMany o_knownTold o_drawn o_all) (wX10_noneHalved cI cJ cZ h_o h_o_all h_o_tape h_o_words h_o_told h_o_isTold h_o_toldWave h_o_isPoint h_o_quarter h_o_roots h_o_laidRe h_o_laidIm h_o_byOrder h_o_noted1 h_o_counts h_o_binBy o_tapeSize o_thrown o_fault o_faultPlace o_stop o_next o_kind o_which o_at o_pointsRead o_bank o_isImage o_undos o_runRadix o_runOrder o_runNear o_runLimit o_runHalves o_power o_notedMany o_knownTold o_drawn out_o_all) none) 0 0 (va_A (wX10_noneHalved cI cJ cZ h_o h_o_all h_o_tape h_o_words h_o_told h_o_isTold h_o_toldWave h_o_isPoint h_o_quarter h_o_roots h_o_laidRe h_o_laidIm h_o_byOrder h_o_noted1 h_o_counts h_o_binBy o_tapeSize o_thrown o_fault o_faultPlace o_stop o_next o_kind o_which o_at o_pointsRead o_bank o_isImage o_undos o_runRadix o_runOrder o_runNear o_runLimit o_runHalves o_power o_notedMany o_knownTold o_drawn o_all) sz) := by
  refine met_v (cc := cX10_noneHalved) (maxL := 2) (plainFor_of_name (by decide)) (Nat.le_of_ble_eq_true rfl) (fun p e s m below meth c A ls Q hx hb hml hts hown hK hP hD hS hA hl hret => ?_)
  have hown : s.vm.findClass RX10 = some m.cls := hown
  have hl : lv_has ls 2 [(0, .ref h_o)] := hl
  have j2 : ∀ (n : Nat) (o_all : Nat → Int32) (v1 : Int32) (H : Heap) (locs : List Loc) (ls : Array Slot), fX10_noneHalved_2 o_bank n o_all v1 = some out_o_all → va_P G vwCl (wX10_noneHalved cI cJ cZ h_o h_o_all h_o_tape h_o_words h_o_told h_o_isTold h_o_toldWave h_o_isPoint h_o_quarter h_o_roots h_o_laidRe h_o_laidIm h_o_byOrder h_o_noted1 h_o_counts h_o_binBy o_tapeSize o_thrown o_fault o_faultPlace o_stop o_next o_kind o_which o_at o_pointsRead o_bank o_isImage o_undos o_runRadix o_runOrder o_runNear o_runLimit o_runHalves o_power o_notedMany o_knownTold o_drawn o_all) H → va_D A (wX10_noneHalved cI cJ cZ h_o h_o_all h_o_tape h_o_words h_o_told h_o_isTold h_o_toldWave h_o_isPoint h_o_quarter h_o_roots h_o_laidRe h_o_laidIm h_o_byOrder h_o_noted1 h_o_counts h_o_binBy o_tapeSize o_thrown o_fault o_faultPlace o_stop o_next o_kind o_which o_at o_pointsRead o_bank o_isImage o_undos o_runRadix o_runOrder o_runNear o_runLimit o_runHalves o_power o_notedMany o_knownTold o_drawn o_all) → va_S A s.heap H locs → lv_has ls 2 [(0, .ref h_o), (1, .int v1)] → W p l e ({ frames := 1, cells := 0, slots := 0, locals := 22 } : Room) s m ([.ref h_o] : List Value).toArray below meth c H locs 0 0 Q (F0 m 2 ls []) := by
    intro n
    induction n with
    | zero =>
      intro o_all v1 H locs ls hf
      have hf : (none : Option ((Nat → Int32))) = some out_o_all := hf
      cases hf
    | succ n ih =>
      intro o_all v1 H locs ls hf hP hD hS hl
      rw [fX10_noneHalved_2.eq_2] at hf
      refine lv_iload_n hx hb dX10_noneHalved_2 rfl (lv_at hl 1 rfl) ?_
      refine lv_iconst (v := (5 : Int32)) hx hb dX10_noneHalved_3 (by decide) ?_
      refine lv_icmp_ge (tgt := 24) hx hb dX10_noneHalved_4 (by decide) (fun c_1 => ?_) (fun c_1 => ?_)
      · have hf := it_t c_1 hf
        cases hf
        exact hret _ _ _ _ dX10_noneHalved_24 hP hD hS
      · have hf := it_f c_1 hf
        refine lv_aload_n hx hb dX10_noneHalved_7 rfl (lv_at hl 0 rfl) ?_
        refine lv_sipush (v := (131 : Int32)) hx hb dX10_noneHalved_8 (by decide) ?_
        refine lv_iload_n hx hb dX10_noneHalved_11 rfl (lv_at hl 1 rfl) ?_
        refine lv_iadd hx hb dX10_noneHalved_12 ?_
        refine lv_bipush (v := (-2 : Int32)) hx hb dX10_noneHalved_13 (by decide) ?_
        obtain ⟨o_all_2, e_3, hf⟩ := bd1_x hf
        refine call_v [.int ((131 : Int32) + v1), .int (-2 : Int32)] [] ⟨hx, hb, hml, hown, hts⟩ hK hP hD hS hA hl.1 (tX10_lay l G cI cJ cZ H.size h_o h_o_all h_o_tape h_o_words h_o_told h_o_isTold h_o_toldWave h_o_isPoint h_o_quarter h_o_roots h_o_laidRe h_o_laidIm h_o_byOrder h_o_noted1 h_o_counts h_o_binBy o_tapeSize o_thrown o_fault o_faultPlace o_stop o_next o_kind o_which o_at o_pointsRead o_bank o_isImage o_undos o_runRadix o_runOrder o_runNear o_runLimit o_runHalves o_power o_notedMany o_knownTold o_drawn o_all ((131 : Int32) + v1) (-2 : Int32) o_all_2 e_3) (cwV 2 hts (gv q_mX10_118 q_i_yX10_lay q_s_yX10_lay q_n_RX10 q_k_yX10_lay) rfl rfl rfl (by decide +kernel) ⟨by decide, by decide⟩) rfl rfl (Nat.le_of_ble_eq_true rfl) dX10_noneHalved_15 ⟨Nat.zero_le _, Nat.zero_le _⟩ (ci := 10) rfl 0 rfl [0, 1] [] [0, 1] rfl rfl (ws2 := (wX10_noneHalved cI cJ cZ h_o h_o_all h_o_tape h_o_words h_o_told h_o_isTold h_o_toldWave h_o_isPoint h_o_quarter h_o_roots h_o_laidRe h_o_laidIm h_o_byOrder h_o_noted1 h_o_counts h_o_binBy o_tapeSize o_thrown o_fault o_faultPlace o_stop o_next o_kind o_which o_at o_pointsRead o_bank o_isImage o_undos o_runRadix o_runOrder o_runNear o_runLimit o_runHalves o_power o_notedMany o_knownTold o_drawn o_all_2)) rfl (fun H locs hP hD hS => ?_)
        refine W.eq (g2 := F0 m 18 ls []) rfl ?_
        obtain ⟨v1_4, ev1_4⟩ : ∃ y : Int32, y = v1 + (1 : Int32) := ⟨_, rfl⟩
        have hf := nm_x ev1_4 hf
        refine lv_iinc (v := v1_4) (lv' := [(1, .int v1_4), (0, .ref h_o)]) hx hb dX10_noneHalved_18 hl (k := 1) rfl (by rw [ev1_4]; rfl) (by decide) rfl (fun ls hl => ?_)
        refine lv_goto (tgt := 2) hx hb dX10_noneHalved_21 (by decide) ?_
        exact ih o_all_2 v1_4 H locs ls hf hP hD hS (lv_sub hl [1, 0] rfl)
  unfold fX10_noneHalved at hf
  obtain ⟨H, eH⟩ : ∃ H, H = s.heap := ⟨_, rfl⟩
  obtain ⟨locs, elocs⟩ : ∃ z : List Loc, z = [] := ⟨_, rfl⟩
  have hP : va_P G vwCl (wX10_noneHalved cI cJ cZ h_o h_o_all h_o_tape h_o_words h_o_told h_o_isTold h_o_toldWave h_o_isPoint h_o_quarter h_o_roots h_o_laidRe h_o_laidIm h_o_byOrder h_o_noted1 h_o_counts h_o_binBy o_tapeSize o_thrown o_fault o_faultPlace o_stop o_next o_kind o_which o_at o_pointsRead o_bank o_isImage o_undos o_runRadix o_runOrder o_runNear o_runLimit o_runHalves o_power o_notedMany o_knownTold o_drawn o_all) H := by rw [eH]; exact hP
  have hS : va_S A s.heap H locs := by rw [eH, elocs]; exact hS
  suffices hgo : W p l e ({ frames := 1, cells := 0, slots := 0, locals := 22 } : Room) s m ([.ref h_o] : List Value).toArray below meth c H locs 0 0 Q (F0 m 0 ls []) by rw [eH, elocs] at hgo; exact hgo
  clear eH elocs
  refine lv_iconst (v := (0 : Int32)) hx hb dX10_noneHalved_0 (by decide) ?_
  refine lv_istore_n (lv' := [(1, .int (0 : Int32)), (0, .ref h_o)]) hx hb dX10_noneHalved_1 rfl hl (by decide) rfl (fun ls hl => ?_)
  exact j2 FU o_all (0 : Int32) H locs ls hf hP hD hS (lv_sub hl [1, 0] rfl)
def wX10_keepText (cI cJ cZ : ClassId) (h_o h_o_all h_o_roots h_o_told h_o_toldWave h_o_tape h_o_words h_o_isTold h_o_isPoint h_o_quarter h_o_laidRe h_o_laidIm h_o_byOrder h_o_noted1 h_o_counts h_o_binBy : Nat) (o_tapeSize : Int32) (o_thrown : Int32) (o_fault : Int32) (o_faultPlace : Int32) (o_stop : Int32) (o_next : Int32) (o_kind : Int32) (o_which : Int32) (o_at : Int32) (o_pointsRead : Int32) (o_bank : Int32) (o_isImage : Int32) (o_undos : Int32) (o_runRadix : Int32) (o_runOrder : Int32) (o_runNear : Int32) (o_runLimit : Int32) (o_runHalves : Int32) (o_power : Int32) (o_notedMany : Int32) (o_knownTold : Int32) (o_drawn : Int64) (o_all : Nat → Int32) (o_roots : Nat → Int32) (o_told : Nat → Int32) (o_toldWave : Nat → Int32) : va_W := [(h_o, .inr (10, [.ref h_o_tape, .int o_tapeSize, .int o_thrown, .ref h_o_words, .int o_fault, .int o_faultPlace, .int o_stop, .int o_next, .int o_kind, .int o_which, .int o_at, .ref h_o_told, .ref h_o_isTold, .ref h_o_toldWave, .ref h_o_isPoint, .int o_pointsRead, .ref h_o_all, .int o_bank, .int o_isImage, .int o_undos, .int o_runRadix, .int o_runOrder, .int o_runNear, .int o_runLimit, .int o_runHalves, .ref h_o_quarter, .int o_power, .ref h_o_roots, .ref h_o_laidRe, .ref h_o_laidIm, .ref h_o_byOrder, .int o_notedMany, .int o_knownTold, .ref h_o_noted1, .ref h_o_counts, .ref h_o_binBy, .long o_drawn])), (h_o_all, .inl (cI, 3128, .inl o_all)), (h_o_roots, .inl (cI, 32, .inl o_roots)), (h_o_told, .inl (cI, 12, .inl o_told)), (h_o_toldWave, .inl (cI, 128, .inl o_toldWave))]
def fX10_keepText_131 (o_bank : Int32) (o_isImage : Int32) (o_undos : Int32) (o_runRadix : Int32) (o_runOrder : Int32) (o_runNear : Int32) (o_runLimit : Int32) (o_runHalves : Int32) (o_power : Int32) (o_notedMany : Int32) (o_knownTold : Int32) (o_all : Nat → Int32) (o_roots : Nat → Int32) (o_told : Nat → Int32) (o_toldWave : Nat → Int32) : Option (Int32 × Int32 × Int32 × Int32 × Int32 × Int32 × Int32 × Int32 × Int32 × Int32 × Int32 × (Nat → Int32) × (Nat → Int32) × (Nat → Int32) × (Nat → Int32)) :=
  bd1 (fX10_noneHalved o_bank o_all) (fun o_all_34 =>
  some (o_bank, (0 : Int32), (0 : Int32), o_runRadix, o_runOrder, o_runNear, o_runLimit, o_runHalves, o_power, (0 : Int32), (-1 : Int32), o_all_34, o_roots, o_told, o_toldWave))
def fX10_keepText_94 : Nat → Int32 → Int32 → Int32 → Int32 → Int32 → Int32 → Int32 → Int32 → Int32 → Int32 → Int32 → (Nat → Int32) → (Nat → Int32) → (Nat → Int32) → (Nat → Int32) → Int32 → Option (Int32 × Int32 × Int32 × Int32 × Int32 × Int32 × Int32 × Int32 × Int32 × Int32 × Int32 × (Nat → Int32) × (Nat → Int32) × (Nat → Int32) × (Nat → Int32))
  | 0, _, _, _, _, _, _, _, _, _, _, _, _, _, _, _, _ => none
  | n + 1, o_bank, o_isImage, o_undos, o_runRadix, o_runOrder, o_runNear, o_runLimit, o_runHalves, o_power, o_notedMany, o_knownTold, o_all, o_roots, o_told, o_toldWave, v1 =>
    if (64 : Int32) ≤ v1 then (
      fX10_keepText_131 o_bank o_isImage o_undos o_runRadix o_runOrder o_runNear o_runLimit o_runHalves o_power o_notedMany o_knownTold o_all o_roots o_told o_toldWave
    ) else (
      gd (inb v1 128) (
      bd1 (fX10_lay o_bank o_all v1 (o_toldWave (Int32.toNatClampNeg v1))) (fun o_all_28 =>
      gd (inb v1 128) (
      bd1 (fX10_lay o_bank o_all_28 ((64 : Int32) + v1) (o_toldWave (Int32.toNatClampNeg v1))) (fun o_all_31 =>
      nm (v1 + (1 : Int32)) (fun v1_33 =>
      fX10_keepText_94 n o_bank o_isImage o_undos o_runRadix o_runOrder o_runNear o_runLimit o_runHalves o_power o_notedMany o_knownTold o_all_31 o_roots o_told o_toldWave v1_33)))))
    )
def fX10_keepText_92 (o_bank : Int32) (o_isImage : Int32) (o_undos : Int32) (o_runRadix : Int32) (o_runOrder : Int32) (o_runNear : Int32) (o_runLimit : Int32) (o_runHalves : Int32) (o_power : Int32) (o_notedMany : Int32) (o_knownTold : Int32) (o_all : Nat → Int32) (o_roots : Nat → Int32) (o_told : Nat → Int32) (o_toldWave : Nat → Int32) : Option (Int32 × Int32 × Int32 × Int32 × Int32 × Int32 × Int32 × Int32 × Int32 × Int32 × Int32 × (Nat → Int32) × (Nat → Int32) × (Nat → Int32) × (Nat → Int32)) :=
  fX10_keepText_94 FU o_bank o_isImage o_undos o_runRadix o_runOrder o_runNear o_runLimit o_runHalves o_power o_notedMany o_knownTold o_all o_roots o_told o_toldWave (0 : Int32)
def fX10_keepText_73 : Nat → Int32 → Int32 → Int32 → Int32 → Int32 → Int32 → Int32 → Int32 → Int32 → Int32 → Int32 → (Nat → Int32) → (Nat → Int32) → (Nat → Int32) → (Nat → Int32) → Int32 → Option (Int32 × Int32 × Int32 × Int32 × Int32 × Int32 × Int32 × Int32 × Int32 × Int32 × Int32 × (Nat → Int32) × (Nat → Int32) × (Nat → Int32) × (Nat → Int32))
  | 0, _, _, _, _, _, _, _, _, _, _, _, _, _, _, _, _ => none
  | n + 1, o_bank, o_isImage, o_undos, o_runRadix, o_runOrder, o_runNear, o_runLimit, o_runHalves, o_power, o_notedMany, o_knownTold, o_all, o_roots, o_told, o_toldWave, v1 =>
    if (136 : Int32) ≤ v1 then (
      fX10_keepText_92 o_bank o_isImage o_undos o_runRadix o_runOrder o_runNear o_runLimit o_runHalves o_power o_notedMany o_knownTold o_all o_roots o_told o_toldWave
    ) else (
      bd1 (fX10_lay o_bank o_all v1 (0 : Int32)) (fun o_all_23 =>
      nm (v1 + (1 : Int32)) (fun v1_25 =>
      fX10_keepText_73 n o_bank o_isImage o_undos o_runRadix o_runOrder o_runNear o_runLimit o_runHalves o_power o_notedMany o_knownTold o_all_23 o_roots o_told o_toldWave v1_25))
    )
def fX10_keepText_62 (o_bank : Int32) (o_isImage : Int32) (o_undos : Int32) (o_runRadix : Int32) (o_runOrder : Int32) (o_runNear : Int32) (o_runLimit : Int32) (o_runHalves : Int32) (o_power : Int32) (o_notedMany : Int32) (o_knownTold : Int32) (o_all : Nat → Int32) (o_roots : Nat → Int32) (o_told : Nat → Int32) (o_toldWave : Nat → Int32) : Option (Int32 × Int32 × Int32 × Int32 × Int32 × Int32 × Int32 × Int32 × Int32 × Int32 × Int32 × (Nat → Int32) × (Nat → Int32) × (Nat → Int32) × (Nat → Int32)) :=
  bd5 (fX10_byText o_runRadix o_runOrder o_runNear o_runLimit o_runHalves o_told) (fun o_runRadix_16 o_runOrder_17 o_runNear_18 o_runLimit_19 o_runHalves_20 =>
  fX10_keepText_73 FU (0 : Int32) o_isImage o_undos o_runRadix_16 o_runOrder_17 o_runNear_18 o_runLimit_19 o_runHalves_20 o_power o_notedMany o_knownTold o_all o_roots o_told o_toldWave (0 : Int32))
def fX10_keepText_35 : Nat → Int32 → Int32 → Int32 → Int32 → Int32 → Int32 → Int32 → Int32 → Int32 → Int32 → Int32 → (Nat → Int32) → (Nat → Int32) → (Nat → Int32) → (Nat → Int32) → Int32 → Option (Int32 × Int32 × Int32 × Int32 × Int32 × Int32 × Int32 × Int32 × Int32 × Int32 × Int32 × (Nat → Int32) × (Nat → Int32) × (Nat → Int32) × (Nat → Int32))
  | 0, _, _, _, _, _, _, _, _, _, _, _, _, _, _, _, _ => none
  | n + 1, o_bank, o_isImage, o_undos, o_runRadix, o_runOrder, o_runNear, o_runLimit, o_runHalves, o_power, o_notedMany, o_knownTold, o_all, o_roots, o_told, o_toldWave, v1 =>
    if (64 : Int32) ≤ v1 then (
      fX10_keepText_62 o_bank o_isImage o_undos o_runRadix o_runOrder o_runNear o_runLimit o_runHalves o_power o_notedMany o_knownTold o_all o_roots o_told o_toldWave
    ) else (
      nm ((64 : Int32) + v1) (fun i_11 =>
      gd (inb i_11 128) (
      gd (inb v1 128) (
      nm (upd o_toldWave (Int32.toNatClampNeg v1) (o_toldWave (Int32.toNatClampNeg i_11))) (fun o_toldWave_14 =>
      nm (v1 + (1 : Int32)) (fun v1_15 =>
      fX10_keepText_35 n o_bank o_isImage o_undos o_runRadix o_runOrder o_runNear o_runLimit o_runHalves o_power o_notedMany o_knownTold o_all o_roots o_told o_toldWave_14 v1_15)))))
    )
def fX10_keepText_29 (o_bank : Int32) (o_isImage : Int32) (o_undos : Int32) (o_runRadix : Int32) (o_runOrder : Int32) (o_runNear : Int32) (o_runLimit : Int32) (o_runHalves : Int32) (o_power : Int32) (o_notedMany : Int32) (o_knownTold : Int32) (o_all : Nat → Int32) (o_roots : Nat → Int32) (o_told : Nat → Int32) (o_toldWave : Nat → Int32) : Option (Int32 × Int32 × Int32 × Int32 × Int32 × Int32 × Int32 × Int32 × Int32 × Int32 × Int32 × (Nat → Int32) × (Nat → Int32) × (Nat → Int32) × (Nat → Int32)) :=
  bd2 (fX10_bySize o_power o_roots o_told) (fun o_power_7 o_roots_8 =>
  fX10_keepText_35 FU o_bank o_isImage o_undos o_runRadix o_runOrder o_runNear o_runLimit o_runHalves o_power_7 o_notedMany o_knownTold o_all o_roots_8 o_told o_toldWave (0 : Int32))
def fX10_keepText_2 : Nat → Int32 → Int32 → Int32 → Int32 → Int32 → Int32 → Int32 → Int32 → Int32 → Int32 → Int32 → (Nat → Int32) → (Nat → Int32) → (Nat → Int32) → (Nat → Int32) → Int32 → Option (Int32 × Int32 × Int32 × Int32 × Int32 × Int32 × Int32 × Int32 × Int32 × Int32 × Int32 × (Nat → Int32) × (Nat → Int32) × (Nat → Int32) × (Nat → Int32))
  | 0, _, _, _, _, _, _, _, _, _, _, _, _, _, _, _, _ => none
  | n + 1, o_bank, o_isImage, o_undos, o_runRadix, o_runOrder, o_runNear, o_runLimit, o_runHalves, o_power, o_notedMany, o_knownTold, o_all, o_roots, o_told, o_toldWave, v1 =>
    if (6 : Int32) ≤ v1 then (
      fX10_keepText_29 o_bank o_isImage o_undos o_runRadix o_runOrder o_runNear o_runLimit o_runHalves o_power o_notedMany o_knownTold o_all o_roots o_told o_toldWave
    ) else (
      nm ((6 : Int32) + v1) (fun i_2 =>
      gd (inb i_2 12) (
      gd (inb v1 12) (
      nm (upd o_told (Int32.toNatClampNeg v1) (o_told (Int32.toNatClampNeg i_2))) (fun o_told_5 =>
      nm (v1 + (1 : Int32)) (fun v1_6 =>
      fX10_keepText_2 n o_bank o_isImage o_undos o_runRadix o_runOrder o_runNear o_runLimit o_runHalves o_power o_notedMany o_knownTold o_all o_roots o_told_5 o_toldWave v1_6)))))
    )
def fX10_keepText (o_bank : Int32) (o_isImage : Int32) (o_undos : Int32) (o_runRadix : Int32) (o_runOrder : Int32) (o_runNear : Int32) (o_runLimit : Int32) (o_runHalves : Int32) (o_power : Int32) (o_notedMany : Int32) (o_knownTold : Int32) (o_all : Nat → Int32) (o_roots : Nat → Int32) (o_told : Nat → Int32) (o_toldWave : Nat → Int32) : Option (Int32 × Int32 × Int32 × Int32 × Int32 × Int32 × Int32 × Int32 × Int32 × Int32 × Int32 × (Nat → Int32) × (Nat → Int32) × (Nat → Int32) × (Nat → Int32)) :=
  fX10_keepText_2 FU o_bank o_isImage o_undos o_runRadix o_runOrder o_runNear o_runLimit o_runHalves o_power o_notedMany o_knownTold o_all o_roots o_told o_toldWave (0 : Int32)
set_option maxHeartbeats 4000000 in
set_option maxRecDepth 100000 in
theorem tX10_keepText (l : Launch) (G : va_G) (cI cJ cZ : ClassId) (sz : Nat) (h_o h_o_all h_o_roots h_o_told h_o_toldWave h_o_tape h_o_words h_o_isTold h_o_isPoint h_o_quarter h_o_laidRe h_o_laidIm h_o_byOrder h_o_noted1 h_o_counts h_o_binBy : Nat) (o_tapeSize : Int32) (o_thrown : Int32) (o_fault : Int32) (o_faultPlace : Int32) (o_stop : Int32) (o_next : Int32) (o_kind : Int32) (o_which : Int32) (o_at : Int32) (o_pointsRead : Int32) (o_bank : Int32) (o_isImage : Int32) (o_undos : Int32) (o_runRadix : Int32) (o_runOrder : Int32) (o_runNear : Int32) (o_runLimit : Int32) (o_runHalves : Int32) (o_power : Int32) (o_notedMany : Int32) (o_knownTold : Int32) (o_drawn : Int64) (o_all : Nat → Int32) (o_roots : Nat → Int32) (o_told : Nat → Int32) (o_toldWave : Nat → Int32) (out_o_bank : Int32) (out_o_isImage : Int32) (out_o_undos : Int32) (out_o_runRadix : Int32) (out_o_runOrder : Int32) (out_o_runNear : Int32) (out_o_runLimit : Int32) (out_o_runHalves : Int32) (out_o_power : Int32) (out_o_notedMany : Int32) (out_o_knownTold : Int32) (out_o_all : Nat → Int32) (out_o_roots : Nat → Int32) (out_o_told : Nat → Int32) (out_o_toldWave : Nat → Int32) (hf : fX10_keepText o_bank o_isImage o_undos o_runRadix o_runOrder o_runNear o_runLimit o_runHalves o_power o_notedMany o_knownTold o_all o_roots o_told o_toldWave = some (out_o_bank, out_o_isImage, out_o_undos, out_o_runRadix, out_o_runOrder, out_o_runNear, out_o_runLimit, out_o_runHalves, out_o_power, out_o_notedMany, out_o_knownTold, out_o_all, out_o_roots, out_o_told, out_o_toldWave)) : Met l yX10_keepText (Cond.code yX10_keepText cX10_keepText 2 none :: BIG) ({ frames := 2, cells := 0, slots := 0, locals := 43 } : Room) (cP G (TY3 cI cJ cZ) [.ref h_o] sz (wX10_keepText cI cJ cZ h_o h_o_all h_o_roots h_o_told h_o_toldWave h_o_tape h_o_words h_o_isTold h_o_isPoint h_o_quarter h_o_laidRe h_o_laidIm h_o_byOrder h_o_noted1 h_o_counts h_o_binBy o_tapeSize o_thrown o_fault o_faultPlace o_stop o_next o_kind o_which o_at o_pointsRead o_bank o_isImage o_undos o_runRadix o_runOrder o_runNear o_runLimit o_runHalves o_power o_notedMany o_knownTold o_drawn o_all o_roots o_told o_toldWave)) (cQ G (TY3 cI cJ cZ) sz (wX10_keepText cI cJ cZ h_o h_o_all h_o_roots h_o_told h_o_toldWave h_o_tape h_o_words h_o_isTold h_o_isPoint h_o_quarter h_o_laidRe h_o_laidIm h_o_byOrder h_o_noted1 h_o_counts h_o_binBy o_tapeSize o_thrown o_fault o_faultPlace o_stop o_next o_kind o_which o_at o_pointsRead o_bank o_isImage o_undos o_runRadix o_runOrder o_runNear o_runLimit o_runHalves o_power o_notedMany o_knownTold o_drawn o_all o_roots o_told o_toldWave) (wX10_keepText cI cJ cZ h_o h_o_all h_o_roots h_o_told h_o_toldWave h_o_tape h_o_words h_o_isTold h_o_isPoint h_o_quarter h_o_laidRe h_o_laidIm h_o_byOrder h_o_noted1 h_o_counts h_o_binBy o_tapeSize o_thrown o_fault o_faultPlace o_stop o_next o_kind o_which o_at o_pointsRead out_o_bank out_o_isImage out_o_undos out_o_runRadix out_o_runOrder out_o_runNear out_o_runLimit out_o_runHalves out_o_power out_o_notedMany out_o_knownTold o_drawn out_o_all out_o_roots out_o_told out_o_toldWave) none) 0 0 (va_A (wX10_keepText cI cJ cZ h_o h_o_all h_o_roots h_o_told h_o_toldWave h_o_tape h_o_words h_o_isTold h_o_isPoint h_o_quarter h_o_laidRe h_o_laidIm h_o_byOrder h_o_noted1 h_o_counts h_o_binBy o_tapeSize o_thrown o_fault o_faultPlace o_stop o_next o_kind o_which o_at o_pointsRead o_bank o_isImage o_undos o_runRadix o_runOrder o_runNear o_runLimit o_runHalves o_power o_notedMany o_knownTold o_drawn o_all o_roots o_told o_toldWave) sz) := by
  refine met_v (cc := cX10_keepText) (maxL := 2) (plainFor_of_name (by decide)) (Nat.le_of_ble_eq_true rfl) (fun p e s m below meth c A ls Q hx hb hml hts hown hK hP hD hS hA hl hret => ?_)
  have hown : s.vm.findClass RX10 = some m.cls := hown
  have hl : lv_has ls 2 [(0, .ref h_o)] := hl
  have j131 : ∀ (o_bank : Int32) (o_isImage : Int32) (o_undos : Int32) (o_runRadix : Int32) (o_runOrder : Int32) (o_runNear : Int32) (o_runLimit : Int32) (o_runHalves : Int32) (o_power : Int32) (o_notedMany : Int32) (o_knownTold : Int32) (o_all : Nat → Int32) (o_roots : Nat → Int32) (o_told : Nat → Int32) (o_toldWave : Nat → Int32) (H : Heap) (locs : List Loc) (ls : Array Slot), fX10_keepText_131 o_bank o_isImage o_undos o_runRadix o_runOrder o_runNear o_runLimit o_runHalves o_power o_notedMany o_knownTold o_all o_roots o_told o_toldWave = some (out_o_bank, out_o_isImage, out_o_undos, out_o_runRadix, out_o_runOrder, out_o_runNear, out_o_runLimit, out_o_runHalves, out_o_power, out_o_notedMany, out_o_knownTold, out_o_all, out_o_roots, out_o_told, out_o_toldWave) → va_P G vwCl (wX10_keepText cI cJ cZ h_o h_o_all h_o_roots h_o_told h_o_toldWave h_o_tape h_o_words h_o_isTold h_o_isPoint h_o_quarter h_o_laidRe h_o_laidIm h_o_byOrder h_o_noted1 h_o_counts h_o_binBy o_tapeSize o_thrown o_fault o_faultPlace o_stop o_next o_kind o_which o_at o_pointsRead o_bank o_isImage o_undos o_runRadix o_runOrder o_runNear o_runLimit o_runHalves o_power o_notedMany o_knownTold o_drawn o_all o_roots o_told o_toldWave) H → va_D A (wX10_keepText cI cJ cZ h_o h_o_all h_o_roots h_o_told h_o_toldWave h_o_tape h_o_words h_o_isTold h_o_isPoint h_o_quarter h_o_laidRe h_o_laidIm h_o_byOrder h_o_noted1 h_o_counts h_o_binBy o_tapeSize o_thrown o_fault o_faultPlace o_stop o_next o_kind o_which o_at o_pointsRead o_bank o_isImage o_undos o_runRadix o_runOrder o_runNear o_runLimit o_runHalves o_power o_notedMany o_knownTold o_drawn o_all o_roots o_told o_toldWave) → va_S A s.heap H locs → lv_has ls 2 [(0, .ref h_o)] → W p l e ({ frames := 2, cells := 0, slots := 0, locals := 43 } : Room) s m ([.ref h_o] : List Value).toArray below meth c H locs 0 0 Q (F0 m 131 ls []) := by
    intro o_bank o_isImage o_undos o_runRadix o_runOrder o_runNear o_runLimit o_runHalves o_power o_notedMany o_knownTold o_all o_roots o_told o_toldWave H locs ls hf hP hD hS hl
    unfold fX10_keepText_131 at hf
    refine lv_aload_n hx hb dX10_keepText_131 rfl (lv_at hl 0 rfl) ?_
    obtain ⟨o_all_34, e_35, hf⟩ := bd1_x hf
    refine call_v [] [] ⟨hx, hb, hml, hown, hts⟩ hK hP hD hS hA hl.1 (tX10_noneHalved l G cI cJ cZ H.size h_o h_o_all h_o_tape h_o_words h_o_told h_o_isTold h_o_toldWave h_o_isPoint h_o_quarter h_o_roots h_o_laidRe h_o_laidIm h_o_byOrder h_o_noted1 h_o_counts h_o_binBy o_tapeSize o_thrown o_fault o_faultPlace o_stop o_next o_kind o_which o_at o_pointsRead o_bank o_isImage o_undos o_runRadix o_runOrder o_runNear o_runLimit o_runHalves o_power o_notedMany o_knownTold o_drawn o_all o_all_34 e_35) (cwV 0 hts (gv q_mX10_122 q_i_yX10_noneHalved q_s_yX10_noneHalved q_n_RX10 q_k_yX10_noneHalved) rfl rfl rfl (by decide +kernel) ⟨by decide, by decide⟩) rfl rfl (Nat.le_of_ble_eq_true rfl) dX10_keepText_132 ⟨Nat.zero_le _, Nat.zero_le _⟩ (ci := 10) rfl 0 rfl [0, 1] [2, 3, 4] [3, 4, 0, 1, 2] rfl rfl (ws2 := (wX10_keepText cI cJ cZ h_o h_o_all h_o_roots h_o_told h_o_toldWave h_o_tape h_o_words h_o_isTold h_o_isPoint h_o_quarter h_o_laidRe h_o_laidIm h_o_byOrder h_o_noted1 h_o_counts h_o_binBy o_tapeSize o_thrown o_fault o_faultPlace o_stop o_next o_kind o_which o_at o_pointsRead o_bank o_isImage o_undos o_runRadix o_runOrder o_runNear o_runLimit o_runHalves o_power o_notedMany o_knownTold o_drawn o_all_34 o_roots o_told o_toldWave)) rfl (fun H locs hP hD hS => ?_)
    refine W.eq (g2 := F0 m 135 ls []) rfl ?_
    refine lv_aload_n hx hb dX10_keepText_135 rfl (lv_at hl 0 rfl) ?_
    refine lv_iconst (v := (0 : Int32)) hx hb dX10_keepText_136 (by decide) ?_
    refine wr (ci := 10) (C := RX10) (T := TX10) (N := 37) hx hb hts inX10 tyX10 tyX10_ok nmX10 hown hK hP hD hS 0 18 rfl rfl (by decide) (hts _ q_fX10_125) rfl rfl rfl (Nat.le_of_ble_eq_true rfl) dX10_keepText_137 (ws2 := (wX10_keepText cI cJ cZ h_o h_o_all h_o_roots h_o_told h_o_toldWave h_o_tape h_o_words h_o_isTold h_o_isPoint h_o_quarter h_o_laidRe h_o_laidIm h_o_byOrder h_o_noted1 h_o_counts h_o_binBy o_tapeSize o_thrown o_fault o_faultPlace o_stop o_next o_kind o_which o_at o_pointsRead o_bank (0 : Int32) o_undos o_runRadix o_runOrder o_runNear o_runLimit o_runHalves o_power o_notedMany o_knownTold o_drawn o_all_34 o_roots o_told o_toldWave)) rfl (fun H locs hP hD hS => ?_)
    refine lv_aload_n hx hb dX10_keepText_140 rfl (lv_at hl 0 rfl) ?_
    refine lv_iconst (v := (0 : Int32)) hx hb dX10_keepText_141 (by decide) ?_
    refine wr (ci := 10) (C := RX10) (T := TX10) (N := 37) hx hb hts inX10 tyX10 tyX10_ok nmX10 hown hK hP hD hS 0 19 rfl rfl (by decide) (hts _ q_fX10_129) rfl rfl rfl (Nat.le_of_ble_eq_true rfl) dX10_keepText_142 (ws2 := (wX10_keepText cI cJ cZ h_o h_o_all h_o_roots h_o_told h_o_toldWave h_o_tape h_o_words h_o_isTold h_o_isPoint h_o_quarter h_o_laidRe h_o_laidIm h_o_byOrder h_o_noted1 h_o_counts h_o_binBy o_tapeSize o_thrown o_fault o_faultPlace o_stop o_next o_kind o_which o_at o_pointsRead o_bank (0 : Int32) (0 : Int32) o_runRadix o_runOrder o_runNear o_runLimit o_runHalves o_power o_notedMany o_knownTold o_drawn o_all_34 o_roots o_told o_toldWave)) rfl (fun H locs hP hD hS => ?_)
    refine lv_aload_n hx hb dX10_keepText_145 rfl (lv_at hl 0 rfl) ?_
    refine lv_iconst (v := (0 : Int32)) hx hb dX10_keepText_146 (by decide) ?_
    refine wr (ci := 10) (C := RX10) (T := TX10) (N := 37) hx hb hts inX10 tyX10 tyX10_ok nmX10 hown hK hP hD hS 0 31 rfl rfl (by decide) (hts _ q_fX10_132) rfl rfl rfl (Nat.le_of_ble_eq_true rfl) dX10_keepText_147 (ws2 := (wX10_keepText cI cJ cZ h_o h_o_all h_o_roots h_o_told h_o_toldWave h_o_tape h_o_words h_o_isTold h_o_isPoint h_o_quarter h_o_laidRe h_o_laidIm h_o_byOrder h_o_noted1 h_o_counts h_o_binBy o_tapeSize o_thrown o_fault o_faultPlace o_stop o_next o_kind o_which o_at o_pointsRead o_bank (0 : Int32) (0 : Int32) o_runRadix o_runOrder o_runNear o_runLimit o_runHalves o_power (0 : Int32) o_knownTold o_drawn o_all_34 o_roots o_told o_toldWave)) rfl (fun H locs hP hD hS => ?_)
    refine lv_aload_n hx hb dX10_keepText_150 rfl (lv_at hl 0 rfl) ?_
    refine lv_iconst (v := (-1 : Int32)) hx hb dX10_keepText_151 (by decide) ?_
    refine wr (ci := 10) (C := RX10) (T := TX10) (N := 37) hx hb hts inX10 tyX10 tyX10_ok nmX10 hown hK hP hD hS 0 32 rfl rfl (by decide) (hts _ q_fX10_52) rfl rfl rfl (Nat.le_of_ble_eq_true rfl) dX10_keepText_152 (ws2 := (wX10_keepText cI cJ cZ h_o h_o_all h_o_roots h_o_told h_o_toldWave h_o_tape h_o_words h_o_isTold h_o_isPoint h_o_quarter h_o_laidRe h_o_laidIm h_o_byOrder h_o_noted1 h_o_counts h_o_binBy o_tapeSize o_thrown o_fault o_faultPlace o_stop o_next o_kind o_which o_at o_pointsRead o_bank (0 : Int32) (0 : Int32) o_runRadix o_runOrder o_runNear o_runLimit o_runHalves o_power (0 : Int32) (-1 : Int32) o_drawn o_all_34 o_roots o_told o_toldWave)) rfl (fun H locs hP hD hS => ?_)
    cases hf
    exact hret _ _ _ _ dX10_keepText_155 hP hD hS
  have j94 : ∀ (n : Nat) (o_bank : Int32) (o_isImage : Int32) (o_undos : Int32) (o_runRadix : Int32) (o_runOrder : Int32) (o_runNear : Int32) (o_runLimit : Int32) (o_runHalves : Int32) (o_power : Int32) (o_notedMany : Int32) (o_knownTold : Int32) (o_all : Nat → Int32) (o_roots : Nat → Int32) (o_told : Nat → Int32) (o_toldWave : Nat → Int32) (v1 : Int32) (H : Heap) (locs : List Loc) (ls : Array Slot), fX10_keepText_94 n o_bank o_isImage o_undos o_runRadix o_runOrder o_runNear o_runLimit o_runHalves o_power o_notedMany o_knownTold o_all o_roots o_told o_toldWave v1 = some (out_o_bank, out_o_isImage, out_o_undos, out_o_runRadix, out_o_runOrder, out_o_runNear, out_o_runLimit, out_o_runHalves, out_o_power, out_o_notedMany, out_o_knownTold, out_o_all, out_o_roots, out_o_told, out_o_toldWave) → va_P G vwCl (wX10_keepText cI cJ cZ h_o h_o_all h_o_roots h_o_told h_o_toldWave h_o_tape h_o_words h_o_isTold h_o_isPoint h_o_quarter h_o_laidRe h_o_laidIm h_o_byOrder h_o_noted1 h_o_counts h_o_binBy o_tapeSize o_thrown o_fault o_faultPlace o_stop o_next o_kind o_which o_at o_pointsRead o_bank o_isImage o_undos o_runRadix o_runOrder o_runNear o_runLimit o_runHalves o_power o_notedMany o_knownTold o_drawn o_all o_roots o_told o_toldWave) H → va_D A (wX10_keepText cI cJ cZ h_o h_o_all h_o_roots h_o_told h_o_toldWave h_o_tape h_o_words h_o_isTold h_o_isPoint h_o_quarter h_o_laidRe h_o_laidIm h_o_byOrder h_o_noted1 h_o_counts h_o_binBy o_tapeSize o_thrown o_fault o_faultPlace o_stop o_next o_kind o_which o_at o_pointsRead o_bank o_isImage o_undos o_runRadix o_runOrder o_runNear o_runLimit o_runHalves o_power o_notedMany o_knownTold o_drawn o_all o_roots o_told o_toldWave) → va_S A s.heap H locs → lv_has ls 2 [(0, .ref h_o), (1, .int v1)] → W p l e ({ frames := 2, cells := 0, slots := 0, locals := 43 } : Room) s m ([.ref h_o] : List Value).toArray below meth c H locs 0 0 Q (F0 m 94 ls []) := by
    intro n
    induction n with
    | zero =>
      intro o_bank o_isImage o_undos o_runRadix o_runOrder o_runNear o_runLimit o_runHalves o_power o_notedMany o_knownTold o_all o_roots o_told o_toldWave v1 H locs ls hf
      have hf : (none : Option (Int32 × Int32 × Int32 × Int32 × Int32 × Int32 × Int32 × Int32 × Int32 × Int32 × Int32 × (Nat → Int32) × (Nat → Int32) × (Nat → Int32) × (Nat → Int32))) = some (out_o_bank, out_o_isImage, out_o_undos, out_o_runRadix, out_o_runOrder, out_o_runNear, out_o_runLimit, out_o_runHalves, out_o_power, out_o_notedMany, out_o_knownTold, out_o_all, out_o_roots, out_o_told, out_o_toldWave) := hf
      cases hf
    | succ n ih =>
      intro o_bank o_isImage o_undos o_runRadix o_runOrder o_runNear o_runLimit o_runHalves o_power o_notedMany o_knownTold o_all o_roots o_told o_toldWave v1 H locs ls hf hP hD hS hl
      rw [fX10_keepText_94.eq_2] at hf
      refine lv_iload_n hx hb dX10_keepText_94 rfl (lv_at hl 1 rfl) ?_
      refine lv_bipush (v := (64 : Int32)) hx hb dX10_keepText_95 (by decide) ?_
      refine lv_icmp_ge (tgt := 131) hx hb dX10_keepText_97 (by decide) (fun c_26 => ?_) (fun c_26 => ?_)
      · have hf := it_t c_26 hf
        exact j131 o_bank o_isImage o_undos o_runRadix o_runOrder o_runNear o_runLimit o_runHalves o_power o_notedMany o_knownTold o_all o_roots o_told o_toldWave H locs ls hf hP hD hS (lv_sub hl [0] rfl)
      · have hf := it_f c_26 hf
        refine lv_aload_n hx hb dX10_keepText_100 rfl (lv_at hl 0 rfl) ?_
        refine lv_iload_n hx hb dX10_keepText_101 rfl (lv_at hl 1 rfl) ?_
        refine lv_aload_n hx hb dX10_keepText_102 rfl (lv_at hl 0 rfl) ?_
        refine rd (ci := 10) (C := RX10) (T := TX10) (N := 37) hx hb hts inX10 hown hK hP 0 13 rfl rfl (by decide) (hts _ q_fX10_27) rfl dX10_keepText_103 ?_
        refine lv_iload_n hx hb dX10_keepText_106 rfl (lv_at hl 1 rfl) ?_
        obtain ⟨g_27, hf⟩ := gd_x hf
        refine va_iald hx hb hK hP 4 0 rfl rfl (inb_x g_27) dX10_keepText_107 ?_
        obtain ⟨o_all_28, e_29, hf⟩ := bd1_x hf
        refine call_v [.int v1, .int (o_toldWave (Int32.toNatClampNeg v1))] [] ⟨hx, hb, hml, hown, hts⟩ hK hP hD hS hA hl.1 (tX10_lay l G cI cJ cZ H.size h_o h_o_all h_o_tape h_o_words h_o_told h_o_isTold h_o_toldWave h_o_isPoint h_o_quarter h_o_roots h_o_laidRe h_o_laidIm h_o_byOrder h_o_noted1 h_o_counts h_o_binBy o_tapeSize o_thrown o_fault o_faultPlace o_stop o_next o_kind o_which o_at o_pointsRead o_bank o_isImage o_undos o_runRadix o_runOrder o_runNear o_runLimit o_runHalves o_power o_notedMany o_knownTold o_drawn o_all v1 (o_toldWave (Int32.toNatClampNeg v1)) o_all_28 e_29) (cwV 2 hts (gv q_mX10_118 q_i_yX10_lay q_s_yX10_lay q_n_RX10 q_k_yX10_lay) rfl rfl rfl (by decide +kernel) ⟨by decide, by decide⟩) rfl rfl (Nat.le_of_ble_eq_true rfl) dX10_keepText_108 ⟨Nat.zero_le _, Nat.zero_le _⟩ (ci := 10) rfl 0 rfl [0, 1] [2, 3, 4] [3, 4, 0, 1, 2] rfl rfl (ws2 := (wX10_keepText cI cJ cZ h_o h_o_all h_o_roots h_o_told h_o_toldWave h_o_tape h_o_words h_o_isTold h_o_isPoint h_o_quarter h_o_laidRe h_o_laidIm h_o_byOrder h_o_noted1 h_o_counts h_o_binBy o_tapeSize o_thrown o_fault o_faultPlace o_stop o_next o_kind o_which o_at o_pointsRead o_bank o_isImage o_undos o_runRadix o_runOrder o_runNear o_runLimit o_runHalves o_power o_notedMany o_knownTold o_drawn o_all_28 o_roots o_told o_toldWave)) rfl (fun H locs hP hD hS => ?_)
        refine W.eq (g2 := F0 m 111 ls []) rfl ?_
        refine lv_aload_n hx hb dX10_keepText_111 rfl (lv_at hl 0 rfl) ?_
        refine lv_bipush (v := (64 : Int32)) hx hb dX10_keepText_112 (by decide) ?_
        refine lv_iload_n hx hb dX10_keepText_114 rfl (lv_at hl 1 rfl) ?_
        refine lv_iadd hx hb dX10_keepText_115 ?_
        refine lv_aload_n hx hb dX10_keepText_116 rfl (lv_at hl 0 rfl) ?_
        refine rd (ci := 10) (C := RX10) (T := TX10) (N := 37) hx hb hts inX10 hown hK hP 0 13 rfl rfl (by decide) (hts _ q_fX10_27) rfl dX10_keepText_117 ?_
        refine lv_iload_n hx hb dX10_keepText_120 rfl (lv_at hl 1 rfl) ?_
        obtain ⟨g_30, hf⟩ := gd_x hf
        refine va_iald hx hb hK hP 4 0 rfl rfl (inb_x g_30) dX10_keepText_121 ?_
        obtain ⟨o_all_31, e_32, hf⟩ := bd1_x hf
        refine call_v [.int ((64 : Int32) + v1), .int (o_toldWave (Int32.toNatClampNeg v1))] [] ⟨hx, hb, hml, hown, hts⟩ hK hP hD hS hA hl.1 (tX10_lay l G cI cJ cZ H.size h_o h_o_all h_o_tape h_o_words h_o_told h_o_isTold h_o_toldWave h_o_isPoint h_o_quarter h_o_roots h_o_laidRe h_o_laidIm h_o_byOrder h_o_noted1 h_o_counts h_o_binBy o_tapeSize o_thrown o_fault o_faultPlace o_stop o_next o_kind o_which o_at o_pointsRead o_bank o_isImage o_undos o_runRadix o_runOrder o_runNear o_runLimit o_runHalves o_power o_notedMany o_knownTold o_drawn o_all_28 ((64 : Int32) + v1) (o_toldWave (Int32.toNatClampNeg v1)) o_all_31 e_32) (cwV 2 hts (gv q_mX10_118 q_i_yX10_lay q_s_yX10_lay q_n_RX10 q_k_yX10_lay) rfl rfl rfl (by decide +kernel) ⟨by decide, by decide⟩) rfl rfl (Nat.le_of_ble_eq_true rfl) dX10_keepText_122 ⟨Nat.zero_le _, Nat.zero_le _⟩ (ci := 10) rfl 0 rfl [0, 1] [2, 3, 4] [3, 4, 0, 1, 2] rfl rfl (ws2 := (wX10_keepText cI cJ cZ h_o h_o_all h_o_roots h_o_told h_o_toldWave h_o_tape h_o_words h_o_isTold h_o_isPoint h_o_quarter h_o_laidRe h_o_laidIm h_o_byOrder h_o_noted1 h_o_counts h_o_binBy o_tapeSize o_thrown o_fault o_faultPlace o_stop o_next o_kind o_which o_at o_pointsRead o_bank o_isImage o_undos o_runRadix o_runOrder o_runNear o_runLimit o_runHalves o_power o_notedMany o_knownTold o_drawn o_all_31 o_roots o_told o_toldWave)) rfl (fun H locs hP hD hS => ?_)
        refine W.eq (g2 := F0 m 125 ls []) rfl ?_
        obtain ⟨v1_33, ev1_33⟩ : ∃ y : Int32, y = v1 + (1 : Int32) := ⟨_, rfl⟩
        have hf := nm_x ev1_33 hf
        refine lv_iinc (v := v1_33) (lv' := [(1, .int v1_33), (0, .ref h_o)]) hx hb dX10_keepText_125 hl (k := 1) rfl (by rw [ev1_33]; rfl) (by decide) rfl (fun ls hl => ?_)
        refine lv_goto (tgt := 94) hx hb dX10_keepText_128 (by decide) ?_
        exact ih o_bank o_isImage o_undos o_runRadix o_runOrder o_runNear o_runLimit o_runHalves o_power o_notedMany o_knownTold o_all_31 o_roots o_told o_toldWave v1_33 H locs ls hf hP hD hS (lv_sub hl [1, 0] rfl)
  have j92 : ∀ (o_bank : Int32) (o_isImage : Int32) (o_undos : Int32) (o_runRadix : Int32) (o_runOrder : Int32) (o_runNear : Int32) (o_runLimit : Int32) (o_runHalves : Int32) (o_power : Int32) (o_notedMany : Int32) (o_knownTold : Int32) (o_all : Nat → Int32) (o_roots : Nat → Int32) (o_told : Nat → Int32) (o_toldWave : Nat → Int32) (H : Heap) (locs : List Loc) (ls : Array Slot), fX10_keepText_92 o_bank o_isImage o_undos o_runRadix o_runOrder o_runNear o_runLimit o_runHalves o_power o_notedMany o_knownTold o_all o_roots o_told o_toldWave = some (out_o_bank, out_o_isImage, out_o_undos, out_o_runRadix, out_o_runOrder, out_o_runNear, out_o_runLimit, out_o_runHalves, out_o_power, out_o_notedMany, out_o_knownTold, out_o_all, out_o_roots, out_o_told, out_o_toldWave) → va_P G vwCl (wX10_keepText cI cJ cZ h_o h_o_all h_o_roots h_o_told h_o_toldWave h_o_tape h_o_words h_o_isTold h_o_isPoint h_o_quarter h_o_laidRe h_o_laidIm h_o_byOrder h_o_noted1 h_o_counts h_o_binBy o_tapeSize o_thrown o_fault o_faultPlace o_stop o_next o_kind o_which o_at o_pointsRead o_bank o_isImage o_undos o_runRadix o_runOrder o_runNear o_runLimit o_runHalves o_power o_notedMany o_knownTold o_drawn o_all o_roots o_told o_toldWave) H → va_D A (wX10_keepText cI cJ cZ h_o h_o_all h_o_roots h_o_told h_o_toldWave h_o_tape h_o_words h_o_isTold h_o_isPoint h_o_quarter h_o_laidRe h_o_laidIm h_o_byOrder h_o_noted1 h_o_counts h_o_binBy o_tapeSize o_thrown o_fault o_faultPlace o_stop o_next o_kind o_which o_at o_pointsRead o_bank o_isImage o_undos o_runRadix o_runOrder o_runNear o_runLimit o_runHalves o_power o_notedMany o_knownTold o_drawn o_all o_roots o_told o_toldWave) → va_S A s.heap H locs → lv_has ls 2 [(0, .ref h_o)] → W p l e ({ frames := 2, cells := 0, slots := 0, locals := 43 } : Room) s m ([.ref h_o] : List Value).toArray below meth c H locs 0 0 Q (F0 m 92 ls []) := by
    intro o_bank o_isImage o_undos o_runRadix o_runOrder o_runNear o_runLimit o_runHalves o_power o_notedMany o_knownTold o_all o_roots o_told o_toldWave H locs ls hf hP hD hS hl
    unfold fX10_keepText_92 at hf
    refine lv_iconst (v := (0 : Int32)) hx hb dX10_keepText_92 (by decide) ?_
    refine lv_istore_n (lv' := [(1, .int (0 : Int32)), (0, .ref h_o)]) hx hb dX10_keepText_93 rfl hl (by decide) rfl (fun ls hl => ?_)
    exact j94 FU o_bank o_isImage o_undos o_runRadix o_runOrder o_runNear o_runLimit o_runHalves o_power o_notedMany o_knownTold o_all o_roots o_told o_toldWave (0 : Int32) H locs ls hf hP hD hS (lv_sub hl [1, 0] rfl)
  have j73 : ∀ (n : Nat) (o_bank : Int32) (o_isImage : Int32) (o_undos : Int32) (o_runRadix : Int32) (o_runOrder : Int32) (o_runNear : Int32) (o_runLimit : Int32) (o_runHalves : Int32) (o_power : Int32) (o_notedMany : Int32) (o_knownTold : Int32) (o_all : Nat → Int32) (o_roots : Nat → Int32) (o_told : Nat → Int32) (o_toldWave : Nat → Int32) (v1 : Int32) (H : Heap) (locs : List Loc) (ls : Array Slot), fX10_keepText_73 n o_bank o_isImage o_undos o_runRadix o_runOrder o_runNear o_runLimit o_runHalves o_power o_notedMany o_knownTold o_all o_roots o_told o_toldWave v1 = some (out_o_bank, out_o_isImage, out_o_undos, out_o_runRadix, out_o_runOrder, out_o_runNear, out_o_runLimit, out_o_runHalves, out_o_power, out_o_notedMany, out_o_knownTold, out_o_all, out_o_roots, out_o_told, out_o_toldWave) → va_P G vwCl (wX10_keepText cI cJ cZ h_o h_o_all h_o_roots h_o_told h_o_toldWave h_o_tape h_o_words h_o_isTold h_o_isPoint h_o_quarter h_o_laidRe h_o_laidIm h_o_byOrder h_o_noted1 h_o_counts h_o_binBy o_tapeSize o_thrown o_fault o_faultPlace o_stop o_next o_kind o_which o_at o_pointsRead o_bank o_isImage o_undos o_runRadix o_runOrder o_runNear o_runLimit o_runHalves o_power o_notedMany o_knownTold o_drawn o_all o_roots o_told o_toldWave) H → va_D A (wX10_keepText cI cJ cZ h_o h_o_all h_o_roots h_o_told h_o_toldWave h_o_tape h_o_words h_o_isTold h_o_isPoint h_o_quarter h_o_laidRe h_o_laidIm h_o_byOrder h_o_noted1 h_o_counts h_o_binBy o_tapeSize o_thrown o_fault o_faultPlace o_stop o_next o_kind o_which o_at o_pointsRead o_bank o_isImage o_undos o_runRadix o_runOrder o_runNear o_runLimit o_runHalves o_power o_notedMany o_knownTold o_drawn o_all o_roots o_told o_toldWave) → va_S A s.heap H locs → lv_has ls 2 [(0, .ref h_o), (1, .int v1)] → W p l e ({ frames := 2, cells := 0, slots := 0, locals := 43 } : Room) s m ([.ref h_o] : List Value).toArray below meth c H locs 0 0 Q (F0 m 73 ls []) := by
    intro n
    induction n with
    | zero =>
      intro o_bank o_isImage o_undos o_runRadix o_runOrder o_runNear o_runLimit o_runHalves o_power o_notedMany o_knownTold o_all o_roots o_told o_toldWave v1 H locs ls hf
      have hf : (none : Option (Int32 × Int32 × Int32 × Int32 × Int32 × Int32 × Int32 × Int32 × Int32 × Int32 × Int32 × (Nat → Int32) × (Nat → Int32) × (Nat → Int32) × (Nat → Int32))) = some (out_o_bank, out_o_isImage, out_o_undos, out_o_runRadix, out_o_runOrder, out_o_runNear, out_o_runLimit, out_o_runHalves, out_o_power, out_o_notedMany, out_o_knownTold, out_o_all, out_o_roots, out_o_told, out_o_toldWave) := hf
      cases hf
    | succ n ih =>
      intro o_bank o_isImage o_undos o_runRadix o_runOrder o_runNear o_runLimit o_runHalves o_power o_notedMany o_knownTold o_all o_roots o_told o_toldWave v1 H locs ls hf hP hD hS hl
      rw [fX10_keepText_73.eq_2] at hf
      refine lv_iload_n hx hb dX10_keepText_73 rfl (lv_at hl 1 rfl) ?_
      refine lv_sipush (v := (136 : Int32)) hx hb dX10_keepText_74 (by decide) ?_
      refine lv_icmp_ge (tgt := 92) hx hb dX10_keepText_77 (by decide) (fun c_22 => ?_) (fun c_22 => ?_)
      · have hf := it_t c_22 hf
        exact j92 o_bank o_isImage o_undos o_runRadix o_runOrder o_runNear o_runLimit o_runHalves o_power o_notedMany o_knownTold o_all o_roots o_told o_toldWave H locs ls hf hP hD hS (lv_sub hl [0] rfl)
      · have hf := it_f c_22 hf
        refine lv_aload_n hx hb dX10_keepText_80 rfl (lv_at hl 0 rfl) ?_
        refine lv_iload_n hx hb dX10_keepText_81 rfl (lv_at hl 1 rfl) ?_
        refine lv_iconst (v := (0 : Int32)) hx hb dX10_keepText_82 (by decide) ?_
        obtain ⟨o_all_23, e_24, hf⟩ := bd1_x hf
        refine call_v [.int v1, .int (0 : Int32)] [] ⟨hx, hb, hml, hown, hts⟩ hK hP hD hS hA hl.1 (tX10_lay l G cI cJ cZ H.size h_o h_o_all h_o_tape h_o_words h_o_told h_o_isTold h_o_toldWave h_o_isPoint h_o_quarter h_o_roots h_o_laidRe h_o_laidIm h_o_byOrder h_o_noted1 h_o_counts h_o_binBy o_tapeSize o_thrown o_fault o_faultPlace o_stop o_next o_kind o_which o_at o_pointsRead o_bank o_isImage o_undos o_runRadix o_runOrder o_runNear o_runLimit o_runHalves o_power o_notedMany o_knownTold o_drawn o_all v1 (0 : Int32) o_all_23 e_24) (cwV 2 hts (gv q_mX10_118 q_i_yX10_lay q_s_yX10_lay q_n_RX10 q_k_yX10_lay) rfl rfl rfl (by decide +kernel) ⟨by decide, by decide⟩) rfl rfl (Nat.le_of_ble_eq_true rfl) dX10_keepText_83 ⟨Nat.zero_le _, Nat.zero_le _⟩ (ci := 10) rfl 0 rfl [0, 1] [2, 3, 4] [3, 4, 0, 1, 2] rfl rfl (ws2 := (wX10_keepText cI cJ cZ h_o h_o_all h_o_roots h_o_told h_o_toldWave h_o_tape h_o_words h_o_isTold h_o_isPoint h_o_quarter h_o_laidRe h_o_laidIm h_o_byOrder h_o_noted1 h_o_counts h_o_binBy o_tapeSize o_thrown o_fault o_faultPlace o_stop o_next o_kind o_which o_at o_pointsRead o_bank o_isImage o_undos o_runRadix o_runOrder o_runNear o_runLimit o_runHalves o_power o_notedMany o_knownTold o_drawn o_all_23 o_roots o_told o_toldWave)) rfl (fun H locs hP hD hS => ?_)
        refine W.eq (g2 := F0 m 86 ls []) rfl ?_
        obtain ⟨v1_25, ev1_25⟩ : ∃ y : Int32, y = v1 + (1 : Int32) := ⟨_, rfl⟩
        have hf := nm_x ev1_25 hf
        refine lv_iinc (v := v1_25) (lv' := [(1, .int v1_25), (0, .ref h_o)]) hx hb dX10_keepText_86 hl (k := 1) rfl (by rw [ev1_25]; rfl) (by decide) rfl (fun ls hl => ?_)
        refine lv_goto (tgt := 73) hx hb dX10_keepText_89 (by decide) ?_
        exact ih o_bank o_isImage o_undos o_runRadix o_runOrder o_runNear o_runLimit o_runHalves o_power o_notedMany o_knownTold o_all_23 o_roots o_told o_toldWave v1_25 H locs ls hf hP hD hS (lv_sub hl [1, 0] rfl)
  have j62 : ∀ (o_bank : Int32) (o_isImage : Int32) (o_undos : Int32) (o_runRadix : Int32) (o_runOrder : Int32) (o_runNear : Int32) (o_runLimit : Int32) (o_runHalves : Int32) (o_power : Int32) (o_notedMany : Int32) (o_knownTold : Int32) (o_all : Nat → Int32) (o_roots : Nat → Int32) (o_told : Nat → Int32) (o_toldWave : Nat → Int32) (H : Heap) (locs : List Loc) (ls : Array Slot), fX10_keepText_62 o_bank o_isImage o_undos o_runRadix o_runOrder o_runNear o_runLimit o_runHalves o_power o_notedMany o_knownTold o_all o_roots o_told o_toldWave = some (out_o_bank, out_o_isImage, out_o_undos, out_o_runRadix, out_o_runOrder, out_o_runNear, out_o_runLimit, out_o_runHalves, out_o_power, out_o_notedMany, out_o_knownTold, out_o_all, out_o_roots, out_o_told, out_o_toldWave) → va_P G vwCl (wX10_keepText cI cJ cZ h_o h_o_all h_o_roots h_o_told h_o_toldWave h_o_tape h_o_words h_o_isTold h_o_isPoint h_o_quarter h_o_laidRe h_o_laidIm h_o_byOrder h_o_noted1 h_o_counts h_o_binBy o_tapeSize o_thrown o_fault o_faultPlace o_stop o_next o_kind o_which o_at o_pointsRead o_bank o_isImage o_undos o_runRadix o_runOrder o_runNear o_runLimit o_runHalves o_power o_notedMany o_knownTold o_drawn o_all o_roots o_told o_toldWave) H → va_D A (wX10_keepText cI cJ cZ h_o h_o_all h_o_roots h_o_told h_o_toldWave h_o_tape h_o_words h_o_isTold h_o_isPoint h_o_quarter h_o_laidRe h_o_laidIm h_o_byOrder h_o_noted1 h_o_counts h_o_binBy o_tapeSize o_thrown o_fault o_faultPlace o_stop o_next o_kind o_which o_at o_pointsRead o_bank o_isImage o_undos o_runRadix o_runOrder o_runNear o_runLimit o_runHalves o_power o_notedMany o_knownTold o_drawn o_all o_roots o_told o_toldWave) → va_S A s.heap H locs → lv_has ls 2 [(0, .ref h_o)] → W p l e ({ frames := 2, cells := 0, slots := 0, locals := 43 } : Room) s m ([.ref h_o] : List Value).toArray below meth c H locs 0 0 Q (F0 m 62 ls []) := by
    intro o_bank o_isImage o_undos o_runRadix o_runOrder o_runNear o_runLimit o_runHalves o_power o_notedMany o_knownTold o_all o_roots o_told o_toldWave H locs ls hf hP hD hS hl
    unfold fX10_keepText_62 at hf
    refine lv_aload_n hx hb dX10_keepText_62 rfl (lv_at hl 0 rfl) ?_
    refine lv_iconst (v := (0 : Int32)) hx hb dX10_keepText_63 (by decide) ?_
    refine wr (ci := 10) (C := RX10) (T := TX10) (N := 37) hx hb hts inX10 tyX10 tyX10_ok nmX10 hown hK hP hD hS 0 17 rfl rfl (by decide) (hts _ q_fX10_112) rfl rfl rfl (Nat.le_of_ble_eq_true rfl) dX10_keepText_64 (ws2 := (wX10_keepText cI cJ cZ h_o h_o_all h_o_roots h_o_told h_o_toldWave h_o_tape h_o_words h_o_isTold h_o_isPoint h_o_quarter h_o_laidRe h_o_laidIm h_o_byOrder h_o_noted1 h_o_counts h_o_binBy o_tapeSize o_thrown o_fault o_faultPlace o_stop o_next o_kind o_which o_at o_pointsRead (0 : Int32) o_isImage o_undos o_runRadix o_runOrder o_runNear o_runLimit o_runHalves o_power o_notedMany o_knownTold o_drawn o_all o_roots o_told o_toldWave)) rfl (fun H locs hP hD hS => ?_)
    refine lv_aload_n hx hb dX10_keepText_67 rfl (lv_at hl 0 rfl) ?_
    obtain ⟨o_runRadix_16, o_runOrder_17, o_runNear_18, o_runLimit_19, o_runHalves_20, e_21, hf⟩ := bd5_x hf
    refine call_v [] [] ⟨hx, hb, hml, hown, hts⟩ hK hP hD hS hA hl.1 (tX10_byText l G cI cJ cZ H.size h_o h_o_told h_o_tape h_o_words h_o_isTold h_o_toldWave h_o_isPoint h_o_all h_o_quarter h_o_roots h_o_laidRe h_o_laidIm h_o_byOrder h_o_noted1 h_o_counts h_o_binBy o_tapeSize o_thrown o_fault o_faultPlace o_stop o_next o_kind o_which o_at o_pointsRead (0 : Int32) o_isImage o_undos o_runRadix o_runOrder o_runNear o_runLimit o_runHalves o_power o_notedMany o_knownTold o_drawn o_told o_runRadix_16 o_runOrder_17 o_runNear_18 o_runLimit_19 o_runHalves_20 e_21) (cwV 0 hts (gv q_mX10_115 q_i_yX10_byText q_s_yX10_byText q_n_RX10 q_k_yX10_byText) rfl rfl rfl (by decide +kernel) ⟨by decide, by decide⟩) rfl rfl (Nat.le_of_ble_eq_true rfl) dX10_keepText_68 ⟨Nat.zero_le _, Nat.zero_le _⟩ (ci := 10) rfl 0 rfl [0, 3] [1, 2, 4] [3, 0, 1, 4, 2] rfl rfl (ws2 := (wX10_keepText cI cJ cZ h_o h_o_all h_o_roots h_o_told h_o_toldWave h_o_tape h_o_words h_o_isTold h_o_isPoint h_o_quarter h_o_laidRe h_o_laidIm h_o_byOrder h_o_noted1 h_o_counts h_o_binBy o_tapeSize o_thrown o_fault o_faultPlace o_stop o_next o_kind o_which o_at o_pointsRead (0 : Int32) o_isImage o_undos o_runRadix_16 o_runOrder_17 o_runNear_18 o_runLimit_19 o_runHalves_20 o_power o_notedMany o_knownTold o_drawn o_all o_roots o_told o_toldWave)) rfl (fun H locs hP hD hS => ?_)
    refine W.eq (g2 := F0 m 71 ls []) rfl ?_
    refine lv_iconst (v := (0 : Int32)) hx hb dX10_keepText_71 (by decide) ?_
    refine lv_istore_n (lv' := [(1, .int (0 : Int32)), (0, .ref h_o)]) hx hb dX10_keepText_72 rfl hl (by decide) rfl (fun ls hl => ?_)
    exact j73 FU (0 : Int32) o_isImage o_undos o_runRadix_16 o_runOrder_17 o_runNear_18 o_runLimit_19 o_runHalves_20 o_power o_notedMany o_knownTold o_all o_roots o_told o_toldWave (0 : Int32) H locs ls hf hP hD hS (lv_sub hl [1, 0] rfl)
  have j35 : ∀ (n : Nat) (o_bank : Int32) (o_isImage : Int32) (o_undos : Int32) (o_runRadix : Int32) (o_runOrder : Int32) (o_runNear : Int32) (o_runLimit : Int32) (o_runHalves : Int32) (o_power : Int32) (o_notedMany : Int32) (o_knownTold : Int32) (o_all : Nat → Int32) (o_roots : Nat → Int32) (o_told : Nat → Int32) (o_toldWave : Nat → Int32) (v1 : Int32) (H : Heap) (locs : List Loc) (ls : Array Slot), fX10_keepText_35 n o_bank o_isImage o_undos o_runRadix o_runOrder o_runNear o_runLimit o_runHalves o_power o_notedMany o_knownTold o_all o_roots o_told o_toldWave v1 = some (out_o_bank, out_o_isImage, out_o_undos, out_o_runRadix, out_o_runOrder, out_o_runNear, out_o_runLimit, out_o_runHalves, out_o_power, out_o_notedMany, out_o_knownTold, out_o_all, out_o_roots, out_o_told, out_o_toldWave) → va_P G vwCl (wX10_keepText cI cJ cZ h_o h_o_all h_o_roots h_o_told h_o_toldWave h_o_tape h_o_words h_o_isTold h_o_isPoint h_o_quarter h_o_laidRe h_o_laidIm h_o_byOrder h_o_noted1 h_o_counts h_o_binBy o_tapeSize o_thrown o_fault o_faultPlace o_stop o_next o_kind o_which o_at o_pointsRead o_bank o_isImage o_undos o_runRadix o_runOrder o_runNear o_runLimit o_runHalves o_power o_notedMany o_knownTold o_drawn o_all o_roots o_told o_toldWave) H → va_D A (wX10_keepText cI cJ cZ h_o h_o_all h_o_roots h_o_told h_o_toldWave h_o_tape h_o_words h_o_isTold h_o_isPoint h_o_quarter h_o_laidRe h_o_laidIm h_o_byOrder h_o_noted1 h_o_counts h_o_binBy o_tapeSize o_thrown o_fault o_faultPlace o_stop o_next o_kind o_which o_at o_pointsRead o_bank o_isImage o_undos o_runRadix o_runOrder o_runNear o_runLimit o_runHalves o_power o_notedMany o_knownTold o_drawn o_all o_roots o_told o_toldWave) → va_S A s.heap H locs → lv_has ls 2 [(0, .ref h_o), (1, .int v1)] → W p l e ({ frames := 2, cells := 0, slots := 0, locals := 43 } : Room) s m ([.ref h_o] : List Value).toArray below meth c H locs 0 0 Q (F0 m 35 ls []) := by
    intro n
    induction n with
    | zero =>
      intro o_bank o_isImage o_undos o_runRadix o_runOrder o_runNear o_runLimit o_runHalves o_power o_notedMany o_knownTold o_all o_roots o_told o_toldWave v1 H locs ls hf
      have hf : (none : Option (Int32 × Int32 × Int32 × Int32 × Int32 × Int32 × Int32 × Int32 × Int32 × Int32 × Int32 × (Nat → Int32) × (Nat → Int32) × (Nat → Int32) × (Nat → Int32))) = some (out_o_bank, out_o_isImage, out_o_undos, out_o_runRadix, out_o_runOrder, out_o_runNear, out_o_runLimit, out_o_runHalves, out_o_power, out_o_notedMany, out_o_knownTold, out_o_all, out_o_roots, out_o_told, out_o_toldWave) := hf
      cases hf
    | succ n ih =>
      intro o_bank o_isImage o_undos o_runRadix o_runOrder o_runNear o_runLimit o_runHalves o_power o_notedMany o_knownTold o_all o_roots o_told o_toldWave v1 H locs ls hf hP hD hS hl
      rw [fX10_keepText_35.eq_2] at hf
      refine lv_iload_n hx hb dX10_keepText_35 rfl (lv_at hl 1 rfl) ?_
      refine lv_bipush (v := (64 : Int32)) hx hb dX10_keepText_36 (by decide) ?_
      refine lv_icmp_ge (tgt := 62) hx hb dX10_keepText_38 (by decide) (fun c_10 => ?_) (fun c_10 => ?_)
      · have hf := it_t c_10 hf
        exact j62 o_bank o_isImage o_undos o_runRadix o_runOrder o_runNear o_runLimit o_runHalves o_power o_notedMany o_knownTold o_all o_roots o_told o_toldWave H locs ls hf hP hD hS (lv_sub hl [0] rfl)
      · have hf := it_f c_10 hf
        refine lv_aload_n hx hb dX10_keepText_41 rfl (lv_at hl 0 rfl) ?_
        refine rd (ci := 10) (C := RX10) (T := TX10) (N := 37) hx hb hts inX10 hown hK hP 0 13 rfl rfl (by decide) (hts _ q_fX10_27) rfl dX10_keepText_42 ?_
        refine lv_iload_n hx hb dX10_keepText_45 rfl (lv_at hl 1 rfl) ?_
        refine lv_aload_n hx hb dX10_keepText_46 rfl (lv_at hl 0 rfl) ?_
        refine rd (ci := 10) (C := RX10) (T := TX10) (N := 37) hx hb hts inX10 hown hK hP 0 13 rfl rfl (by decide) (hts _ q_fX10_27) rfl dX10_keepText_47 ?_
        refine lv_bipush (v := (64 : Int32)) hx hb dX10_keepText_50 (by decide) ?_
        refine lv_iload_n hx hb dX10_keepText_52 rfl (lv_at hl 1 rfl) ?_
        refine lv_iadd hx hb dX10_keepText_53 ?_
        refine lv_topi (fun i_11 ei_11 => ?_)
        have hf := nm_x ei_11 hf
        obtain ⟨g_12, hf⟩ := gd_x hf
        refine va_iald hx hb hK hP 4 0 rfl rfl (inb_x g_12) dX10_keepText_54 ?_
        obtain ⟨g_13, hf⟩ := gd_x hf
        obtain ⟨o_toldWave_14, eo_toldWave_14⟩ : ∃ y : Nat → Int32, y = upd o_toldWave (Int32.toNatClampNeg v1) (o_toldWave (Int32.toNatClampNeg i_11)) := ⟨_, rfl⟩
        have hf := nm_x eo_toldWave_14 hf
        refine ist hx hb hK hP hD hS 4 0 rfl rfl (inb_x g_13) dX10_keepText_55 eo_toldWave_14 (ws2 := (wX10_keepText cI cJ cZ h_o h_o_all h_o_roots h_o_told h_o_toldWave h_o_tape h_o_words h_o_isTold h_o_isPoint h_o_quarter h_o_laidRe h_o_laidIm h_o_byOrder h_o_noted1 h_o_counts h_o_binBy o_tapeSize o_thrown o_fault o_faultPlace o_stop o_next o_kind o_which o_at o_pointsRead o_bank o_isImage o_undos o_runRadix o_runOrder o_runNear o_runLimit o_runHalves o_power o_notedMany o_knownTold o_drawn o_all o_roots o_told o_toldWave_14)) rfl (fun H locs hP hD hS => ?_)
        obtain ⟨v1_15, ev1_15⟩ : ∃ y : Int32, y = v1 + (1 : Int32) := ⟨_, rfl⟩
        have hf := nm_x ev1_15 hf
        refine lv_iinc (v := v1_15) (lv' := [(1, .int v1_15), (0, .ref h_o)]) hx hb dX10_keepText_56 hl (k := 1) rfl (by rw [ev1_15]; rfl) (by decide) rfl (fun ls hl => ?_)
        refine lv_goto (tgt := 35) hx hb dX10_keepText_59 (by decide) ?_
        exact ih o_bank o_isImage o_undos o_runRadix o_runOrder o_runNear o_runLimit o_runHalves o_power o_notedMany o_knownTold o_all o_roots o_told o_toldWave_14 v1_15 H locs ls hf hP hD hS (lv_sub hl [1, 0] rfl)
  have j29 : ∀ (o_bank : Int32) (o_isImage : Int32) (o_undos : Int32) (o_runRadix : Int32) (o_runOrder : Int32) (o_runNear : Int32) (o_runLimit : Int32) (o_runHalves : Int32) (o_power : Int32) (o_notedMany : Int32) (o_knownTold : Int32) (o_all : Nat → Int32) (o_roots : Nat → Int32) (o_told : Nat → Int32) (o_toldWave : Nat → Int32) (H : Heap) (locs : List Loc) (ls : Array Slot), fX10_keepText_29 o_bank o_isImage o_undos o_runRadix o_runOrder o_runNear o_runLimit o_runHalves o_power o_notedMany o_knownTold o_all o_roots o_told o_toldWave = some (out_o_bank, out_o_isImage, out_o_undos, out_o_runRadix, out_o_runOrder, out_o_runNear, out_o_runLimit, out_o_runHalves, out_o_power, out_o_notedMany, out_o_knownTold, out_o_all, out_o_roots, out_o_told, out_o_toldWave) → va_P G vwCl (wX10_keepText cI cJ cZ h_o h_o_all h_o_roots h_o_told h_o_toldWave h_o_tape h_o_words h_o_isTold h_o_isPoint h_o_quarter h_o_laidRe h_o_laidIm h_o_byOrder h_o_noted1 h_o_counts h_o_binBy o_tapeSize o_thrown o_fault o_faultPlace o_stop o_next o_kind o_which o_at o_pointsRead o_bank o_isImage o_undos o_runRadix o_runOrder o_runNear o_runLimit o_runHalves o_power o_notedMany o_knownTold o_drawn o_all o_roots o_told o_toldWave) H → va_D A (wX10_keepText cI cJ cZ h_o h_o_all h_o_roots h_o_told h_o_toldWave h_o_tape h_o_words h_o_isTold h_o_isPoint h_o_quarter h_o_laidRe h_o_laidIm h_o_byOrder h_o_noted1 h_o_counts h_o_binBy o_tapeSize o_thrown o_fault o_faultPlace o_stop o_next o_kind o_which o_at o_pointsRead o_bank o_isImage o_undos o_runRadix o_runOrder o_runNear o_runLimit o_runHalves o_power o_notedMany o_knownTold o_drawn o_all o_roots o_told o_toldWave) → va_S A s.heap H locs → lv_has ls 2 [(0, .ref h_o)] → W p l e ({ frames := 2, cells := 0, slots := 0, locals := 43 } : Room) s m ([.ref h_o] : List Value).toArray below meth c H locs 0 0 Q (F0 m 29 ls []) := by
    intro o_bank o_isImage o_undos o_runRadix o_runOrder o_runNear o_runLimit o_runHalves o_power o_notedMany o_knownTold o_all o_roots o_told o_toldWave H locs ls hf hP hD hS hl
    unfold fX10_keepText_29 at hf
    refine lv_aload_n hx hb dX10_keepText_29 rfl (lv_at hl 0 rfl) ?_
    obtain ⟨o_power_7, o_roots_8, e_9, hf⟩ := bd2_x hf
    refine call_v [] [] ⟨hx, hb, hml, hown, hts⟩ hK hP hD hS hA hl.1 (tX10_bySize l G cI cJ cZ H.size h_o h_o_roots h_o_told h_o_tape h_o_words h_o_isTold h_o_toldWave h_o_isPoint h_o_all h_o_quarter h_o_laidRe h_o_laidIm h_o_byOrder h_o_noted1 h_o_counts h_o_binBy o_tapeSize o_thrown o_fault o_faultPlace o_stop o_next o_kind o_which o_at o_pointsRead o_bank o_isImage o_undos o_runRadix o_runOrder o_runNear o_runLimit o_runHalves o_power o_notedMany o_knownTold o_drawn o_roots o_told o_power_7 o_roots_8 e_9) (cwV 0 hts (gv q_mX10_109 q_i_yX10_bySize q_s_yX10_bySize q_n_RX10 q_k_yX10_bySize) rfl rfl rfl (by decide +kernel) ⟨by decide, by decide⟩) rfl rfl (Nat.le_of_ble_eq_true rfl) dX10_keepText_30 ⟨Nat.zero_le _, Nat.zero_le _⟩ (ci := 10) rfl 0 rfl [0, 2, 3] [1, 4] [2, 0, 3, 4, 1] rfl rfl (ws2 := (wX10_keepText cI cJ cZ h_o h_o_all h_o_roots h_o_told h_o_toldWave h_o_tape h_o_words h_o_isTold h_o_isPoint h_o_quarter h_o_laidRe h_o_laidIm h_o_byOrder h_o_noted1 h_o_counts h_o_binBy o_tapeSize o_thrown o_fault o_faultPlace o_stop o_next o_kind o_which o_at o_pointsRead o_bank o_isImage o_undos o_runRadix o_runOrder o_runNear o_runLimit o_runHalves o_power_7 o_notedMany o_knownTold o_drawn o_all o_roots_8 o_told o_toldWave)) rfl (fun H locs hP hD hS => ?_)
    refine W.eq (g2 := F0 m 33 ls []) rfl ?_
    refine lv_iconst (v := (0 : Int32)) hx hb dX10_keepText_33 (by decide) ?_
    refine lv_istore_n (lv' := [(1, .int (0 : Int32)), (0, .ref h_o)]) hx hb dX10_keepText_34 rfl hl (by decide) rfl (fun ls hl => ?_)
    exact j35 FU o_bank o_isImage o_undos o_runRadix o_runOrder o_runNear o_runLimit o_runHalves o_power_7 o_notedMany o_knownTold o_all o_roots_8 o_told o_toldWave (0 : Int32) H locs ls hf hP hD hS (lv_sub hl [1, 0] rfl)
  have j2 : ∀ (n : Nat) (o_bank : Int32) (o_isImage : Int32) (o_undos : Int32) (o_runRadix : Int32) (o_runOrder : Int32) (o_runNear : Int32) (o_runLimit : Int32) (o_runHalves : Int32) (o_power : Int32) (o_notedMany : Int32) (o_knownTold : Int32) (o_all : Nat → Int32) (o_roots : Nat → Int32) (o_told : Nat → Int32) (o_toldWave : Nat → Int32) (v1 : Int32) (H : Heap) (locs : List Loc) (ls : Array Slot), fX10_keepText_2 n o_bank o_isImage o_undos o_runRadix o_runOrder o_runNear o_runLimit o_runHalves o_power o_notedMany o_knownTold o_all o_roots o_told o_toldWave v1 = some (out_o_bank, out_o_isImage, out_o_undos, out_o_runRadix, out_o_runOrder, out_o_runNear, out_o_runLimit, out_o_runHalves, out_o_power, out_o_notedMany, out_o_knownTold, out_o_all, out_o_roots, out_o_told, out_o_toldWave) → va_P G vwCl (wX10_keepText cI cJ cZ h_o h_o_all h_o_roots h_o_told h_o_toldWave h_o_tape h_o_words h_o_isTold h_o_isPoint h_o_quarter h_o_laidRe h_o_laidIm h_o_byOrder h_o_noted1 h_o_counts h_o_binBy o_tapeSize o_thrown o_fault o_faultPlace o_stop o_next o_kind o_which o_at o_pointsRead o_bank o_isImage o_undos o_runRadix o_runOrder o_runNear o_runLimit o_runHalves o_power o_notedMany o_knownTold o_drawn o_all o_roots o_told o_toldWave) H → va_D A (wX10_keepText cI cJ cZ h_o h_o_all h_o_roots h_o_told h_o_toldWave h_o_tape h_o_words h_o_isTold h_o_isPoint h_o_quarter h_o_laidRe h_o_laidIm h_o_byOrder h_o_noted1 h_o_counts h_o_binBy o_tapeSize o_thrown o_fault o_faultPlace o_stop o_next o_kind o_which o_at o_pointsRead o_bank o_isImage o_undos o_runRadix o_runOrder o_runNear o_runLimit o_runHalves o_power o_notedMany o_knownTold o_drawn o_all o_roots o_told o_toldWave) → va_S A s.heap H locs → lv_has ls 2 [(0, .ref h_o), (1, .int v1)] → W p l e ({ frames := 2, cells := 0, slots := 0, locals := 43 } : Room) s m ([.ref h_o] : List Value).toArray below meth c H locs 0 0 Q (F0 m 2 ls []) := by
    intro n
    induction n with
    | zero =>
      intro o_bank o_isImage o_undos o_runRadix o_runOrder o_runNear o_runLimit o_runHalves o_power o_notedMany o_knownTold o_all o_roots o_told o_toldWave v1 H locs ls hf
      have hf : (none : Option (Int32 × Int32 × Int32 × Int32 × Int32 × Int32 × Int32 × Int32 × Int32 × Int32 × Int32 × (Nat → Int32) × (Nat → Int32) × (Nat → Int32) × (Nat → Int32))) = some (out_o_bank, out_o_isImage, out_o_undos, out_o_runRadix, out_o_runOrder, out_o_runNear, out_o_runLimit, out_o_runHalves, out_o_power, out_o_notedMany, out_o_knownTold, out_o_all, out_o_roots, out_o_told, out_o_toldWave) := hf
      cases hf
    | succ n ih =>
      intro o_bank o_isImage o_undos o_runRadix o_runOrder o_runNear o_runLimit o_runHalves o_power o_notedMany o_knownTold o_all o_roots o_told o_toldWave v1 H locs ls hf hP hD hS hl
      rw [fX10_keepText_2.eq_2] at hf
      refine lv_iload_n hx hb dX10_keepText_2 rfl (lv_at hl 1 rfl) ?_
      refine lv_bipush (v := (6 : Int32)) hx hb dX10_keepText_3 (by decide) ?_
      refine lv_icmp_ge (tgt := 29) hx hb dX10_keepText_5 (by decide) (fun c_1 => ?_) (fun c_1 => ?_)
      · have hf := it_t c_1 hf
        exact j29 o_bank o_isImage o_undos o_runRadix o_runOrder o_runNear o_runLimit o_runHalves o_power o_notedMany o_knownTold o_all o_roots o_told o_toldWave H locs ls hf hP hD hS (lv_sub hl [0] rfl)
      · have hf := it_f c_1 hf
        refine lv_aload_n hx hb dX10_keepText_8 rfl (lv_at hl 0 rfl) ?_
        refine rd (ci := 10) (C := RX10) (T := TX10) (N := 37) hx hb hts inX10 hown hK hP 0 11 rfl rfl (by decide) (hts _ q_fX10_20) rfl dX10_keepText_9 ?_
        refine lv_iload_n hx hb dX10_keepText_12 rfl (lv_at hl 1 rfl) ?_
        refine lv_aload_n hx hb dX10_keepText_13 rfl (lv_at hl 0 rfl) ?_
        refine rd (ci := 10) (C := RX10) (T := TX10) (N := 37) hx hb hts inX10 hown hK hP 0 11 rfl rfl (by decide) (hts _ q_fX10_20) rfl dX10_keepText_14 ?_
        refine lv_bipush (v := (6 : Int32)) hx hb dX10_keepText_17 (by decide) ?_
        refine lv_iload_n hx hb dX10_keepText_19 rfl (lv_at hl 1 rfl) ?_
        refine lv_iadd hx hb dX10_keepText_20 ?_
        refine lv_topi (fun i_2 ei_2 => ?_)
        have hf := nm_x ei_2 hf
        obtain ⟨g_3, hf⟩ := gd_x hf
        refine va_iald hx hb hK hP 3 0 rfl rfl (inb_x g_3) dX10_keepText_21 ?_
        obtain ⟨g_4, hf⟩ := gd_x hf
        obtain ⟨o_told_5, eo_told_5⟩ : ∃ y : Nat → Int32, y = upd o_told (Int32.toNatClampNeg v1) (o_told (Int32.toNatClampNeg i_2)) := ⟨_, rfl⟩
        have hf := nm_x eo_told_5 hf
        refine ist hx hb hK hP hD hS 3 0 rfl rfl (inb_x g_4) dX10_keepText_22 eo_told_5 (ws2 := (wX10_keepText cI cJ cZ h_o h_o_all h_o_roots h_o_told h_o_toldWave h_o_tape h_o_words h_o_isTold h_o_isPoint h_o_quarter h_o_laidRe h_o_laidIm h_o_byOrder h_o_noted1 h_o_counts h_o_binBy o_tapeSize o_thrown o_fault o_faultPlace o_stop o_next o_kind o_which o_at o_pointsRead o_bank o_isImage o_undos o_runRadix o_runOrder o_runNear o_runLimit o_runHalves o_power o_notedMany o_knownTold o_drawn o_all o_roots o_told_5 o_toldWave)) rfl (fun H locs hP hD hS => ?_)
        obtain ⟨v1_6, ev1_6⟩ : ∃ y : Int32, y = v1 + (1 : Int32) := ⟨_, rfl⟩
        have hf := nm_x ev1_6 hf
        refine lv_iinc (v := v1_6) (lv' := [(1, .int v1_6), (0, .ref h_o)]) hx hb dX10_keepText_23 hl (k := 1) rfl (by rw [ev1_6]; rfl) (by decide) rfl (fun ls hl => ?_)
        refine lv_goto (tgt := 2) hx hb dX10_keepText_26 (by decide) ?_
        exact ih o_bank o_isImage o_undos o_runRadix o_runOrder o_runNear o_runLimit o_runHalves o_power o_notedMany o_knownTold o_all o_roots o_told_5 o_toldWave v1_6 H locs ls hf hP hD hS (lv_sub hl [1, 0] rfl)
  unfold fX10_keepText at hf
  obtain ⟨H, eH⟩ : ∃ H, H = s.heap := ⟨_, rfl⟩
  obtain ⟨locs, elocs⟩ : ∃ z : List Loc, z = [] := ⟨_, rfl⟩
  have hP : va_P G vwCl (wX10_keepText cI cJ cZ h_o h_o_all h_o_roots h_o_told h_o_toldWave h_o_tape h_o_words h_o_isTold h_o_isPoint h_o_quarter h_o_laidRe h_o_laidIm h_o_byOrder h_o_noted1 h_o_counts h_o_binBy o_tapeSize o_thrown o_fault o_faultPlace o_stop o_next o_kind o_which o_at o_pointsRead o_bank o_isImage o_undos o_runRadix o_runOrder o_runNear o_runLimit o_runHalves o_power o_notedMany o_knownTold o_drawn o_all o_roots o_told o_toldWave) H := by rw [eH]; exact hP
  have hS : va_S A s.heap H locs := by rw [eH, elocs]; exact hS
  suffices hgo : W p l e ({ frames := 2, cells := 0, slots := 0, locals := 43 } : Room) s m ([.ref h_o] : List Value).toArray below meth c H locs 0 0 Q (F0 m 0 ls []) by rw [eH, elocs] at hgo; exact hgo
  clear eH elocs
  refine lv_iconst (v := (0 : Int32)) hx hb dX10_keepText_0 (by decide) ?_
  refine lv_istore_n (lv' := [(1, .int (0 : Int32)), (0, .ref h_o)]) hx hb dX10_keepText_1 rfl hl (by decide) rfl (fun ls hl => ?_)
  exact j2 FU o_bank o_isImage o_undos o_runRadix o_runOrder o_runNear o_runLimit o_runHalves o_power o_notedMany o_knownTold o_all o_roots o_told o_toldWave (0 : Int32) H locs ls hf hP hD hS (lv_sub hl [1, 0] rfl)
def wX10_isPower (cI cJ cZ : ClassId) (h_o h_o_tape h_o_words h_o_told h_o_isTold h_o_toldWave h_o_isPoint h_o_all h_o_quarter h_o_roots h_o_laidRe h_o_laidIm h_o_byOrder h_o_noted1 h_o_counts h_o_binBy : Nat) (o_tapeSize : Int32) (o_thrown : Int32) (o_fault : Int32) (o_faultPlace : Int32) (o_stop : Int32) (o_next : Int32) (o_kind : Int32) (o_which : Int32) (o_at : Int32) (o_pointsRead : Int32) (o_bank : Int32) (o_isImage : Int32) (o_undos : Int32) (o_runRadix : Int32) (o_runOrder : Int32) (o_runNear : Int32) (o_runLimit : Int32) (o_runHalves : Int32) (o_power : Int32) (o_notedMany : Int32) (o_knownTold : Int32) (o_drawn : Int64) : va_W := [(h_o, .inr (10, [.ref h_o_tape, .int o_tapeSize, .int o_thrown, .ref h_o_words, .int o_fault, .int o_faultPlace, .int o_stop, .int o_next, .int o_kind, .int o_which, .int o_at, .ref h_o_told, .ref h_o_isTold, .ref h_o_toldWave, .ref h_o_isPoint, .int o_pointsRead, .ref h_o_all, .int o_bank, .int o_isImage, .int o_undos, .int o_runRadix, .int o_runOrder, .int o_runNear, .int o_runLimit, .int o_runHalves, .ref h_o_quarter, .int o_power, .ref h_o_roots, .ref h_o_laidRe, .ref h_o_laidIm, .ref h_o_byOrder, .int o_notedMany, .int o_knownTold, .ref h_o_noted1, .ref h_o_counts, .ref h_o_binBy, .long o_drawn]))]
def fX10_isPower (p1 : Int32) : Option (Int32) :=
  if p1 = (2 : Int32) then (
    some (1 : Int32)
  ) else (
    if p1 = (4 : Int32) then (
      some (1 : Int32)
    ) else (
      if p1 = (8 : Int32) then (
        some (1 : Int32)
      ) else (
        if p1 = (16 : Int32) then (
          some (1 : Int32)
        ) else (
          if p1 = (32 : Int32) then (
            some (1 : Int32)
          ) else (
            some (0 : Int32)
          )
        )
      )
    )
  )
set_option maxHeartbeats 4000000 in
set_option maxRecDepth 100000 in
theorem tX10_isPower (l : Launch) (G : va_G) (cI cJ cZ : ClassId) (sz : Nat) (h_o h_o_tape h_o_words h_o_told h_o_isTold h_o_toldWave h_o_isPoint h_o_all h_o_quarter h_o_roots h_o_laidRe h_o_laidIm h_o_byOrder h_o_noted1 h_o_counts h_o_binBy : Nat) (o_tapeSize : Int32) (o_thrown : Int32) (o_fault : Int32) (o_faultPlace : Int32) (o_stop : Int32) (o_next : Int32) (o_kind : Int32) (o_which : Int32) (o_at : Int32) (o_pointsRead : Int32) (o_bank : Int32) (o_isImage : Int32) (o_undos : Int32) (o_runRadix : Int32) (o_runOrder : Int32) (o_runNear : Int32) (o_runLimit : Int32) (o_runHalves : Int32) (o_power : Int32) (o_notedMany : Int32) (o_knownTold : Int32) (o_drawn : Int64) (p1 : Int32) (r : Int32) (hf : fX10_isPower p1 = some r) : Met l yX10_isPower (Cond.code yX10_isPower cX10_isPower 2 (some .boolean) :: BIG) ({ frames := 0, cells := 0, slots := 0, locals := 0 } : Room) (cP G (TY3 cI cJ cZ) [.ref h_o, .int p1] sz (wX10_isPower cI cJ cZ h_o h_o_tape h_o_words h_o_told h_o_isTold h_o_toldWave h_o_isPoint h_o_all h_o_quarter h_o_roots h_o_laidRe h_o_laidIm h_o_byOrder h_o_noted1 h_o_counts h_o_binBy o_tapeSize o_thrown o_fault o_faultPlace o_stop o_next o_kind o_which o_at o_pointsRead o_bank o_isImage o_undos o_runRadix o_runOrder o_runNear o_runLimit o_runHalves o_power o_notedMany o_knownTold o_drawn)) (cQ G (TY3 cI cJ cZ) sz (wX10_isPower cI cJ cZ h_o h_o_tape h_o_words h_o_told h_o_isTold h_o_toldWave h_o_isPoint h_o_all h_o_quarter h_o_roots h_o_laidRe h_o_laidIm h_o_byOrder h_o_noted1 h_o_counts h_o_binBy o_tapeSize o_thrown o_fault o_faultPlace o_stop o_next o_kind o_which o_at o_pointsRead o_bank o_isImage o_undos o_runRadix o_runOrder o_runNear o_runLimit o_runHalves o_power o_notedMany o_knownTold o_drawn) (wX10_isPower cI cJ cZ h_o h_o_tape h_o_words h_o_told h_o_isTold h_o_toldWave h_o_isPoint h_o_all h_o_quarter h_o_roots h_o_laidRe h_o_laidIm h_o_byOrder h_o_noted1 h_o_counts h_o_binBy o_tapeSize o_thrown o_fault o_faultPlace o_stop o_next o_kind o_which o_at o_pointsRead o_bank o_isImage o_undos o_runRadix o_runOrder o_runNear o_runLimit o_runHalves o_power o_notedMany o_knownTold o_drawn) (some (.int r))) 0 0 (va_A (wX10_isPower cI cJ cZ h_o h_o_tape h_o_words h_o_told h_o_isTold h_o_toldWave h_o_isPoint h_o_all h_o_quarter h_o_roots h_o_laidRe h_o_laidIm h_o_byOrder h_o_noted1 h_o_counts h_o_binBy o_tapeSize o_thrown o_fault o_faultPlace o_stop o_next o_kind o_which o_at o_pointsRead o_bank o_isImage o_undos o_runRadix o_runOrder o_runNear o_runLimit o_runHalves o_power o_notedMany o_knownTold o_drawn) sz) := by
  refine met_z (cc := cX10_isPower) (maxL := 2) (plainFor_of_name (by decide)) (Nat.le_of_ble_eq_true rfl) (fun p e s m below meth c A ls Q hx hb hml hts hown hK hP hD hS hA hl hret => ?_)
  have hown : s.vm.findClass RX10 = some m.cls := hown
  have hl : lv_has ls 2 [(0, .ref h_o), (1, .int p1)] := hl
  unfold fX10_isPower at hf
  obtain ⟨H, eH⟩ : ∃ H, H = s.heap := ⟨_, rfl⟩
  obtain ⟨locs, elocs⟩ : ∃ z : List Loc, z = [] := ⟨_, rfl⟩
  have hP : va_P G vwCl (wX10_isPower cI cJ cZ h_o h_o_tape h_o_words h_o_told h_o_isTold h_o_toldWave h_o_isPoint h_o_all h_o_quarter h_o_roots h_o_laidRe h_o_laidIm h_o_byOrder h_o_noted1 h_o_counts h_o_binBy o_tapeSize o_thrown o_fault o_faultPlace o_stop o_next o_kind o_which o_at o_pointsRead o_bank o_isImage o_undos o_runRadix o_runOrder o_runNear o_runLimit o_runHalves o_power o_notedMany o_knownTold o_drawn) H := by rw [eH]; exact hP
  have hS : va_S A s.heap H locs := by rw [eH, elocs]; exact hS
  suffices hgo : W p l e ({ frames := 0, cells := 0, slots := 0, locals := 0 } : Room) s m ([.ref h_o, .int p1] : List Value).toArray below meth c H locs 0 0 Q (F0 m 0 ls []) by rw [eH, elocs] at hgo; exact hgo
  clear eH elocs
  refine lv_iload_n hx hb dX10_isPower_0 rfl (lv_at hl 1 rfl) ?_
  refine lv_iconst (v := (2 : Int32)) hx hb dX10_isPower_1 (by decide) ?_
  refine lv_icmp_eq (tgt := 28) hx hb dX10_isPower_2 (by decide) (fun c_1 => ?_) (fun c_1 => ?_)
  · have hf := it_t c_1 hf
    refine lv_iconst (v := (1 : Int32)) hx hb dX10_isPower_28 (by decide) ?_
    refine lv_goto (tgt := 33) hx hb dX10_isPower_29 (by decide) ?_
    cases hf
    exact hret _ _ _ _ dX10_isPower_33 rfl hP hD hS
  · have hf := it_f c_1 hf
    refine lv_iload_n hx hb dX10_isPower_5 rfl (lv_at hl 1 rfl) ?_
    refine lv_iconst (v := (4 : Int32)) hx hb dX10_isPower_6 (by decide) ?_
    refine lv_icmp_eq (tgt := 28) hx hb dX10_isPower_7 (by decide) (fun c_2 => ?_) (fun c_2 => ?_)
    · have hf := it_t c_2 hf
      refine lv_iconst (v := (1 : Int32)) hx hb dX10_isPower_28 (by decide) ?_
      refine lv_goto (tgt := 33) hx hb dX10_isPower_29 (by decide) ?_
      cases hf
      exact hret _ _ _ _ dX10_isPower_33 rfl hP hD hS
    · have hf := it_f c_2 hf
      refine lv_iload_n hx hb dX10_isPower_10 rfl (lv_at hl 1 rfl) ?_
      refine lv_bipush (v := (8 : Int32)) hx hb dX10_isPower_11 (by decide) ?_
      refine lv_icmp_eq (tgt := 28) hx hb dX10_isPower_13 (by decide) (fun c_3 => ?_) (fun c_3 => ?_)
      · have hf := it_t c_3 hf
        refine lv_iconst (v := (1 : Int32)) hx hb dX10_isPower_28 (by decide) ?_
        refine lv_goto (tgt := 33) hx hb dX10_isPower_29 (by decide) ?_
        cases hf
        exact hret _ _ _ _ dX10_isPower_33 rfl hP hD hS
      · have hf := it_f c_3 hf
        refine lv_iload_n hx hb dX10_isPower_16 rfl (lv_at hl 1 rfl) ?_
        refine lv_bipush (v := (16 : Int32)) hx hb dX10_isPower_17 (by decide) ?_
        refine lv_icmp_eq (tgt := 28) hx hb dX10_isPower_19 (by decide) (fun c_4 => ?_) (fun c_4 => ?_)
        · have hf := it_t c_4 hf
          refine lv_iconst (v := (1 : Int32)) hx hb dX10_isPower_28 (by decide) ?_
          refine lv_goto (tgt := 33) hx hb dX10_isPower_29 (by decide) ?_
          cases hf
          exact hret _ _ _ _ dX10_isPower_33 rfl hP hD hS
        · have hf := it_f c_4 hf
          refine lv_iload_n hx hb dX10_isPower_22 rfl (lv_at hl 1 rfl) ?_
          refine lv_bipush (v := (32 : Int32)) hx hb dX10_isPower_23 (by decide) ?_
          refine lv_icmp_ne (tgt := 32) hx hb dX10_isPower_25 (by decide) (fun c_5 => ?_) (fun c_5 => ?_)
          · have hf := it_f c_5 hf
            refine lv_iconst (v := (0 : Int32)) hx hb dX10_isPower_32 (by decide) ?_
            cases hf
            exact hret _ _ _ _ dX10_isPower_33 rfl hP hD hS
          · have hf := it_t c_5 hf
            refine lv_iconst (v := (1 : Int32)) hx hb dX10_isPower_28 (by decide) ?_
            refine lv_goto (tgt := 33) hx hb dX10_isPower_29 (by decide) ?_
            cases hf
            exact hret _ _ _ _ dX10_isPower_33 rfl hP hD hS
def wX10_isRight (cI cJ cZ : ClassId) (h_o h_o_tape h_o_words h_o_told h_o_isTold h_o_toldWave h_o_isPoint h_o_all h_o_quarter h_o_roots h_o_laidRe h_o_laidIm h_o_byOrder h_o_noted1 h_o_counts h_o_binBy : Nat) (o_tapeSize : Int32) (o_thrown : Int32) (o_fault : Int32) (o_faultPlace : Int32) (o_stop : Int32) (o_next : Int32) (o_kind : Int32) (o_which : Int32) (o_at : Int32) (o_pointsRead : Int32) (o_bank : Int32) (o_isImage : Int32) (o_undos : Int32) (o_runRadix : Int32) (o_runOrder : Int32) (o_runNear : Int32) (o_runLimit : Int32) (o_runHalves : Int32) (o_power : Int32) (o_notedMany : Int32) (o_knownTold : Int32) (o_drawn : Int64) : va_W := [(h_o, .inr (10, [.ref h_o_tape, .int o_tapeSize, .int o_thrown, .ref h_o_words, .int o_fault, .int o_faultPlace, .int o_stop, .int o_next, .int o_kind, .int o_which, .int o_at, .ref h_o_told, .ref h_o_isTold, .ref h_o_toldWave, .ref h_o_isPoint, .int o_pointsRead, .ref h_o_all, .int o_bank, .int o_isImage, .int o_undos, .int o_runRadix, .int o_runOrder, .int o_runNear, .int o_runLimit, .int o_runHalves, .ref h_o_quarter, .int o_power, .ref h_o_roots, .ref h_o_laidRe, .ref h_o_laidIm, .ref h_o_byOrder, .int o_notedMany, .int o_knownTold, .ref h_o_noted1, .ref h_o_counts, .ref h_o_binBy, .long o_drawn]))]
def fX10_isRight (p1 : Int32) (p2 : Int32) : Option (Int32) :=
  if p1 = (0 : Int32) then (
    bd1 (fX10_isPower p2) (fun r_2 =>
    gd (bl r_2) (
    some r_2))
  ) else (
  if p1 = (1 : Int32) then (
    bd1 (fX10_isIn p2 (8 : Int32) (16 : Int32)) (fun r_6 =>
    gd (bl r_6) (
    some r_6))
  ) else (
  if p1 = (2 : Int32) then (
    if p2 = (2 : Int32) then (
      some (1 : Int32)
    ) else (
      if p2 = (4 : Int32) then (
        some (1 : Int32)
      ) else (
        some (0 : Int32)
      )
    )
  ) else (
  if p1 = (3 : Int32) then (
    if (1 : Int32) < p2 then (
      some (0 : Int32)
    ) else (
      some (1 : Int32)
    )
  ) else (
  if p1 = (4 : Int32) then (
    if (1 : Int32) < p2 then (
      some (0 : Int32)
    ) else (
      some (1 : Int32)
    )
  ) else (
  if p1 = (5 : Int32) then (
    if (99999 : Int32) < p2 then (
      some (0 : Int32)
    ) else (
      some (1 : Int32)
    )
  ) else (
  if (1 : Int32) < p2 then (
    some (0 : Int32)
  ) else (
    some (1 : Int32)
  )))))))
set_option maxHeartbeats 4000000 in
set_option maxRecDepth 100000 in
theorem tX10_isRight (l : Launch) (G : va_G) (cI cJ cZ : ClassId) (sz : Nat) (h_o h_o_tape h_o_words h_o_told h_o_isTold h_o_toldWave h_o_isPoint h_o_all h_o_quarter h_o_roots h_o_laidRe h_o_laidIm h_o_byOrder h_o_noted1 h_o_counts h_o_binBy : Nat) (o_tapeSize : Int32) (o_thrown : Int32) (o_fault : Int32) (o_faultPlace : Int32) (o_stop : Int32) (o_next : Int32) (o_kind : Int32) (o_which : Int32) (o_at : Int32) (o_pointsRead : Int32) (o_bank : Int32) (o_isImage : Int32) (o_undos : Int32) (o_runRadix : Int32) (o_runOrder : Int32) (o_runNear : Int32) (o_runLimit : Int32) (o_runHalves : Int32) (o_power : Int32) (o_notedMany : Int32) (o_knownTold : Int32) (o_drawn : Int64) (p1 : Int32) (p2 : Int32) (r : Int32) (hf : fX10_isRight p1 p2 = some r) : Met l yX10_isRight (Cond.code yX10_isRight cX10_isRight 3 (some .boolean) :: BIG) ({ frames := 1, cells := 0, slots := 0, locals := 22 } : Room) (cP G (TY3 cI cJ cZ) [.ref h_o, .int p1, .int p2] sz (wX10_isRight cI cJ cZ h_o h_o_tape h_o_words h_o_told h_o_isTold h_o_toldWave h_o_isPoint h_o_all h_o_quarter h_o_roots h_o_laidRe h_o_laidIm h_o_byOrder h_o_noted1 h_o_counts h_o_binBy o_tapeSize o_thrown o_fault o_faultPlace o_stop o_next o_kind o_which o_at o_pointsRead o_bank o_isImage o_undos o_runRadix o_runOrder o_runNear o_runLimit o_runHalves o_power o_notedMany o_knownTold o_drawn)) (cQ G (TY3 cI cJ cZ) sz (wX10_isRight cI cJ cZ h_o h_o_tape h_o_words h_o_told h_o_isTold h_o_toldWave h_o_isPoint h_o_all h_o_quarter h_o_roots h_o_laidRe h_o_laidIm h_o_byOrder h_o_noted1 h_o_counts h_o_binBy o_tapeSize o_thrown o_fault o_faultPlace o_stop o_next o_kind o_which o_at o_pointsRead o_bank o_isImage o_undos o_runRadix o_runOrder o_runNear o_runLimit o_runHalves o_power o_notedMany o_knownTold o_drawn) (wX10_isRight cI cJ cZ h_o h_o_tape h_o_words h_o_told h_o_isTold h_o_toldWave h_o_isPoint h_o_all h_o_quarter h_o_roots h_o_laidRe h_o_laidIm h_o_byOrder h_o_noted1 h_o_counts h_o_binBy o_tapeSize o_thrown o_fault o_faultPlace o_stop o_next o_kind o_which o_at o_pointsRead o_bank o_isImage o_undos o_runRadix o_runOrder o_runNear o_runLimit o_runHalves o_power o_notedMany o_knownTold o_drawn) (some (.int r))) 0 0 (va_A (wX10_isRight cI cJ cZ h_o h_o_tape h_o_words h_o_told h_o_isTold h_o_toldWave h_o_isPoint h_o_all h_o_quarter h_o_roots h_o_laidRe h_o_laidIm h_o_byOrder h_o_noted1 h_o_counts h_o_binBy o_tapeSize o_thrown o_fault o_faultPlace o_stop o_next o_kind o_which o_at o_pointsRead o_bank o_isImage o_undos o_runRadix o_runOrder o_runNear o_runLimit o_runHalves o_power o_notedMany o_knownTold o_drawn) sz) := by
  refine met_z (cc := cX10_isRight) (maxL := 3) (plainFor_of_name (by decide)) (Nat.le_of_ble_eq_true rfl) (fun p e s m below meth c A ls Q hx hb hml hts hown hK hP hD hS hA hl hret => ?_)
  have hown : s.vm.findClass RX10 = some m.cls := hown
  have hl : lv_has ls 3 [(0, .ref h_o), (1, .int p1), (2, .int p2)] := hl
  unfold fX10_isRight at hf
  obtain ⟨H, eH⟩ : ∃ H, H = s.heap := ⟨_, rfl⟩
  obtain ⟨locs, elocs⟩ : ∃ z : List Loc, z = [] := ⟨_, rfl⟩
  have hP : va_P G vwCl (wX10_isRight cI cJ cZ h_o h_o_tape h_o_words h_o_told h_o_isTold h_o_toldWave h_o_isPoint h_o_all h_o_quarter h_o_roots h_o_laidRe h_o_laidIm h_o_byOrder h_o_noted1 h_o_counts h_o_binBy o_tapeSize o_thrown o_fault o_faultPlace o_stop o_next o_kind o_which o_at o_pointsRead o_bank o_isImage o_undos o_runRadix o_runOrder o_runNear o_runLimit o_runHalves o_power o_notedMany o_knownTold o_drawn) H := by rw [eH]; exact hP
  have hS : va_S A s.heap H locs := by rw [eH, elocs]; exact hS
  suffices hgo : W p l e ({ frames := 1, cells := 0, slots := 0, locals := 22 } : Room) s m ([.ref h_o, .int p1, .int p2] : List Value).toArray below meth c H locs 0 0 Q (F0 m 0 ls []) by rw [eH, elocs] at hgo; exact hgo
  clear eH elocs
  refine lv_iload_n hx hb dX10_isRight_0 rfl (lv_at hl 1 rfl) ?_
  by_cases c_1 : p1 = (0 : Int32)
  · have hf := it_t c_1 hf
    refine lv_tableIn (tgt := 40) hx hb dX10_isRight_1 (by rw [c_1]; decide) (by rw [c_1]; decide) (by rw [c_1]; rfl) (by decide) ?_
    refine lv_aload_n hx hb dX10_isRight_40 rfl (lv_at hl 0 rfl) ?_
    refine lv_iload_n hx hb dX10_isRight_41 rfl (lv_at hl 2 rfl) ?_
    obtain ⟨r_2, e_3, hf⟩ := bd1_x hf
    refine call_v [.int p2] [] ⟨hx, hb, hml, hown, hts⟩ hK hP hD hS hA hl.1 (tX10_isPower l G cI cJ cZ H.size h_o h_o_tape h_o_words h_o_told h_o_isTold h_o_toldWave h_o_isPoint h_o_all h_o_quarter h_o_roots h_o_laidRe h_o_laidIm h_o_byOrder h_o_noted1 h_o_counts h_o_binBy o_tapeSize o_thrown o_fault o_faultPlace o_stop o_next o_kind o_which o_at o_pointsRead o_bank o_isImage o_undos o_runRadix o_runOrder o_runNear o_runLimit o_runHalves o_power o_notedMany o_knownTold o_drawn p2 r_2 e_3) (cwV 1 hts (gv q_mX10_135 q_i_yX10_isPower q_s_yX10_isPower q_n_RX10 q_k_yX10_isPower) rfl rfl rfl (by decide +kernel) ⟨by decide, by decide⟩) rfl rfl (Nat.le_of_ble_eq_true rfl) dX10_isRight_42 ⟨Nat.zero_le _, Nat.zero_le _⟩ (ci := 10) rfl 0 rfl [0] [] [0] rfl rfl (ws2 := (wX10_isRight cI cJ cZ h_o h_o_tape h_o_words h_o_told h_o_isTold h_o_toldWave h_o_isPoint h_o_all h_o_quarter h_o_roots h_o_laidRe h_o_laidIm h_o_byOrder h_o_noted1 h_o_counts h_o_binBy o_tapeSize o_thrown o_fault o_faultPlace o_stop o_next o_kind o_which o_at o_pointsRead o_bank o_isImage o_undos o_runRadix o_runOrder o_runNear o_runLimit o_runHalves o_power o_notedMany o_knownTold o_drawn)) rfl (fun H locs hP hD hS => ?_)
    refine W.eq (g2 := F0 m 45 ls [.int r_2]) rfl ?_
    obtain ⟨g_4, hf⟩ := gd_x hf
    cases hf
    exact hret _ _ _ _ dX10_isRight_45 (bl_n g_4) hP hD hS
  have hf := it_f c_1 hf
  by_cases c_5 : p1 = (1 : Int32)
  · have hf := it_t c_5 hf
    refine lv_tableIn (tgt := 46) hx hb dX10_isRight_1 (by rw [c_5]; decide) (by rw [c_5]; decide) (by rw [c_5]; rfl) (by decide) ?_
    refine lv_iload_n hx hb dX10_isRight_46 rfl (lv_at hl 2 rfl) ?_
    refine lv_bipush (v := (8 : Int32)) hx hb dX10_isRight_47 (by decide) ?_
    refine lv_bipush (v := (16 : Int32)) hx hb dX10_isRight_49 (by decide) ?_
    obtain ⟨r_6, e_7, hf⟩ := bd1_x hf
    refine call_s [.int p2, .int (8 : Int32), .int (16 : Int32)] [] ⟨hx, hb, hml, hown, hts⟩ hK hP hD hS hA hl.1 (tX10_isIn l G cI cJ cZ H.size p2 (8 : Int32) (16 : Int32) r_6 e_7) (va_cwS 3 hts (gs q_mX10_138 q_s_yX10_isIn q_n_RX10 q_k_yX10_isIn) rfl rfl rfl (by decide +kernel) ⟨by decide, by decide⟩) rfl rfl (Nat.le_of_ble_eq_true rfl) dX10_isRight_51 ⟨Nat.zero_le _, Nat.zero_le _⟩ [] [0] [0] rfl rfl (ws2 := (wX10_isRight cI cJ cZ h_o h_o_tape h_o_words h_o_told h_o_isTold h_o_toldWave h_o_isPoint h_o_all h_o_quarter h_o_roots h_o_laidRe h_o_laidIm h_o_byOrder h_o_noted1 h_o_counts h_o_binBy o_tapeSize o_thrown o_fault o_faultPlace o_stop o_next o_kind o_which o_at o_pointsRead o_bank o_isImage o_undos o_runRadix o_runOrder o_runNear o_runLimit o_runHalves o_power o_notedMany o_knownTold o_drawn)) rfl (fun H locs hP hD hS => ?_)
    refine W.eq (g2 := F0 m 54 ls [.int r_6]) rfl ?_
    obtain ⟨g_8, hf⟩ := gd_x hf
    cases hf
    exact hret _ _ _ _ dX10_isRight_54 (bl_n g_8) hP hD hS
  have hf := it_f c_5 hf
  by_cases c_9 : p1 = (2 : Int32)
  · have hf := it_t c_9 hf
    refine lv_tableIn (tgt := 55) hx hb dX10_isRight_1 (by rw [c_9]; decide) (by rw [c_9]; decide) (by rw [c_9]; rfl) (by decide) ?_
    refine lv_iload_n hx hb dX10_isRight_55 rfl (lv_at hl 2 rfl) ?_
    refine lv_iconst (v := (2 : Int32)) hx hb dX10_isRight_56 (by decide) ?_
    refine lv_icmp_eq (tgt := 65) hx hb dX10_isRight_57 (by decide) (fun c_10 => ?_) (fun c_10 => ?_)
    · have hf := it_t c_10 hf
      refine lv_iconst (v := (1 : Int32)) hx hb dX10_isRight_65 (by decide) ?_
      refine lv_goto (tgt := 70) hx hb dX10_isRight_66 (by decide) ?_
      cases hf
      exact hret _ _ _ _ dX10_isRight_70 rfl hP hD hS
    · have hf := it_f c_10 hf
      refine lv_iload_n hx hb dX10_isRight_60 rfl (lv_at hl 2 rfl) ?_
      refine lv_iconst (v := (4 : Int32)) hx hb dX10_isRight_61 (by decide) ?_
      refine lv_icmp_ne (tgt := 69) hx hb dX10_isRight_62 (by decide) (fun c_11 => ?_) (fun c_11 => ?_)
      · have hf := it_f c_11 hf
        refine lv_iconst (v := (0 : Int32)) hx hb dX10_isRight_69 (by decide) ?_
        cases hf
        exact hret _ _ _ _ dX10_isRight_70 rfl hP hD hS
      · have hf := it_t c_11 hf
        refine lv_iconst (v := (1 : Int32)) hx hb dX10_isRight_65 (by decide) ?_
        refine lv_goto (tgt := 70) hx hb dX10_isRight_66 (by decide) ?_
        cases hf
        exact hret _ _ _ _ dX10_isRight_70 rfl hP hD hS
  have hf := it_f c_9 hf
  by_cases c_12 : p1 = (3 : Int32)
  · have hf := it_t c_12 hf
    refine lv_tableIn (tgt := 83) hx hb dX10_isRight_1 (by rw [c_12]; decide) (by rw [c_12]; decide) (by rw [c_12]; rfl) (by decide) ?_
    refine lv_iload_n hx hb dX10_isRight_83 rfl (lv_at hl 2 rfl) ?_
    refine lv_iconst (v := (1 : Int32)) hx hb dX10_isRight_84 (by decide) ?_
    refine lv_icmp_gt (tgt := 92) hx hb dX10_isRight_85 (by decide) (fun c_13 => ?_) (fun c_13 => ?_)
    · have hf := it_t c_13 hf
      refine lv_iconst (v := (0 : Int32)) hx hb dX10_isRight_92 (by decide) ?_
      cases hf
      exact hret _ _ _ _ dX10_isRight_93 rfl hP hD hS
    · have hf := it_f c_13 hf
      refine lv_iconst (v := (1 : Int32)) hx hb dX10_isRight_88 (by decide) ?_
      refine lv_goto (tgt := 93) hx hb dX10_isRight_89 (by decide) ?_
      cases hf
      exact hret _ _ _ _ dX10_isRight_93 rfl hP hD hS
  have hf := it_f c_12 hf
  by_cases c_14 : p1 = (4 : Int32)
  · have hf := it_t c_14 hf
    refine lv_tableIn (tgt := 83) hx hb dX10_isRight_1 (by rw [c_14]; decide) (by rw [c_14]; decide) (by rw [c_14]; rfl) (by decide) ?_
    refine lv_iload_n hx hb dX10_isRight_83 rfl (lv_at hl 2 rfl) ?_
    refine lv_iconst (v := (1 : Int32)) hx hb dX10_isRight_84 (by decide) ?_
    refine lv_icmp_gt (tgt := 92) hx hb dX10_isRight_85 (by decide) (fun c_15 => ?_) (fun c_15 => ?_)
    · have hf := it_t c_15 hf
      refine lv_iconst (v := (0 : Int32)) hx hb dX10_isRight_92 (by decide) ?_
      cases hf
      exact hret _ _ _ _ dX10_isRight_93 rfl hP hD hS
    · have hf := it_f c_15 hf
      refine lv_iconst (v := (1 : Int32)) hx hb dX10_isRight_88 (by decide) ?_
      refine lv_goto (tgt := 93) hx hb dX10_isRight_89 (by decide) ?_
      cases hf
      exact hret _ _ _ _ dX10_isRight_93 rfl hP hD hS
  have hf := it_f c_14 hf
  by_cases c_16 : p1 = (5 : Int32)
  · have hf := it_t c_16 hf
    refine lv_tableIn (tgt := 71) hx hb dX10_isRight_1 (by rw [c_16]; decide) (by rw [c_16]; decide) (by rw [c_16]; rfl) (by decide) ?_
    refine lv_iload_n hx hb dX10_isRight_71 rfl (lv_at hl 2 rfl) ?_
    refine lv_ldc (v := (99999 : Int32)) hx hb hown (hts _ q_cX10_105) dX10_isRight_72 ?_
    refine lv_icmp_gt (tgt := 81) hx hb dX10_isRight_74 (by decide) (fun c_17 => ?_) (fun c_17 => ?_)
    · have hf := it_t c_17 hf
      refine lv_iconst (v := (0 : Int32)) hx hb dX10_isRight_81 (by decide) ?_
      cases hf
      exact hret _ _ _ _ dX10_isRight_82 rfl hP hD hS
    · have hf := it_f c_17 hf
      refine lv_iconst (v := (1 : Int32)) hx hb dX10_isRight_77 (by decide) ?_
      refine lv_goto (tgt := 82) hx hb dX10_isRight_78 (by decide) ?_
      cases hf
      exact hret _ _ _ _ dX10_isRight_82 rfl hP hD hS
  have hf := it_f c_16 hf
  refine lv_tableOut (tgt := 83) hx hb dX10_isRight_1 (by have q0 := lv_neT (a := 0) c_1 rfl; have q1 := lv_neT (a := 1) c_5 rfl; have q2 := lv_neT (a := 2) c_9 rfl; have q3 := lv_neT (a := 3) c_12 rfl; have q4 := lv_neT (a := 4) c_14 rfl; have q5 := lv_neT (a := 5) c_16 rfl; omega) (by decide) ?_
  refine lv_iload_n hx hb dX10_isRight_83 rfl (lv_at hl 2 rfl) ?_
  refine lv_iconst (v := (1 : Int32)) hx hb dX10_isRight_84 (by decide) ?_
  refine lv_icmp_gt (tgt := 92) hx hb dX10_isRight_85 (by decide) (fun c_18 => ?_) (fun c_18 => ?_)
  · have hf := it_t c_18 hf
    refine lv_iconst (v := (0 : Int32)) hx hb dX10_isRight_92 (by decide) ?_
    cases hf
    exact hret _ _ _ _ dX10_isRight_93 rfl hP hD hS
  · have hf := it_f c_18 hf
    refine lv_iconst (v := (1 : Int32)) hx hb dX10_isRight_88 (by decide) ?_
    refine lv_goto (tgt := 93) hx hb dX10_isRight_89 (by decide) ?_
    cases hf
    exact hret _ _ _ _ dX10_isRight_93 rfl hP hD hS
def wX10_wordLine (cI cJ cZ : ClassId) (h_o h_o_isTold h_o_tape h_o_told h_o_words h_o_toldWave h_o_isPoint h_o_all h_o_quarter h_o_roots h_o_laidRe h_o_laidIm h_o_byOrder h_o_noted1 h_o_counts h_o_binBy : Nat) (o_tapeSize : Int32) (o_thrown : Int32) (o_fault : Int32) (o_faultPlace : Int32) (o_stop : Int32) (o_next : Int32) (o_kind : Int32) (o_which : Int32) (o_at : Int32) (o_pointsRead : Int32) (o_bank : Int32) (o_isImage : Int32) (o_undos : Int32) (o_runRadix : Int32) (o_runOrder : Int32) (o_runNear : Int32) (o_runLimit : Int32) (o_runHalves : Int32) (o_power : Int32) (o_notedMany : Int32) (o_knownTold : Int32) (o_drawn : Int64) (o_isTold : Nat → Int32) (o_tape : Nat → Int32) (o_told : Nat → Int32) (o_words : Nat → Int32) : va_W := [(h_o, .inr (10, [.ref h_o_tape, .int o_tapeSize, .int o_thrown, .ref h_o_words, .int o_fault, .int o_faultPlace, .int o_stop, .int o_next, .int o_kind, .int o_which, .int o_at, .ref h_o_told, .ref h_o_isTold, .ref h_o_toldWave, .ref h_o_isPoint, .int o_pointsRead, .ref h_o_all, .int o_bank, .int o_isImage, .int o_undos, .int o_runRadix, .int o_runOrder, .int o_runNear, .int o_runLimit, .int o_runHalves, .ref h_o_quarter, .int o_power, .ref h_o_roots, .ref h_o_laidRe, .ref h_o_laidIm, .ref h_o_byOrder, .int o_notedMany, .int o_knownTold, .ref h_o_noted1, .ref h_o_counts, .ref h_o_binBy, .long o_drawn])), (h_o_isTold, .inl (cZ, 6, .inl o_isTold)), (h_o_tape, .inl (cI, 700, .inl o_tape)), (h_o_told, .inl (cI, 12, .inl o_told)), (h_o_words, .inl (cI, 52, .inl o_words))]
def fX10_wordLine_23 (o_stop : Int32) (o_tape : Nat → Int32) (o_words : Nat → Int32) (o_fault : Int32) (o_faultPlace : Int32) (o_next : Int32) (o_kind : Int32) (o_which : Int32) (o_at : Int32) (o_isTold : Nat → Int32) (o_told : Nat → Int32) (v1 : Int32) : Option (Int32 × Int32 × Int32 × Int32 × Int32 × Int32 × Int32 × (Nat → Int32) × (Nat → Int32)) :=
  gd (inb v1 6) (
  if (o_isTold (Int32.toNatClampNeg v1)) = 0 then (
    gd (inb v1 6) (
    nm (upd o_isTold (Int32.toNatClampNeg v1) (vp_nar .boolean (1 : Int32))) (fun o_isTold_11 =>
    bd4 (fX10_token o_stop o_next o_kind o_which o_at o_tape o_words) (fun o_next_12 o_kind_13 o_which_14 o_at_15 =>
    if o_kind_13 = (2 : Int32) then (
      bd1 (fX10_isRight v1 o_which_14) (fun r_18 =>
      if r_18 = 0 then (
        bd3 (fX10_wrong o_fault o_faultPlace o_at_15 (2 : Int32)) (fun r_28 o_fault_29 o_faultPlace_30 =>
        gd (bl r_28) (
        some (r_28, o_fault_29, o_faultPlace_30, o_next_12, o_kind_13, o_which_14, o_at_15, o_isTold_11, o_told)))
      ) else (
        gd (inb ((6 : Int32) + v1) 12) (
        nm (upd o_told (Int32.toNatClampNeg ((6 : Int32) + v1)) o_which_14) (fun o_told_22 =>
        bd4 (fX10_token o_stop o_next_12 o_kind_13 o_which_14 o_at_15 o_tape o_words) (fun o_next_23 o_kind_24 o_which_25 o_at_26 =>
        some ((1 : Int32), o_fault, o_faultPlace, o_next_23, o_kind_24, o_which_25, o_at_26, o_isTold_11, o_told_22))))
      ))
    ) else (
      bd3 (fX10_wrong o_fault o_faultPlace o_at_15 (1 : Int32)) (fun r_33 o_fault_34 o_faultPlace_35 =>
      gd (bl r_33) (
      some (r_33, o_fault_34, o_faultPlace_35, o_next_12, o_kind_13, o_which_14, o_at_15, o_isTold_11, o_told)))
    ))))
  ) else (
    bd3 (fX10_wrong o_fault o_faultPlace o_at (3 : Int32)) (fun r_38 o_fault_39 o_faultPlace_40 =>
    gd (bl r_38) (
    some (r_38, o_fault_39, o_faultPlace_40, o_next, o_kind, o_which, o_at, o_isTold, o_told)))
  ))
def fX10_wordLine (o_fault : Int32) (o_faultPlace : Int32) (o_stop : Int32) (o_next : Int32) (o_kind : Int32) (o_which : Int32) (o_at : Int32) (o_pointsRead : Int32) (o_isTold : Nat → Int32) (o_tape : Nat → Int32) (o_told : Nat → Int32) (o_words : Nat → Int32) : Option (Int32 × Int32 × Int32 × Int32 × Int32 × Int32 × Int32 × (Nat → Int32) × (Nat → Int32)) :=
  if (1 : Int32) < o_which then (
    fX10_wordLine_23 o_stop o_tape o_words o_fault o_faultPlace o_next o_kind o_which o_at o_isTold o_told o_which
  ) else (
    if o_pointsRead ≤ 0 then (
      fX10_wordLine_23 o_stop o_tape o_words o_fault o_faultPlace o_next o_kind o_which o_at o_isTold o_told o_which
    ) else (
      bd3 (fX10_wrong o_fault o_faultPlace o_at (1 : Int32)) (fun r_3 o_fault_4 o_faultPlace_5 =>
      gd (bl r_3) (
      some (r_3, o_fault_4, o_faultPlace_5, o_next, o_kind, o_which, o_at, o_isTold, o_told)))
    )
  )
set_option maxHeartbeats 4000000 in
set_option maxRecDepth 100000 in
theorem tX10_wordLine (l : Launch) (G : va_G) (cI cJ cZ : ClassId) (sz : Nat) (h_o h_o_isTold h_o_tape h_o_told h_o_words h_o_toldWave h_o_isPoint h_o_all h_o_quarter h_o_roots h_o_laidRe h_o_laidIm h_o_byOrder h_o_noted1 h_o_counts h_o_binBy : Nat) (o_tapeSize : Int32) (o_thrown : Int32) (o_fault : Int32) (o_faultPlace : Int32) (o_stop : Int32) (o_next : Int32) (o_kind : Int32) (o_which : Int32) (o_at : Int32) (o_pointsRead : Int32) (o_bank : Int32) (o_isImage : Int32) (o_undos : Int32) (o_runRadix : Int32) (o_runOrder : Int32) (o_runNear : Int32) (o_runLimit : Int32) (o_runHalves : Int32) (o_power : Int32) (o_notedMany : Int32) (o_knownTold : Int32) (o_drawn : Int64) (o_isTold : Nat → Int32) (o_tape : Nat → Int32) (o_told : Nat → Int32) (o_words : Nat → Int32) (r : Int32) (out_o_fault : Int32) (out_o_faultPlace : Int32) (out_o_next : Int32) (out_o_kind : Int32) (out_o_which : Int32) (out_o_at : Int32) (out_o_isTold : Nat → Int32) (out_o_told : Nat → Int32) (hf : fX10_wordLine o_fault o_faultPlace o_stop o_next o_kind o_which o_at o_pointsRead o_isTold o_tape o_told o_words = some (r, out_o_fault, out_o_faultPlace, out_o_next, out_o_kind, out_o_which, out_o_at, out_o_isTold, out_o_told)) : Met l yX10_wordLine (Cond.code yX10_wordLine cX10_wordLine 2 (some .boolean) :: BIG) ({ frames := 2, cells := 0, slots := 0, locals := 47 } : Room) (cP G (TY3 cI cJ cZ) [.ref h_o] sz (wX10_wordLine cI cJ cZ h_o h_o_isTold h_o_tape h_o_told h_o_words h_o_toldWave h_o_isPoint h_o_all h_o_quarter h_o_roots h_o_laidRe h_o_laidIm h_o_byOrder h_o_noted1 h_o_counts h_o_binBy o_tapeSize o_thrown o_fault o_faultPlace o_stop o_next o_kind o_which o_at o_pointsRead o_bank o_isImage o_undos o_runRadix o_runOrder o_runNear o_runLimit o_runHalves o_power o_notedMany o_knownTold o_drawn o_isTold o_tape o_told o_words)) (cQ G (TY3 cI cJ cZ) sz (wX10_wordLine cI cJ cZ h_o h_o_isTold h_o_tape h_o_told h_o_words h_o_toldWave h_o_isPoint h_o_all h_o_quarter h_o_roots h_o_laidRe h_o_laidIm h_o_byOrder h_o_noted1 h_o_counts h_o_binBy o_tapeSize o_thrown o_fault o_faultPlace o_stop o_next o_kind o_which o_at o_pointsRead o_bank o_isImage o_undos o_runRadix o_runOrder o_runNear o_runLimit o_runHalves o_power o_notedMany o_knownTold o_drawn o_isTold o_tape o_told o_words) (wX10_wordLine cI cJ cZ h_o h_o_isTold h_o_tape h_o_told h_o_words h_o_toldWave h_o_isPoint h_o_all h_o_quarter h_o_roots h_o_laidRe h_o_laidIm h_o_byOrder h_o_noted1 h_o_counts h_o_binBy o_tapeSize o_thrown out_o_fault out_o_faultPlace o_stop out_o_next out_o_kind out_o_which out_o_at o_pointsRead o_bank o_isImage o_undos o_runRadix o_runOrder o_runNear o_runLimit o_runHalves o_power o_notedMany o_knownTold o_drawn out_o_isTold o_tape out_o_told o_words) (some (.int r))) 0 0 (va_A (wX10_wordLine cI cJ cZ h_o h_o_isTold h_o_tape h_o_told h_o_words h_o_toldWave h_o_isPoint h_o_all h_o_quarter h_o_roots h_o_laidRe h_o_laidIm h_o_byOrder h_o_noted1 h_o_counts h_o_binBy o_tapeSize o_thrown o_fault o_faultPlace o_stop o_next o_kind o_which o_at o_pointsRead o_bank o_isImage o_undos o_runRadix o_runOrder o_runNear o_runLimit o_runHalves o_power o_notedMany o_knownTold o_drawn o_isTold o_tape o_told o_words) sz) := by
  refine met_z (cc := cX10_wordLine) (maxL := 2) (plainFor_of_name (by decide)) (Nat.le_of_ble_eq_true rfl) (fun p e s m below meth c A ls Q hx hb hml hts hown hK hP hD hS hA hl hret => ?_)
  have hown : s.vm.findClass RX10 = some m.cls := hown
  have hl : lv_has ls 2 [(0, .ref h_o)] := hl
  have j23 : ∀ (o_fault : Int32) (o_faultPlace : Int32) (o_next : Int32) (o_kind : Int32) (o_which : Int32) (o_at : Int32) (o_isTold : Nat → Int32) (o_told : Nat → Int32) (v1 : Int32) (H : Heap) (locs : List Loc) (ls : Array Slot), fX10_wordLine_23 o_stop o_tape o_words o_fault o_faultPlace o_next o_kind o_which o_at o_isTold o_told v1 = some (r, out_o_fault, out_o_faultPlace, out_o_next, out_o_kind, out_o_which, out_o_at, out_o_isTold, out_o_told) → va_P G vwCl (wX10_wordLine cI cJ cZ h_o h_o_isTold h_o_tape h_o_told h_o_words h_o_toldWave h_o_isPoint h_o_all h_o_quarter h_o_roots h_o_laidRe h_o_laidIm h_o_byOrder h_o_noted1 h_o_counts h_o_binBy o_tapeSize o_thrown o_fault o_faultPlace o_stop o_next o_kind o_which o_at o_pointsRead o_bank o_isImage o_undos o_runRadix o_runOrder o_runNear o_runLimit o_runHalves o_power o_notedMany o_knownTold o_drawn o_isTold o_tape o_told o_words) H → va_D A (wX10_wordLine cI cJ cZ h_o h_o_isTold h_o_tape h_o_told h_o_words h_o_toldWave h_o_isPoint h_o_all h_o_quarter h_o_roots h_o_laidRe h_o_laidIm h_o_byOrder h_o_noted1 h_o_counts h_o_binBy o_tapeSize o_thrown o_fault o_faultPlace o_stop o_next o_kind o_which o_at o_pointsRead o_bank o_isImage o_undos o_runRadix o_runOrder o_runNear o_runLimit o_runHalves o_power o_notedMany o_knownTold o_drawn o_isTold o_tape o_told o_words) → va_S A s.heap H locs → lv_has ls 2 [(0, .ref h_o), (1, .int v1)] → W p l e ({ frames := 2, cells := 0, slots := 0, locals := 47 } : Room) s m ([.ref h_o] : List Value).toArray below meth c H locs 0 0 Q (F0 m 23 ls []) := by
    intro o_fault o_faultPlace o_next o_kind o_which o_at o_isTold o_told v1 H locs ls hf hP hD hS hl
    unfold fX10_wordLine_23 at hf
    refine lv_aload_n hx hb dX10_wordLine_23 rfl (lv_at hl 0 rfl) ?_
    refine rd (ci := 10) (C := RX10) (T := TX10) (N := 37) hx hb hts inX10 hown hK hP 0 12 rfl rfl (by decide) (hts _ q_fX10_23) rfl dX10_wordLine_24 ?_
    refine lv_iload_n hx hb dX10_wordLine_27 rfl (lv_at hl 1 rfl) ?_
    obtain ⟨g_8, hf⟩ := gd_x hf
    refine va_zald hx hb hK hP 1 2 rfl rfl (inb_x g_8) dX10_wordLine_28 ?_
    refine lv_if_eq (tgt := 38) hx hb dX10_wordLine_29 (by decide) (fun c_9 => ?_) (fun c_9 => ?_)
    · have hf := it_t c_9 hf
      refine lv_aload_n hx hb dX10_wordLine_38 rfl (lv_at hl 0 rfl) ?_
      refine rd (ci := 10) (C := RX10) (T := TX10) (N := 37) hx hb hts inX10 hown hK hP 0 12 rfl rfl (by decide) (hts _ q_fX10_23) rfl dX10_wordLine_39 ?_
      refine lv_iload_n hx hb dX10_wordLine_42 rfl (lv_at hl 1 rfl) ?_
      refine lv_iconst (v := (1 : Int32)) hx hb dX10_wordLine_43 (by decide) ?_
      obtain ⟨g_10, hf⟩ := gd_x hf
      obtain ⟨o_isTold_11, eo_isTold_11⟩ : ∃ y : Nat → Int32, y = upd o_isTold (Int32.toNatClampNeg v1) (vp_nar .boolean (1 : Int32)) := ⟨_, rfl⟩
      have hf := nm_x eo_isTold_11 hf
      refine zst hx hb hK hP hD hS 1 2 rfl rfl (inb_x g_10) dX10_wordLine_44 eo_isTold_11 (ws2 := (wX10_wordLine cI cJ cZ h_o h_o_isTold h_o_tape h_o_told h_o_words h_o_toldWave h_o_isPoint h_o_all h_o_quarter h_o_roots h_o_laidRe h_o_laidIm h_o_byOrder h_o_noted1 h_o_counts h_o_binBy o_tapeSize o_thrown o_fault o_faultPlace o_stop o_next o_kind o_which o_at o_pointsRead o_bank o_isImage o_undos o_runRadix o_runOrder o_runNear o_runLimit o_runHalves o_power o_notedMany o_knownTold o_drawn o_isTold_11 o_tape o_told o_words)) rfl (fun H locs hP hD hS => ?_)
      refine lv_aload_n hx hb dX10_wordLine_45 rfl (lv_at hl 0 rfl) ?_
      obtain ⟨o_next_12, o_kind_13, o_which_14, o_at_15, e_16, hf⟩ := bd4_x hf
      refine call_v [] [] ⟨hx, hb, hml, hown, hts⟩ hK hP hD hS hA hl.1 (tX10_token l G cI cJ cZ H.size h_o h_o_tape h_o_words h_o_told h_o_isTold h_o_toldWave h_o_isPoint h_o_all h_o_quarter h_o_roots h_o_laidRe h_o_laidIm h_o_byOrder h_o_noted1 h_o_counts h_o_binBy o_tapeSize o_thrown o_fault o_faultPlace o_stop o_next o_kind o_which o_at o_pointsRead o_bank o_isImage o_undos o_runRadix o_runOrder o_runNear o_runLimit o_runHalves o_power o_notedMany o_knownTold o_drawn o_tape o_words o_next_12 o_kind_13 o_which_14 o_at_15 e_16) (cwV 0 hts (gv q_mX10_145 q_i_yX10_token q_s_yX10_token q_n_RX10 q_k_yX10_token) rfl rfl rfl (by decide +kernel) ⟨by decide, by decide⟩) rfl rfl (Nat.le_of_ble_eq_true rfl) dX10_wordLine_46 ⟨Nat.zero_le _, Nat.zero_le _⟩ (ci := 10) rfl 0 rfl [0, 2, 4] [1, 3] [2, 0, 3, 1, 4] rfl rfl (ws2 := (wX10_wordLine cI cJ cZ h_o h_o_isTold h_o_tape h_o_told h_o_words h_o_toldWave h_o_isPoint h_o_all h_o_quarter h_o_roots h_o_laidRe h_o_laidIm h_o_byOrder h_o_noted1 h_o_counts h_o_binBy o_tapeSize o_thrown o_fault o_faultPlace o_stop o_next_12 o_kind_13 o_which_14 o_at_15 o_pointsRead o_bank o_isImage o_undos o_runRadix o_runOrder o_runNear o_runLimit o_runHalves o_power o_notedMany o_knownTold o_drawn o_isTold_11 o_tape o_told o_words)) rfl (fun H locs hP hD hS => ?_)
      refine W.eq (g2 := F0 m 49 ls []) rfl ?_
      refine lv_aload_n hx hb dX10_wordLine_49 rfl (lv_at hl 0 rfl) ?_
      refine rd (ci := 10) (C := RX10) (T := TX10) (N := 37) hx hb hts inX10 hown hK hP 0 8 rfl rfl (by decide) (hts _ q_fX10_88) rfl dX10_wordLine_50 ?_
      refine lv_iconst (v := (2 : Int32)) hx hb dX10_wordLine_53 (by decide) ?_
      refine lv_icmp_eq (tgt := 63) hx hb dX10_wordLine_54 (by decide) (fun c_17 => ?_) (fun c_17 => ?_)
      · have hf := it_t c_17 hf
        refine lv_aload_n hx hb dX10_wordLine_63 rfl (lv_at hl 0 rfl) ?_
        refine lv_iload_n hx hb dX10_wordLine_64 rfl (lv_at hl 1 rfl) ?_
        refine lv_aload_n hx hb dX10_wordLine_65 rfl (lv_at hl 0 rfl) ?_
        refine rd (ci := 10) (C := RX10) (T := TX10) (N := 37) hx hb hts inX10 hown hK hP 0 9 rfl rfl (by decide) (hts _ q_fX10_99) rfl dX10_wordLine_66 ?_
        obtain ⟨r_18, e_19, hf⟩ := bd1_x hf
        refine call_v [.int v1, .int o_which_14] [] ⟨hx, hb, hml, hown, hts⟩ hK hP hD hS hA hl.1 (tX10_isRight l G cI cJ cZ H.size h_o h_o_tape h_o_words h_o_told h_o_isTold h_o_toldWave h_o_isPoint h_o_all h_o_quarter h_o_roots h_o_laidRe h_o_laidIm h_o_byOrder h_o_noted1 h_o_counts h_o_binBy o_tapeSize o_thrown o_fault o_faultPlace o_stop o_next_12 o_kind_13 o_which_14 o_at_15 o_pointsRead o_bank o_isImage o_undos o_runRadix o_runOrder o_runNear o_runLimit o_runHalves o_power o_notedMany o_knownTold o_drawn v1 o_which_14 r_18 e_19) (cwV 2 hts (gv q_mX10_148 q_i_yX10_isRight q_s_yX10_isRight q_n_RX10 q_k_yX10_isRight) rfl rfl rfl (by decide +kernel) ⟨by decide, by decide⟩) rfl rfl (Nat.le_of_ble_eq_true rfl) dX10_wordLine_69 ⟨Nat.zero_le _, Nat.zero_le _⟩ (ci := 10) rfl 0 rfl [0] [1, 2, 3, 4] [4, 0, 1, 2, 3] rfl rfl (ws2 := (wX10_wordLine cI cJ cZ h_o h_o_isTold h_o_tape h_o_told h_o_words h_o_toldWave h_o_isPoint h_o_all h_o_quarter h_o_roots h_o_laidRe h_o_laidIm h_o_byOrder h_o_noted1 h_o_counts h_o_binBy o_tapeSize o_thrown o_fault o_faultPlace o_stop o_next_12 o_kind_13 o_which_14 o_at_15 o_pointsRead o_bank o_isImage o_undos o_runRadix o_runOrder o_runNear o_runLimit o_runHalves o_power o_notedMany o_knownTold o_drawn o_isTold_11 o_tape o_told o_words)) rfl (fun H locs hP hD hS => ?_)
        refine W.eq (g2 := F0 m 72 ls [.int r_18]) rfl ?_
        refine lv_if_ne (tgt := 81) hx hb dX10_wordLine_72 (by decide) (fun c_20 => ?_) (fun c_20 => ?_)
        · have hf := it_f c_20 hf
          refine lv_aload_n hx hb dX10_wordLine_81 rfl (lv_at hl 0 rfl) ?_
          refine rd (ci := 10) (C := RX10) (T := TX10) (N := 37) hx hb hts inX10 hown hK hP 0 11 rfl rfl (by decide) (hts _ q_fX10_20) rfl dX10_wordLine_82 ?_
          refine lv_bipush (v := (6 : Int32)) hx hb dX10_wordLine_85 (by decide) ?_
          refine lv_iload_n hx hb dX10_wordLine_87 rfl (lv_at hl 1 rfl) ?_
          refine lv_iadd hx hb dX10_wordLine_88 ?_
          refine lv_aload_n hx hb dX10_wordLine_89 rfl (lv_at hl 0 rfl) ?_
          refine rd (ci := 10) (C := RX10) (T := TX10) (N := 37) hx hb hts inX10 hown hK hP 0 9 rfl rfl (by decide) (hts _ q_fX10_99) rfl dX10_wordLine_90 ?_
          obtain ⟨g_21, hf⟩ := gd_x hf
          obtain ⟨o_told_22, eo_told_22⟩ : ∃ y : Nat → Int32, y = upd o_told (Int32.toNatClampNeg ((6 : Int32) + v1)) o_which_14 := ⟨_, rfl⟩
          have hf := nm_x eo_told_22 hf
          refine ist hx hb hK hP hD hS 3 0 rfl rfl (inb_x g_21) dX10_wordLine_93 eo_told_22 (ws2 := (wX10_wordLine cI cJ cZ h_o h_o_isTold h_o_tape h_o_told h_o_words h_o_toldWave h_o_isPoint h_o_all h_o_quarter h_o_roots h_o_laidRe h_o_laidIm h_o_byOrder h_o_noted1 h_o_counts h_o_binBy o_tapeSize o_thrown o_fault o_faultPlace o_stop o_next_12 o_kind_13 o_which_14 o_at_15 o_pointsRead o_bank o_isImage o_undos o_runRadix o_runOrder o_runNear o_runLimit o_runHalves o_power o_notedMany o_knownTold o_drawn o_isTold_11 o_tape o_told_22 o_words)) rfl (fun H locs hP hD hS => ?_)
          refine lv_aload_n hx hb dX10_wordLine_94 rfl (lv_at hl 0 rfl) ?_
          obtain ⟨o_next_23, o_kind_24, o_which_25, o_at_26, e_27, hf⟩ := bd4_x hf
          refine call_v [] [] ⟨hx, hb, hml, hown, hts⟩ hK hP hD hS hA hl.1 (tX10_token l G cI cJ cZ H.size h_o h_o_tape h_o_words h_o_told h_o_isTold h_o_toldWave h_o_isPoint h_o_all h_o_quarter h_o_roots h_o_laidRe h_o_laidIm h_o_byOrder h_o_noted1 h_o_counts h_o_binBy o_tapeSize o_thrown o_fault o_faultPlace o_stop o_next_12 o_kind_13 o_which_14 o_at_15 o_pointsRead o_bank o_isImage o_undos o_runRadix o_runOrder o_runNear o_runLimit o_runHalves o_power o_notedMany o_knownTold o_drawn o_tape o_words o_next_23 o_kind_24 o_which_25 o_at_26 e_27) (cwV 0 hts (gv q_mX10_145 q_i_yX10_token q_s_yX10_token q_n_RX10 q_k_yX10_token) rfl rfl rfl (by decide +kernel) ⟨by decide, by decide⟩) rfl rfl (Nat.le_of_ble_eq_true rfl) dX10_wordLine_95 ⟨Nat.zero_le _, Nat.zero_le _⟩ (ci := 10) rfl 0 rfl [0, 2, 4] [1, 3] [2, 0, 3, 1, 4] rfl rfl (ws2 := (wX10_wordLine cI cJ cZ h_o h_o_isTold h_o_tape h_o_told h_o_words h_o_toldWave h_o_isPoint h_o_all h_o_quarter h_o_roots h_o_laidRe h_o_laidIm h_o_byOrder h_o_noted1 h_o_counts h_o_binBy o_tapeSize o_thrown o_fault o_faultPlace o_stop o_next_23 o_kind_24 o_which_25 o_at_26 o_pointsRead o_bank o_isImage o_undos o_runRadix o_runOrder o_runNear o_runLimit o_runHalves o_power o_notedMany o_knownTold o_drawn o_isTold_11 o_tape o_told_22 o_words)) rfl (fun H locs hP hD hS => ?_)
          refine W.eq (g2 := F0 m 98 ls []) rfl ?_
          refine lv_iconst (v := (1 : Int32)) hx hb dX10_wordLine_98 (by decide) ?_
          cases hf
          exact hret _ _ _ _ dX10_wordLine_99 rfl hP hD hS
        · have hf := it_t c_20 hf
          refine lv_aload_n hx hb dX10_wordLine_75 rfl (lv_at hl 0 rfl) ?_
          refine lv_iconst (v := (2 : Int32)) hx hb dX10_wordLine_76 (by decide) ?_
          obtain ⟨r_28, o_fault_29, o_faultPlace_30, e_31, hf⟩ := bd3_x hf
          refine call_v [.int (2 : Int32)] [] ⟨hx, hb, hml, hown, hts⟩ hK hP hD hS hA hl.1 (tX10_wrong l G cI cJ cZ H.size h_o h_o_tape h_o_words h_o_told h_o_isTold h_o_toldWave h_o_isPoint h_o_all h_o_quarter h_o_roots h_o_laidRe h_o_laidIm h_o_byOrder h_o_noted1 h_o_counts h_o_binBy o_tapeSize o_thrown o_fault o_faultPlace o_stop o_next_12 o_kind_13 o_which_14 o_at_15 o_pointsRead o_bank o_isImage o_undos o_runRadix o_runOrder o_runNear o_runLimit o_runHalves o_power o_notedMany o_knownTold o_drawn (2 : Int32) r_28 o_fault_29 o_faultPlace_30 e_31) (cwV 1 hts (gv q_mX10_142 q_i_yX10_wrong q_s_yX10_wrong q_n_RX10 q_k_yX10_wrong) rfl rfl rfl (by decide +kernel) ⟨by decide, by decide⟩) rfl rfl (Nat.le_of_ble_eq_true rfl) dX10_wordLine_77 ⟨Nat.zero_le _, Nat.zero_le _⟩ (ci := 10) rfl 0 rfl [0] [1, 2, 3, 4] [4, 0, 1, 2, 3] rfl rfl (ws2 := (wX10_wordLine cI cJ cZ h_o h_o_isTold h_o_tape h_o_told h_o_words h_o_toldWave h_o_isPoint h_o_all h_o_quarter h_o_roots h_o_laidRe h_o_laidIm h_o_byOrder h_o_noted1 h_o_counts h_o_binBy o_tapeSize o_thrown o_fault_29 o_faultPlace_30 o_stop o_next_12 o_kind_13 o_which_14 o_at_15 o_pointsRead o_bank o_isImage o_undos o_runRadix o_runOrder o_runNear o_runLimit o_runHalves o_power o_notedMany o_knownTold o_drawn o_isTold_11 o_tape o_told o_words)) rfl (fun H locs hP hD hS => ?_)
          refine W.eq (g2 := F0 m 80 ls [.int r_28]) rfl ?_
          obtain ⟨g_32, hf⟩ := gd_x hf
          cases hf
          exact hret _ _ _ _ dX10_wordLine_80 (bl_n g_32) hP hD hS
      · have hf := it_f c_17 hf
        refine lv_aload_n hx hb dX10_wordLine_57 rfl (lv_at hl 0 rfl) ?_
        refine lv_iconst (v := (1 : Int32)) hx hb dX10_wordLine_58 (by decide) ?_
        obtain ⟨r_33, o_fault_34, o_faultPlace_35, e_36, hf⟩ := bd3_x hf
        refine call_v [.int (1 : Int32)] [] ⟨hx, hb, hml, hown, hts⟩ hK hP hD hS hA hl.1 (tX10_wrong l G cI cJ cZ H.size h_o h_o_tape h_o_words h_o_told h_o_isTold h_o_toldWave h_o_isPoint h_o_all h_o_quarter h_o_roots h_o_laidRe h_o_laidIm h_o_byOrder h_o_noted1 h_o_counts h_o_binBy o_tapeSize o_thrown o_fault o_faultPlace o_stop o_next_12 o_kind_13 o_which_14 o_at_15 o_pointsRead o_bank o_isImage o_undos o_runRadix o_runOrder o_runNear o_runLimit o_runHalves o_power o_notedMany o_knownTold o_drawn (1 : Int32) r_33 o_fault_34 o_faultPlace_35 e_36) (cwV 1 hts (gv q_mX10_142 q_i_yX10_wrong q_s_yX10_wrong q_n_RX10 q_k_yX10_wrong) rfl rfl rfl (by decide +kernel) ⟨by decide, by decide⟩) rfl rfl (Nat.le_of_ble_eq_true rfl) dX10_wordLine_59 ⟨Nat.zero_le _, Nat.zero_le _⟩ (ci := 10) rfl 0 rfl [0] [1, 2, 3, 4] [4, 0, 1, 2, 3] rfl rfl (ws2 := (wX10_wordLine cI cJ cZ h_o h_o_isTold h_o_tape h_o_told h_o_words h_o_toldWave h_o_isPoint h_o_all h_o_quarter h_o_roots h_o_laidRe h_o_laidIm h_o_byOrder h_o_noted1 h_o_counts h_o_binBy o_tapeSize o_thrown o_fault_34 o_faultPlace_35 o_stop o_next_12 o_kind_13 o_which_14 o_at_15 o_pointsRead o_bank o_isImage o_undos o_runRadix o_runOrder o_runNear o_runLimit o_runHalves o_power o_notedMany o_knownTold o_drawn o_isTold_11 o_tape o_told o_words)) rfl (fun H locs hP hD hS => ?_)
        refine W.eq (g2 := F0 m 62 ls [.int r_33]) rfl ?_
        obtain ⟨g_37, hf⟩ := gd_x hf
        cases hf
        exact hret _ _ _ _ dX10_wordLine_62 (bl_n g_37) hP hD hS
    · have hf := it_f c_9 hf
      refine lv_aload_n hx hb dX10_wordLine_32 rfl (lv_at hl 0 rfl) ?_
      refine lv_iconst (v := (3 : Int32)) hx hb dX10_wordLine_33 (by decide) ?_
      obtain ⟨r_38, o_fault_39, o_faultPlace_40, e_41, hf⟩ := bd3_x hf
      refine call_v [.int (3 : Int32)] [] ⟨hx, hb, hml, hown, hts⟩ hK hP hD hS hA hl.1 (tX10_wrong l G cI cJ cZ H.size h_o h_o_tape h_o_words h_o_told h_o_isTold h_o_toldWave h_o_isPoint h_o_all h_o_quarter h_o_roots h_o_laidRe h_o_laidIm h_o_byOrder h_o_noted1 h_o_counts h_o_binBy o_tapeSize o_thrown o_fault o_faultPlace o_stop o_next o_kind o_which o_at o_pointsRead o_bank o_isImage o_undos o_runRadix o_runOrder o_runNear o_runLimit o_runHalves o_power o_notedMany o_knownTold o_drawn (3 : Int32) r_38 o_fault_39 o_faultPlace_40 e_41) (cwV 1 hts (gv q_mX10_142 q_i_yX10_wrong q_s_yX10_wrong q_n_RX10 q_k_yX10_wrong) rfl rfl rfl (by decide +kernel) ⟨by decide, by decide⟩) rfl rfl (Nat.le_of_ble_eq_true rfl) dX10_wordLine_34 ⟨Nat.zero_le _, Nat.zero_le _⟩ (ci := 10) rfl 0 rfl [0] [1, 2, 3, 4] [4, 0, 1, 2, 3] rfl rfl (ws2 := (wX10_wordLine cI cJ cZ h_o h_o_isTold h_o_tape h_o_told h_o_words h_o_toldWave h_o_isPoint h_o_all h_o_quarter h_o_roots h_o_laidRe h_o_laidIm h_o_byOrder h_o_noted1 h_o_counts h_o_binBy o_tapeSize o_thrown o_fault_39 o_faultPlace_40 o_stop o_next o_kind o_which o_at o_pointsRead o_bank o_isImage o_undos o_runRadix o_runOrder o_runNear o_runLimit o_runHalves o_power o_notedMany o_knownTold o_drawn o_isTold o_tape o_told o_words)) rfl (fun H locs hP hD hS => ?_)
      refine W.eq (g2 := F0 m 37 ls [.int r_38]) rfl ?_
      obtain ⟨g_42, hf⟩ := gd_x hf
      cases hf
      exact hret _ _ _ _ dX10_wordLine_37 (bl_n g_42) hP hD hS
  unfold fX10_wordLine at hf
  obtain ⟨H, eH⟩ : ∃ H, H = s.heap := ⟨_, rfl⟩
  obtain ⟨locs, elocs⟩ : ∃ z : List Loc, z = [] := ⟨_, rfl⟩
  have hP : va_P G vwCl (wX10_wordLine cI cJ cZ h_o h_o_isTold h_o_tape h_o_told h_o_words h_o_toldWave h_o_isPoint h_o_all h_o_quarter h_o_roots h_o_laidRe h_o_laidIm h_o_byOrder h_o_noted1 h_o_counts h_o_binBy o_tapeSize o_thrown o_fault o_faultPlace o_stop o_next o_kind o_which o_at o_pointsRead o_bank o_isImage o_undos o_runRadix o_runOrder o_runNear o_runLimit o_runHalves o_power o_notedMany o_knownTold o_drawn o_isTold o_tape o_told o_words) H := by rw [eH]; exact hP
  have hS : va_S A s.heap H locs := by rw [eH, elocs]; exact hS
  suffices hgo : W p l e ({ frames := 2, cells := 0, slots := 0, locals := 47 } : Room) s m ([.ref h_o] : List Value).toArray below meth c H locs 0 0 Q (F0 m 0 ls []) by rw [eH, elocs] at hgo; exact hgo
  clear eH elocs
  refine lv_aload_n hx hb dX10_wordLine_0 rfl (lv_at hl 0 rfl) ?_
  refine rd (ci := 10) (C := RX10) (T := TX10) (N := 37) hx hb hts inX10 hown hK hP 0 9 rfl rfl (by decide) (hts _ q_fX10_99) rfl dX10_wordLine_1 ?_
  refine lv_istore_n (lv' := [(1, .int o_which), (0, .ref h_o)]) hx hb dX10_wordLine_4 rfl hl (by decide) rfl (fun ls hl => ?_)
  refine lv_iload_n hx hb dX10_wordLine_5 rfl (lv_at hl 0 rfl) ?_
  refine lv_iconst (v := (1 : Int32)) hx hb dX10_wordLine_6 (by decide) ?_
  refine lv_icmp_gt (tgt := 23) hx hb dX10_wordLine_7 (by decide) (fun c_1 => ?_) (fun c_1 => ?_)
  · have hf := it_t c_1 hf
    exact j23 o_fault o_faultPlace o_next o_kind o_which o_at o_isTold o_told o_which H locs ls hf hP hD hS (lv_sub hl [1, 0] rfl)
  · have hf := it_f c_1 hf
    refine lv_aload_n hx hb dX10_wordLine_10 rfl (lv_at hl 1 rfl) ?_
    refine rd (ci := 10) (C := RX10) (T := TX10) (N := 37) hx hb hts inX10 hown hK hP 0 15 rfl rfl (by decide) (hts _ q_fX10_106) rfl dX10_wordLine_11 ?_
    refine lv_if_le (tgt := 23) hx hb dX10_wordLine_14 (by decide) (fun c_2 => ?_) (fun c_2 => ?_)
    · have hf := it_t c_2 hf
      exact j23 o_fault o_faultPlace o_next o_kind o_which o_at o_isTold o_told o_which H locs ls hf hP hD hS (lv_sub hl [1, 0] rfl)
    · have hf := it_f c_2 hf
      refine lv_aload_n hx hb dX10_wordLine_17 rfl (lv_at hl 1 rfl) ?_
      refine lv_iconst (v := (1 : Int32)) hx hb dX10_wordLine_18 (by decide) ?_
      obtain ⟨r_3, o_fault_4, o_faultPlace_5, e_6, hf⟩ := bd3_x hf
      refine call_v [.int (1 : Int32)] [] ⟨hx, hb, hml, hown, hts⟩ hK hP hD hS hA hl.1 (tX10_wrong l G cI cJ cZ H.size h_o h_o_tape h_o_words h_o_told h_o_isTold h_o_toldWave h_o_isPoint h_o_all h_o_quarter h_o_roots h_o_laidRe h_o_laidIm h_o_byOrder h_o_noted1 h_o_counts h_o_binBy o_tapeSize o_thrown o_fault o_faultPlace o_stop o_next o_kind o_which o_at o_pointsRead o_bank o_isImage o_undos o_runRadix o_runOrder o_runNear o_runLimit o_runHalves o_power o_notedMany o_knownTold o_drawn (1 : Int32) r_3 o_fault_4 o_faultPlace_5 e_6) (cwV 1 hts (gv q_mX10_142 q_i_yX10_wrong q_s_yX10_wrong q_n_RX10 q_k_yX10_wrong) rfl rfl rfl (by decide +kernel) ⟨by decide, by decide⟩) rfl rfl (Nat.le_of_ble_eq_true rfl) dX10_wordLine_19 ⟨Nat.zero_le _, Nat.zero_le _⟩ (ci := 10) rfl 0 rfl [0] [1, 2, 3, 4] [4, 0, 1, 2, 3] rfl rfl (ws2 := (wX10_wordLine cI cJ cZ h_o h_o_isTold h_o_tape h_o_told h_o_words h_o_toldWave h_o_isPoint h_o_all h_o_quarter h_o_roots h_o_laidRe h_o_laidIm h_o_byOrder h_o_noted1 h_o_counts h_o_binBy o_tapeSize o_thrown o_fault_4 o_faultPlace_5 o_stop o_next o_kind o_which o_at o_pointsRead o_bank o_isImage o_undos o_runRadix o_runOrder o_runNear o_runLimit o_runHalves o_power o_notedMany o_knownTold o_drawn o_isTold o_tape o_told o_words)) rfl (fun H locs hP hD hS => ?_)
      refine W.eq (g2 := F0 m 22 ls [.int r_3]) rfl ?_
      obtain ⟨g_7, hf⟩ := gd_x hf
      cases hf
      exact hret _ _ _ _ dX10_wordLine_22 (bl_n g_7) hP hD hS
def wX10_pointLine (cI cJ cZ : ClassId) (h_o h_o_isPoint h_o_tape h_o_told h_o_toldWave h_o_words h_o_isTold h_o_all h_o_quarter h_o_roots h_o_laidRe h_o_laidIm h_o_byOrder h_o_noted1 h_o_counts h_o_binBy : Nat) (o_tapeSize : Int32) (o_thrown : Int32) (o_fault : Int32) (o_faultPlace : Int32) (o_stop : Int32) (o_next : Int32) (o_kind : Int32) (o_which : Int32) (o_at : Int32) (o_pointsRead : Int32) (o_bank : Int32) (o_isImage : Int32) (o_undos : Int32) (o_runRadix : Int32) (o_runOrder : Int32) (o_runNear : Int32) (o_runLimit : Int32) (o_runHalves : Int32) (o_power : Int32) (o_notedMany : Int32) (o_knownTold : Int32) (o_drawn : Int64) (o_isPoint : Nat → Int32) (o_tape : Nat → Int32) (o_told : Nat → Int32) (o_toldWave : Nat → Int32) (o_words : Nat → Int32) : va_W := [(h_o, .inr (10, [.ref h_o_tape, .int o_tapeSize, .int o_thrown, .ref h_o_words, .int o_fault, .int o_faultPlace, .int o_stop, .int o_next, .int o_kind, .int o_which, .int o_at, .ref h_o_told, .ref h_o_isTold, .ref h_o_toldWave, .ref h_o_isPoint, .int o_pointsRead, .ref h_o_all, .int o_bank, .int o_isImage, .int o_undos, .int o_runRadix, .int o_runOrder, .int o_runNear, .int o_runLimit, .int o_runHalves, .ref h_o_quarter, .int o_power, .ref h_o_roots, .ref h_o_laidRe, .ref h_o_laidIm, .ref h_o_byOrder, .int o_notedMany, .int o_knownTold, .ref h_o_noted1, .ref h_o_counts, .ref h_o_binBy, .long o_drawn])), (h_o_isPoint, .inl (cZ, 64, .inl o_isPoint)), (h_o_tape, .inl (cI, 700, .inl o_tape)), (h_o_told, .inl (cI, 12, .inl o_told)), (h_o_toldWave, .inl (cI, 128, .inl o_toldWave)), (h_o_words, .inl (cI, 52, .inl o_words))]
def fX10_pointLine_166 (o_stop : Int32) (o_tape : Nat → Int32) (o_words : Nat → Int32) (o_fault : Int32) (o_faultPlace : Int32) (o_next : Int32) (o_kind : Int32) (o_which : Int32) (o_at : Int32) (o_pointsRead : Int32) (o_isPoint : Nat → Int32) (o_toldWave : Nat → Int32) (s1 : Int32) (s2 : Int32) : Option (Int32 × Int32 × Int32 × Int32 × Int32 × Int32 × Int32 × Int32 × (Nat → Int32) × (Nat → Int32)) :=
  gd (inb s1 128) (
  nm (upd o_toldWave (Int32.toNatClampNeg s1) s2) (fun o_toldWave_54 =>
  bd4 (fX10_token o_stop o_next o_kind o_which o_at o_tape o_words) (fun o_next_55 o_kind_56 o_which_57 o_at_58 =>
  some ((1 : Int32), o_fault, o_faultPlace, o_next_55, o_kind_56, o_which_57, o_at_58, o_pointsRead, o_isPoint, o_toldWave_54))))
def fX10_pointLine_154 (o_stop : Int32) (o_tape : Nat → Int32) (o_words : Nat → Int32) (o_fault : Int32) (o_faultPlace : Int32) (o_next : Int32) (o_kind : Int32) (o_which : Int32) (o_at : Int32) (o_pointsRead : Int32) (o_isPoint : Nat → Int32) (o_toldWave : Nat → Int32) (s1 : Int32) : Option (Int32 × Int32 × Int32 × Int32 × Int32 × Int32 × Int32 × Int32 × (Nat → Int32) × (Nat → Int32)) :=
  fX10_pointLine_166 o_stop o_tape o_words o_fault o_faultPlace o_next o_kind o_which o_at o_pointsRead o_isPoint o_toldWave s1 (-o_which)
def fX10_pointLine_69 (o_stop : Int32) (o_tape : Nat → Int32) (o_told : Nat → Int32) (o_words : Nat → Int32) (o_fault : Int32) (o_faultPlace : Int32) (o_next : Int32) (o_kind : Int32) (o_which : Int32) (o_at : Int32) (o_pointsRead : Int32) (o_isPoint : Nat → Int32) (o_toldWave : Nat → Int32) (v1 : Int32) (s0 : Int32) (s1 : Int32) : Option (Int32 × Int32 × Int32 × Int32 × Int32 × Int32 × Int32 × Int32 × (Nat → Int32) × (Nat → Int32)) :=
  nm (s0 + s1) (fun v2_21 =>
  gd (inb v2_21 64) (
  if (o_isPoint (Int32.toNatClampNeg v2_21)) = 0 then (
    gd (inb v2_21 64) (
    nm (upd o_isPoint (Int32.toNatClampNeg v2_21) (vp_nar .boolean (1 : Int32))) (fun o_isPoint_25 =>
    bd4 (fX10_token o_stop o_next o_kind o_which o_at o_tape o_words) (fun o_next_26 o_kind_27 o_which_28 o_at_29 =>
    if o_kind_27 = (2 : Int32) then (
      gd (inb (7 : Int32) 12) (
      bd1 (fX10_limitOf (o_told (Int32.toNatClampNeg (7 : Int32)))) (fun r_33 =>
      if o_which_28 ≤ r_33 then (
        if v1 = (7 : Int32) then (
          fX10_pointLine_154 o_stop o_tape o_words o_fault o_faultPlace o_next_26 o_kind_27 o_which_28 o_at_29 o_pointsRead o_isPoint_25 o_toldWave ((64 : Int32) + v2_21)
        ) else (
          if v1 = (9 : Int32) then (
            fX10_pointLine_154 o_stop o_tape o_words o_fault o_faultPlace o_next_26 o_kind_27 o_which_28 o_at_29 o_pointsRead o_isPoint_25 o_toldWave ((64 : Int32) + v2_21)
          ) else (
            fX10_pointLine_166 o_stop o_tape o_words o_fault o_faultPlace o_next_26 o_kind_27 o_which_28 o_at_29 o_pointsRead o_isPoint_25 o_toldWave ((64 : Int32) + v2_21) o_which_28
          )
        )
      ) else (
        bd3 (fX10_wrong o_fault o_faultPlace o_at_29 (2 : Int32)) (fun r_38 o_fault_39 o_faultPlace_40 =>
        gd (bl r_38) (
        some (r_38, o_fault_39, o_faultPlace_40, o_next_26, o_kind_27, o_which_28, o_at_29, o_pointsRead, o_isPoint_25, o_toldWave)))
      )))
    ) else (
      bd3 (fX10_wrong o_fault o_faultPlace o_at_29 (1 : Int32)) (fun r_43 o_fault_44 o_faultPlace_45 =>
      gd (bl r_43) (
      some (r_43, o_fault_44, o_faultPlace_45, o_next_26, o_kind_27, o_which_28, o_at_29, o_pointsRead, o_isPoint_25, o_toldWave)))
    ))))
  ) else (
    bd3 (fX10_wrong o_fault o_faultPlace o_at (3 : Int32)) (fun r_48 o_fault_49 o_faultPlace_50 =>
    gd (bl r_48) (
    some (r_48, o_fault_49, o_faultPlace_50, o_next, o_kind, o_which, o_at, o_pointsRead, o_isPoint, o_toldWave)))
  )))
def fX10_pointLine (o_fault : Int32) (o_faultPlace : Int32) (o_stop : Int32) (o_next : Int32) (o_kind : Int32) (o_which : Int32) (o_at : Int32) (o_pointsRead : Int32) (o_isPoint : Nat → Int32) (o_tape : Nat → Int32) (o_told : Nat → Int32) (o_toldWave : Nat → Int32) (o_words : Nat → Int32) : Option (Int32 × Int32 × Int32 × Int32 × Int32 × Int32 × Int32 × Int32 × (Nat → Int32) × (Nat → Int32)) :=
  nm (o_pointsRead + (1 : Int32)) (fun u_1 =>
  bd4 (fX10_token o_stop o_next o_kind o_which o_at o_tape o_words) (fun o_next_2 o_kind_3 o_which_4 o_at_5 =>
  if o_kind_3 = (2 : Int32) then (
    gd (inb (6 : Int32) 12) (
    if o_which_4 < (o_told (Int32.toNatClampNeg (6 : Int32))) then (
      if o_which < (8 : Int32) then (
        fX10_pointLine_69 o_stop o_tape o_told o_words o_fault o_faultPlace o_next_2 o_kind_3 o_which_4 o_at_5 u_1 o_isPoint o_toldWave o_which o_which_4 (0 : Int32)
      ) else (
        fX10_pointLine_69 o_stop o_tape o_told o_words o_fault o_faultPlace o_next_2 o_kind_3 o_which_4 o_at_5 u_1 o_isPoint o_toldWave o_which o_which_4 (32 : Int32)
      )
    ) else (
      bd3 (fX10_wrong o_fault o_faultPlace o_at_5 (2 : Int32)) (fun r_11 o_fault_12 o_faultPlace_13 =>
      gd (bl r_11) (
      some (r_11, o_fault_12, o_faultPlace_13, o_next_2, o_kind_3, o_which_4, o_at_5, u_1, o_isPoint, o_toldWave)))
    ))
  ) else (
    bd3 (fX10_wrong o_fault o_faultPlace o_at_5 (1 : Int32)) (fun r_16 o_fault_17 o_faultPlace_18 =>
    gd (bl r_16) (
    some (r_16, o_fault_17, o_faultPlace_18, o_next_2, o_kind_3, o_which_4, o_at_5, u_1, o_isPoint, o_toldWave)))
  )))
set_option maxHeartbeats 4000000 in
set_option maxRecDepth 100000 in
theorem tX10_pointLine (l : Launch) (G : va_G) (cI cJ cZ : ClassId) (sz : Nat) (h_o h_o_isPoint h_o_tape h_o_told h_o_toldWave h_o_words h_o_isTold h_o_all h_o_quarter h_o_roots h_o_laidRe h_o_laidIm h_o_byOrder h_o_noted1 h_o_counts h_o_binBy : Nat) (o_tapeSize : Int32) (o_thrown : Int32) (o_fault : Int32) (o_faultPlace : Int32) (o_stop : Int32) (o_next : Int32) (o_kind : Int32) (o_which : Int32) (o_at : Int32) (o_pointsRead : Int32) (o_bank : Int32) (o_isImage : Int32) (o_undos : Int32) (o_runRadix : Int32) (o_runOrder : Int32) (o_runNear : Int32) (o_runLimit : Int32) (o_runHalves : Int32) (o_power : Int32) (o_notedMany : Int32) (o_knownTold : Int32) (o_drawn : Int64) (o_isPoint : Nat → Int32) (o_tape : Nat → Int32) (o_told : Nat → Int32) (o_toldWave : Nat → Int32) (o_words : Nat → Int32) (r : Int32) (out_o_fault : Int32) (out_o_faultPlace : Int32) (out_o_next : Int32) (out_o_kind : Int32) (out_o_which : Int32) (out_o_at : Int32) (out_o_pointsRead : Int32) (out_o_isPoint : Nat → Int32) (out_o_toldWave : Nat → Int32) (hf : fX10_pointLine o_fault o_faultPlace o_stop o_next o_kind o_which o_at o_pointsRead o_isPoint o_tape o_told o_toldWave o_words = some (r, out_o_fault, out_o_faultPlace, out_o_next, out_o_kind, out_o_which, out_o_at, out_o_pointsRead, out_o_isPoint, out_o_toldWave)) : Met l yX10_pointLine (Cond.code yX10_pointLine cX10_pointLine 3 (some .boolean) :: BIG) ({ frames := 2, cells := 0, slots := 0, locals := 47 } : Room) (cP G (TY3 cI cJ cZ) [.ref h_o] sz (wX10_pointLine cI cJ cZ h_o h_o_isPoint h_o_tape h_o_told h_o_toldWave h_o_words h_o_isTold h_o_all h_o_quarter h_o_roots h_o_laidRe h_o_laidIm h_o_byOrder h_o_noted1 h_o_counts h_o_binBy o_tapeSize o_thrown o_fault o_faultPlace o_stop o_next o_kind o_which o_at o_pointsRead o_bank o_isImage o_undos o_runRadix o_runOrder o_runNear o_runLimit o_runHalves o_power o_notedMany o_knownTold o_drawn o_isPoint o_tape o_told o_toldWave o_words)) (cQ G (TY3 cI cJ cZ) sz (wX10_pointLine cI cJ cZ h_o h_o_isPoint h_o_tape h_o_told h_o_toldWave h_o_words h_o_isTold h_o_all h_o_quarter h_o_roots h_o_laidRe h_o_laidIm h_o_byOrder h_o_noted1 h_o_counts h_o_binBy o_tapeSize o_thrown o_fault o_faultPlace o_stop o_next o_kind o_which o_at o_pointsRead o_bank o_isImage o_undos o_runRadix o_runOrder o_runNear o_runLimit o_runHalves o_power o_notedMany o_knownTold o_drawn o_isPoint o_tape o_told o_toldWave o_words) (wX10_pointLine cI cJ cZ h_o h_o_isPoint h_o_tape h_o_told h_o_toldWave h_o_words h_o_isTold h_o_all h_o_quarter h_o_roots h_o_laidRe h_o_laidIm h_o_byOrder h_o_noted1 h_o_counts h_o_binBy o_tapeSize o_thrown out_o_fault out_o_faultPlace o_stop out_o_next out_o_kind out_o_which out_o_at out_o_pointsRead o_bank o_isImage o_undos o_runRadix o_runOrder o_runNear o_runLimit o_runHalves o_power o_notedMany o_knownTold o_drawn out_o_isPoint o_tape o_told out_o_toldWave o_words) (some (.int r))) 0 0 (va_A (wX10_pointLine cI cJ cZ h_o h_o_isPoint h_o_tape h_o_told h_o_toldWave h_o_words h_o_isTold h_o_all h_o_quarter h_o_roots h_o_laidRe h_o_laidIm h_o_byOrder h_o_noted1 h_o_counts h_o_binBy o_tapeSize o_thrown o_fault o_faultPlace o_stop o_next o_kind o_which o_at o_pointsRead o_bank o_isImage o_undos o_runRadix o_runOrder o_runNear o_runLimit o_runHalves o_power o_notedMany o_knownTold o_drawn o_isPoint o_tape o_told o_toldWave o_words) sz) := by
  refine met_z (cc := cX10_pointLine) (maxL := 3) (plainFor_of_name (by decide)) (Nat.le_of_ble_eq_true rfl) (fun p e s m below meth c A ls Q hx hb hml hts hown hK hP hD hS hA hl hret => ?_)
  have hown : s.vm.findClass RX10 = some m.cls := hown
  have hl : lv_has ls 3 [(0, .ref h_o)] := hl
  have j166 : ∀ (o_fault : Int32) (o_faultPlace : Int32) (o_next : Int32) (o_kind : Int32) (o_which : Int32) (o_at : Int32) (o_pointsRead : Int32) (o_isPoint : Nat → Int32) (o_toldWave : Nat → Int32) (s1 : Int32) (s2 : Int32) (H : Heap) (locs : List Loc) (ls : Array Slot), fX10_pointLine_166 o_stop o_tape o_words o_fault o_faultPlace o_next o_kind o_which o_at o_pointsRead o_isPoint o_toldWave s1 s2 = some (r, out_o_fault, out_o_faultPlace, out_o_next, out_o_kind, out_o_which, out_o_at, out_o_pointsRead, out_o_isPoint, out_o_toldWave) → va_P G vwCl (wX10_pointLine cI cJ cZ h_o h_o_isPoint h_o_tape h_o_told h_o_toldWave h_o_words h_o_isTold h_o_all h_o_quarter h_o_roots h_o_laidRe h_o_laidIm h_o_byOrder h_o_noted1 h_o_counts h_o_binBy o_tapeSize o_thrown o_fault o_faultPlace o_stop o_next o_kind o_which o_at o_pointsRead o_bank o_isImage o_undos o_runRadix o_runOrder o_runNear o_runLimit o_runHalves o_power o_notedMany o_knownTold o_drawn o_isPoint o_tape o_told o_toldWave o_words) H → va_D A (wX10_pointLine cI cJ cZ h_o h_o_isPoint h_o_tape h_o_told h_o_toldWave h_o_words h_o_isTold h_o_all h_o_quarter h_o_roots h_o_laidRe h_o_laidIm h_o_byOrder h_o_noted1 h_o_counts h_o_binBy o_tapeSize o_thrown o_fault o_faultPlace o_stop o_next o_kind o_which o_at o_pointsRead o_bank o_isImage o_undos o_runRadix o_runOrder o_runNear o_runLimit o_runHalves o_power o_notedMany o_knownTold o_drawn o_isPoint o_tape o_told o_toldWave o_words) → va_S A s.heap H locs → lv_has ls 3 [(0, .ref h_o)] → W p l e ({ frames := 2, cells := 0, slots := 0, locals := 47 } : Room) s m ([.ref h_o] : List Value).toArray below meth c H locs 0 0 Q (F0 m 166 ls [.int s2, .int s1, .ref h_o_toldWave]) := by
    intro o_fault o_faultPlace o_next o_kind o_which o_at o_pointsRead o_isPoint o_toldWave s1 s2 H locs ls hf hP hD hS hl
    unfold fX10_pointLine_166 at hf
    obtain ⟨g_53, hf⟩ := gd_x hf
    obtain ⟨o_toldWave_54, eo_toldWave_54⟩ : ∃ y : Nat → Int32, y = upd o_toldWave (Int32.toNatClampNeg s1) s2 := ⟨_, rfl⟩
    have hf := nm_x eo_toldWave_54 hf
    refine ist hx hb hK hP hD hS 4 0 rfl rfl (inb_x g_53) dX10_pointLine_166 eo_toldWave_54 (ws2 := (wX10_pointLine cI cJ cZ h_o h_o_isPoint h_o_tape h_o_told h_o_toldWave h_o_words h_o_isTold h_o_all h_o_quarter h_o_roots h_o_laidRe h_o_laidIm h_o_byOrder h_o_noted1 h_o_counts h_o_binBy o_tapeSize o_thrown o_fault o_faultPlace o_stop o_next o_kind o_which o_at o_pointsRead o_bank o_isImage o_undos o_runRadix o_runOrder o_runNear o_runLimit o_runHalves o_power o_notedMany o_knownTold o_drawn o_isPoint o_tape o_told o_toldWave_54 o_words)) rfl (fun H locs hP hD hS => ?_)
    refine lv_aload_n hx hb dX10_pointLine_167 rfl (lv_at hl 0 rfl) ?_
    obtain ⟨o_next_55, o_kind_56, o_which_57, o_at_58, e_59, hf⟩ := bd4_x hf
    refine call_v [] [] ⟨hx, hb, hml, hown, hts⟩ hK hP hD hS hA hl.1 (tX10_token l G cI cJ cZ H.size h_o h_o_tape h_o_words h_o_told h_o_isTold h_o_toldWave h_o_isPoint h_o_all h_o_quarter h_o_roots h_o_laidRe h_o_laidIm h_o_byOrder h_o_noted1 h_o_counts h_o_binBy o_tapeSize o_thrown o_fault o_faultPlace o_stop o_next o_kind o_which o_at o_pointsRead o_bank o_isImage o_undos o_runRadix o_runOrder o_runNear o_runLimit o_runHalves o_power o_notedMany o_knownTold o_drawn o_tape o_words o_next_55 o_kind_56 o_which_57 o_at_58 e_59) (cwV 0 hts (gv q_mX10_145 q_i_yX10_token q_s_yX10_token q_n_RX10 q_k_yX10_token) rfl rfl rfl (by decide +kernel) ⟨by decide, by decide⟩) rfl rfl (Nat.le_of_ble_eq_true rfl) dX10_pointLine_168 ⟨Nat.zero_le _, Nat.zero_le _⟩ (ci := 10) rfl 0 rfl [0, 2, 5] [1, 3, 4] [3, 0, 4, 1, 2, 5] rfl rfl (ws2 := (wX10_pointLine cI cJ cZ h_o h_o_isPoint h_o_tape h_o_told h_o_toldWave h_o_words h_o_isTold h_o_all h_o_quarter h_o_roots h_o_laidRe h_o_laidIm h_o_byOrder h_o_noted1 h_o_counts h_o_binBy o_tapeSize o_thrown o_fault o_faultPlace o_stop o_next_55 o_kind_56 o_which_57 o_at_58 o_pointsRead o_bank o_isImage o_undos o_runRadix o_runOrder o_runNear o_runLimit o_runHalves o_power o_notedMany o_knownTold o_drawn o_isPoint o_tape o_told o_toldWave_54 o_words)) rfl (fun H locs hP hD hS => ?_)
    refine W.eq (g2 := F0 m 171 ls []) rfl ?_
    refine lv_iconst (v := (1 : Int32)) hx hb dX10_pointLine_171 (by decide) ?_
    cases hf
    exact hret _ _ _ _ dX10_pointLine_172 rfl hP hD hS
  have j154 : ∀ (o_fault : Int32) (o_faultPlace : Int32) (o_next : Int32) (o_kind : Int32) (o_which : Int32) (o_at : Int32) (o_pointsRead : Int32) (o_isPoint : Nat → Int32) (o_toldWave : Nat → Int32) (s1 : Int32) (H : Heap) (locs : List Loc) (ls : Array Slot), fX10_pointLine_154 o_stop o_tape o_words o_fault o_faultPlace o_next o_kind o_which o_at o_pointsRead o_isPoint o_toldWave s1 = some (r, out_o_fault, out_o_faultPlace, out_o_next, out_o_kind, out_o_which, out_o_at, out_o_pointsRead, out_o_isPoint, out_o_toldWave) → va_P G vwCl (wX10_pointLine cI cJ cZ h_o h_o_isPoint h_o_tape h_o_told h_o_toldWave h_o_words h_o_isTold h_o_all h_o_quarter h_o_roots h_o_laidRe h_o_laidIm h_o_byOrder h_o_noted1 h_o_counts h_o_binBy o_tapeSize o_thrown o_fault o_faultPlace o_stop o_next o_kind o_which o_at o_pointsRead o_bank o_isImage o_undos o_runRadix o_runOrder o_runNear o_runLimit o_runHalves o_power o_notedMany o_knownTold o_drawn o_isPoint o_tape o_told o_toldWave o_words) H → va_D A (wX10_pointLine cI cJ cZ h_o h_o_isPoint h_o_tape h_o_told h_o_toldWave h_o_words h_o_isTold h_o_all h_o_quarter h_o_roots h_o_laidRe h_o_laidIm h_o_byOrder h_o_noted1 h_o_counts h_o_binBy o_tapeSize o_thrown o_fault o_faultPlace o_stop o_next o_kind o_which o_at o_pointsRead o_bank o_isImage o_undos o_runRadix o_runOrder o_runNear o_runLimit o_runHalves o_power o_notedMany o_knownTold o_drawn o_isPoint o_tape o_told o_toldWave o_words) → va_S A s.heap H locs → lv_has ls 3 [(0, .ref h_o)] → W p l e ({ frames := 2, cells := 0, slots := 0, locals := 47 } : Room) s m ([.ref h_o] : List Value).toArray below meth c H locs 0 0 Q (F0 m 154 ls [.int s1, .ref h_o_toldWave]) := by
    intro o_fault o_faultPlace o_next o_kind o_which o_at o_pointsRead o_isPoint o_toldWave s1 H locs ls hf hP hD hS hl
    unfold fX10_pointLine_154 at hf
    refine lv_aload_n hx hb dX10_pointLine_154 rfl (lv_at hl 0 rfl) ?_
    refine rd (ci := 10) (C := RX10) (T := TX10) (N := 37) hx hb hts inX10 hown hK hP 0 9 rfl rfl (by decide) (hts _ q_fX10_99) rfl dX10_pointLine_155 ?_
    refine lv_ineg hx hb dX10_pointLine_158 ?_
    refine lv_goto (tgt := 166) hx hb dX10_pointLine_159 (by decide) ?_
    exact j166 o_fault o_faultPlace o_next o_kind o_which o_at o_pointsRead o_isPoint o_toldWave s1 (-o_which) H locs ls hf hP hD hS (lv_sub hl [0] rfl)
  have j69 : ∀ (o_fault : Int32) (o_faultPlace : Int32) (o_next : Int32) (o_kind : Int32) (o_which : Int32) (o_at : Int32) (o_pointsRead : Int32) (o_isPoint : Nat → Int32) (o_toldWave : Nat → Int32) (v1 : Int32) (s0 : Int32) (s1 : Int32) (H : Heap) (locs : List Loc) (ls : Array Slot), fX10_pointLine_69 o_stop o_tape o_told o_words o_fault o_faultPlace o_next o_kind o_which o_at o_pointsRead o_isPoint o_toldWave v1 s0 s1 = some (r, out_o_fault, out_o_faultPlace, out_o_next, out_o_kind, out_o_which, out_o_at, out_o_pointsRead, out_o_isPoint, out_o_toldWave) → va_P G vwCl (wX10_pointLine cI cJ cZ h_o h_o_isPoint h_o_tape h_o_told h_o_toldWave h_o_words h_o_isTold h_o_all h_o_quarter h_o_roots h_o_laidRe h_o_laidIm h_o_byOrder h_o_noted1 h_o_counts h_o_binBy o_tapeSize o_thrown o_fault o_faultPlace o_stop o_next o_kind o_which o_at o_pointsRead o_bank o_isImage o_undos o_runRadix o_runOrder o_runNear o_runLimit o_runHalves o_power o_notedMany o_knownTold o_drawn o_isPoint o_tape o_told o_toldWave o_words) H → va_D A (wX10_pointLine cI cJ cZ h_o h_o_isPoint h_o_tape h_o_told h_o_toldWave h_o_words h_o_isTold h_o_all h_o_quarter h_o_roots h_o_laidRe h_o_laidIm h_o_byOrder h_o_noted1 h_o_counts h_o_binBy o_tapeSize o_thrown o_fault o_faultPlace o_stop o_next o_kind o_which o_at o_pointsRead o_bank o_isImage o_undos o_runRadix o_runOrder o_runNear o_runLimit o_runHalves o_power o_notedMany o_knownTold o_drawn o_isPoint o_tape o_told o_toldWave o_words) → va_S A s.heap H locs → lv_has ls 3 [(0, .ref h_o), (1, .int v1)] → W p l e ({ frames := 2, cells := 0, slots := 0, locals := 47 } : Room) s m ([.ref h_o] : List Value).toArray below meth c H locs 0 0 Q (F0 m 69 ls [.int s1, .int s0]) := by
    intro o_fault o_faultPlace o_next o_kind o_which o_at o_pointsRead o_isPoint o_toldWave v1 s0 s1 H locs ls hf hP hD hS hl
    unfold fX10_pointLine_69 at hf
    refine lv_iadd hx hb dX10_pointLine_69 ?_
    refine lv_topi (fun v2_21 ev2_21 => ?_)
    have hf := nm_x ev2_21 hf
    refine lv_istore_n (lv' := [(2, .int v2_21), (0, .ref h_o), (1, .int v1)]) hx hb dX10_pointLine_70 rfl hl (by decide) rfl (fun ls hl => ?_)
    refine lv_aload_n hx hb dX10_pointLine_71 rfl (lv_at hl 1 rfl) ?_
    refine rd (ci := 10) (C := RX10) (T := TX10) (N := 37) hx hb hts inX10 hown hK hP 0 14 rfl rfl (by decide) (hts _ q_fX10_30) rfl dX10_pointLine_72 ?_
    refine lv_iload_n hx hb dX10_pointLine_75 rfl (lv_at hl 0 rfl) ?_
    obtain ⟨g_22, hf⟩ := gd_x hf
    refine va_zald hx hb hK hP 1 2 rfl rfl (inb_x g_22) dX10_pointLine_76 ?_
    refine lv_if_eq (tgt := 86) hx hb dX10_pointLine_77 (by decide) (fun c_23 => ?_) (fun c_23 => ?_)
    · have hf := it_t c_23 hf
      refine lv_aload_n hx hb dX10_pointLine_86 rfl (lv_at hl 1 rfl) ?_
      refine rd (ci := 10) (C := RX10) (T := TX10) (N := 37) hx hb hts inX10 hown hK hP 0 14 rfl rfl (by decide) (hts _ q_fX10_30) rfl dX10_pointLine_87 ?_
      refine lv_iload_n hx hb dX10_pointLine_90 rfl (lv_at hl 0 rfl) ?_
      refine lv_iconst (v := (1 : Int32)) hx hb dX10_pointLine_91 (by decide) ?_
      obtain ⟨g_24, hf⟩ := gd_x hf
      obtain ⟨o_isPoint_25, eo_isPoint_25⟩ : ∃ y : Nat → Int32, y = upd o_isPoint (Int32.toNatClampNeg v2_21) (vp_nar .boolean (1 : Int32)) := ⟨_, rfl⟩
      have hf := nm_x eo_isPoint_25 hf
      refine zst hx hb hK hP hD hS 1 2 rfl rfl (inb_x g_24) dX10_pointLine_92 eo_isPoint_25 (ws2 := (wX10_pointLine cI cJ cZ h_o h_o_isPoint h_o_tape h_o_told h_o_toldWave h_o_words h_o_isTold h_o_all h_o_quarter h_o_roots h_o_laidRe h_o_laidIm h_o_byOrder h_o_noted1 h_o_counts h_o_binBy o_tapeSize o_thrown o_fault o_faultPlace o_stop o_next o_kind o_which o_at o_pointsRead o_bank o_isImage o_undos o_runRadix o_runOrder o_runNear o_runLimit o_runHalves o_power o_notedMany o_knownTold o_drawn o_isPoint_25 o_tape o_told o_toldWave o_words)) rfl (fun H locs hP hD hS => ?_)
      refine lv_aload_n hx hb dX10_pointLine_93 rfl (lv_at hl 1 rfl) ?_
      obtain ⟨o_next_26, o_kind_27, o_which_28, o_at_29, e_30, hf⟩ := bd4_x hf
      refine call_v [] [] ⟨hx, hb, hml, hown, hts⟩ hK hP hD hS hA hl.1 (tX10_token l G cI cJ cZ H.size h_o h_o_tape h_o_words h_o_told h_o_isTold h_o_toldWave h_o_isPoint h_o_all h_o_quarter h_o_roots h_o_laidRe h_o_laidIm h_o_byOrder h_o_noted1 h_o_counts h_o_binBy o_tapeSize o_thrown o_fault o_faultPlace o_stop o_next o_kind o_which o_at o_pointsRead o_bank o_isImage o_undos o_runRadix o_runOrder o_runNear o_runLimit o_runHalves o_power o_notedMany o_knownTold o_drawn o_tape o_words o_next_26 o_kind_27 o_which_28 o_at_29 e_30) (cwV 0 hts (gv q_mX10_145 q_i_yX10_token q_s_yX10_token q_n_RX10 q_k_yX10_token) rfl rfl rfl (by decide +kernel) ⟨by decide, by decide⟩) rfl rfl (Nat.le_of_ble_eq_true rfl) dX10_pointLine_94 ⟨Nat.zero_le _, Nat.zero_le _⟩ (ci := 10) rfl 0 rfl [0, 2, 5] [1, 3, 4] [3, 0, 4, 1, 2, 5] rfl rfl (ws2 := (wX10_pointLine cI cJ cZ h_o h_o_isPoint h_o_tape h_o_told h_o_toldWave h_o_words h_o_isTold h_o_all h_o_quarter h_o_roots h_o_laidRe h_o_laidIm h_o_byOrder h_o_noted1 h_o_counts h_o_binBy o_tapeSize o_thrown o_fault o_faultPlace o_stop o_next_26 o_kind_27 o_which_28 o_at_29 o_pointsRead o_bank o_isImage o_undos o_runRadix o_runOrder o_runNear o_runLimit o_runHalves o_power o_notedMany o_knownTold o_drawn o_isPoint_25 o_tape o_told o_toldWave o_words)) rfl (fun H locs hP hD hS => ?_)
      refine W.eq (g2 := F0 m 97 ls []) rfl ?_
      refine lv_aload_n hx hb dX10_pointLine_97 rfl (lv_at hl 1 rfl) ?_
      refine rd (ci := 10) (C := RX10) (T := TX10) (N := 37) hx hb hts inX10 hown hK hP 0 8 rfl rfl (by decide) (hts _ q_fX10_88) rfl dX10_pointLine_98 ?_
      refine lv_iconst (v := (2 : Int32)) hx hb dX10_pointLine_101 (by decide) ?_
      refine lv_icmp_eq (tgt := 111) hx hb dX10_pointLine_102 (by decide) (fun c_31 => ?_) (fun c_31 => ?_)
      · have hf := it_t c_31 hf
        refine lv_aload_n hx hb dX10_pointLine_111 rfl (lv_at hl 1 rfl) ?_
        refine rd (ci := 10) (C := RX10) (T := TX10) (N := 37) hx hb hts inX10 hown hK hP 0 9 rfl rfl (by decide) (hts _ q_fX10_99) rfl dX10_pointLine_112 ?_
        refine lv_aload_n hx hb dX10_pointLine_115 rfl (lv_at hl 1 rfl) ?_
        refine rd (ci := 10) (C := RX10) (T := TX10) (N := 37) hx hb hts inX10 hown hK hP 0 11 rfl rfl (by decide) (hts _ q_fX10_20) rfl dX10_pointLine_116 ?_
        refine lv_bipush (v := (7 : Int32)) hx hb dX10_pointLine_119 (by decide) ?_
        obtain ⟨g_32, hf⟩ := gd_x hf
        refine va_iald hx hb hK hP 3 0 rfl rfl (inb_x g_32) dX10_pointLine_121 ?_
        obtain ⟨r_33, e_34, hf⟩ := bd1_x hf
        refine call_s [.int (o_told (Int32.toNatClampNeg (7 : Int32)))] [.int o_which_28] ⟨hx, hb, hml, hown, hts⟩ hK hP hD hS hA hl.1 (tX10_limitOf l G cI cJ cZ H.size (o_told (Int32.toNatClampNeg (7 : Int32))) r_33 e_34) (va_cwS 1 hts (gs q_mX10_152 q_s_yX10_limitOf q_n_RX10 q_k_yX10_limitOf) rfl rfl rfl (by decide +kernel) ⟨by decide, by decide⟩) rfl rfl (Nat.le_of_ble_eq_true rfl) dX10_pointLine_122 ⟨Nat.zero_le _, Nat.zero_le _⟩ [] [0, 1, 2, 3, 4, 5] [0, 1, 2, 3, 4, 5] rfl rfl (ws2 := (wX10_pointLine cI cJ cZ h_o h_o_isPoint h_o_tape h_o_told h_o_toldWave h_o_words h_o_isTold h_o_all h_o_quarter h_o_roots h_o_laidRe h_o_laidIm h_o_byOrder h_o_noted1 h_o_counts h_o_binBy o_tapeSize o_thrown o_fault o_faultPlace o_stop o_next_26 o_kind_27 o_which_28 o_at_29 o_pointsRead o_bank o_isImage o_undos o_runRadix o_runOrder o_runNear o_runLimit o_runHalves o_power o_notedMany o_knownTold o_drawn o_isPoint_25 o_tape o_told o_toldWave o_words)) rfl (fun H locs hP hD hS => ?_)
        refine W.eq (g2 := F0 m 125 ls [.int r_33, .int o_which_28]) rfl ?_
        refine lv_icmp_le (tgt := 134) hx hb dX10_pointLine_125 (by decide) (fun c_35 => ?_) (fun c_35 => ?_)
        · have hf := it_t c_35 hf
          refine lv_aload_n hx hb dX10_pointLine_134 rfl (lv_at hl 1 rfl) ?_
          refine rd (ci := 10) (C := RX10) (T := TX10) (N := 37) hx hb hts inX10 hown hK hP 0 13 rfl rfl (by decide) (hts _ q_fX10_27) rfl dX10_pointLine_135 ?_
          refine lv_bipush (v := (64 : Int32)) hx hb dX10_pointLine_138 (by decide) ?_
          refine lv_iload_n hx hb dX10_pointLine_140 rfl (lv_at hl 0 rfl) ?_
          refine lv_iadd hx hb dX10_pointLine_141 ?_
          refine lv_iload_n hx hb dX10_pointLine_142 rfl (lv_at hl 2 rfl) ?_
          refine lv_bipush (v := (7 : Int32)) hx hb dX10_pointLine_143 (by decide) ?_
          refine lv_icmp_eq (tgt := 154) hx hb dX10_pointLine_145 (by decide) (fun c_36 => ?_) (fun c_36 => ?_)
          · have hf := it_t c_36 hf
            exact j154 o_fault o_faultPlace o_next_26 o_kind_27 o_which_28 o_at_29 o_pointsRead o_isPoint_25 o_toldWave ((64 : Int32) + v2_21) H locs ls hf hP hD hS (lv_sub hl [1] rfl)
          · have hf := it_f c_36 hf
            refine lv_iload_n hx hb dX10_pointLine_148 rfl (lv_at hl 2 rfl) ?_
            refine lv_bipush (v := (9 : Int32)) hx hb dX10_pointLine_149 (by decide) ?_
            refine lv_icmp_ne (tgt := 162) hx hb dX10_pointLine_151 (by decide) (fun c_37 => ?_) (fun c_37 => ?_)
            · have hf := it_f c_37 hf
              refine lv_aload_n hx hb dX10_pointLine_162 rfl (lv_at hl 1 rfl) ?_
              refine rd (ci := 10) (C := RX10) (T := TX10) (N := 37) hx hb hts inX10 hown hK hP 0 9 rfl rfl (by decide) (hts _ q_fX10_99) rfl dX10_pointLine_163 ?_
              exact j166 o_fault o_faultPlace o_next_26 o_kind_27 o_which_28 o_at_29 o_pointsRead o_isPoint_25 o_toldWave ((64 : Int32) + v2_21) o_which_28 H locs ls hf hP hD hS (lv_sub hl [1] rfl)
            · have hf := it_t c_37 hf
              exact j154 o_fault o_faultPlace o_next_26 o_kind_27 o_which_28 o_at_29 o_pointsRead o_isPoint_25 o_toldWave ((64 : Int32) + v2_21) H locs ls hf hP hD hS (lv_sub hl [1] rfl)
        · have hf := it_f c_35 hf
          refine lv_aload_n hx hb dX10_pointLine_128 rfl (lv_at hl 1 rfl) ?_
          refine lv_iconst (v := (2 : Int32)) hx hb dX10_pointLine_129 (by decide) ?_
          obtain ⟨r_38, o_fault_39, o_faultPlace_40, e_41, hf⟩ := bd3_x hf
          refine call_v [.int (2 : Int32)] [] ⟨hx, hb, hml, hown, hts⟩ hK hP hD hS hA hl.1 (tX10_wrong l G cI cJ cZ H.size h_o h_o_tape h_o_words h_o_told h_o_isTold h_o_toldWave h_o_isPoint h_o_all h_o_quarter h_o_roots h_o_laidRe h_o_laidIm h_o_byOrder h_o_noted1 h_o_counts h_o_binBy o_tapeSize o_thrown o_fault o_faultPlace o_stop o_next_26 o_kind_27 o_which_28 o_at_29 o_pointsRead o_bank o_isImage o_undos o_runRadix o_runOrder o_runNear o_runLimit o_runHalves o_power o_notedMany o_knownTold o_drawn (2 : Int32) r_38 o_fault_39 o_faultPlace_40 e_41) (cwV 1 hts (gv q_mX10_142 q_i_yX10_wrong q_s_yX10_wrong q_n_RX10 q_k_yX10_wrong) rfl rfl rfl (by decide +kernel) ⟨by decide, by decide⟩) rfl rfl (Nat.le_of_ble_eq_true rfl) dX10_pointLine_130 ⟨Nat.zero_le _, Nat.zero_le _⟩ (ci := 10) rfl 0 rfl [0] [1, 2, 3, 4, 5] [5, 0, 1, 2, 3, 4] rfl rfl (ws2 := (wX10_pointLine cI cJ cZ h_o h_o_isPoint h_o_tape h_o_told h_o_toldWave h_o_words h_o_isTold h_o_all h_o_quarter h_o_roots h_o_laidRe h_o_laidIm h_o_byOrder h_o_noted1 h_o_counts h_o_binBy o_tapeSize o_thrown o_fault_39 o_faultPlace_40 o_stop o_next_26 o_kind_27 o_which_28 o_at_29 o_pointsRead o_bank o_isImage o_undos o_runRadix o_runOrder o_runNear o_runLimit o_runHalves o_power o_notedMany o_knownTold o_drawn o_isPoint_25 o_tape o_told o_toldWave o_words)) rfl (fun H locs hP hD hS => ?_)
          refine W.eq (g2 := F0 m 133 ls [.int r_38]) rfl ?_
          obtain ⟨g_42, hf⟩ := gd_x hf
          cases hf
          exact hret _ _ _ _ dX10_pointLine_133 (bl_n g_42) hP hD hS
      · have hf := it_f c_31 hf
        refine lv_aload_n hx hb dX10_pointLine_105 rfl (lv_at hl 1 rfl) ?_
        refine lv_iconst (v := (1 : Int32)) hx hb dX10_pointLine_106 (by decide) ?_
        obtain ⟨r_43, o_fault_44, o_faultPlace_45, e_46, hf⟩ := bd3_x hf
        refine call_v [.int (1 : Int32)] [] ⟨hx, hb, hml, hown, hts⟩ hK hP hD hS hA hl.1 (tX10_wrong l G cI cJ cZ H.size h_o h_o_tape h_o_words h_o_told h_o_isTold h_o_toldWave h_o_isPoint h_o_all h_o_quarter h_o_roots h_o_laidRe h_o_laidIm h_o_byOrder h_o_noted1 h_o_counts h_o_binBy o_tapeSize o_thrown o_fault o_faultPlace o_stop o_next_26 o_kind_27 o_which_28 o_at_29 o_pointsRead o_bank o_isImage o_undos o_runRadix o_runOrder o_runNear o_runLimit o_runHalves o_power o_notedMany o_knownTold o_drawn (1 : Int32) r_43 o_fault_44 o_faultPlace_45 e_46) (cwV 1 hts (gv q_mX10_142 q_i_yX10_wrong q_s_yX10_wrong q_n_RX10 q_k_yX10_wrong) rfl rfl rfl (by decide +kernel) ⟨by decide, by decide⟩) rfl rfl (Nat.le_of_ble_eq_true rfl) dX10_pointLine_107 ⟨Nat.zero_le _, Nat.zero_le _⟩ (ci := 10) rfl 0 rfl [0] [1, 2, 3, 4, 5] [5, 0, 1, 2, 3, 4] rfl rfl (ws2 := (wX10_pointLine cI cJ cZ h_o h_o_isPoint h_o_tape h_o_told h_o_toldWave h_o_words h_o_isTold h_o_all h_o_quarter h_o_roots h_o_laidRe h_o_laidIm h_o_byOrder h_o_noted1 h_o_counts h_o_binBy o_tapeSize o_thrown o_fault_44 o_faultPlace_45 o_stop o_next_26 o_kind_27 o_which_28 o_at_29 o_pointsRead o_bank o_isImage o_undos o_runRadix o_runOrder o_runNear o_runLimit o_runHalves o_power o_notedMany o_knownTold o_drawn o_isPoint_25 o_tape o_told o_toldWave o_words)) rfl (fun H locs hP hD hS => ?_)
        refine W.eq (g2 := F0 m 110 ls [.int r_43]) rfl ?_
        obtain ⟨g_47, hf⟩ := gd_x hf
        cases hf
        exact hret _ _ _ _ dX10_pointLine_110 (bl_n g_47) hP hD hS
    · have hf := it_f c_23 hf
      refine lv_aload_n hx hb dX10_pointLine_80 rfl (lv_at hl 1 rfl) ?_
      refine lv_iconst (v := (3 : Int32)) hx hb dX10_pointLine_81 (by decide) ?_
      obtain ⟨r_48, o_fault_49, o_faultPlace_50, e_51, hf⟩ := bd3_x hf
      refine call_v [.int (3 : Int32)] [] ⟨hx, hb, hml, hown, hts⟩ hK hP hD hS hA hl.1 (tX10_wrong l G cI cJ cZ H.size h_o h_o_tape h_o_words h_o_told h_o_isTold h_o_toldWave h_o_isPoint h_o_all h_o_quarter h_o_roots h_o_laidRe h_o_laidIm h_o_byOrder h_o_noted1 h_o_counts h_o_binBy o_tapeSize o_thrown o_fault o_faultPlace o_stop o_next o_kind o_which o_at o_pointsRead o_bank o_isImage o_undos o_runRadix o_runOrder o_runNear o_runLimit o_runHalves o_power o_notedMany o_knownTold o_drawn (3 : Int32) r_48 o_fault_49 o_faultPlace_50 e_51) (cwV 1 hts (gv q_mX10_142 q_i_yX10_wrong q_s_yX10_wrong q_n_RX10 q_k_yX10_wrong) rfl rfl rfl (by decide +kernel) ⟨by decide, by decide⟩) rfl rfl (Nat.le_of_ble_eq_true rfl) dX10_pointLine_82 ⟨Nat.zero_le _, Nat.zero_le _⟩ (ci := 10) rfl 0 rfl [0] [1, 2, 3, 4, 5] [5, 0, 1, 2, 3, 4] rfl rfl (ws2 := (wX10_pointLine cI cJ cZ h_o h_o_isPoint h_o_tape h_o_told h_o_toldWave h_o_words h_o_isTold h_o_all h_o_quarter h_o_roots h_o_laidRe h_o_laidIm h_o_byOrder h_o_noted1 h_o_counts h_o_binBy o_tapeSize o_thrown o_fault_49 o_faultPlace_50 o_stop o_next o_kind o_which o_at o_pointsRead o_bank o_isImage o_undos o_runRadix o_runOrder o_runNear o_runLimit o_runHalves o_power o_notedMany o_knownTold o_drawn o_isPoint o_tape o_told o_toldWave o_words)) rfl (fun H locs hP hD hS => ?_)
      refine W.eq (g2 := F0 m 85 ls [.int r_48]) rfl ?_
      obtain ⟨g_52, hf⟩ := gd_x hf
      cases hf
      exact hret _ _ _ _ dX10_pointLine_85 (bl_n g_52) hP hD hS
  unfold fX10_pointLine at hf
  obtain ⟨H, eH⟩ : ∃ H, H = s.heap := ⟨_, rfl⟩
  obtain ⟨locs, elocs⟩ : ∃ z : List Loc, z = [] := ⟨_, rfl⟩
  have hP : va_P G vwCl (wX10_pointLine cI cJ cZ h_o h_o_isPoint h_o_tape h_o_told h_o_toldWave h_o_words h_o_isTold h_o_all h_o_quarter h_o_roots h_o_laidRe h_o_laidIm h_o_byOrder h_o_noted1 h_o_counts h_o_binBy o_tapeSize o_thrown o_fault o_faultPlace o_stop o_next o_kind o_which o_at o_pointsRead o_bank o_isImage o_undos o_runRadix o_runOrder o_runNear o_runLimit o_runHalves o_power o_notedMany o_knownTold o_drawn o_isPoint o_tape o_told o_toldWave o_words) H := by rw [eH]; exact hP
  have hS : va_S A s.heap H locs := by rw [eH, elocs]; exact hS
  suffices hgo : W p l e ({ frames := 2, cells := 0, slots := 0, locals := 47 } : Room) s m ([.ref h_o] : List Value).toArray below meth c H locs 0 0 Q (F0 m 0 ls []) by rw [eH, elocs] at hgo; exact hgo
  clear eH elocs
  refine lv_aload_n hx hb dX10_pointLine_0 rfl (lv_at hl 0 rfl) ?_
  refine rd (ci := 10) (C := RX10) (T := TX10) (N := 37) hx hb hts inX10 hown hK hP 0 9 rfl rfl (by decide) (hts _ q_fX10_99) rfl dX10_pointLine_1 ?_
  refine lv_istore_n (lv' := [(1, .int o_which), (0, .ref h_o)]) hx hb dX10_pointLine_4 rfl hl (by decide) rfl (fun ls hl => ?_)
  refine lv_aload_n hx hb dX10_pointLine_5 rfl (lv_at hl 1 rfl) ?_
  refine lv_dup hx hb dX10_pointLine_6 rfl ?_
  refine rd (ci := 10) (C := RX10) (T := TX10) (N := 37) hx hb hts inX10 hown hK hP 0 15 rfl rfl (by decide) (hts _ q_fX10_106) rfl dX10_pointLine_7 ?_
  refine lv_iconst (v := (1 : Int32)) hx hb dX10_pointLine_10 (by decide) ?_
  refine lv_iadd hx hb dX10_pointLine_11 ?_
  refine lv_topi (fun u_1 eu_1 => ?_)
  have hf := nm_x eu_1 hf
  refine wr (ci := 10) (C := RX10) (T := TX10) (N := 37) hx hb hts inX10 tyX10 tyX10_ok nmX10 hown hK hP hD hS 0 15 rfl rfl (by decide) (hts _ q_fX10_106) rfl rfl rfl (Nat.le_of_ble_eq_true rfl) dX10_pointLine_12 (ws2 := (wX10_pointLine cI cJ cZ h_o h_o_isPoint h_o_tape h_o_told h_o_toldWave h_o_words h_o_isTold h_o_all h_o_quarter h_o_roots h_o_laidRe h_o_laidIm h_o_byOrder h_o_noted1 h_o_counts h_o_binBy o_tapeSize o_thrown o_fault o_faultPlace o_stop o_next o_kind o_which o_at u_1 o_bank o_isImage o_undos o_runRadix o_runOrder o_runNear o_runLimit o_runHalves o_power o_notedMany o_knownTold o_drawn o_isPoint o_tape o_told o_toldWave o_words)) rfl (fun H locs hP hD hS => ?_)
  refine lv_aload_n hx hb dX10_pointLine_15 rfl (lv_at hl 1 rfl) ?_
  obtain ⟨o_next_2, o_kind_3, o_which_4, o_at_5, e_6, hf⟩ := bd4_x hf
  refine call_v [] [] ⟨hx, hb, hml, hown, hts⟩ hK hP hD hS hA hl.1 (tX10_token l G cI cJ cZ H.size h_o h_o_tape h_o_words h_o_told h_o_isTold h_o_toldWave h_o_isPoint h_o_all h_o_quarter h_o_roots h_o_laidRe h_o_laidIm h_o_byOrder h_o_noted1 h_o_counts h_o_binBy o_tapeSize o_thrown o_fault o_faultPlace o_stop o_next o_kind o_which o_at u_1 o_bank o_isImage o_undos o_runRadix o_runOrder o_runNear o_runLimit o_runHalves o_power o_notedMany o_knownTold o_drawn o_tape o_words o_next_2 o_kind_3 o_which_4 o_at_5 e_6) (cwV 0 hts (gv q_mX10_145 q_i_yX10_token q_s_yX10_token q_n_RX10 q_k_yX10_token) rfl rfl rfl (by decide +kernel) ⟨by decide, by decide⟩) rfl rfl (Nat.le_of_ble_eq_true rfl) dX10_pointLine_16 ⟨Nat.zero_le _, Nat.zero_le _⟩ (ci := 10) rfl 0 rfl [0, 2, 5] [1, 3, 4] [3, 0, 4, 1, 2, 5] rfl rfl (ws2 := (wX10_pointLine cI cJ cZ h_o h_o_isPoint h_o_tape h_o_told h_o_toldWave h_o_words h_o_isTold h_o_all h_o_quarter h_o_roots h_o_laidRe h_o_laidIm h_o_byOrder h_o_noted1 h_o_counts h_o_binBy o_tapeSize o_thrown o_fault o_faultPlace o_stop o_next_2 o_kind_3 o_which_4 o_at_5 u_1 o_bank o_isImage o_undos o_runRadix o_runOrder o_runNear o_runLimit o_runHalves o_power o_notedMany o_knownTold o_drawn o_isPoint o_tape o_told o_toldWave o_words)) rfl (fun H locs hP hD hS => ?_)
  refine W.eq (g2 := F0 m 19 ls []) rfl ?_
  refine lv_aload_n hx hb dX10_pointLine_19 rfl (lv_at hl 1 rfl) ?_
  refine rd (ci := 10) (C := RX10) (T := TX10) (N := 37) hx hb hts inX10 hown hK hP 0 8 rfl rfl (by decide) (hts _ q_fX10_88) rfl dX10_pointLine_20 ?_
  refine lv_iconst (v := (2 : Int32)) hx hb dX10_pointLine_23 (by decide) ?_
  refine lv_icmp_eq (tgt := 33) hx hb dX10_pointLine_24 (by decide) (fun c_7 => ?_) (fun c_7 => ?_)
  · have hf := it_t c_7 hf
    refine lv_aload_n hx hb dX10_pointLine_33 rfl (lv_at hl 1 rfl) ?_
    refine rd (ci := 10) (C := RX10) (T := TX10) (N := 37) hx hb hts inX10 hown hK hP 0 9 rfl rfl (by decide) (hts _ q_fX10_99) rfl dX10_pointLine_34 ?_
    refine lv_aload_n hx hb dX10_pointLine_37 rfl (lv_at hl 1 rfl) ?_
    refine rd (ci := 10) (C := RX10) (T := TX10) (N := 37) hx hb hts inX10 hown hK hP 0 11 rfl rfl (by decide) (hts _ q_fX10_20) rfl dX10_pointLine_38 ?_
    refine lv_bipush (v := (6 : Int32)) hx hb dX10_pointLine_41 (by decide) ?_
    obtain ⟨g_8, hf⟩ := gd_x hf
    refine va_iald hx hb hK hP 3 0 rfl rfl (inb_x g_8) dX10_pointLine_43 ?_
    refine lv_icmp_lt (tgt := 53) hx hb dX10_pointLine_44 (by decide) (fun c_9 => ?_) (fun c_9 => ?_)
    · have hf := it_t c_9 hf
      refine lv_aload_n hx hb dX10_pointLine_53 rfl (lv_at hl 1 rfl) ?_
      refine rd (ci := 10) (C := RX10) (T := TX10) (N := 37) hx hb hts inX10 hown hK hP 0 9 rfl rfl (by decide) (hts _ q_fX10_99) rfl dX10_pointLine_54 ?_
      refine lv_iload_n hx hb dX10_pointLine_57 rfl (lv_at hl 0 rfl) ?_
      refine lv_bipush (v := (8 : Int32)) hx hb dX10_pointLine_58 (by decide) ?_
      refine lv_icmp_lt (tgt := 68) hx hb dX10_pointLine_60 (by decide) (fun c_10 => ?_) (fun c_10 => ?_)
      · have hf := it_t c_10 hf
        refine lv_iconst (v := (0 : Int32)) hx hb dX10_pointLine_68 (by decide) ?_
        exact j69 o_fault o_faultPlace o_next_2 o_kind_3 o_which_4 o_at_5 u_1 o_isPoint o_toldWave o_which o_which_4 (0 : Int32) H locs ls hf hP hD hS (lv_sub hl [1, 0] rfl)
      · have hf := it_f c_10 hf
        refine lv_bipush (v := (32 : Int32)) hx hb dX10_pointLine_63 (by decide) ?_
        refine lv_goto (tgt := 69) hx hb dX10_pointLine_65 (by decide) ?_
        exact j69 o_fault o_faultPlace o_next_2 o_kind_3 o_which_4 o_at_5 u_1 o_isPoint o_toldWave o_which o_which_4 (32 : Int32) H locs ls hf hP hD hS (lv_sub hl [1, 0] rfl)
    · have hf := it_f c_9 hf
      refine lv_aload_n hx hb dX10_pointLine_47 rfl (lv_at hl 1 rfl) ?_
      refine lv_iconst (v := (2 : Int32)) hx hb dX10_pointLine_48 (by decide) ?_
      obtain ⟨r_11, o_fault_12, o_faultPlace_13, e_14, hf⟩ := bd3_x hf
      refine call_v [.int (2 : Int32)] [] ⟨hx, hb, hml, hown, hts⟩ hK hP hD hS hA hl.1 (tX10_wrong l G cI cJ cZ H.size h_o h_o_tape h_o_words h_o_told h_o_isTold h_o_toldWave h_o_isPoint h_o_all h_o_quarter h_o_roots h_o_laidRe h_o_laidIm h_o_byOrder h_o_noted1 h_o_counts h_o_binBy o_tapeSize o_thrown o_fault o_faultPlace o_stop o_next_2 o_kind_3 o_which_4 o_at_5 u_1 o_bank o_isImage o_undos o_runRadix o_runOrder o_runNear o_runLimit o_runHalves o_power o_notedMany o_knownTold o_drawn (2 : Int32) r_11 o_fault_12 o_faultPlace_13 e_14) (cwV 1 hts (gv q_mX10_142 q_i_yX10_wrong q_s_yX10_wrong q_n_RX10 q_k_yX10_wrong) rfl rfl rfl (by decide +kernel) ⟨by decide, by decide⟩) rfl rfl (Nat.le_of_ble_eq_true rfl) dX10_pointLine_49 ⟨Nat.zero_le _, Nat.zero_le _⟩ (ci := 10) rfl 0 rfl [0] [1, 2, 3, 4, 5] [5, 0, 1, 2, 3, 4] rfl rfl (ws2 := (wX10_pointLine cI cJ cZ h_o h_o_isPoint h_o_tape h_o_told h_o_toldWave h_o_words h_o_isTold h_o_all h_o_quarter h_o_roots h_o_laidRe h_o_laidIm h_o_byOrder h_o_noted1 h_o_counts h_o_binBy o_tapeSize o_thrown o_fault_12 o_faultPlace_13 o_stop o_next_2 o_kind_3 o_which_4 o_at_5 u_1 o_bank o_isImage o_undos o_runRadix o_runOrder o_runNear o_runLimit o_runHalves o_power o_notedMany o_knownTold o_drawn o_isPoint o_tape o_told o_toldWave o_words)) rfl (fun H locs hP hD hS => ?_)
      refine W.eq (g2 := F0 m 52 ls [.int r_11]) rfl ?_
      obtain ⟨g_15, hf⟩ := gd_x hf
      cases hf
      exact hret _ _ _ _ dX10_pointLine_52 (bl_n g_15) hP hD hS
  · have hf := it_f c_7 hf
    refine lv_aload_n hx hb dX10_pointLine_27 rfl (lv_at hl 1 rfl) ?_
    refine lv_iconst (v := (1 : Int32)) hx hb dX10_pointLine_28 (by decide) ?_
    obtain ⟨r_16, o_fault_17, o_faultPlace_18, e_19, hf⟩ := bd3_x hf
    refine call_v [.int (1 : Int32)] [] ⟨hx, hb, hml, hown, hts⟩ hK hP hD hS hA hl.1 (tX10_wrong l G cI cJ cZ H.size h_o h_o_tape h_o_words h_o_told h_o_isTold h_o_toldWave h_o_isPoint h_o_all h_o_quarter h_o_roots h_o_laidRe h_o_laidIm h_o_byOrder h_o_noted1 h_o_counts h_o_binBy o_tapeSize o_thrown o_fault o_faultPlace o_stop o_next_2 o_kind_3 o_which_4 o_at_5 u_1 o_bank o_isImage o_undos o_runRadix o_runOrder o_runNear o_runLimit o_runHalves o_power o_notedMany o_knownTold o_drawn (1 : Int32) r_16 o_fault_17 o_faultPlace_18 e_19) (cwV 1 hts (gv q_mX10_142 q_i_yX10_wrong q_s_yX10_wrong q_n_RX10 q_k_yX10_wrong) rfl rfl rfl (by decide +kernel) ⟨by decide, by decide⟩) rfl rfl (Nat.le_of_ble_eq_true rfl) dX10_pointLine_29 ⟨Nat.zero_le _, Nat.zero_le _⟩ (ci := 10) rfl 0 rfl [0] [1, 2, 3, 4, 5] [5, 0, 1, 2, 3, 4] rfl rfl (ws2 := (wX10_pointLine cI cJ cZ h_o h_o_isPoint h_o_tape h_o_told h_o_toldWave h_o_words h_o_isTold h_o_all h_o_quarter h_o_roots h_o_laidRe h_o_laidIm h_o_byOrder h_o_noted1 h_o_counts h_o_binBy o_tapeSize o_thrown o_fault_17 o_faultPlace_18 o_stop o_next_2 o_kind_3 o_which_4 o_at_5 u_1 o_bank o_isImage o_undos o_runRadix o_runOrder o_runNear o_runLimit o_runHalves o_power o_notedMany o_knownTold o_drawn o_isPoint o_tape o_told o_toldWave o_words)) rfl (fun H locs hP hD hS => ?_)
    refine W.eq (g2 := F0 m 32 ls [.int r_16]) rfl ?_
    obtain ⟨g_20, hf⟩ := gd_x hf
    cases hf
    exact hret _ _ _ _ dX10_pointLine_32 (bl_n g_20) hP hD hS
def wX10_lineRead (cI cJ cZ : ClassId) (h_o h_o_isPoint h_o_isTold h_o_tape h_o_told h_o_toldWave h_o_words h_o_all h_o_quarter h_o_roots h_o_laidRe h_o_laidIm h_o_byOrder h_o_noted1 h_o_counts h_o_binBy : Nat) (o_tapeSize : Int32) (o_thrown : Int32) (o_fault : Int32) (o_faultPlace : Int32) (o_stop : Int32) (o_next : Int32) (o_kind : Int32) (o_which : Int32) (o_at : Int32) (o_pointsRead : Int32) (o_bank : Int32) (o_isImage : Int32) (o_undos : Int32) (o_runRadix : Int32) (o_runOrder : Int32) (o_runNear : Int32) (o_runLimit : Int32) (o_runHalves : Int32) (o_power : Int32) (o_notedMany : Int32) (o_knownTold : Int32) (o_drawn : Int64) (o_isPoint : Nat → Int32) (o_isTold : Nat → Int32) (o_tape : Nat → Int32) (o_told : Nat → Int32) (o_toldWave : Nat → Int32) (o_words : Nat → Int32) : va_W := [(h_o, .inr (10, [.ref h_o_tape, .int o_tapeSize, .int o_thrown, .ref h_o_words, .int o_fault, .int o_faultPlace, .int o_stop, .int o_next, .int o_kind, .int o_which, .int o_at, .ref h_o_told, .ref h_o_isTold, .ref h_o_toldWave, .ref h_o_isPoint, .int o_pointsRead, .ref h_o_all, .int o_bank, .int o_isImage, .int o_undos, .int o_runRadix, .int o_runOrder, .int o_runNear, .int o_runLimit, .int o_runHalves, .ref h_o_quarter, .int o_power, .ref h_o_roots, .ref h_o_laidRe, .ref h_o_laidIm, .ref h_o_byOrder, .int o_notedMany, .int o_knownTold, .ref h_o_noted1, .ref h_o_counts, .ref h_o_binBy, .long o_drawn])), (h_o_isPoint, .inl (cZ, 64, .inl o_isPoint)), (h_o_isTold, .inl (cZ, 6, .inl o_isTold)), (h_o_tape, .inl (cI, 700, .inl o_tape)), (h_o_told, .inl (cI, 12, .inl o_told)), (h_o_toldWave, .inl (cI, 128, .inl o_toldWave)), (h_o_words, .inl (cI, 52, .inl o_words))]
def fX10_lineRead_34 (o_stop : Int32) (o_tape : Nat → Int32) (o_words : Nat → Int32) (o_fault : Int32) (o_faultPlace : Int32) (o_next : Int32) (o_kind : Int32) (o_which : Int32) (o_at : Int32) (o_pointsRead : Int32) (o_isPoint : Nat → Int32) (o_isTold : Nat → Int32) (o_told : Nat → Int32) (o_toldWave : Nat → Int32) (s0 : Int32) : Option (Int32 × Int32 × Int32 × Int32 × Int32 × Int32 × Int32 × Int32 × (Nat → Int32) × (Nat → Int32) × (Nat → Int32) × (Nat → Int32)) :=
  if s0 = 0 then (
    some ((0 : Int32), o_fault, o_faultPlace, o_next, o_kind, o_which, o_at, o_pointsRead, o_isPoint, o_isTold, o_told, o_toldWave)
  ) else (
    if o_kind = (3 : Int32) then (
      bd4 (fX10_token o_stop o_next o_kind o_which o_at o_tape o_words) (fun o_next_31 o_kind_32 o_which_33 o_at_34 =>
      some ((1 : Int32), o_fault, o_faultPlace, o_next_31, o_kind_32, o_which_33, o_at_34, o_pointsRead, o_isPoint, o_isTold, o_told, o_toldWave))
    ) else (
      bd3 (fX10_wrong o_fault o_faultPlace o_at (1 : Int32)) (fun r_36 o_fault_37 o_faultPlace_38 =>
      gd (bl r_36) (
      some (r_36, o_fault_37, o_faultPlace_38, o_next, o_kind, o_which, o_at, o_pointsRead, o_isPoint, o_isTold, o_told, o_toldWave)))
    )
  )
def fX10_lineRead (o_fault : Int32) (o_faultPlace : Int32) (o_stop : Int32) (o_next : Int32) (o_kind : Int32) (o_which : Int32) (o_at : Int32) (o_pointsRead : Int32) (o_isPoint : Nat → Int32) (o_isTold : Nat → Int32) (o_tape : Nat → Int32) (o_told : Nat → Int32) (o_toldWave : Nat → Int32) (o_words : Nat → Int32) : Option (Int32 × Int32 × Int32 × Int32 × Int32 × Int32 × Int32 × Int32 × (Nat → Int32) × (Nat → Int32) × (Nat → Int32) × (Nat → Int32)) :=
  if o_kind = (1 : Int32) then (
    if o_which < (6 : Int32) then (
      bd9 (fX10_wordLine o_fault o_faultPlace o_stop o_next o_kind o_which o_at o_pointsRead o_isTold o_tape o_told o_words) (fun r_3 o_fault_4 o_faultPlace_5 o_next_6 o_kind_7 o_which_8 o_at_9 o_isTold_10 o_told_11 =>
      fX10_lineRead_34 o_stop o_tape o_words o_fault_4 o_faultPlace_5 o_next_6 o_kind_7 o_which_8 o_at_9 o_pointsRead o_isPoint o_isTold_10 o_told_11 o_toldWave r_3)
    ) else (
      bd10 (fX10_pointLine o_fault o_faultPlace o_stop o_next o_kind o_which o_at o_pointsRead o_isPoint o_tape o_told o_toldWave o_words) (fun r_13 o_fault_14 o_faultPlace_15 o_next_16 o_kind_17 o_which_18 o_at_19 o_pointsRead_20 o_isPoint_21 o_toldWave_22 =>
      fX10_lineRead_34 o_stop o_tape o_words o_fault_14 o_faultPlace_15 o_next_16 o_kind_17 o_which_18 o_at_19 o_pointsRead_20 o_isPoint_21 o_isTold o_told o_toldWave_22 r_13)
    )
  ) else (
    bd3 (fX10_wrong o_fault o_faultPlace o_at (1 : Int32)) (fun r_24 o_fault_25 o_faultPlace_26 =>
    gd (bl r_24) (
    some (r_24, o_fault_25, o_faultPlace_26, o_next, o_kind, o_which, o_at, o_pointsRead, o_isPoint, o_isTold, o_told, o_toldWave)))
  )
set_option maxHeartbeats 4000000 in
set_option maxRecDepth 100000 in
theorem tX10_lineRead (l : Launch) (G : va_G) (cI cJ cZ : ClassId) (sz : Nat) (h_o h_o_isPoint h_o_isTold h_o_tape h_o_told h_o_toldWave h_o_words h_o_all h_o_quarter h_o_roots h_o_laidRe h_o_laidIm h_o_byOrder h_o_noted1 h_o_counts h_o_binBy : Nat) (o_tapeSize : Int32) (o_thrown : Int32) (o_fault : Int32) (o_faultPlace : Int32) (o_stop : Int32) (o_next : Int32) (o_kind : Int32) (o_which : Int32) (o_at : Int32) (o_pointsRead : Int32) (o_bank : Int32) (o_isImage : Int32) (o_undos : Int32) (o_runRadix : Int32) (o_runOrder : Int32) (o_runNear : Int32) (o_runLimit : Int32) (o_runHalves : Int32) (o_power : Int32) (o_notedMany : Int32) (o_knownTold : Int32) (o_drawn : Int64) (o_isPoint : Nat → Int32) (o_isTold : Nat → Int32) (o_tape : Nat → Int32) (o_told : Nat → Int32) (o_toldWave : Nat → Int32) (o_words : Nat → Int32) (r : Int32) (out_o_fault : Int32) (out_o_faultPlace : Int32) (out_o_next : Int32) (out_o_kind : Int32) (out_o_which : Int32) (out_o_at : Int32) (out_o_pointsRead : Int32) (out_o_isPoint : Nat → Int32) (out_o_isTold : Nat → Int32) (out_o_told : Nat → Int32) (out_o_toldWave : Nat → Int32) (hf : fX10_lineRead o_fault o_faultPlace o_stop o_next o_kind o_which o_at o_pointsRead o_isPoint o_isTold o_tape o_told o_toldWave o_words = some (r, out_o_fault, out_o_faultPlace, out_o_next, out_o_kind, out_o_which, out_o_at, out_o_pointsRead, out_o_isPoint, out_o_isTold, out_o_told, out_o_toldWave)) : Met l yX10_lineRead (Cond.code yX10_lineRead cX10_lineRead 2 (some .boolean) :: BIG) ({ frames := 3, cells := 0, slots := 0, locals := 69 } : Room) (cP G (TY3 cI cJ cZ) [.ref h_o] sz (wX10_lineRead cI cJ cZ h_o h_o_isPoint h_o_isTold h_o_tape h_o_told h_o_toldWave h_o_words h_o_all h_o_quarter h_o_roots h_o_laidRe h_o_laidIm h_o_byOrder h_o_noted1 h_o_counts h_o_binBy o_tapeSize o_thrown o_fault o_faultPlace o_stop o_next o_kind o_which o_at o_pointsRead o_bank o_isImage o_undos o_runRadix o_runOrder o_runNear o_runLimit o_runHalves o_power o_notedMany o_knownTold o_drawn o_isPoint o_isTold o_tape o_told o_toldWave o_words)) (cQ G (TY3 cI cJ cZ) sz (wX10_lineRead cI cJ cZ h_o h_o_isPoint h_o_isTold h_o_tape h_o_told h_o_toldWave h_o_words h_o_all h_o_quarter h_o_roots h_o_laidRe h_o_laidIm h_o_byOrder h_o_noted1 h_o_counts h_o_binBy o_tapeSize o_thrown o_fault o_faultPlace o_stop o_next o_kind o_which o_at o_pointsRead o_bank o_isImage o_undos o_runRadix o_runOrder o_runNear o_runLimit o_runHalves o_power o_notedMany o_knownTold o_drawn o_isPoint o_isTold o_tape o_told o_toldWave o_words) (wX10_lineRead cI cJ cZ h_o h_o_isPoint h_o_isTold h_o_tape h_o_told h_o_toldWave h_o_words h_o_all h_o_quarter h_o_roots h_o_laidRe h_o_laidIm h_o_byOrder h_o_noted1 h_o_counts h_o_binBy o_tapeSize o_thrown out_o_fault out_o_faultPlace o_stop out_o_next out_o_kind out_o_which out_o_at out_o_pointsRead o_bank o_isImage o_undos o_runRadix o_runOrder o_runNear o_runLimit o_runHalves o_power o_notedMany o_knownTold o_drawn out_o_isPoint out_o_isTold o_tape out_o_told out_o_toldWave o_words) (some (.int r))) 0 0 (va_A (wX10_lineRead cI cJ cZ h_o h_o_isPoint h_o_isTold h_o_tape h_o_told h_o_toldWave h_o_words h_o_all h_o_quarter h_o_roots h_o_laidRe h_o_laidIm h_o_byOrder h_o_noted1 h_o_counts h_o_binBy o_tapeSize o_thrown o_fault o_faultPlace o_stop o_next o_kind o_which o_at o_pointsRead o_bank o_isImage o_undos o_runRadix o_runOrder o_runNear o_runLimit o_runHalves o_power o_notedMany o_knownTold o_drawn o_isPoint o_isTold o_tape o_told o_toldWave o_words) sz) := by
  refine met_z (cc := cX10_lineRead) (maxL := 2) (plainFor_of_name (by decide)) (Nat.le_of_ble_eq_true rfl) (fun p e s m below meth c A ls Q hx hb hml hts hown hK hP hD hS hA hl hret => ?_)
  have hown : s.vm.findClass RX10 = some m.cls := hown
  have hl : lv_has ls 2 [(0, .ref h_o)] := hl
  have j34 : ∀ (o_fault : Int32) (o_faultPlace : Int32) (o_next : Int32) (o_kind : Int32) (o_which : Int32) (o_at : Int32) (o_pointsRead : Int32) (o_isPoint : Nat → Int32) (o_isTold : Nat → Int32) (o_told : Nat → Int32) (o_toldWave : Nat → Int32) (s0 : Int32) (H : Heap) (locs : List Loc) (ls : Array Slot), fX10_lineRead_34 o_stop o_tape o_words o_fault o_faultPlace o_next o_kind o_which o_at o_pointsRead o_isPoint o_isTold o_told o_toldWave s0 = some (r, out_o_fault, out_o_faultPlace, out_o_next, out_o_kind, out_o_which, out_o_at, out_o_pointsRead, out_o_isPoint, out_o_isTold, out_o_told, out_o_toldWave) → va_P G vwCl (wX10_lineRead cI cJ cZ h_o h_o_isPoint h_o_isTold h_o_tape h_o_told h_o_toldWave h_o_words h_o_all h_o_quarter h_o_roots h_o_laidRe h_o_laidIm h_o_byOrder h_o_noted1 h_o_counts h_o_binBy o_tapeSize o_thrown o_fault o_faultPlace o_stop o_next o_kind o_which o_at o_pointsRead o_bank o_isImage o_undos o_runRadix o_runOrder o_runNear o_runLimit o_runHalves o_power o_notedMany o_knownTold o_drawn o_isPoint o_isTold o_tape o_told o_toldWave o_words) H → va_D A (wX10_lineRead cI cJ cZ h_o h_o_isPoint h_o_isTold h_o_tape h_o_told h_o_toldWave h_o_words h_o_all h_o_quarter h_o_roots h_o_laidRe h_o_laidIm h_o_byOrder h_o_noted1 h_o_counts h_o_binBy o_tapeSize o_thrown o_fault o_faultPlace o_stop o_next o_kind o_which o_at o_pointsRead o_bank o_isImage o_undos o_runRadix o_runOrder o_runNear o_runLimit o_runHalves o_power o_notedMany o_knownTold o_drawn o_isPoint o_isTold o_tape o_told o_toldWave o_words) → va_S A s.heap H locs → lv_has ls 2 [(0, .ref h_o)] → W p l e ({ frames := 3, cells := 0, slots := 0, locals := 69 } : Room) s m ([.ref h_o] : List Value).toArray below meth c H locs 0 0 Q (F0 m 34 ls [.int s0]) := by
    intro o_fault o_faultPlace o_next o_kind o_which o_at o_pointsRead o_isPoint o_isTold o_told o_toldWave s0 H locs ls hf hP hD hS hl
    unfold fX10_lineRead_34 at hf
    refine lv_istore_n (lv' := [(1, .int s0), (0, .ref h_o)]) hx hb dX10_lineRead_34 rfl hl (by decide) rfl (fun ls hl => ?_)
    refine lv_iload_n hx hb dX10_lineRead_35 rfl (lv_at hl 0 rfl) ?_
    refine lv_if_ne (tgt := 41) hx hb dX10_lineRead_36 (by decide) (fun c_29 => ?_) (fun c_29 => ?_)
    · have hf := it_f c_29 hf
      refine lv_aload_n hx hb dX10_lineRead_41 rfl (lv_at hl 1 rfl) ?_
      refine rd (ci := 10) (C := RX10) (T := TX10) (N := 37) hx hb hts inX10 hown hK hP 0 8 rfl rfl (by decide) (hts _ q_fX10_88) rfl dX10_lineRead_42 ?_
      refine lv_iconst (v := (3 : Int32)) hx hb dX10_lineRead_45 (by decide) ?_
      refine lv_icmp_eq (tgt := 55) hx hb dX10_lineRead_46 (by decide) (fun c_30 => ?_) (fun c_30 => ?_)
      · have hf := it_t c_30 hf
        refine lv_aload_n hx hb dX10_lineRead_55 rfl (lv_at hl 1 rfl) ?_
        obtain ⟨o_next_31, o_kind_32, o_which_33, o_at_34, e_35, hf⟩ := bd4_x hf
        refine call_v [] [] ⟨hx, hb, hml, hown, hts⟩ hK hP hD hS hA hl.1 (tX10_token l G cI cJ cZ H.size h_o h_o_tape h_o_words h_o_told h_o_isTold h_o_toldWave h_o_isPoint h_o_all h_o_quarter h_o_roots h_o_laidRe h_o_laidIm h_o_byOrder h_o_noted1 h_o_counts h_o_binBy o_tapeSize o_thrown o_fault o_faultPlace o_stop o_next o_kind o_which o_at o_pointsRead o_bank o_isImage o_undos o_runRadix o_runOrder o_runNear o_runLimit o_runHalves o_power o_notedMany o_knownTold o_drawn o_tape o_words o_next_31 o_kind_32 o_which_33 o_at_34 e_35) (cwV 0 hts (gv q_mX10_145 q_i_yX10_token q_s_yX10_token q_n_RX10 q_k_yX10_token) rfl rfl rfl (by decide +kernel) ⟨by decide, by decide⟩) rfl rfl (Nat.le_of_ble_eq_true rfl) dX10_lineRead_56 ⟨Nat.zero_le _, Nat.zero_le _⟩ (ci := 10) rfl 0 rfl [0, 3, 6] [1, 2, 4, 5] [4, 0, 1, 5, 2, 3, 6] rfl rfl (ws2 := (wX10_lineRead cI cJ cZ h_o h_o_isPoint h_o_isTold h_o_tape h_o_told h_o_toldWave h_o_words h_o_all h_o_quarter h_o_roots h_o_laidRe h_o_laidIm h_o_byOrder h_o_noted1 h_o_counts h_o_binBy o_tapeSize o_thrown o_fault o_faultPlace o_stop o_next_31 o_kind_32 o_which_33 o_at_34 o_pointsRead o_bank o_isImage o_undos o_runRadix o_runOrder o_runNear o_runLimit o_runHalves o_power o_notedMany o_knownTold o_drawn o_isPoint o_isTold o_tape o_told o_toldWave o_words)) rfl (fun H locs hP hD hS => ?_)
        refine W.eq (g2 := F0 m 59 ls []) rfl ?_
        refine lv_iconst (v := (1 : Int32)) hx hb dX10_lineRead_59 (by decide) ?_
        cases hf
        exact hret _ _ _ _ dX10_lineRead_60 rfl hP hD hS
      · have hf := it_f c_30 hf
        refine lv_aload_n hx hb dX10_lineRead_49 rfl (lv_at hl 1 rfl) ?_
        refine lv_iconst (v := (1 : Int32)) hx hb dX10_lineRead_50 (by decide) ?_
        obtain ⟨r_36, o_fault_37, o_faultPlace_38, e_39, hf⟩ := bd3_x hf
        refine call_v [.int (1 : Int32)] [] ⟨hx, hb, hml, hown, hts⟩ hK hP hD hS hA hl.1 (tX10_wrong l G cI cJ cZ H.size h_o h_o_tape h_o_words h_o_told h_o_isTold h_o_toldWave h_o_isPoint h_o_all h_o_quarter h_o_roots h_o_laidRe h_o_laidIm h_o_byOrder h_o_noted1 h_o_counts h_o_binBy o_tapeSize o_thrown o_fault o_faultPlace o_stop o_next o_kind o_which o_at o_pointsRead o_bank o_isImage o_undos o_runRadix o_runOrder o_runNear o_runLimit o_runHalves o_power o_notedMany o_knownTold o_drawn (1 : Int32) r_36 o_fault_37 o_faultPlace_38 e_39) (cwV 1 hts (gv q_mX10_142 q_i_yX10_wrong q_s_yX10_wrong q_n_RX10 q_k_yX10_wrong) rfl rfl rfl (by decide +kernel) ⟨by decide, by decide⟩) rfl rfl (Nat.le_of_ble_eq_true rfl) dX10_lineRead_51 ⟨Nat.zero_le _, Nat.zero_le _⟩ (ci := 10) rfl 0 rfl [0] [1, 2, 3, 4, 5, 6] [6, 0, 1, 2, 3, 4, 5] rfl rfl (ws2 := (wX10_lineRead cI cJ cZ h_o h_o_isPoint h_o_isTold h_o_tape h_o_told h_o_toldWave h_o_words h_o_all h_o_quarter h_o_roots h_o_laidRe h_o_laidIm h_o_byOrder h_o_noted1 h_o_counts h_o_binBy o_tapeSize o_thrown o_fault_37 o_faultPlace_38 o_stop o_next o_kind o_which o_at o_pointsRead o_bank o_isImage o_undos o_runRadix o_runOrder o_runNear o_runLimit o_runHalves o_power o_notedMany o_knownTold o_drawn o_isPoint o_isTold o_tape o_told o_toldWave o_words)) rfl (fun H locs hP hD hS => ?_)
        refine W.eq (g2 := F0 m 54 ls [.int r_36]) rfl ?_
        obtain ⟨g_40, hf⟩ := gd_x hf
        cases hf
        exact hret _ _ _ _ dX10_lineRead_54 (bl_n g_40) hP hD hS
    · have hf := it_t c_29 hf
      refine lv_iconst (v := (0 : Int32)) hx hb dX10_lineRead_39 (by decide) ?_
      cases hf
      exact hret _ _ _ _ dX10_lineRead_40 rfl hP hD hS
  unfold fX10_lineRead at hf
  obtain ⟨H, eH⟩ : ∃ H, H = s.heap := ⟨_, rfl⟩
  obtain ⟨locs, elocs⟩ : ∃ z : List Loc, z = [] := ⟨_, rfl⟩
  have hP : va_P G vwCl (wX10_lineRead cI cJ cZ h_o h_o_isPoint h_o_isTold h_o_tape h_o_told h_o_toldWave h_o_words h_o_all h_o_quarter h_o_roots h_o_laidRe h_o_laidIm h_o_byOrder h_o_noted1 h_o_counts h_o_binBy o_tapeSize o_thrown o_fault o_faultPlace o_stop o_next o_kind o_which o_at o_pointsRead o_bank o_isImage o_undos o_runRadix o_runOrder o_runNear o_runLimit o_runHalves o_power o_notedMany o_knownTold o_drawn o_isPoint o_isTold o_tape o_told o_toldWave o_words) H := by rw [eH]; exact hP
  have hS : va_S A s.heap H locs := by rw [eH, elocs]; exact hS
  suffices hgo : W p l e ({ frames := 3, cells := 0, slots := 0, locals := 69 } : Room) s m ([.ref h_o] : List Value).toArray below meth c H locs 0 0 Q (F0 m 0 ls []) by rw [eH, elocs] at hgo; exact hgo
  clear eH elocs
  refine lv_aload_n hx hb dX10_lineRead_0 rfl (lv_at hl 0 rfl) ?_
  refine rd (ci := 10) (C := RX10) (T := TX10) (N := 37) hx hb hts inX10 hown hK hP 0 8 rfl rfl (by decide) (hts _ q_fX10_88) rfl dX10_lineRead_1 ?_
  refine lv_iconst (v := (1 : Int32)) hx hb dX10_lineRead_4 (by decide) ?_
  refine lv_icmp_eq (tgt := 14) hx hb dX10_lineRead_5 (by decide) (fun c_1 => ?_) (fun c_1 => ?_)
  · have hf := it_t c_1 hf
    refine lv_aload_n hx hb dX10_lineRead_14 rfl (lv_at hl 0 rfl) ?_
    refine rd (ci := 10) (C := RX10) (T := TX10) (N := 37) hx hb hts inX10 hown hK hP 0 9 rfl rfl (by decide) (hts _ q_fX10_99) rfl dX10_lineRead_15 ?_
    refine lv_bipush (v := (6 : Int32)) hx hb dX10_lineRead_18 (by decide) ?_
    refine lv_icmp_lt (tgt := 30) hx hb dX10_lineRead_20 (by decide) (fun c_2 => ?_) (fun c_2 => ?_)
    · have hf := it_t c_2 hf
      refine lv_aload_n hx hb dX10_lineRead_30 rfl (lv_at hl 0 rfl) ?_
      obtain ⟨r_3, o_fault_4, o_faultPlace_5, o_next_6, o_kind_7, o_which_8, o_at_9, o_isTold_10, o_told_11, e_12, hf⟩ := bd9_x hf
      refine call_v [] [] ⟨hx, hb, hml, hown, hts⟩ hK hP hD hS hA hl.1 (tX10_wordLine l G cI cJ cZ H.size h_o h_o_isTold h_o_tape h_o_told h_o_words h_o_toldWave h_o_isPoint h_o_all h_o_quarter h_o_roots h_o_laidRe h_o_laidIm h_o_byOrder h_o_noted1 h_o_counts h_o_binBy o_tapeSize o_thrown o_fault o_faultPlace o_stop o_next o_kind o_which o_at o_pointsRead o_bank o_isImage o_undos o_runRadix o_runOrder o_runNear o_runLimit o_runHalves o_power o_notedMany o_knownTold o_drawn o_isTold o_tape o_told o_words r_3 o_fault_4 o_faultPlace_5 o_next_6 o_kind_7 o_which_8 o_at_9 o_isTold_10 o_told_11 e_12) (cwV 0 hts (gv q_mX10_160 q_i_yX10_wordLine q_s_yX10_wordLine q_n_RX10 q_k_yX10_wordLine) rfl rfl rfl (by decide +kernel) ⟨by decide, by decide⟩) rfl rfl (Nat.le_of_ble_eq_true rfl) dX10_lineRead_31 ⟨Nat.zero_le _, Nat.zero_le _⟩ (ci := 10) rfl 0 rfl [0, 2, 3, 4, 6] [1, 5] [2, 0, 3, 4, 5, 1, 6] rfl rfl (ws2 := (wX10_lineRead cI cJ cZ h_o h_o_isPoint h_o_isTold h_o_tape h_o_told h_o_toldWave h_o_words h_o_all h_o_quarter h_o_roots h_o_laidRe h_o_laidIm h_o_byOrder h_o_noted1 h_o_counts h_o_binBy o_tapeSize o_thrown o_fault_4 o_faultPlace_5 o_stop o_next_6 o_kind_7 o_which_8 o_at_9 o_pointsRead o_bank o_isImage o_undos o_runRadix o_runOrder o_runNear o_runLimit o_runHalves o_power o_notedMany o_knownTold o_drawn o_isPoint o_isTold_10 o_tape o_told_11 o_toldWave o_words)) rfl (fun H locs hP hD hS => ?_)
      refine W.eq (g2 := F0 m 34 ls [.int r_3]) rfl ?_
      exact j34 o_fault_4 o_faultPlace_5 o_next_6 o_kind_7 o_which_8 o_at_9 o_pointsRead o_isPoint o_isTold_10 o_told_11 o_toldWave r_3 H locs ls hf hP hD hS (lv_sub hl [0] rfl)
    · have hf := it_f c_2 hf
      refine lv_aload_n hx hb dX10_lineRead_23 rfl (lv_at hl 0 rfl) ?_
      obtain ⟨r_13, o_fault_14, o_faultPlace_15, o_next_16, o_kind_17, o_which_18, o_at_19, o_pointsRead_20, o_isPoint_21, o_toldWave_22, e_23, hf⟩ := bd10_x hf
      refine call_v [] [] ⟨hx, hb, hml, hown, hts⟩ hK hP hD hS hA hl.1 (tX10_pointLine l G cI cJ cZ H.size h_o h_o_isPoint h_o_tape h_o_told h_o_toldWave h_o_words h_o_isTold h_o_all h_o_quarter h_o_roots h_o_laidRe h_o_laidIm h_o_byOrder h_o_noted1 h_o_counts h_o_binBy o_tapeSize o_thrown o_fault o_faultPlace o_stop o_next o_kind o_which o_at o_pointsRead o_bank o_isImage o_undos o_runRadix o_runOrder o_runNear o_runLimit o_runHalves o_power o_notedMany o_knownTold o_drawn o_isPoint o_tape o_told o_toldWave o_words r_13 o_fault_14 o_faultPlace_15 o_next_16 o_kind_17 o_which_18 o_at_19 o_pointsRead_20 o_isPoint_21 o_toldWave_22 e_23) (cwV 0 hts (gv q_mX10_156 q_i_yX10_pointLine q_s_yX10_pointLine q_n_RX10 q_k_yX10_pointLine) rfl rfl rfl (by decide +kernel) ⟨by decide, by decide⟩) rfl rfl (Nat.le_of_ble_eq_true rfl) dX10_lineRead_24 ⟨Nat.zero_le _, Nat.zero_le _⟩ (ci := 10) rfl 0 rfl [0, 1, 3, 4, 5, 6] [2] [1, 2, 0, 3, 4, 5, 6] rfl rfl (ws2 := (wX10_lineRead cI cJ cZ h_o h_o_isPoint h_o_isTold h_o_tape h_o_told h_o_toldWave h_o_words h_o_all h_o_quarter h_o_roots h_o_laidRe h_o_laidIm h_o_byOrder h_o_noted1 h_o_counts h_o_binBy o_tapeSize o_thrown o_fault_14 o_faultPlace_15 o_stop o_next_16 o_kind_17 o_which_18 o_at_19 o_pointsRead_20 o_bank o_isImage o_undos o_runRadix o_runOrder o_runNear o_runLimit o_runHalves o_power o_notedMany o_knownTold o_drawn o_isPoint_21 o_isTold o_tape o_told o_toldWave_22 o_words)) rfl (fun H locs hP hD hS => ?_)
      refine W.eq (g2 := F0 m 27 ls [.int r_13]) rfl ?_
      refine lv_goto (tgt := 34) hx hb dX10_lineRead_27 (by decide) ?_
      exact j34 o_fault_14 o_faultPlace_15 o_next_16 o_kind_17 o_which_18 o_at_19 o_pointsRead_20 o_isPoint_21 o_isTold o_told o_toldWave_22 r_13 H locs ls hf hP hD hS (lv_sub hl [0] rfl)
  · have hf := it_f c_1 hf
    refine lv_aload_n hx hb dX10_lineRead_8 rfl (lv_at hl 0 rfl) ?_
    refine lv_iconst (v := (1 : Int32)) hx hb dX10_lineRead_9 (by decide) ?_
    obtain ⟨r_24, o_fault_25, o_faultPlace_26, e_27, hf⟩ := bd3_x hf
    refine call_v [.int (1 : Int32)] [] ⟨hx, hb, hml, hown, hts⟩ hK hP hD hS hA hl.1 (tX10_wrong l G cI cJ cZ H.size h_o h_o_tape h_o_words h_o_told h_o_isTold h_o_toldWave h_o_isPoint h_o_all h_o_quarter h_o_roots h_o_laidRe h_o_laidIm h_o_byOrder h_o_noted1 h_o_counts h_o_binBy o_tapeSize o_thrown o_fault o_faultPlace o_stop o_next o_kind o_which o_at o_pointsRead o_bank o_isImage o_undos o_runRadix o_runOrder o_runNear o_runLimit o_runHalves o_power o_notedMany o_knownTold o_drawn (1 : Int32) r_24 o_fault_25 o_faultPlace_26 e_27) (cwV 1 hts (gv q_mX10_142 q_i_yX10_wrong q_s_yX10_wrong q_n_RX10 q_k_yX10_wrong) rfl rfl rfl (by decide +kernel) ⟨by decide, by decide⟩) rfl rfl (Nat.le_of_ble_eq_true rfl) dX10_lineRead_10 ⟨Nat.zero_le _, Nat.zero_le _⟩ (ci := 10) rfl 0 rfl [0] [1, 2, 3, 4, 5, 6] [6, 0, 1, 2, 3, 4, 5] rfl rfl (ws2 := (wX10_lineRead cI cJ cZ h_o h_o_isPoint h_o_isTold h_o_tape h_o_told h_o_toldWave h_o_words h_o_all h_o_quarter h_o_roots h_o_laidRe h_o_laidIm h_o_byOrder h_o_noted1 h_o_counts h_o_binBy o_tapeSize o_thrown o_fault_25 o_faultPlace_26 o_stop o_next o_kind o_which o_at o_pointsRead o_bank o_isImage o_undos o_runRadix o_runOrder o_runNear o_runLimit o_runHalves o_power o_notedMany o_knownTold o_drawn o_isPoint o_isTold o_tape o_told o_toldWave o_words)) rfl (fun H locs hP hD hS => ?_)
    refine W.eq (g2 := F0 m 13 ls [.int r_24]) rfl ?_
    obtain ⟨g_28, hf⟩ := gd_x hf
    cases hf
    exact hret _ _ _ _ dX10_lineRead_13 (bl_n g_28) hP hD hS
def wX10_text (cI cJ cZ : ClassId) (h_o h_o_all h_o_isPoint h_o_isTold h_o_roots h_o_tape h_o_told h_o_toldWave h_o_words h_o_quarter h_o_laidRe h_o_laidIm h_o_byOrder h_o_noted1 h_o_counts h_o_binBy : Nat) (o_tapeSize : Int32) (o_thrown : Int32) (o_fault : Int32) (o_faultPlace : Int32) (o_stop : Int32) (o_next : Int32) (o_kind : Int32) (o_which : Int32) (o_at : Int32) (o_pointsRead : Int32) (o_bank : Int32) (o_isImage : Int32) (o_undos : Int32) (o_runRadix : Int32) (o_runOrder : Int32) (o_runNear : Int32) (o_runLimit : Int32) (o_runHalves : Int32) (o_power : Int32) (o_notedMany : Int32) (o_knownTold : Int32) (o_drawn : Int64) (o_all : Nat → Int32) (o_isPoint : Nat → Int32) (o_isTold : Nat → Int32) (o_roots : Nat → Int32) (o_tape : Nat → Int32) (o_told : Nat → Int32) (o_toldWave : Nat → Int32) (o_words : Nat → Int32) : va_W := [(h_o, .inr (10, [.ref h_o_tape, .int o_tapeSize, .int o_thrown, .ref h_o_words, .int o_fault, .int o_faultPlace, .int o_stop, .int o_next, .int o_kind, .int o_which, .int o_at, .ref h_o_told, .ref h_o_isTold, .ref h_o_toldWave, .ref h_o_isPoint, .int o_pointsRead, .ref h_o_all, .int o_bank, .int o_isImage, .int o_undos, .int o_runRadix, .int o_runOrder, .int o_runNear, .int o_runLimit, .int o_runHalves, .ref h_o_quarter, .int o_power, .ref h_o_roots, .ref h_o_laidRe, .ref h_o_laidIm, .ref h_o_byOrder, .int o_notedMany, .int o_knownTold, .ref h_o_noted1, .ref h_o_counts, .ref h_o_binBy, .long o_drawn])), (h_o_all, .inl (cI, 3128, .inl o_all)), (h_o_isPoint, .inl (cZ, 64, .inl o_isPoint)), (h_o_isTold, .inl (cZ, 6, .inl o_isTold)), (h_o_roots, .inl (cI, 32, .inl o_roots)), (h_o_tape, .inl (cI, 700, .inl o_tape)), (h_o_told, .inl (cI, 12, .inl o_told)), (h_o_toldWave, .inl (cI, 128, .inl o_toldWave)), (h_o_words, .inl (cI, 52, .inl o_words))]
def fX10_text_77 (o_tapeSize : Int32) (o_thrown : Int32) (o_fault : Int32) (o_faultPlace : Int32) (o_stop : Int32) (o_next : Int32) (o_kind : Int32) (o_which : Int32) (o_at : Int32) (o_pointsRead : Int32) (o_bank : Int32) (o_isImage : Int32) (o_undos : Int32) (o_runRadix : Int32) (o_runOrder : Int32) (o_runNear : Int32) (o_runLimit : Int32) (o_runHalves : Int32) (o_power : Int32) (o_notedMany : Int32) (o_knownTold : Int32) (o_all : Nat → Int32) (o_isPoint : Nat → Int32) (o_isTold : Nat → Int32) (o_roots : Nat → Int32) (o_told : Nat → Int32) (o_toldWave : Nat → Int32) (v2 : Int32) : Option (Int32 × Int32 × Int32 × Int32 × Int32 × Int32 × Int32 × Int32 × Int32 × Int32 × Int32 × Int32 × Int32 × Int32 × Int32 × Int32 × Int32 × Int32 × Int32 × Int32 × Int32 × Int32 × (Nat → Int32) × (Nat → Int32) × (Nat → Int32) × (Nat → Int32) × (Nat → Int32) × (Nat → Int32)) :=
  bd15 (fX10_keepText o_bank o_isImage o_undos o_runRadix o_runOrder o_runNear o_runLimit o_runHalves o_power o_notedMany o_knownTold o_all o_roots o_told o_toldWave) (fun o_bank_30 o_isImage_31 o_undos_32 o_runRadix_33 o_runOrder_34 o_runNear_35 o_runLimit_36 o_runHalves_37 o_power_38 o_notedMany_39 o_knownTold_40 o_all_41 o_roots_42 o_told_43 o_toldWave_44 =>
  some (v2, o_tapeSize, o_thrown, o_fault, o_faultPlace, o_stop, o_next, o_kind, o_which, o_at, o_pointsRead, o_bank_30, o_isImage_31, o_undos_32, o_runRadix_33, o_runOrder_34, o_runNear_35, o_runLimit_36, o_runHalves_37, o_power_38, o_notedMany_39, o_knownTold_40, o_all_41, o_isPoint, o_isTold, o_roots_42, o_told_43, o_toldWave_44))
def fX10_text_55 (o_tape : Nat → Int32) (o_words : Nat → Int32) : Nat → Int32 → Int32 → Int32 → Int32 → Int32 → Int32 → Int32 → Int32 → Int32 → Int32 → Int32 → Int32 → Int32 → Int32 → Int32 → Int32 → Int32 → Int32 → Int32 → Int32 → Int32 → (Nat → Int32) → (Nat → Int32) → (Nat → Int32) → (Nat → Int32) → (Nat → Int32) → (Nat → Int32) → Int32 → Option (Int32 × Int32 × Int32 × Int32 × Int32 × Int32 × Int32 × Int32 × Int32 × Int32 × Int32 × Int32 × Int32 × Int32 × Int32 × Int32 × Int32 × Int32 × Int32 × Int32 × Int32 × Int32 × (Nat → Int32) × (Nat → Int32) × (Nat → Int32) × (Nat → Int32) × (Nat → Int32) × (Nat → Int32))
  | 0, _, _, _, _, _, _, _, _, _, _, _, _, _, _, _, _, _, _, _, _, _, _, _, _, _, _, _, _ => none
  | n + 1, o_tapeSize, o_thrown, o_fault, o_faultPlace, o_stop, o_next, o_kind, o_which, o_at, o_pointsRead, o_bank, o_isImage, o_undos, o_runRadix, o_runOrder, o_runNear, o_runLimit, o_runHalves, o_power, o_notedMany, o_knownTold, o_all, o_isPoint, o_isTold, o_roots, o_told, o_toldWave, v2 =>
    if o_kind = 0 then (
      fX10_text_77 o_tapeSize o_thrown o_fault o_faultPlace o_stop o_next o_kind o_which o_at o_pointsRead o_bank o_isImage o_undos o_runRadix o_runOrder o_runNear o_runLimit o_runHalves o_power o_notedMany o_knownTold o_all o_isPoint o_isTold o_roots o_told o_toldWave v2
    ) else (
      bd12 (fX10_lineRead o_fault o_faultPlace o_stop o_next o_kind o_which o_at o_pointsRead o_isPoint o_isTold o_tape o_told o_toldWave o_words) (fun r_15 o_fault_16 o_faultPlace_17 o_next_18 o_kind_19 o_which_20 o_at_21 o_pointsRead_22 o_isPoint_23 o_isTold_24 o_told_25 o_toldWave_26 =>
      if r_15 = 0 then (
        some ((-1 : Int32), o_tapeSize, o_thrown, o_fault_16, o_faultPlace_17, o_stop, o_next_18, o_kind_19, o_which_20, o_at_21, o_pointsRead_22, o_bank, o_isImage, o_undos, o_runRadix, o_runOrder, o_runNear, o_runLimit, o_runHalves, o_power, o_notedMany, o_knownTold, o_all, o_isPoint_23, o_isTold_24, o_roots, o_told_25, o_toldWave_26)
      ) else (
        nm (v2 + (1 : Int32)) (fun v2_29 =>
        fX10_text_55 o_tape o_words n o_tapeSize o_thrown o_fault_16 o_faultPlace_17 o_stop o_next_18 o_kind_19 o_which_20 o_at_21 o_pointsRead_22 o_bank o_isImage o_undos o_runRadix o_runOrder o_runNear o_runLimit o_runHalves o_power o_notedMany o_knownTold o_all o_isPoint_23 o_isTold_24 o_roots o_told_25 o_toldWave_26 v2_29)
      ))
    )
def fX10_text (o_tapeSize : Int32) (o_thrown : Int32) (o_fault : Int32) (o_faultPlace : Int32) (o_stop : Int32) (o_next : Int32) (o_kind : Int32) (o_which : Int32) (o_at : Int32) (o_pointsRead : Int32) (o_bank : Int32) (o_isImage : Int32) (o_undos : Int32) (o_runRadix : Int32) (o_runOrder : Int32) (o_runNear : Int32) (o_runLimit : Int32) (o_runHalves : Int32) (o_power : Int32) (o_notedMany : Int32) (o_knownTold : Int32) (o_all : Nat → Int32) (o_isPoint : Nat → Int32) (o_isTold : Nat → Int32) (o_roots : Nat → Int32) (o_tape : Nat → Int32) (o_told : Nat → Int32) (o_toldWave : Nat → Int32) (o_words : Nat → Int32) (p1 : Int32) : Option (Int32 × Int32 × Int32 × Int32 × Int32 × Int32 × Int32 × Int32 × Int32 × Int32 × Int32 × Int32 × Int32 × Int32 × Int32 × Int32 × Int32 × Int32 × Int32 × Int32 × Int32 × Int32 × (Nat → Int32) × (Nat → Int32) × (Nat → Int32) × (Nat → Int32) × (Nat → Int32) × (Nat → Int32)) :=
  if p1 < 0 then (
    some ((-2 : Int32), o_tapeSize, (0 : Int32), o_fault, o_faultPlace, o_stop, o_next, o_kind, o_which, o_at, o_pointsRead, o_bank, o_isImage, o_undos, o_runRadix, o_runOrder, o_runNear, o_runLimit, o_runHalves, o_power, o_notedMany, o_knownTold, o_all, o_isPoint, o_isTold, o_roots, o_told, o_toldWave)
  ) else (
    if p1 ≤ o_tapeSize then (
      bd5 (fX10_plain o_pointsRead o_isPoint o_isTold o_told o_toldWave) (fun o_pointsRead_3 o_isPoint_4 o_isTold_5 o_told_6 o_toldWave_7 =>
      bd4 (fX10_token p1 (0 : Int32) o_kind o_which o_at o_tape o_words) (fun o_next_9 o_kind_10 o_which_11 o_at_12 =>
      fX10_text_55 o_tape o_words FU (0 : Int32) (0 : Int32) (0 : Int32) (-1 : Int32) p1 o_next_9 o_kind_10 o_which_11 o_at_12 o_pointsRead_3 o_bank o_isImage o_undos o_runRadix o_runOrder o_runNear o_runLimit o_runHalves o_power o_notedMany o_knownTold o_all o_isPoint_4 o_isTold_5 o_roots o_told_6 o_toldWave_7 (0 : Int32)))
    ) else (
      some ((-2 : Int32), o_tapeSize, (0 : Int32), o_fault, o_faultPlace, o_stop, o_next, o_kind, o_which, o_at, o_pointsRead, o_bank, o_isImage, o_undos, o_runRadix, o_runOrder, o_runNear, o_runLimit, o_runHalves, o_power, o_notedMany, o_knownTold, o_all, o_isPoint, o_isTold, o_roots, o_told, o_toldWave)
    )
  )
set_option maxHeartbeats 4000000 in
set_option maxRecDepth 100000 in
theorem tX10_text (l : Launch) (G : va_G) (cI cJ cZ : ClassId) (sz : Nat) (h_o h_o_all h_o_isPoint h_o_isTold h_o_roots h_o_tape h_o_told h_o_toldWave h_o_words h_o_quarter h_o_laidRe h_o_laidIm h_o_byOrder h_o_noted1 h_o_counts h_o_binBy : Nat) (o_tapeSize : Int32) (o_thrown : Int32) (o_fault : Int32) (o_faultPlace : Int32) (o_stop : Int32) (o_next : Int32) (o_kind : Int32) (o_which : Int32) (o_at : Int32) (o_pointsRead : Int32) (o_bank : Int32) (o_isImage : Int32) (o_undos : Int32) (o_runRadix : Int32) (o_runOrder : Int32) (o_runNear : Int32) (o_runLimit : Int32) (o_runHalves : Int32) (o_power : Int32) (o_notedMany : Int32) (o_knownTold : Int32) (o_drawn : Int64) (o_all : Nat → Int32) (o_isPoint : Nat → Int32) (o_isTold : Nat → Int32) (o_roots : Nat → Int32) (o_tape : Nat → Int32) (o_told : Nat → Int32) (o_toldWave : Nat → Int32) (o_words : Nat → Int32) (p1 : Int32) (r : Int32) (out_o_tapeSize : Int32) (out_o_thrown : Int32) (out_o_fault : Int32) (out_o_faultPlace : Int32) (out_o_stop : Int32) (out_o_next : Int32) (out_o_kind : Int32) (out_o_which : Int32) (out_o_at : Int32) (out_o_pointsRead : Int32) (out_o_bank : Int32) (out_o_isImage : Int32) (out_o_undos : Int32) (out_o_runRadix : Int32) (out_o_runOrder : Int32) (out_o_runNear : Int32) (out_o_runLimit : Int32) (out_o_runHalves : Int32) (out_o_power : Int32) (out_o_notedMany : Int32) (out_o_knownTold : Int32) (out_o_all : Nat → Int32) (out_o_isPoint : Nat → Int32) (out_o_isTold : Nat → Int32) (out_o_roots : Nat → Int32) (out_o_told : Nat → Int32) (out_o_toldWave : Nat → Int32) (hf : fX10_text o_tapeSize o_thrown o_fault o_faultPlace o_stop o_next o_kind o_which o_at o_pointsRead o_bank o_isImage o_undos o_runRadix o_runOrder o_runNear o_runLimit o_runHalves o_power o_notedMany o_knownTold o_all o_isPoint o_isTold o_roots o_tape o_told o_toldWave o_words p1 = some (r, out_o_tapeSize, out_o_thrown, out_o_fault, out_o_faultPlace, out_o_stop, out_o_next, out_o_kind, out_o_which, out_o_at, out_o_pointsRead, out_o_bank, out_o_isImage, out_o_undos, out_o_runRadix, out_o_runOrder, out_o_runNear, out_o_runLimit, out_o_runHalves, out_o_power, out_o_notedMany, out_o_knownTold, out_o_all, out_o_isPoint, out_o_isTold, out_o_roots, out_o_told, out_o_toldWave)) : Met l yX10_text (Cond.code yX10_text cX10_text 3 (some .int) :: BIG) ({ frames := 4, cells := 0, slots := 0, locals := 90 } : Room) (cP G (TY3 cI cJ cZ) [.ref h_o, .int p1] sz (wX10_text cI cJ cZ h_o h_o_all h_o_isPoint h_o_isTold h_o_roots h_o_tape h_o_told h_o_toldWave h_o_words h_o_quarter h_o_laidRe h_o_laidIm h_o_byOrder h_o_noted1 h_o_counts h_o_binBy o_tapeSize o_thrown o_fault o_faultPlace o_stop o_next o_kind o_which o_at o_pointsRead o_bank o_isImage o_undos o_runRadix o_runOrder o_runNear o_runLimit o_runHalves o_power o_notedMany o_knownTold o_drawn o_all o_isPoint o_isTold o_roots o_tape o_told o_toldWave o_words)) (cQ G (TY3 cI cJ cZ) sz (wX10_text cI cJ cZ h_o h_o_all h_o_isPoint h_o_isTold h_o_roots h_o_tape h_o_told h_o_toldWave h_o_words h_o_quarter h_o_laidRe h_o_laidIm h_o_byOrder h_o_noted1 h_o_counts h_o_binBy o_tapeSize o_thrown o_fault o_faultPlace o_stop o_next o_kind o_which o_at o_pointsRead o_bank o_isImage o_undos o_runRadix o_runOrder o_runNear o_runLimit o_runHalves o_power o_notedMany o_knownTold o_drawn o_all o_isPoint o_isTold o_roots o_tape o_told o_toldWave o_words) (wX10_text cI cJ cZ h_o h_o_all h_o_isPoint h_o_isTold h_o_roots h_o_tape h_o_told h_o_toldWave h_o_words h_o_quarter h_o_laidRe h_o_laidIm h_o_byOrder h_o_noted1 h_o_counts h_o_binBy out_o_tapeSize out_o_thrown out_o_fault out_o_faultPlace out_o_stop out_o_next out_o_kind out_o_which out_o_at out_o_pointsRead out_o_bank out_o_isImage out_o_undos out_o_runRadix out_o_runOrder out_o_runNear out_o_runLimit out_o_runHalves out_o_power out_o_notedMany out_o_knownTold o_drawn out_o_all out_o_isPoint out_o_isTold out_o_roots o_tape out_o_told out_o_toldWave o_words) (some (.int r))) 0 0 (va_A (wX10_text cI cJ cZ h_o h_o_all h_o_isPoint h_o_isTold h_o_roots h_o_tape h_o_told h_o_toldWave h_o_words h_o_quarter h_o_laidRe h_o_laidIm h_o_byOrder h_o_noted1 h_o_counts h_o_binBy o_tapeSize o_thrown o_fault o_faultPlace o_stop o_next o_kind o_which o_at o_pointsRead o_bank o_isImage o_undos o_runRadix o_runOrder o_runNear o_runLimit o_runHalves o_power o_notedMany o_knownTold o_drawn o_all o_isPoint o_isTold o_roots o_tape o_told o_toldWave o_words) sz) := by
  refine met_i (cc := cX10_text) (maxL := 3) (plainFor_of_name (by decide)) (Nat.le_of_ble_eq_true rfl) (fun p e s m below meth c A ls Q hx hb hml hts hown hK hP hD hS hA hl hret => ?_)
  have hown : s.vm.findClass RX10 = some m.cls := hown
  have hl : lv_has ls 3 [(0, .ref h_o), (1, .int p1)] := hl
  have j77 : ∀ (o_tapeSize : Int32) (o_thrown : Int32) (o_fault : Int32) (o_faultPlace : Int32) (o_stop : Int32) (o_next : Int32) (o_kind : Int32) (o_which : Int32) (o_at : Int32) (o_pointsRead : Int32) (o_bank : Int32) (o_isImage : Int32) (o_undos : Int32) (o_runRadix : Int32) (o_runOrder : Int32) (o_runNear : Int32) (o_runLimit : Int32) (o_runHalves : Int32) (o_power : Int32) (o_notedMany : Int32) (o_knownTold : Int32) (o_all : Nat → Int32) (o_isPoint : Nat → Int32) (o_isTold : Nat → Int32) (o_roots : Nat → Int32) (o_told : Nat → Int32) (o_toldWave : Nat → Int32) (v2 : Int32) (H : Heap) (locs : List Loc) (ls : Array Slot), fX10_text_77 o_tapeSize o_thrown o_fault o_faultPlace o_stop o_next o_kind o_which o_at o_pointsRead o_bank o_isImage o_undos o_runRadix o_runOrder o_runNear o_runLimit o_runHalves o_power o_notedMany o_knownTold o_all o_isPoint o_isTold o_roots o_told o_toldWave v2 = some (r, out_o_tapeSize, out_o_thrown, out_o_fault, out_o_faultPlace, out_o_stop, out_o_next, out_o_kind, out_o_which, out_o_at, out_o_pointsRead, out_o_bank, out_o_isImage, out_o_undos, out_o_runRadix, out_o_runOrder, out_o_runNear, out_o_runLimit, out_o_runHalves, out_o_power, out_o_notedMany, out_o_knownTold, out_o_all, out_o_isPoint, out_o_isTold, out_o_roots, out_o_told, out_o_toldWave) → va_P G vwCl (wX10_text cI cJ cZ h_o h_o_all h_o_isPoint h_o_isTold h_o_roots h_o_tape h_o_told h_o_toldWave h_o_words h_o_quarter h_o_laidRe h_o_laidIm h_o_byOrder h_o_noted1 h_o_counts h_o_binBy o_tapeSize o_thrown o_fault o_faultPlace o_stop o_next o_kind o_which o_at o_pointsRead o_bank o_isImage o_undos o_runRadix o_runOrder o_runNear o_runLimit o_runHalves o_power o_notedMany o_knownTold o_drawn o_all o_isPoint o_isTold o_roots o_tape o_told o_toldWave o_words) H → va_D A (wX10_text cI cJ cZ h_o h_o_all h_o_isPoint h_o_isTold h_o_roots h_o_tape h_o_told h_o_toldWave h_o_words h_o_quarter h_o_laidRe h_o_laidIm h_o_byOrder h_o_noted1 h_o_counts h_o_binBy o_tapeSize o_thrown o_fault o_faultPlace o_stop o_next o_kind o_which o_at o_pointsRead o_bank o_isImage o_undos o_runRadix o_runOrder o_runNear o_runLimit o_runHalves o_power o_notedMany o_knownTold o_drawn o_all o_isPoint o_isTold o_roots o_tape o_told o_toldWave o_words) → va_S A s.heap H locs → lv_has ls 3 [(0, .ref h_o), (2, .int v2)] → W p l e ({ frames := 4, cells := 0, slots := 0, locals := 90 } : Room) s m ([.ref h_o, .int p1] : List Value).toArray below meth c H locs 0 0 Q (F0 m 77 ls []) := by
    intro o_tapeSize o_thrown o_fault o_faultPlace o_stop o_next o_kind o_which o_at o_pointsRead o_bank o_isImage o_undos o_runRadix o_runOrder o_runNear o_runLimit o_runHalves o_power o_notedMany o_knownTold o_all o_isPoint o_isTold o_roots o_told o_toldWave v2 H locs ls hf hP hD hS hl
    unfold fX10_text_77 at hf
    refine lv_aload_n hx hb dX10_text_77 rfl (lv_at hl 0 rfl) ?_
    obtain ⟨o_bank_30, o_isImage_31, o_undos_32, o_runRadix_33, o_runOrder_34, o_runNear_35, o_runLimit_36, o_runHalves_37, o_power_38, o_notedMany_39, o_knownTold_40, o_all_41, o_roots_42, o_told_43, o_toldWave_44, e_45, hf⟩ := bd15_x hf
    refine call_v [] [] ⟨hx, hb, hml, hown, hts⟩ hK hP hD hS hA hl.1 (tX10_keepText l G cI cJ cZ H.size h_o h_o_all h_o_roots h_o_told h_o_toldWave h_o_tape h_o_words h_o_isTold h_o_isPoint h_o_quarter h_o_laidRe h_o_laidIm h_o_byOrder h_o_noted1 h_o_counts h_o_binBy o_tapeSize o_thrown o_fault o_faultPlace o_stop o_next o_kind o_which o_at o_pointsRead o_bank o_isImage o_undos o_runRadix o_runOrder o_runNear o_runLimit o_runHalves o_power o_notedMany o_knownTold o_drawn o_all o_roots o_told o_toldWave o_bank_30 o_isImage_31 o_undos_32 o_runRadix_33 o_runOrder_34 o_runNear_35 o_runLimit_36 o_runHalves_37 o_power_38 o_notedMany_39 o_knownTold_40 o_all_41 o_roots_42 o_told_43 o_toldWave_44 e_45) (cwV 0 hts (gv q_mX10_67 q_i_yX10_keepText q_s_yX10_keepText q_n_RX10 q_k_yX10_keepText) rfl rfl rfl (by decide +kernel) ⟨by decide, by decide⟩) rfl rfl (Nat.le_of_ble_eq_true rfl) dX10_text_78 ⟨Nat.zero_le _, Nat.zero_le _⟩ (ci := 10) rfl 0 rfl [0, 1, 4, 6, 7] [2, 3, 5, 8] [4, 5, 0, 1, 6, 2, 7, 8, 3] rfl rfl (ws2 := (wX10_text cI cJ cZ h_o h_o_all h_o_isPoint h_o_isTold h_o_roots h_o_tape h_o_told h_o_toldWave h_o_words h_o_quarter h_o_laidRe h_o_laidIm h_o_byOrder h_o_noted1 h_o_counts h_o_binBy o_tapeSize o_thrown o_fault o_faultPlace o_stop o_next o_kind o_which o_at o_pointsRead o_bank_30 o_isImage_31 o_undos_32 o_runRadix_33 o_runOrder_34 o_runNear_35 o_runLimit_36 o_runHalves_37 o_power_38 o_notedMany_39 o_knownTold_40 o_drawn o_all_41 o_isPoint o_isTold o_roots_42 o_tape o_told_43 o_toldWave_44 o_words)) rfl (fun H locs hP hD hS => ?_)
    refine W.eq (g2 := F0 m 81 ls []) rfl ?_
    refine lv_iload_n hx hb dX10_text_81 rfl (lv_at hl 1 rfl) ?_
    cases hf
    exact hret _ _ _ _ dX10_text_82 hP hD hS
  have j55 : ∀ (n : Nat) (o_tapeSize : Int32) (o_thrown : Int32) (o_fault : Int32) (o_faultPlace : Int32) (o_stop : Int32) (o_next : Int32) (o_kind : Int32) (o_which : Int32) (o_at : Int32) (o_pointsRead : Int32) (o_bank : Int32) (o_isImage : Int32) (o_undos : Int32) (o_runRadix : Int32) (o_runOrder : Int32) (o_runNear : Int32) (o_runLimit : Int32) (o_runHalves : Int32) (o_power : Int32) (o_notedMany : Int32) (o_knownTold : Int32) (o_all : Nat → Int32) (o_isPoint : Nat → Int32) (o_isTold : Nat → Int32) (o_roots : Nat → Int32) (o_told : Nat → Int32) (o_toldWave : Nat → Int32) (v2 : Int32) (H : Heap) (locs : List Loc) (ls : Array Slot), fX10_text_55 o_tape o_words n o_tapeSize o_thrown o_fault o_faultPlace o_stop o_next o_kind o_which o_at o_pointsRead o_bank o_isImage o_undos o_runRadix o_runOrder o_runNear o_runLimit o_runHalves o_power o_notedMany o_knownTold o_all o_isPoint o_isTold o_roots o_told o_toldWave v2 = some (r, out_o_tapeSize, out_o_thrown, out_o_fault, out_o_faultPlace, out_o_stop, out_o_next, out_o_kind, out_o_which, out_o_at, out_o_pointsRead, out_o_bank, out_o_isImage, out_o_undos, out_o_runRadix, out_o_runOrder, out_o_runNear, out_o_runLimit, out_o_runHalves, out_o_power, out_o_notedMany, out_o_knownTold, out_o_all, out_o_isPoint, out_o_isTold, out_o_roots, out_o_told, out_o_toldWave) → va_P G vwCl (wX10_text cI cJ cZ h_o h_o_all h_o_isPoint h_o_isTold h_o_roots h_o_tape h_o_told h_o_toldWave h_o_words h_o_quarter h_o_laidRe h_o_laidIm h_o_byOrder h_o_noted1 h_o_counts h_o_binBy o_tapeSize o_thrown o_fault o_faultPlace o_stop o_next o_kind o_which o_at o_pointsRead o_bank o_isImage o_undos o_runRadix o_runOrder o_runNear o_runLimit o_runHalves o_power o_notedMany o_knownTold o_drawn o_all o_isPoint o_isTold o_roots o_tape o_told o_toldWave o_words) H → va_D A (wX10_text cI cJ cZ h_o h_o_all h_o_isPoint h_o_isTold h_o_roots h_o_tape h_o_told h_o_toldWave h_o_words h_o_quarter h_o_laidRe h_o_laidIm h_o_byOrder h_o_noted1 h_o_counts h_o_binBy o_tapeSize o_thrown o_fault o_faultPlace o_stop o_next o_kind o_which o_at o_pointsRead o_bank o_isImage o_undos o_runRadix o_runOrder o_runNear o_runLimit o_runHalves o_power o_notedMany o_knownTold o_drawn o_all o_isPoint o_isTold o_roots o_tape o_told o_toldWave o_words) → va_S A s.heap H locs → lv_has ls 3 [(0, .ref h_o), (2, .int v2)] → W p l e ({ frames := 4, cells := 0, slots := 0, locals := 90 } : Room) s m ([.ref h_o, .int p1] : List Value).toArray below meth c H locs 0 0 Q (F0 m 55 ls []) := by
    intro n
    induction n with
    | zero =>
      intro o_tapeSize o_thrown o_fault o_faultPlace o_stop o_next o_kind o_which o_at o_pointsRead o_bank o_isImage o_undos o_runRadix o_runOrder o_runNear o_runLimit o_runHalves o_power o_notedMany o_knownTold o_all o_isPoint o_isTold o_roots o_told o_toldWave v2 H locs ls hf
      have hf : (none : Option (Int32 × Int32 × Int32 × Int32 × Int32 × Int32 × Int32 × Int32 × Int32 × Int32 × Int32 × Int32 × Int32 × Int32 × Int32 × Int32 × Int32 × Int32 × Int32 × Int32 × Int32 × Int32 × (Nat → Int32) × (Nat → Int32) × (Nat → Int32) × (Nat → Int32) × (Nat → Int32) × (Nat → Int32))) = some (r, out_o_tapeSize, out_o_thrown, out_o_fault, out_o_faultPlace, out_o_stop, out_o_next, out_o_kind, out_o_which, out_o_at, out_o_pointsRead, out_o_bank, out_o_isImage, out_o_undos, out_o_runRadix, out_o_runOrder, out_o_runNear, out_o_runLimit, out_o_runHalves, out_o_power, out_o_notedMany, out_o_knownTold, out_o_all, out_o_isPoint, out_o_isTold, out_o_roots, out_o_told, out_o_toldWave) := hf
      cases hf
    | succ n ih =>
      intro o_tapeSize o_thrown o_fault o_faultPlace o_stop o_next o_kind o_which o_at o_pointsRead o_bank o_isImage o_undos o_runRadix o_runOrder o_runNear o_runLimit o_runHalves o_power o_notedMany o_knownTold o_all o_isPoint o_isTold o_roots o_told o_toldWave v2 H locs ls hf hP hD hS hl
      rw [fX10_text_55.eq_2] at hf
      refine lv_aload_n hx hb dX10_text_55 rfl (lv_at hl 0 rfl) ?_
      refine rd (ci := 10) (C := RX10) (T := TX10) (N := 37) hx hb hts inX10 hown hK hP 0 8 rfl rfl (by decide) (hts _ q_fX10_88) rfl dX10_text_56 ?_
      refine lv_if_eq (tgt := 77) hx hb dX10_text_59 (by decide) (fun c_14 => ?_) (fun c_14 => ?_)
      · have hf := it_t c_14 hf
        exact j77 o_tapeSize o_thrown o_fault o_faultPlace o_stop o_next o_kind o_which o_at o_pointsRead o_bank o_isImage o_undos o_runRadix o_runOrder o_runNear o_runLimit o_runHalves o_power o_notedMany o_knownTold o_all o_isPoint o_isTold o_roots o_told o_toldWave v2 H locs ls hf hP hD hS (lv_sub hl [0, 1] rfl)
      · have hf := it_f c_14 hf
        refine lv_aload_n hx hb dX10_text_62 rfl (lv_at hl 0 rfl) ?_
        obtain ⟨r_15, o_fault_16, o_faultPlace_17, o_next_18, o_kind_19, o_which_20, o_at_21, o_pointsRead_22, o_isPoint_23, o_isTold_24, o_told_25, o_toldWave_26, e_27, hf⟩ := bd12_x hf
        refine call_v [] [] ⟨hx, hb, hml, hown, hts⟩ hK hP hD hS hA hl.1 (tX10_lineRead l G cI cJ cZ H.size h_o h_o_isPoint h_o_isTold h_o_tape h_o_told h_o_toldWave h_o_words h_o_all h_o_quarter h_o_roots h_o_laidRe h_o_laidIm h_o_byOrder h_o_noted1 h_o_counts h_o_binBy o_tapeSize o_thrown o_fault o_faultPlace o_stop o_next o_kind o_which o_at o_pointsRead o_bank o_isImage o_undos o_runRadix o_runOrder o_runNear o_runLimit o_runHalves o_power o_notedMany o_knownTold o_drawn o_isPoint o_isTold o_tape o_told o_toldWave o_words r_15 o_fault_16 o_faultPlace_17 o_next_18 o_kind_19 o_which_20 o_at_21 o_pointsRead_22 o_isPoint_23 o_isTold_24 o_told_25 o_toldWave_26 e_27) (cwV 0 hts (gv q_mX10_163 q_i_yX10_lineRead q_s_yX10_lineRead q_n_RX10 q_k_yX10_lineRead) rfl rfl rfl (by decide +kernel) ⟨by decide, by decide⟩) rfl rfl (Nat.le_of_ble_eq_true rfl) dX10_text_63 ⟨Nat.zero_le _, Nat.zero_le _⟩ (ci := 10) rfl 0 rfl [0, 2, 3, 5, 6, 7, 8] [1, 4] [2, 0, 3, 4, 1, 5, 6, 7, 8] rfl rfl (ws2 := (wX10_text cI cJ cZ h_o h_o_all h_o_isPoint h_o_isTold h_o_roots h_o_tape h_o_told h_o_toldWave h_o_words h_o_quarter h_o_laidRe h_o_laidIm h_o_byOrder h_o_noted1 h_o_counts h_o_binBy o_tapeSize o_thrown o_fault_16 o_faultPlace_17 o_stop o_next_18 o_kind_19 o_which_20 o_at_21 o_pointsRead_22 o_bank o_isImage o_undos o_runRadix o_runOrder o_runNear o_runLimit o_runHalves o_power o_notedMany o_knownTold o_drawn o_all o_isPoint_23 o_isTold_24 o_roots o_tape o_told_25 o_toldWave_26 o_words)) rfl (fun H locs hP hD hS => ?_)
        refine W.eq (g2 := F0 m 66 ls [.int r_15]) rfl ?_
        refine lv_if_ne (tgt := 71) hx hb dX10_text_66 (by decide) (fun c_28 => ?_) (fun c_28 => ?_)
        · have hf := it_f c_28 hf
          obtain ⟨v2_29, ev2_29⟩ : ∃ y : Int32, y = v2 + (1 : Int32) := ⟨_, rfl⟩
          have hf := nm_x ev2_29 hf
          refine lv_iinc (v := v2_29) (lv' := [(2, .int v2_29), (0, .ref h_o)]) hx hb dX10_text_71 hl (k := 1) rfl (by rw [ev2_29]; rfl) (by decide) rfl (fun ls hl => ?_)
          refine lv_goto (tgt := 55) hx hb dX10_text_74 (by decide) ?_
          exact ih o_tapeSize o_thrown o_fault_16 o_faultPlace_17 o_stop o_next_18 o_kind_19 o_which_20 o_at_21 o_pointsRead_22 o_bank o_isImage o_undos o_runRadix o_runOrder o_runNear o_runLimit o_runHalves o_power o_notedMany o_knownTold o_all o_isPoint_23 o_isTold_24 o_roots o_told_25 o_toldWave_26 v2_29 H locs ls hf hP hD hS (lv_sub hl [1, 0] rfl)
        · have hf := it_t c_28 hf
          refine lv_iconst (v := (-1 : Int32)) hx hb dX10_text_69 (by decide) ?_
          cases hf
          exact hret _ _ _ _ dX10_text_70 hP hD hS
  unfold fX10_text at hf
  obtain ⟨H, eH⟩ : ∃ H, H = s.heap := ⟨_, rfl⟩
  obtain ⟨locs, elocs⟩ : ∃ z : List Loc, z = [] := ⟨_, rfl⟩
  have hP : va_P G vwCl (wX10_text cI cJ cZ h_o h_o_all h_o_isPoint h_o_isTold h_o_roots h_o_tape h_o_told h_o_toldWave h_o_words h_o_quarter h_o_laidRe h_o_laidIm h_o_byOrder h_o_noted1 h_o_counts h_o_binBy o_tapeSize o_thrown o_fault o_faultPlace o_stop o_next o_kind o_which o_at o_pointsRead o_bank o_isImage o_undos o_runRadix o_runOrder o_runNear o_runLimit o_runHalves o_power o_notedMany o_knownTold o_drawn o_all o_isPoint o_isTold o_roots o_tape o_told o_toldWave o_words) H := by rw [eH]; exact hP
  have hS : va_S A s.heap H locs := by rw [eH, elocs]; exact hS
  suffices hgo : W p l e ({ frames := 4, cells := 0, slots := 0, locals := 90 } : Room) s m ([.ref h_o, .int p1] : List Value).toArray below meth c H locs 0 0 Q (F0 m 0 ls []) by rw [eH, elocs] at hgo; exact hgo
  clear eH elocs
  refine lv_aload_n hx hb dX10_text_0 rfl (lv_at hl 0 rfl) ?_
  refine lv_iconst (v := (0 : Int32)) hx hb dX10_text_1 (by decide) ?_
  refine wr (ci := 10) (C := RX10) (T := TX10) (N := 37) hx hb hts inX10 tyX10 tyX10_ok nmX10 hown hK hP hD hS 0 2 rfl rfl (by decide) (hts _ q_fX10_70) rfl rfl rfl (Nat.le_of_ble_eq_true rfl) dX10_text_2 (ws2 := (wX10_text cI cJ cZ h_o h_o_all h_o_isPoint h_o_isTold h_o_roots h_o_tape h_o_told h_o_toldWave h_o_words h_o_quarter h_o_laidRe h_o_laidIm h_o_byOrder h_o_noted1 h_o_counts h_o_binBy o_tapeSize (0 : Int32) o_fault o_faultPlace o_stop o_next o_kind o_which o_at o_pointsRead o_bank o_isImage o_undos o_runRadix o_runOrder o_runNear o_runLimit o_runHalves o_power o_notedMany o_knownTold o_drawn o_all o_isPoint o_isTold o_roots o_tape o_told o_toldWave o_words)) rfl (fun H locs hP hD hS => ?_)
  refine lv_iload_n hx hb dX10_text_5 rfl (lv_at hl 1 rfl) ?_
  refine lv_if_lt (tgt := 17) hx hb dX10_text_6 (by decide) (fun c_1 => ?_) (fun c_1 => ?_)
  · have hf := it_t c_1 hf
    refine lv_bipush (v := (-2 : Int32)) hx hb dX10_text_17 (by decide) ?_
    cases hf
    exact hret _ _ _ _ dX10_text_19 hP hD hS
  · have hf := it_f c_1 hf
    refine lv_iload_n hx hb dX10_text_9 rfl (lv_at hl 1 rfl) ?_
    refine lv_aload_n hx hb dX10_text_10 rfl (lv_at hl 0 rfl) ?_
    refine rd (ci := 10) (C := RX10) (T := TX10) (N := 37) hx hb hts inX10 hown hK hP 0 1 rfl rfl (by decide) (hts _ q_fX10_73) rfl dX10_text_11 ?_
    refine lv_icmp_le (tgt := 20) hx hb dX10_text_14 (by decide) (fun c_2 => ?_) (fun c_2 => ?_)
    · have hf := it_t c_2 hf
      refine lv_aload_n hx hb dX10_text_20 rfl (lv_at hl 0 rfl) ?_
      refine lv_iload_n hx hb dX10_text_21 rfl (lv_at hl 1 rfl) ?_
      refine wr (ci := 10) (C := RX10) (T := TX10) (N := 37) hx hb hts inX10 tyX10 tyX10_ok nmX10 hown hK hP hD hS 0 6 rfl rfl (by decide) (hts _ q_fX10_82) rfl rfl rfl (Nat.le_of_ble_eq_true rfl) dX10_text_22 (ws2 := (wX10_text cI cJ cZ h_o h_o_all h_o_isPoint h_o_isTold h_o_roots h_o_tape h_o_told h_o_toldWave h_o_words h_o_quarter h_o_laidRe h_o_laidIm h_o_byOrder h_o_noted1 h_o_counts h_o_binBy o_tapeSize (0 : Int32) o_fault o_faultPlace p1 o_next o_kind o_which o_at o_pointsRead o_bank o_isImage o_undos o_runRadix o_runOrder o_runNear o_runLimit o_runHalves o_power o_notedMany o_knownTold o_drawn o_all o_isPoint o_isTold o_roots o_tape o_told o_toldWave o_words)) rfl (fun H locs hP hD hS => ?_)
      refine lv_aload_n hx hb dX10_text_25 rfl (lv_at hl 0 rfl) ?_
      refine lv_iconst (v := (0 : Int32)) hx hb dX10_text_26 (by decide) ?_
      refine wr (ci := 10) (C := RX10) (T := TX10) (N := 37) hx hb hts inX10 tyX10 tyX10_ok nmX10 hown hK hP hD hS 0 1 rfl rfl (by decide) (hts _ q_fX10_73) rfl rfl rfl (Nat.le_of_ble_eq_true rfl) dX10_text_27 (ws2 := (wX10_text cI cJ cZ h_o h_o_all h_o_isPoint h_o_isTold h_o_roots h_o_tape h_o_told h_o_toldWave h_o_words h_o_quarter h_o_laidRe h_o_laidIm h_o_byOrder h_o_noted1 h_o_counts h_o_binBy (0 : Int32) (0 : Int32) o_fault o_faultPlace p1 o_next o_kind o_which o_at o_pointsRead o_bank o_isImage o_undos o_runRadix o_runOrder o_runNear o_runLimit o_runHalves o_power o_notedMany o_knownTold o_drawn o_all o_isPoint o_isTold o_roots o_tape o_told o_toldWave o_words)) rfl (fun H locs hP hD hS => ?_)
      refine lv_aload_n hx hb dX10_text_30 rfl (lv_at hl 0 rfl) ?_
      refine lv_iconst (v := (0 : Int32)) hx hb dX10_text_31 (by decide) ?_
      refine wr (ci := 10) (C := RX10) (T := TX10) (N := 37) hx hb hts inX10 tyX10 tyX10_ok nmX10 hown hK hP hD hS 0 4 rfl rfl (by decide) (hts _ q_fX10_76) rfl rfl rfl (Nat.le_of_ble_eq_true rfl) dX10_text_32 (ws2 := (wX10_text cI cJ cZ h_o h_o_all h_o_isPoint h_o_isTold h_o_roots h_o_tape h_o_told h_o_toldWave h_o_words h_o_quarter h_o_laidRe h_o_laidIm h_o_byOrder h_o_noted1 h_o_counts h_o_binBy (0 : Int32) (0 : Int32) (0 : Int32) o_faultPlace p1 o_next o_kind o_which o_at o_pointsRead o_bank o_isImage o_undos o_runRadix o_runOrder o_runNear o_runLimit o_runHalves o_power o_notedMany o_knownTold o_drawn o_all o_isPoint o_isTold o_roots o_tape o_told o_toldWave o_words)) rfl (fun H locs hP hD hS => ?_)
      refine lv_aload_n hx hb dX10_text_35 rfl (lv_at hl 0 rfl) ?_
      refine lv_iconst (v := (-1 : Int32)) hx hb dX10_text_36 (by decide) ?_
      refine wr (ci := 10) (C := RX10) (T := TX10) (N := 37) hx hb hts inX10 tyX10 tyX10_ok nmX10 hown hK hP hD hS 0 5 rfl rfl (by decide) (hts _ q_fX10_16) rfl rfl rfl (Nat.le_of_ble_eq_true rfl) dX10_text_37 (ws2 := (wX10_text cI cJ cZ h_o h_o_all h_o_isPoint h_o_isTold h_o_roots h_o_tape h_o_told h_o_toldWave h_o_words h_o_quarter h_o_laidRe h_o_laidIm h_o_byOrder h_o_noted1 h_o_counts h_o_binBy (0 : Int32) (0 : Int32) (0 : Int32) (-1 : Int32) p1 o_next o_kind o_which o_at o_pointsRead o_bank o_isImage o_undos o_runRadix o_runOrder o_runNear o_runLimit o_runHalves o_power o_notedMany o_knownTold o_drawn o_all o_isPoint o_isTold o_roots o_tape o_told o_toldWave o_words)) rfl (fun H locs hP hD hS => ?_)
      refine lv_aload_n hx hb dX10_text_40 rfl (lv_at hl 0 rfl) ?_
      refine lv_iconst (v := (0 : Int32)) hx hb dX10_text_41 (by decide) ?_
      refine wr (ci := 10) (C := RX10) (T := TX10) (N := 37) hx hb hts inX10 tyX10 tyX10_ok nmX10 hown hK hP hD hS 0 7 rfl rfl (by decide) (hts _ q_fX10_85) rfl rfl rfl (Nat.le_of_ble_eq_true rfl) dX10_text_42 (ws2 := (wX10_text cI cJ cZ h_o h_o_all h_o_isPoint h_o_isTold h_o_roots h_o_tape h_o_told h_o_toldWave h_o_words h_o_quarter h_o_laidRe h_o_laidIm h_o_byOrder h_o_noted1 h_o_counts h_o_binBy (0 : Int32) (0 : Int32) (0 : Int32) (-1 : Int32) p1 (0 : Int32) o_kind o_which o_at o_pointsRead o_bank o_isImage o_undos o_runRadix o_runOrder o_runNear o_runLimit o_runHalves o_power o_notedMany o_knownTold o_drawn o_all o_isPoint o_isTold o_roots o_tape o_told o_toldWave o_words)) rfl (fun H locs hP hD hS => ?_)
      refine lv_aload_n hx hb dX10_text_45 rfl (lv_at hl 0 rfl) ?_
      obtain ⟨o_pointsRead_3, o_isPoint_4, o_isTold_5, o_told_6, o_toldWave_7, e_8, hf⟩ := bd5_x hf
      refine call_v [] [] ⟨hx, hb, hml, hown, hts⟩ hK hP hD hS hA hl.1 (tX10_plain l G cI cJ cZ H.size h_o h_o_isPoint h_o_isTold h_o_told h_o_toldWave h_o_tape h_o_words h_o_all h_o_quarter h_o_roots h_o_laidRe h_o_laidIm h_o_byOrder h_o_noted1 h_o_counts h_o_binBy (0 : Int32) (0 : Int32) (0 : Int32) (-1 : Int32) p1 (0 : Int32) o_kind o_which o_at o_pointsRead o_bank o_isImage o_undos o_runRadix o_runOrder o_runNear o_runLimit o_runHalves o_power o_notedMany o_knownTold o_drawn o_isPoint o_isTold o_told o_toldWave o_pointsRead_3 o_isPoint_4 o_isTold_5 o_told_6 o_toldWave_7 e_8) (cwV 0 hts (gv q_mX10_64 q_i_yX10_plain q_s_yX10_plain q_n_RX10 q_k_yX10_plain) rfl rfl rfl (by decide +kernel) ⟨by decide, by decide⟩) rfl rfl (Nat.le_of_ble_eq_true rfl) dX10_text_46 ⟨Nat.zero_le _, Nat.zero_le _⟩ (ci := 10) rfl 0 rfl [0, 2, 3, 6, 7] [1, 4, 5, 8] [4, 0, 5, 6, 1, 2, 7, 8, 3] rfl rfl (ws2 := (wX10_text cI cJ cZ h_o h_o_all h_o_isPoint h_o_isTold h_o_roots h_o_tape h_o_told h_o_toldWave h_o_words h_o_quarter h_o_laidRe h_o_laidIm h_o_byOrder h_o_noted1 h_o_counts h_o_binBy (0 : Int32) (0 : Int32) (0 : Int32) (-1 : Int32) p1 (0 : Int32) o_kind o_which o_at o_pointsRead_3 o_bank o_isImage o_undos o_runRadix o_runOrder o_runNear o_runLimit o_runHalves o_power o_notedMany o_knownTold o_drawn o_all o_isPoint_4 o_isTold_5 o_roots o_tape o_told_6 o_toldWave_7 o_words)) rfl (fun H locs hP hD hS => ?_)
      refine W.eq (g2 := F0 m 49 ls []) rfl ?_
      refine lv_aload_n hx hb dX10_text_49 rfl (lv_at hl 0 rfl) ?_
      obtain ⟨o_next_9, o_kind_10, o_which_11, o_at_12, e_13, hf⟩ := bd4_x hf
      refine call_v [] [] ⟨hx, hb, hml, hown, hts⟩ hK hP hD hS hA hl.1 (tX10_token l G cI cJ cZ H.size h_o h_o_tape h_o_words h_o_told h_o_isTold h_o_toldWave h_o_isPoint h_o_all h_o_quarter h_o_roots h_o_laidRe h_o_laidIm h_o_byOrder h_o_noted1 h_o_counts h_o_binBy (0 : Int32) (0 : Int32) (0 : Int32) (-1 : Int32) p1 (0 : Int32) o_kind o_which o_at o_pointsRead_3 o_bank o_isImage o_undos o_runRadix o_runOrder o_runNear o_runLimit o_runHalves o_power o_notedMany o_knownTold o_drawn o_tape o_words o_next_9 o_kind_10 o_which_11 o_at_12 e_13) (cwV 0 hts (gv q_mX10_145 q_i_yX10_token q_s_yX10_token q_n_RX10 q_k_yX10_token) rfl rfl rfl (by decide +kernel) ⟨by decide, by decide⟩) rfl rfl (Nat.le_of_ble_eq_true rfl) dX10_text_50 ⟨Nat.zero_le _, Nat.zero_le _⟩ (ci := 10) rfl 0 rfl [0, 5, 8] [1, 2, 3, 4, 6, 7] [6, 0, 1, 2, 3, 7, 4, 5, 8] rfl rfl (ws2 := (wX10_text cI cJ cZ h_o h_o_all h_o_isPoint h_o_isTold h_o_roots h_o_tape h_o_told h_o_toldWave h_o_words h_o_quarter h_o_laidRe h_o_laidIm h_o_byOrder h_o_noted1 h_o_counts h_o_binBy (0 : Int32) (0 : Int32) (0 : Int32) (-1 : Int32) p1 o_next_9 o_kind_10 o_which_11 o_at_12 o_pointsRead_3 o_bank o_isImage o_undos o_runRadix o_runOrder o_runNear o_runLimit o_runHalves o_power o_notedMany o_knownTold o_drawn o_all o_isPoint_4 o_isTold_5 o_roots o_tape o_told_6 o_toldWave_7 o_words)) rfl (fun H locs hP hD hS => ?_)
      refine W.eq (g2 := F0 m 53 ls []) rfl ?_
      refine lv_iconst (v := (0 : Int32)) hx hb dX10_text_53 (by decide) ?_
      refine lv_istore_n (lv' := [(2, .int (0 : Int32)), (0, .ref h_o), (1, .int p1)]) hx hb dX10_text_54 rfl hl (by decide) rfl (fun ls hl => ?_)
      exact j55 FU (0 : Int32) (0 : Int32) (0 : Int32) (-1 : Int32) p1 o_next_9 o_kind_10 o_which_11 o_at_12 o_pointsRead_3 o_bank o_isImage o_undos o_runRadix o_runOrder o_runNear o_runLimit o_runHalves o_power o_notedMany o_knownTold o_all o_isPoint_4 o_isTold_5 o_roots o_told_6 o_toldWave_7 (0 : Int32) H locs ls hf hP hD hS (lv_sub hl [1, 0] rfl)
    · have hf := it_f c_2 hf
      refine lv_bipush (v := (-2 : Int32)) hx hb dX10_text_17 (by decide) ?_
      cases hf
      exact hret _ _ _ _ dX10_text_19 hP hD hS
def wX10_fault (cI cJ cZ : ClassId) (h_o h_o_tape h_o_words h_o_told h_o_isTold h_o_toldWave h_o_isPoint h_o_all h_o_quarter h_o_roots h_o_laidRe h_o_laidIm h_o_byOrder h_o_noted1 h_o_counts h_o_binBy : Nat) (o_tapeSize : Int32) (o_thrown : Int32) (o_fault : Int32) (o_faultPlace : Int32) (o_stop : Int32) (o_next : Int32) (o_kind : Int32) (o_which : Int32) (o_at : Int32) (o_pointsRead : Int32) (o_bank : Int32) (o_isImage : Int32) (o_undos : Int32) (o_runRadix : Int32) (o_runOrder : Int32) (o_runNear : Int32) (o_runLimit : Int32) (o_runHalves : Int32) (o_power : Int32) (o_notedMany : Int32) (o_knownTold : Int32) (o_drawn : Int64) : va_W := [(h_o, .inr (10, [.ref h_o_tape, .int o_tapeSize, .int o_thrown, .ref h_o_words, .int o_fault, .int o_faultPlace, .int o_stop, .int o_next, .int o_kind, .int o_which, .int o_at, .ref h_o_told, .ref h_o_isTold, .ref h_o_toldWave, .ref h_o_isPoint, .int o_pointsRead, .ref h_o_all, .int o_bank, .int o_isImage, .int o_undos, .int o_runRadix, .int o_runOrder, .int o_runNear, .int o_runLimit, .int o_runHalves, .ref h_o_quarter, .int o_power, .ref h_o_roots, .ref h_o_laidRe, .ref h_o_laidIm, .ref h_o_byOrder, .int o_notedMany, .int o_knownTold, .ref h_o_noted1, .ref h_o_counts, .ref h_o_binBy, .long o_drawn]))]
def fX10_fault (o_thrown : Int32) (o_fault : Int32) (o_faultPlace : Int32) (p1 : Int32) : Option (Int32 × Int32) :=
  if p1 = 0 then (
    some (o_fault, (0 : Int32))
  ) else (
    if p1 = (1 : Int32) then (
      some (o_faultPlace, (0 : Int32))
    ) else (
      some ((-1 : Int32), (0 : Int32))
    )
  )
set_option maxHeartbeats 4000000 in
set_option maxRecDepth 100000 in
theorem tX10_fault (l : Launch) (G : va_G) (cI cJ cZ : ClassId) (sz : Nat) (h_o h_o_tape h_o_words h_o_told h_o_isTold h_o_toldWave h_o_isPoint h_o_all h_o_quarter h_o_roots h_o_laidRe h_o_laidIm h_o_byOrder h_o_noted1 h_o_counts h_o_binBy : Nat) (o_tapeSize : Int32) (o_thrown : Int32) (o_fault : Int32) (o_faultPlace : Int32) (o_stop : Int32) (o_next : Int32) (o_kind : Int32) (o_which : Int32) (o_at : Int32) (o_pointsRead : Int32) (o_bank : Int32) (o_isImage : Int32) (o_undos : Int32) (o_runRadix : Int32) (o_runOrder : Int32) (o_runNear : Int32) (o_runLimit : Int32) (o_runHalves : Int32) (o_power : Int32) (o_notedMany : Int32) (o_knownTold : Int32) (o_drawn : Int64) (p1 : Int32) (r : Int32) (out_o_thrown : Int32) (hf : fX10_fault o_thrown o_fault o_faultPlace p1 = some (r, out_o_thrown)) : Met l yX10_fault (Cond.code yX10_fault cX10_fault 2 (some .int) :: BIG) ({ frames := 0, cells := 0, slots := 0, locals := 0 } : Room) (cP G (TY3 cI cJ cZ) [.ref h_o, .int p1] sz (wX10_fault cI cJ cZ h_o h_o_tape h_o_words h_o_told h_o_isTold h_o_toldWave h_o_isPoint h_o_all h_o_quarter h_o_roots h_o_laidRe h_o_laidIm h_o_byOrder h_o_noted1 h_o_counts h_o_binBy o_tapeSize o_thrown o_fault o_faultPlace o_stop o_next o_kind o_which o_at o_pointsRead o_bank o_isImage o_undos o_runRadix o_runOrder o_runNear o_runLimit o_runHalves o_power o_notedMany o_knownTold o_drawn)) (cQ G (TY3 cI cJ cZ) sz (wX10_fault cI cJ cZ h_o h_o_tape h_o_words h_o_told h_o_isTold h_o_toldWave h_o_isPoint h_o_all h_o_quarter h_o_roots h_o_laidRe h_o_laidIm h_o_byOrder h_o_noted1 h_o_counts h_o_binBy o_tapeSize o_thrown o_fault o_faultPlace o_stop o_next o_kind o_which o_at o_pointsRead o_bank o_isImage o_undos o_runRadix o_runOrder o_runNear o_runLimit o_runHalves o_power o_notedMany o_knownTold o_drawn) (wX10_fault cI cJ cZ h_o h_o_tape h_o_words h_o_told h_o_isTold h_o_toldWave h_o_isPoint h_o_all h_o_quarter h_o_roots h_o_laidRe h_o_laidIm h_o_byOrder h_o_noted1 h_o_counts h_o_binBy o_tapeSize out_o_thrown o_fault o_faultPlace o_stop o_next o_kind o_which o_at o_pointsRead o_bank o_isImage o_undos o_runRadix o_runOrder o_runNear o_runLimit o_runHalves o_power o_notedMany o_knownTold o_drawn) (some (.int r))) 0 0 (va_A (wX10_fault cI cJ cZ h_o h_o_tape h_o_words h_o_told h_o_isTold h_o_toldWave h_o_isPoint h_o_all h_o_quarter h_o_roots h_o_laidRe h_o_laidIm h_o_byOrder h_o_noted1 h_o_counts h_o_binBy o_tapeSize o_thrown o_fault o_faultPlace o_stop o_next o_kind o_which o_at o_pointsRead o_bank o_isImage o_undos o_runRadix o_runOrder o_runNear o_runLimit o_runHalves o_power o_notedMany o_knownTold o_drawn) sz) := by
  refine met_i (cc := cX10_fault) (maxL := 2) (plainFor_of_name (by decide)) (Nat.le_of_ble_eq_true rfl) (fun p e s m below meth c A ls Q hx hb hml hts hown hK hP hD hS hA hl hret => ?_)
  have hown : s.vm.findClass RX10 = some m.cls := hown
  have hl : lv_has ls 2 [(0, .ref h_o), (1, .int p1)] := hl
  unfold fX10_fault at hf
  obtain ⟨H, eH⟩ : ∃ H, H = s.heap := ⟨_, rfl⟩
  obtain ⟨locs, elocs⟩ : ∃ z : List Loc, z = [] := ⟨_, rfl⟩
  have hP : va_P G vwCl (wX10_fault cI cJ cZ h_o h_o_tape h_o_words h_o_told h_o_isTold h_o_toldWave h_o_isPoint h_o_all h_o_quarter h_o_roots h_o_laidRe h_o_laidIm h_o_byOrder h_o_noted1 h_o_counts h_o_binBy o_tapeSize o_thrown o_fault o_faultPlace o_stop o_next o_kind o_which o_at o_pointsRead o_bank o_isImage o_undos o_runRadix o_runOrder o_runNear o_runLimit o_runHalves o_power o_notedMany o_knownTold o_drawn) H := by rw [eH]; exact hP
  have hS : va_S A s.heap H locs := by rw [eH, elocs]; exact hS
  suffices hgo : W p l e ({ frames := 0, cells := 0, slots := 0, locals := 0 } : Room) s m ([.ref h_o, .int p1] : List Value).toArray below meth c H locs 0 0 Q (F0 m 0 ls []) by rw [eH, elocs] at hgo; exact hgo
  clear eH elocs
  refine lv_aload_n hx hb dX10_fault_0 rfl (lv_at hl 0 rfl) ?_
  refine lv_iconst (v := (0 : Int32)) hx hb dX10_fault_1 (by decide) ?_
  refine wr (ci := 10) (C := RX10) (T := TX10) (N := 37) hx hb hts inX10 tyX10 tyX10_ok nmX10 hown hK hP hD hS 0 2 rfl rfl (by decide) (hts _ q_fX10_70) rfl rfl rfl (Nat.le_of_ble_eq_true rfl) dX10_fault_2 (ws2 := (wX10_fault cI cJ cZ h_o h_o_tape h_o_words h_o_told h_o_isTold h_o_toldWave h_o_isPoint h_o_all h_o_quarter h_o_roots h_o_laidRe h_o_laidIm h_o_byOrder h_o_noted1 h_o_counts h_o_binBy o_tapeSize (0 : Int32) o_fault o_faultPlace o_stop o_next o_kind o_which o_at o_pointsRead o_bank o_isImage o_undos o_runRadix o_runOrder o_runNear o_runLimit o_runHalves o_power o_notedMany o_knownTold o_drawn)) rfl (fun H locs hP hD hS => ?_)
  refine lv_iload_n hx hb dX10_fault_5 rfl (lv_at hl 1 rfl) ?_
  refine lv_if_ne (tgt := 16) hx hb dX10_fault_6 (by decide) (fun c_1 => ?_) (fun c_1 => ?_)
  · have hf := it_f c_1 hf
    refine lv_iload_n hx hb dX10_fault_16 rfl (lv_at hl 1 rfl) ?_
    refine lv_iconst (v := (1 : Int32)) hx hb dX10_fault_17 (by decide) ?_
    refine lv_icmp_ne (tgt := 28) hx hb dX10_fault_18 (by decide) (fun c_2 => ?_) (fun c_2 => ?_)
    · have hf := it_f c_2 hf
      refine lv_iconst (v := (-1 : Int32)) hx hb dX10_fault_28 (by decide) ?_
      cases hf
      exact hret _ _ _ _ dX10_fault_29 hP hD hS
    · have hf := it_t c_2 hf
      refine lv_aload_n hx hb dX10_fault_21 rfl (lv_at hl 0 rfl) ?_
      refine rd (ci := 10) (C := RX10) (T := TX10) (N := 37) hx hb hts inX10 hown hK hP 0 5 rfl rfl (by decide) (hts _ q_fX10_16) rfl dX10_fault_22 ?_
      refine lv_goto (tgt := 29) hx hb dX10_fault_25 (by decide) ?_
      cases hf
      exact hret _ _ _ _ dX10_fault_29 hP hD hS
  · have hf := it_t c_1 hf
    refine lv_aload_n hx hb dX10_fault_9 rfl (lv_at hl 0 rfl) ?_
    refine rd (ci := 10) (C := RX10) (T := TX10) (N := 37) hx hb hts inX10 hown hK hP 0 4 rfl rfl (by decide) (hts _ q_fX10_76) rfl dX10_fault_10 ?_
    refine lv_goto (tgt := 29) hx hb dX10_fault_13 (by decide) ?_
    cases hf
    exact hret _ _ _ _ dX10_fault_29 hP hD hS
def wX10_of (cI cJ cZ : ClassId) (h_o h_o_all h_o_tape h_o_words h_o_told h_o_isTold h_o_toldWave h_o_isPoint h_o_quarter h_o_roots h_o_laidRe h_o_laidIm h_o_byOrder h_o_noted1 h_o_counts h_o_binBy : Nat) (o_tapeSize : Int32) (o_thrown : Int32) (o_fault : Int32) (o_faultPlace : Int32) (o_stop : Int32) (o_next : Int32) (o_kind : Int32) (o_which : Int32) (o_at : Int32) (o_pointsRead : Int32) (o_bank : Int32) (o_isImage : Int32) (o_undos : Int32) (o_runRadix : Int32) (o_runOrder : Int32) (o_runNear : Int32) (o_runLimit : Int32) (o_runHalves : Int32) (o_power : Int32) (o_notedMany : Int32) (o_knownTold : Int32) (o_drawn : Int64) (o_all : Nat → Int32) : va_W := [(h_o, .inr (10, [.ref h_o_tape, .int o_tapeSize, .int o_thrown, .ref h_o_words, .int o_fault, .int o_faultPlace, .int o_stop, .int o_next, .int o_kind, .int o_which, .int o_at, .ref h_o_told, .ref h_o_isTold, .ref h_o_toldWave, .ref h_o_isPoint, .int o_pointsRead, .ref h_o_all, .int o_bank, .int o_isImage, .int o_undos, .int o_runRadix, .int o_runOrder, .int o_runNear, .int o_runLimit, .int o_runHalves, .ref h_o_quarter, .int o_power, .ref h_o_roots, .ref h_o_laidRe, .ref h_o_laidIm, .ref h_o_byOrder, .int o_notedMany, .int o_knownTold, .ref h_o_noted1, .ref h_o_counts, .ref h_o_binBy, .long o_drawn])), (h_o_all, .inl (cI, 3128, .inl o_all))]
def fX10_of (o_bank : Int32) (o_all : Nat → Int32) (p1 : Int32) : Option (Int32) :=
  nm (((136 : Int32) * o_bank) + p1) (fun i_1 =>
  gd (inb i_1 3128) (
  some (o_all (Int32.toNatClampNeg i_1))))
set_option maxHeartbeats 4000000 in
set_option maxRecDepth 100000 in
theorem tX10_of (l : Launch) (G : va_G) (cI cJ cZ : ClassId) (sz : Nat) (h_o h_o_all h_o_tape h_o_words h_o_told h_o_isTold h_o_toldWave h_o_isPoint h_o_quarter h_o_roots h_o_laidRe h_o_laidIm h_o_byOrder h_o_noted1 h_o_counts h_o_binBy : Nat) (o_tapeSize : Int32) (o_thrown : Int32) (o_fault : Int32) (o_faultPlace : Int32) (o_stop : Int32) (o_next : Int32) (o_kind : Int32) (o_which : Int32) (o_at : Int32) (o_pointsRead : Int32) (o_bank : Int32) (o_isImage : Int32) (o_undos : Int32) (o_runRadix : Int32) (o_runOrder : Int32) (o_runNear : Int32) (o_runLimit : Int32) (o_runHalves : Int32) (o_power : Int32) (o_notedMany : Int32) (o_knownTold : Int32) (o_drawn : Int64) (o_all : Nat → Int32) (p1 : Int32) (r : Int32) (hf : fX10_of o_bank o_all p1 = some r) : Met l yX10_of (Cond.code yX10_of cX10_of 2 (some .int) :: BIG) ({ frames := 0, cells := 0, slots := 0, locals := 0 } : Room) (cP G (TY3 cI cJ cZ) [.ref h_o, .int p1] sz (wX10_of cI cJ cZ h_o h_o_all h_o_tape h_o_words h_o_told h_o_isTold h_o_toldWave h_o_isPoint h_o_quarter h_o_roots h_o_laidRe h_o_laidIm h_o_byOrder h_o_noted1 h_o_counts h_o_binBy o_tapeSize o_thrown o_fault o_faultPlace o_stop o_next o_kind o_which o_at o_pointsRead o_bank o_isImage o_undos o_runRadix o_runOrder o_runNear o_runLimit o_runHalves o_power o_notedMany o_knownTold o_drawn o_all)) (cQ G (TY3 cI cJ cZ) sz (wX10_of cI cJ cZ h_o h_o_all h_o_tape h_o_words h_o_told h_o_isTold h_o_toldWave h_o_isPoint h_o_quarter h_o_roots h_o_laidRe h_o_laidIm h_o_byOrder h_o_noted1 h_o_counts h_o_binBy o_tapeSize o_thrown o_fault o_faultPlace o_stop o_next o_kind o_which o_at o_pointsRead o_bank o_isImage o_undos o_runRadix o_runOrder o_runNear o_runLimit o_runHalves o_power o_notedMany o_knownTold o_drawn o_all) (wX10_of cI cJ cZ h_o h_o_all h_o_tape h_o_words h_o_told h_o_isTold h_o_toldWave h_o_isPoint h_o_quarter h_o_roots h_o_laidRe h_o_laidIm h_o_byOrder h_o_noted1 h_o_counts h_o_binBy o_tapeSize o_thrown o_fault o_faultPlace o_stop o_next o_kind o_which o_at o_pointsRead o_bank o_isImage o_undos o_runRadix o_runOrder o_runNear o_runLimit o_runHalves o_power o_notedMany o_knownTold o_drawn o_all) (some (.int r))) 0 0 (va_A (wX10_of cI cJ cZ h_o h_o_all h_o_tape h_o_words h_o_told h_o_isTold h_o_toldWave h_o_isPoint h_o_quarter h_o_roots h_o_laidRe h_o_laidIm h_o_byOrder h_o_noted1 h_o_counts h_o_binBy o_tapeSize o_thrown o_fault o_faultPlace o_stop o_next o_kind o_which o_at o_pointsRead o_bank o_isImage o_undos o_runRadix o_runOrder o_runNear o_runLimit o_runHalves o_power o_notedMany o_knownTold o_drawn o_all) sz) := by
  refine met_i (cc := cX10_of) (maxL := 2) (plainFor_of_name (by decide)) (Nat.le_of_ble_eq_true rfl) (fun p e s m below meth c A ls Q hx hb hml hts hown hK hP hD hS hA hl hret => ?_)
  have hown : s.vm.findClass RX10 = some m.cls := hown
  have hl : lv_has ls 2 [(0, .ref h_o), (1, .int p1)] := hl
  unfold fX10_of at hf
  obtain ⟨H, eH⟩ : ∃ H, H = s.heap := ⟨_, rfl⟩
  obtain ⟨locs, elocs⟩ : ∃ z : List Loc, z = [] := ⟨_, rfl⟩
  have hP : va_P G vwCl (wX10_of cI cJ cZ h_o h_o_all h_o_tape h_o_words h_o_told h_o_isTold h_o_toldWave h_o_isPoint h_o_quarter h_o_roots h_o_laidRe h_o_laidIm h_o_byOrder h_o_noted1 h_o_counts h_o_binBy o_tapeSize o_thrown o_fault o_faultPlace o_stop o_next o_kind o_which o_at o_pointsRead o_bank o_isImage o_undos o_runRadix o_runOrder o_runNear o_runLimit o_runHalves o_power o_notedMany o_knownTold o_drawn o_all) H := by rw [eH]; exact hP
  have hS : va_S A s.heap H locs := by rw [eH, elocs]; exact hS
  suffices hgo : W p l e ({ frames := 0, cells := 0, slots := 0, locals := 0 } : Room) s m ([.ref h_o, .int p1] : List Value).toArray below meth c H locs 0 0 Q (F0 m 0 ls []) by rw [eH, elocs] at hgo; exact hgo
  clear eH elocs
  refine lv_aload_n hx hb dX10_of_0 rfl (lv_at hl 0 rfl) ?_
  refine rd (ci := 10) (C := RX10) (T := TX10) (N := 37) hx hb hts inX10 hown hK hP 0 16 rfl rfl (by decide) (hts _ q_fX10_33) rfl dX10_of_1 ?_
  refine lv_sipush (v := (136 : Int32)) hx hb dX10_of_4 (by decide) ?_
  refine lv_aload_n hx hb dX10_of_7 rfl (lv_at hl 0 rfl) ?_
  refine rd (ci := 10) (C := RX10) (T := TX10) (N := 37) hx hb hts inX10 hown hK hP 0 17 rfl rfl (by decide) (hts _ q_fX10_112) rfl dX10_of_8 ?_
  refine lv_imul hx hb dX10_of_11 ?_
  refine lv_iload_n hx hb dX10_of_12 rfl (lv_at hl 1 rfl) ?_
  refine lv_iadd hx hb dX10_of_13 ?_
  refine lv_topi (fun i_1 ei_1 => ?_)
  have hf := nm_x ei_1 hf
  obtain ⟨g_2, hf⟩ := gd_x hf
  refine va_iald hx hb hK hP 1 0 rfl rfl (inb_x g_2) dX10_of_14 ?_
  cases hf
  exact hret _ _ _ _ dX10_of_15 hP hD hS
def wX10_copyBank (cI cJ cZ : ClassId) (h_o h_o_all h_o_tape h_o_words h_o_told h_o_isTold h_o_toldWave h_o_isPoint h_o_quarter h_o_roots h_o_laidRe h_o_laidIm h_o_byOrder h_o_noted1 h_o_counts h_o_binBy : Nat) (o_tapeSize : Int32) (o_thrown : Int32) (o_fault : Int32) (o_faultPlace : Int32) (o_stop : Int32) (o_next : Int32) (o_kind : Int32) (o_which : Int32) (o_at : Int32) (o_pointsRead : Int32) (o_bank : Int32) (o_isImage : Int32) (o_undos : Int32) (o_runRadix : Int32) (o_runOrder : Int32) (o_runNear : Int32) (o_runLimit : Int32) (o_runHalves : Int32) (o_power : Int32) (o_notedMany : Int32) (o_knownTold : Int32) (o_drawn : Int64) (o_all : Nat → Int32) : va_W := [(h_o, .inr (10, [.ref h_o_tape, .int o_tapeSize, .int o_thrown, .ref h_o_words, .int o_fault, .int o_faultPlace, .int o_stop, .int o_next, .int o_kind, .int o_which, .int o_at, .ref h_o_told, .ref h_o_isTold, .ref h_o_toldWave, .ref h_o_isPoint, .int o_pointsRead, .ref h_o_all, .int o_bank, .int o_isImage, .int o_undos, .int o_runRadix, .int o_runOrder, .int o_runNear, .int o_runLimit, .int o_runHalves, .ref h_o_quarter, .int o_power, .ref h_o_roots, .ref h_o_laidRe, .ref h_o_laidIm, .ref h_o_byOrder, .int o_notedMany, .int o_knownTold, .ref h_o_noted1, .ref h_o_counts, .ref h_o_binBy, .long o_drawn])), (h_o_all, .inl (cI, 3128, .inl o_all))]
def fX10_copyBank_2 : Nat → (Nat → Int32) → Int32 → Int32 → Int32 → Option ((Nat → Int32))
  | 0, _, _, _, _ => none
  | n + 1, o_all, v1, v2, v3 =>
    if (136 : Int32) ≤ v3 then (
      some o_all
    ) else (
      nm (((136 : Int32) * v1) + v3) (fun i_2 =>
      gd (inb i_2 3128) (
      gd (inb (((136 : Int32) * v2) + v3) 3128) (
      nm (upd o_all (Int32.toNatClampNeg (((136 : Int32) * v2) + v3)) (o_all (Int32.toNatClampNeg i_2))) (fun o_all_5 =>
      nm (v3 + (1 : Int32)) (fun v3_6 =>
      fX10_copyBank_2 n o_all_5 v1 v2 v3_6)))))
    )
def fX10_copyBank (o_all : Nat → Int32) (p1 : Int32) (p2 : Int32) : Option ((Nat → Int32)) :=
  fX10_copyBank_2 FU o_all p1 p2 (0 : Int32)
set_option maxHeartbeats 4000000 in
set_option maxRecDepth 100000 in
theorem tX10_copyBank (l : Launch) (G : va_G) (cI cJ cZ : ClassId) (sz : Nat) (h_o h_o_all h_o_tape h_o_words h_o_told h_o_isTold h_o_toldWave h_o_isPoint h_o_quarter h_o_roots h_o_laidRe h_o_laidIm h_o_byOrder h_o_noted1 h_o_counts h_o_binBy : Nat) (o_tapeSize : Int32) (o_thrown : Int32) (o_fault : Int32) (o_faultPlace : Int32) (o_stop : Int32) (o_next : Int32) (o_kind : Int32) (o_which : Int32) (o_at : Int32) (o_pointsRead : Int32) (o_bank : Int32) (o_isImage : Int32) (o_undos : Int32) (o_runRadix : Int32) (o_runOrder : Int32) (o_runNear : Int32) (o_runLimit : Int32) (o_runHalves : Int32) (o_power : Int32) (o_notedMany : Int32) (o_knownTold : Int32) (o_drawn : Int64) (o_all : Nat → Int32) (p1 : Int32) (p2 : Int32) (out_o_all : Nat → Int32) (hf : fX10_copyBank o_all p1 p2 = some out_o_all) : Met l yX10_copyBank (Cond.code yX10_copyBank cX10_copyBank 4 none :: BIG) ({ frames := 0, cells := 0, slots := 0, locals := 0 } : Room) (cP G (TY3 cI cJ cZ) [.ref h_o, .int p1, .int p2] sz (wX10_copyBank cI cJ cZ h_o h_o_all h_o_tape h_o_words h_o_told h_o_isTold h_o_toldWave h_o_isPoint h_o_quarter h_o_roots h_o_laidRe h_o_laidIm h_o_byOrder h_o_noted1 h_o_counts h_o_binBy o_tapeSize o_thrown o_fault o_faultPlace o_stop o_next o_kind o_which o_at o_pointsRead o_bank o_isImage o_undos o_runRadix o_runOrder o_runNear o_runLimit o_runHalves o_power o_notedMany o_knownTold o_drawn o_all)) (cQ G (TY3 cI cJ cZ) sz (wX10_copyBank cI cJ cZ h_o h_o_all h_o_tape h_o_words h_o_told h_o_isTold h_o_toldWave h_o_isPoint h_o_quarter h_o_roots h_o_laidRe h_o_laidIm h_o_byOrder h_o_noted1 h_o_counts h_o_binBy o_tapeSize o_thrown o_fault o_faultPlace o_stop o_next o_kind o_which o_at o_pointsRead o_bank o_isImage o_undos o_runRadix o_runOrder o_runNear o_runLimit o_runHalves o_power o_notedMany o_knownTold o_drawn o_all) (wX10_copyBank cI cJ cZ h_o h_o_all h_o_tape h_o_words h_o_told h_o_isTold h_o_toldWave h_o_isPoint h_o_quarter h_o_roots h_o_laidRe h_o_laidIm h_o_byOrder h_o_noted1 h_o_counts h_o_binBy o_tapeSize o_thrown o_fault o_faultPlace o_stop o_next o_kind o_which o_at o_pointsRead o_bank o_isImage o_undos o_runRadix o_runOrder o_runNear o_runLimit o_runHalves o_power o_notedMany o_knownTold o_drawn out_o_all) none) 0 0 (va_A (wX10_copyBank cI cJ cZ h_o h_o_all h_o_tape h_o_words h_o_told h_o_isTold h_o_toldWave h_o_isPoint h_o_quarter h_o_roots h_o_laidRe h_o_laidIm h_o_byOrder h_o_noted1 h_o_counts h_o_binBy o_tapeSize o_thrown o_fault o_faultPlace o_stop o_next o_kind o_which o_at o_pointsRead o_bank o_isImage o_undos o_runRadix o_runOrder o_runNear o_runLimit o_runHalves o_power o_notedMany o_knownTold o_drawn o_all) sz) := by
  refine met_v (cc := cX10_copyBank) (maxL := 4) (plainFor_of_name (by decide)) (Nat.le_of_ble_eq_true rfl) (fun p e s m below meth c A ls Q hx hb hml hts hown hK hP hD hS hA hl hret => ?_)
  have hown : s.vm.findClass RX10 = some m.cls := hown
  have hl : lv_has ls 4 [(0, .ref h_o), (1, .int p1), (2, .int p2)] := hl
  have j2 : ∀ (n : Nat) (o_all : Nat → Int32) (v1 : Int32) (v2 : Int32) (v3 : Int32) (H : Heap) (locs : List Loc) (ls : Array Slot), fX10_copyBank_2 n o_all v1 v2 v3 = some out_o_all → va_P G vwCl (wX10_copyBank cI cJ cZ h_o h_o_all h_o_tape h_o_words h_o_told h_o_isTold h_o_toldWave h_o_isPoint h_o_quarter h_o_roots h_o_laidRe h_o_laidIm h_o_byOrder h_o_noted1 h_o_counts h_o_binBy o_tapeSize o_thrown o_fault o_faultPlace o_stop o_next o_kind o_which o_at o_pointsRead o_bank o_isImage o_undos o_runRadix o_runOrder o_runNear o_runLimit o_runHalves o_power o_notedMany o_knownTold o_drawn o_all) H → va_D A (wX10_copyBank cI cJ cZ h_o h_o_all h_o_tape h_o_words h_o_told h_o_isTold h_o_toldWave h_o_isPoint h_o_quarter h_o_roots h_o_laidRe h_o_laidIm h_o_byOrder h_o_noted1 h_o_counts h_o_binBy o_tapeSize o_thrown o_fault o_faultPlace o_stop o_next o_kind o_which o_at o_pointsRead o_bank o_isImage o_undos o_runRadix o_runOrder o_runNear o_runLimit o_runHalves o_power o_notedMany o_knownTold o_drawn o_all) → va_S A s.heap H locs → lv_has ls 4 [(0, .ref h_o), (1, .int v1), (2, .int v2), (3, .int v3)] → W p l e ({ frames := 0, cells := 0, slots := 0, locals := 0 } : Room) s m ([.ref h_o, .int p1, .int p2] : List Value).toArray below meth c H locs 0 0 Q (F0 m 2 ls []) := by
    intro n
    induction n with
    | zero =>
      intro o_all v1 v2 v3 H locs ls hf
      have hf : (none : Option ((Nat → Int32))) = some out_o_all := hf
      cases hf
    | succ n ih =>
      intro o_all v1 v2 v3 H locs ls hf hP hD hS hl
      rw [fX10_copyBank_2.eq_2] at hf
      refine lv_iload_n hx hb dX10_copyBank_2 rfl (lv_at hl 3 rfl) ?_
      refine lv_sipush (v := (136 : Int32)) hx hb dX10_copyBank_3 (by decide) ?_
      refine lv_icmp_ge (tgt := 39) hx hb dX10_copyBank_6 (by decide) (fun c_1 => ?_) (fun c_1 => ?_)
      · have hf := it_t c_1 hf
        cases hf
        exact hret _ _ _ _ dX10_copyBank_39 hP hD hS
      · have hf := it_f c_1 hf
        refine lv_aload_n hx hb dX10_copyBank_9 rfl (lv_at hl 0 rfl) ?_
        refine rd (ci := 10) (C := RX10) (T := TX10) (N := 37) hx hb hts inX10 hown hK hP 0 16 rfl rfl (by decide) (hts _ q_fX10_33) rfl dX10_copyBank_10 ?_
        refine lv_sipush (v := (136 : Int32)) hx hb dX10_copyBank_13 (by decide) ?_
        refine lv_iload_n hx hb dX10_copyBank_16 rfl (lv_at hl 2 rfl) ?_
        refine lv_imul hx hb dX10_copyBank_17 ?_
        refine lv_iload_n hx hb dX10_copyBank_18 rfl (lv_at hl 3 rfl) ?_
        refine lv_iadd hx hb dX10_copyBank_19 ?_
        refine lv_aload_n hx hb dX10_copyBank_20 rfl (lv_at hl 0 rfl) ?_
        refine rd (ci := 10) (C := RX10) (T := TX10) (N := 37) hx hb hts inX10 hown hK hP 0 16 rfl rfl (by decide) (hts _ q_fX10_33) rfl dX10_copyBank_21 ?_
        refine lv_sipush (v := (136 : Int32)) hx hb dX10_copyBank_24 (by decide) ?_
        refine lv_iload_n hx hb dX10_copyBank_27 rfl (lv_at hl 1 rfl) ?_
        refine lv_imul hx hb dX10_copyBank_28 ?_
        refine lv_iload_n hx hb dX10_copyBank_29 rfl (lv_at hl 3 rfl) ?_
        refine lv_iadd hx hb dX10_copyBank_30 ?_
        refine lv_topi (fun i_2 ei_2 => ?_)
        have hf := nm_x ei_2 hf
        obtain ⟨g_3, hf⟩ := gd_x hf
        refine va_iald hx hb hK hP 1 0 rfl rfl (inb_x g_3) dX10_copyBank_31 ?_
        obtain ⟨g_4, hf⟩ := gd_x hf
        obtain ⟨o_all_5, eo_all_5⟩ : ∃ y : Nat → Int32, y = upd o_all (Int32.toNatClampNeg (((136 : Int32) * v2) + v3)) (o_all (Int32.toNatClampNeg i_2)) := ⟨_, rfl⟩
        have hf := nm_x eo_all_5 hf
        refine ist hx hb hK hP hD hS 1 0 rfl rfl (inb_x g_4) dX10_copyBank_32 eo_all_5 (ws2 := (wX10_copyBank cI cJ cZ h_o h_o_all h_o_tape h_o_words h_o_told h_o_isTold h_o_toldWave h_o_isPoint h_o_quarter h_o_roots h_o_laidRe h_o_laidIm h_o_byOrder h_o_noted1 h_o_counts h_o_binBy o_tapeSize o_thrown o_fault o_faultPlace o_stop o_next o_kind o_which o_at o_pointsRead o_bank o_isImage o_undos o_runRadix o_runOrder o_runNear o_runLimit o_runHalves o_power o_notedMany o_knownTold o_drawn o_all_5)) rfl (fun H locs hP hD hS => ?_)
        obtain ⟨v3_6, ev3_6⟩ : ∃ y : Int32, y = v3 + (1 : Int32) := ⟨_, rfl⟩
        have hf := nm_x ev3_6 hf
        refine lv_iinc (v := v3_6) (lv' := [(3, .int v3_6), (0, .ref h_o), (1, .int v1), (2, .int v2)]) hx hb dX10_copyBank_33 hl (k := 3) rfl (by rw [ev3_6]; rfl) (by decide) rfl (fun ls hl => ?_)
        refine lv_goto (tgt := 2) hx hb dX10_copyBank_36 (by decide) ?_
        exact ih o_all_5 v1 v2 v3_6 H locs ls hf hP hD hS (lv_sub hl [1, 2, 3, 0] rfl)
  unfold fX10_copyBank at hf
  obtain ⟨H, eH⟩ : ∃ H, H = s.heap := ⟨_, rfl⟩
  obtain ⟨locs, elocs⟩ : ∃ z : List Loc, z = [] := ⟨_, rfl⟩
  have hP : va_P G vwCl (wX10_copyBank cI cJ cZ h_o h_o_all h_o_tape h_o_words h_o_told h_o_isTold h_o_toldWave h_o_isPoint h_o_quarter h_o_roots h_o_laidRe h_o_laidIm h_o_byOrder h_o_noted1 h_o_counts h_o_binBy o_tapeSize o_thrown o_fault o_faultPlace o_stop o_next o_kind o_which o_at o_pointsRead o_bank o_isImage o_undos o_runRadix o_runOrder o_runNear o_runLimit o_runHalves o_power o_notedMany o_knownTold o_drawn o_all) H := by rw [eH]; exact hP
  have hS : va_S A s.heap H locs := by rw [eH, elocs]; exact hS
  suffices hgo : W p l e ({ frames := 0, cells := 0, slots := 0, locals := 0 } : Room) s m ([.ref h_o, .int p1, .int p2] : List Value).toArray below meth c H locs 0 0 Q (F0 m 0 ls []) by rw [eH, elocs] at hgo; exact hgo
  clear eH elocs
  refine lv_iconst (v := (0 : Int32)) hx hb dX10_copyBank_0 (by decide) ?_
  refine lv_istore_n (lv' := [(3, .int (0 : Int32)), (0, .ref h_o), (1, .int p1), (2, .int p2)]) hx hb dX10_copyBank_1 rfl hl (by decide) rfl (fun ls hl => ?_)
  exact j2 FU o_all p1 p2 (0 : Int32) H locs ls hf hP hD hS (lv_sub hl [1, 2, 3, 0] rfl)
def wX10_asItIs (cI cJ cZ : ClassId) (h_o h_o_told h_o_tape h_o_words h_o_isTold h_o_toldWave h_o_isPoint h_o_all h_o_quarter h_o_roots h_o_laidRe h_o_laidIm h_o_byOrder h_o_noted1 h_o_counts h_o_binBy : Nat) (o_tapeSize : Int32) (o_thrown : Int32) (o_fault : Int32) (o_faultPlace : Int32) (o_stop : Int32) (o_next : Int32) (o_kind : Int32) (o_which : Int32) (o_at : Int32) (o_pointsRead : Int32) (o_bank : Int32) (o_isImage : Int32) (o_undos : Int32) (o_runRadix : Int32) (o_runOrder : Int32) (o_runNear : Int32) (o_runLimit : Int32) (o_runHalves : Int32) (o_power : Int32) (o_notedMany : Int32) (o_knownTold : Int32) (o_drawn : Int64) (o_told : Nat → Int32) : va_W := [(h_o, .inr (10, [.ref h_o_tape, .int o_tapeSize, .int o_thrown, .ref h_o_words, .int o_fault, .int o_faultPlace, .int o_stop, .int o_next, .int o_kind, .int o_which, .int o_at, .ref h_o_told, .ref h_o_isTold, .ref h_o_toldWave, .ref h_o_isPoint, .int o_pointsRead, .ref h_o_all, .int o_bank, .int o_isImage, .int o_undos, .int o_runRadix, .int o_runOrder, .int o_runNear, .int o_runLimit, .int o_runHalves, .ref h_o_quarter, .int o_power, .ref h_o_roots, .ref h_o_laidRe, .ref h_o_laidIm, .ref h_o_byOrder, .int o_notedMany, .int o_knownTold, .ref h_o_noted1, .ref h_o_counts, .ref h_o_binBy, .long o_drawn])), (h_o_told, .inl (cI, 12, .inl o_told))]
def fX10_asItIs (o_bank : Int32) (o_runRadix : Int32) (o_runOrder : Int32) (o_runNear : Int32) (o_runLimit : Int32) (o_runHalves : Int32) (o_told : Nat → Int32) : Option (Int32 × Int32 × Int32 × Int32 × Int32 × Int32) :=
  bd5 (fX10_byText o_runRadix o_runOrder o_runNear o_runLimit o_runHalves o_told) (fun o_runRadix_1 o_runOrder_2 o_runNear_3 o_runLimit_4 o_runHalves_5 =>
  some ((0 : Int32), o_runRadix_1, o_runOrder_2, o_runNear_3, o_runLimit_4, o_runHalves_5))
set_option maxHeartbeats 4000000 in
set_option maxRecDepth 100000 in
theorem tX10_asItIs (l : Launch) (G : va_G) (cI cJ cZ : ClassId) (sz : Nat) (h_o h_o_told h_o_tape h_o_words h_o_isTold h_o_toldWave h_o_isPoint h_o_all h_o_quarter h_o_roots h_o_laidRe h_o_laidIm h_o_byOrder h_o_noted1 h_o_counts h_o_binBy : Nat) (o_tapeSize : Int32) (o_thrown : Int32) (o_fault : Int32) (o_faultPlace : Int32) (o_stop : Int32) (o_next : Int32) (o_kind : Int32) (o_which : Int32) (o_at : Int32) (o_pointsRead : Int32) (o_bank : Int32) (o_isImage : Int32) (o_undos : Int32) (o_runRadix : Int32) (o_runOrder : Int32) (o_runNear : Int32) (o_runLimit : Int32) (o_runHalves : Int32) (o_power : Int32) (o_notedMany : Int32) (o_knownTold : Int32) (o_drawn : Int64) (o_told : Nat → Int32) (out_o_bank : Int32) (out_o_runRadix : Int32) (out_o_runOrder : Int32) (out_o_runNear : Int32) (out_o_runLimit : Int32) (out_o_runHalves : Int32) (hf : fX10_asItIs o_bank o_runRadix o_runOrder o_runNear o_runLimit o_runHalves o_told = some (out_o_bank, out_o_runRadix, out_o_runOrder, out_o_runNear, out_o_runLimit, out_o_runHalves)) : Met l yX10_asItIs (Cond.code yX10_asItIs cX10_asItIs 1 none :: BIG) ({ frames := 2, cells := 0, slots := 0, locals := 40 } : Room) (cP G (TY3 cI cJ cZ) [.ref h_o] sz (wX10_asItIs cI cJ cZ h_o h_o_told h_o_tape h_o_words h_o_isTold h_o_toldWave h_o_isPoint h_o_all h_o_quarter h_o_roots h_o_laidRe h_o_laidIm h_o_byOrder h_o_noted1 h_o_counts h_o_binBy o_tapeSize o_thrown o_fault o_faultPlace o_stop o_next o_kind o_which o_at o_pointsRead o_bank o_isImage o_undos o_runRadix o_runOrder o_runNear o_runLimit o_runHalves o_power o_notedMany o_knownTold o_drawn o_told)) (cQ G (TY3 cI cJ cZ) sz (wX10_asItIs cI cJ cZ h_o h_o_told h_o_tape h_o_words h_o_isTold h_o_toldWave h_o_isPoint h_o_all h_o_quarter h_o_roots h_o_laidRe h_o_laidIm h_o_byOrder h_o_noted1 h_o_counts h_o_binBy o_tapeSize o_thrown o_fault o_faultPlace o_stop o_next o_kind o_which o_at o_pointsRead o_bank o_isImage o_undos o_runRadix o_runOrder o_runNear o_runLimit o_runHalves o_power o_notedMany o_knownTold o_drawn o_told) (wX10_asItIs cI cJ cZ h_o h_o_told h_o_tape h_o_words h_o_isTold h_o_toldWave h_o_isPoint h_o_all h_o_quarter h_o_roots h_o_laidRe h_o_laidIm h_o_byOrder h_o_noted1 h_o_counts h_o_binBy o_tapeSize o_thrown o_fault o_faultPlace o_stop o_next o_kind o_which o_at o_pointsRead out_o_bank o_isImage o_undos out_o_runRadix out_o_runOrder out_o_runNear out_o_runLimit out_o_runHalves o_power o_notedMany o_knownTold o_drawn o_told) none) 0 0 (va_A (wX10_asItIs cI cJ cZ h_o h_o_told h_o_tape h_o_words h_o_isTold h_o_toldWave h_o_isPoint h_o_all h_o_quarter h_o_roots h_o_laidRe h_o_laidIm h_o_byOrder h_o_noted1 h_o_counts h_o_binBy o_tapeSize o_thrown o_fault o_faultPlace o_stop o_next o_kind o_which o_at o_pointsRead o_bank o_isImage o_undos o_runRadix o_runOrder o_runNear o_runLimit o_runHalves o_power o_notedMany o_knownTold o_drawn o_told) sz) := by
  refine met_v (cc := cX10_asItIs) (maxL := 1) (plainFor_of_name (by decide)) (Nat.le_of_ble_eq_true rfl) (fun p e s m below meth c A ls Q hx hb hml hts hown hK hP hD hS hA hl hret => ?_)
  have hown : s.vm.findClass RX10 = some m.cls := hown
  have hl : lv_has ls 1 [(0, .ref h_o)] := hl
  unfold fX10_asItIs at hf
  obtain ⟨H, eH⟩ : ∃ H, H = s.heap := ⟨_, rfl⟩
  obtain ⟨locs, elocs⟩ : ∃ z : List Loc, z = [] := ⟨_, rfl⟩
  have hP : va_P G vwCl (wX10_asItIs cI cJ cZ h_o h_o_told h_o_tape h_o_words h_o_isTold h_o_toldWave h_o_isPoint h_o_all h_o_quarter h_o_roots h_o_laidRe h_o_laidIm h_o_byOrder h_o_noted1 h_o_counts h_o_binBy o_tapeSize o_thrown o_fault o_faultPlace o_stop o_next o_kind o_which o_at o_pointsRead o_bank o_isImage o_undos o_runRadix o_runOrder o_runNear o_runLimit o_runHalves o_power o_notedMany o_knownTold o_drawn o_told) H := by rw [eH]; exact hP
  have hS : va_S A s.heap H locs := by rw [eH, elocs]; exact hS
  suffices hgo : W p l e ({ frames := 2, cells := 0, slots := 0, locals := 40 } : Room) s m ([.ref h_o] : List Value).toArray below meth c H locs 0 0 Q (F0 m 0 ls []) by rw [eH, elocs] at hgo; exact hgo
  clear eH elocs
  refine lv_aload_n hx hb dX10_asItIs_0 rfl (lv_at hl 0 rfl) ?_
  refine lv_iconst (v := (0 : Int32)) hx hb dX10_asItIs_1 (by decide) ?_
  refine wr (ci := 10) (C := RX10) (T := TX10) (N := 37) hx hb hts inX10 tyX10 tyX10_ok nmX10 hown hK hP hD hS 0 17 rfl rfl (by decide) (hts _ q_fX10_112) rfl rfl rfl (Nat.le_of_ble_eq_true rfl) dX10_asItIs_2 (ws2 := (wX10_asItIs cI cJ cZ h_o h_o_told h_o_tape h_o_words h_o_isTold h_o_toldWave h_o_isPoint h_o_all h_o_quarter h_o_roots h_o_laidRe h_o_laidIm h_o_byOrder h_o_noted1 h_o_counts h_o_binBy o_tapeSize o_thrown o_fault o_faultPlace o_stop o_next o_kind o_which o_at o_pointsRead (0 : Int32) o_isImage o_undos o_runRadix o_runOrder o_runNear o_runLimit o_runHalves o_power o_notedMany o_knownTold o_drawn o_told)) rfl (fun H locs hP hD hS => ?_)
  refine lv_aload_n hx hb dX10_asItIs_5 rfl (lv_at hl 0 rfl) ?_
  obtain ⟨o_runRadix_1, o_runOrder_2, o_runNear_3, o_runLimit_4, o_runHalves_5, e_6, hf⟩ := bd5_x hf
  refine call_v [] [] ⟨hx, hb, hml, hown, hts⟩ hK hP hD hS hA hl.1 (tX10_byText l G cI cJ cZ H.size h_o h_o_told h_o_tape h_o_words h_o_isTold h_o_toldWave h_o_isPoint h_o_all h_o_quarter h_o_roots h_o_laidRe h_o_laidIm h_o_byOrder h_o_noted1 h_o_counts h_o_binBy o_tapeSize o_thrown o_fault o_faultPlace o_stop o_next o_kind o_which o_at o_pointsRead (0 : Int32) o_isImage o_undos o_runRadix o_runOrder o_runNear o_runLimit o_runHalves o_power o_notedMany o_knownTold o_drawn o_told o_runRadix_1 o_runOrder_2 o_runNear_3 o_runLimit_4 o_runHalves_5 e_6) (cwV 0 hts (gv q_mX10_115 q_i_yX10_byText q_s_yX10_byText q_n_RX10 q_k_yX10_byText) rfl rfl rfl (by decide +kernel) ⟨by decide, by decide⟩) rfl rfl (Nat.le_of_ble_eq_true rfl) dX10_asItIs_6 ⟨Nat.zero_le _, Nat.zero_le _⟩ (ci := 10) rfl 0 rfl [0, 1] [] [0, 1] rfl rfl (ws2 := (wX10_asItIs cI cJ cZ h_o h_o_told h_o_tape h_o_words h_o_isTold h_o_toldWave h_o_isPoint h_o_all h_o_quarter h_o_roots h_o_laidRe h_o_laidIm h_o_byOrder h_o_noted1 h_o_counts h_o_binBy o_tapeSize o_thrown o_fault o_faultPlace o_stop o_next o_kind o_which o_at o_pointsRead (0 : Int32) o_isImage o_undos o_runRadix_1 o_runOrder_2 o_runNear_3 o_runLimit_4 o_runHalves_5 o_power o_notedMany o_knownTold o_drawn o_told)) rfl (fun H locs hP hD hS => ?_)
  refine W.eq (g2 := F0 m 9 ls []) rfl ?_
  cases hf
  exact hret _ _ _ _ dX10_asItIs_9 hP hD hS
def wX10_asNow (cI cJ cZ : ClassId) (h_o h_o_all h_o_tape h_o_words h_o_told h_o_isTold h_o_toldWave h_o_isPoint h_o_quarter h_o_roots h_o_laidRe h_o_laidIm h_o_byOrder h_o_noted1 h_o_counts h_o_binBy : Nat) (o_tapeSize : Int32) (o_thrown : Int32) (o_fault : Int32) (o_faultPlace : Int32) (o_stop : Int32) (o_next : Int32) (o_kind : Int32) (o_which : Int32) (o_at : Int32) (o_pointsRead : Int32) (o_bank : Int32) (o_isImage : Int32) (o_undos : Int32) (o_runRadix : Int32) (o_runOrder : Int32) (o_runNear : Int32) (o_runLimit : Int32) (o_runHalves : Int32) (o_power : Int32) (o_notedMany : Int32) (o_knownTold : Int32) (o_drawn : Int64) (o_all : Nat → Int32) : va_W := [(h_o, .inr (10, [.ref h_o_tape, .int o_tapeSize, .int o_thrown, .ref h_o_words, .int o_fault, .int o_faultPlace, .int o_stop, .int o_next, .int o_kind, .int o_which, .int o_at, .ref h_o_told, .ref h_o_isTold, .ref h_o_toldWave, .ref h_o_isPoint, .int o_pointsRead, .ref h_o_all, .int o_bank, .int o_isImage, .int o_undos, .int o_runRadix, .int o_runOrder, .int o_runNear, .int o_runLimit, .int o_runHalves, .ref h_o_quarter, .int o_power, .ref h_o_roots, .ref h_o_laidRe, .ref h_o_laidIm, .ref h_o_byOrder, .int o_notedMany, .int o_knownTold, .ref h_o_noted1, .ref h_o_counts, .ref h_o_binBy, .long o_drawn])), (h_o_all, .inl (cI, 3128, .inl o_all))]
def fX10_asNow (o_bank : Int32) (o_all : Nat → Int32) : Option (Int32 × (Nat → Int32)) :=
  bd1 (fX10_copyBank o_all (0 : Int32) (1 : Int32)) (fun o_all_1 =>
  some ((1 : Int32), o_all_1))
set_option maxHeartbeats 4000000 in
set_option maxRecDepth 100000 in
theorem tX10_asNow (l : Launch) (G : va_G) (cI cJ cZ : ClassId) (sz : Nat) (h_o h_o_all h_o_tape h_o_words h_o_told h_o_isTold h_o_toldWave h_o_isPoint h_o_quarter h_o_roots h_o_laidRe h_o_laidIm h_o_byOrder h_o_noted1 h_o_counts h_o_binBy : Nat) (o_tapeSize : Int32) (o_thrown : Int32) (o_fault : Int32) (o_faultPlace : Int32) (o_stop : Int32) (o_next : Int32) (o_kind : Int32) (o_which : Int32) (o_at : Int32) (o_pointsRead : Int32) (o_bank : Int32) (o_isImage : Int32) (o_undos : Int32) (o_runRadix : Int32) (o_runOrder : Int32) (o_runNear : Int32) (o_runLimit : Int32) (o_runHalves : Int32) (o_power : Int32) (o_notedMany : Int32) (o_knownTold : Int32) (o_drawn : Int64) (o_all : Nat → Int32) (out_o_bank : Int32) (out_o_all : Nat → Int32) (hf : fX10_asNow o_bank o_all = some (out_o_bank, out_o_all)) : Met l yX10_asNow (Cond.code yX10_asNow cX10_asNow 1 none :: BIG) ({ frames := 1, cells := 0, slots := 0, locals := 23 } : Room) (cP G (TY3 cI cJ cZ) [.ref h_o] sz (wX10_asNow cI cJ cZ h_o h_o_all h_o_tape h_o_words h_o_told h_o_isTold h_o_toldWave h_o_isPoint h_o_quarter h_o_roots h_o_laidRe h_o_laidIm h_o_byOrder h_o_noted1 h_o_counts h_o_binBy o_tapeSize o_thrown o_fault o_faultPlace o_stop o_next o_kind o_which o_at o_pointsRead o_bank o_isImage o_undos o_runRadix o_runOrder o_runNear o_runLimit o_runHalves o_power o_notedMany o_knownTold o_drawn o_all)) (cQ G (TY3 cI cJ cZ) sz (wX10_asNow cI cJ cZ h_o h_o_all h_o_tape h_o_words h_o_told h_o_isTold h_o_toldWave h_o_isPoint h_o_quarter h_o_roots h_o_laidRe h_o_laidIm h_o_byOrder h_o_noted1 h_o_counts h_o_binBy o_tapeSize o_thrown o_fault o_faultPlace o_stop o_next o_kind o_which o_at o_pointsRead o_bank o_isImage o_undos o_runRadix o_runOrder o_runNear o_runLimit o_runHalves o_power o_notedMany o_knownTold o_drawn o_all) (wX10_asNow cI cJ cZ h_o h_o_all h_o_tape h_o_words h_o_told h_o_isTold h_o_toldWave h_o_isPoint h_o_quarter h_o_roots h_o_laidRe h_o_laidIm h_o_byOrder h_o_noted1 h_o_counts h_o_binBy o_tapeSize o_thrown o_fault o_faultPlace o_stop o_next o_kind o_which o_at o_pointsRead out_o_bank o_isImage o_undos o_runRadix o_runOrder o_runNear o_runLimit o_runHalves o_power o_notedMany o_knownTold o_drawn out_o_all) none) 0 0 (va_A (wX10_asNow cI cJ cZ h_o h_o_all h_o_tape h_o_words h_o_told h_o_isTold h_o_toldWave h_o_isPoint h_o_quarter h_o_roots h_o_laidRe h_o_laidIm h_o_byOrder h_o_noted1 h_o_counts h_o_binBy o_tapeSize o_thrown o_fault o_faultPlace o_stop o_next o_kind o_which o_at o_pointsRead o_bank o_isImage o_undos o_runRadix o_runOrder o_runNear o_runLimit o_runHalves o_power o_notedMany o_knownTold o_drawn o_all) sz) := by
  refine met_v (cc := cX10_asNow) (maxL := 1) (plainFor_of_name (by decide)) (Nat.le_of_ble_eq_true rfl) (fun p e s m below meth c A ls Q hx hb hml hts hown hK hP hD hS hA hl hret => ?_)
  have hown : s.vm.findClass RX10 = some m.cls := hown
  have hl : lv_has ls 1 [(0, .ref h_o)] := hl
  unfold fX10_asNow at hf
  obtain ⟨H, eH⟩ : ∃ H, H = s.heap := ⟨_, rfl⟩
  obtain ⟨locs, elocs⟩ : ∃ z : List Loc, z = [] := ⟨_, rfl⟩
  have hP : va_P G vwCl (wX10_asNow cI cJ cZ h_o h_o_all h_o_tape h_o_words h_o_told h_o_isTold h_o_toldWave h_o_isPoint h_o_quarter h_o_roots h_o_laidRe h_o_laidIm h_o_byOrder h_o_noted1 h_o_counts h_o_binBy o_tapeSize o_thrown o_fault o_faultPlace o_stop o_next o_kind o_which o_at o_pointsRead o_bank o_isImage o_undos o_runRadix o_runOrder o_runNear o_runLimit o_runHalves o_power o_notedMany o_knownTold o_drawn o_all) H := by rw [eH]; exact hP
  have hS : va_S A s.heap H locs := by rw [eH, elocs]; exact hS
  suffices hgo : W p l e ({ frames := 1, cells := 0, slots := 0, locals := 23 } : Room) s m ([.ref h_o] : List Value).toArray below meth c H locs 0 0 Q (F0 m 0 ls []) by rw [eH, elocs] at hgo; exact hgo
  clear eH elocs
  refine lv_aload_n hx hb dX10_asNow_0 rfl (lv_at hl 0 rfl) ?_
  refine lv_iconst (v := (0 : Int32)) hx hb dX10_asNow_1 (by decide) ?_
  refine lv_iconst (v := (1 : Int32)) hx hb dX10_asNow_2 (by decide) ?_
  obtain ⟨o_all_1, e_2, hf⟩ := bd1_x hf
  refine call_v [.int (0 : Int32), .int (1 : Int32)] [] ⟨hx, hb, hml, hown, hts⟩ hK hP hD hS hA hl.1 (tX10_copyBank l G cI cJ cZ H.size h_o h_o_all h_o_tape h_o_words h_o_told h_o_isTold h_o_toldWave h_o_isPoint h_o_quarter h_o_roots h_o_laidRe h_o_laidIm h_o_byOrder h_o_noted1 h_o_counts h_o_binBy o_tapeSize o_thrown o_fault o_faultPlace o_stop o_next o_kind o_which o_at o_pointsRead o_bank o_isImage o_undos o_runRadix o_runOrder o_runNear o_runLimit o_runHalves o_power o_notedMany o_knownTold o_drawn o_all (0 : Int32) (1 : Int32) o_all_1 e_2) (cwV 2 hts (gv q_mX10_181 q_i_yX10_copyBank q_s_yX10_copyBank q_n_RX10 q_k_yX10_copyBank) rfl rfl rfl (by decide +kernel) ⟨by decide, by decide⟩) rfl rfl (Nat.le_of_ble_eq_true rfl) dX10_asNow_3 ⟨Nat.zero_le _, Nat.zero_le _⟩ (ci := 10) rfl 0 rfl [0, 1] [] [0, 1] rfl rfl (ws2 := (wX10_asNow cI cJ cZ h_o h_o_all h_o_tape h_o_words h_o_told h_o_isTold h_o_toldWave h_o_isPoint h_o_quarter h_o_roots h_o_laidRe h_o_laidIm h_o_byOrder h_o_noted1 h_o_counts h_o_binBy o_tapeSize o_thrown o_fault o_faultPlace o_stop o_next o_kind o_which o_at o_pointsRead o_bank o_isImage o_undos o_runRadix o_runOrder o_runNear o_runLimit o_runHalves o_power o_notedMany o_knownTold o_drawn o_all_1)) rfl (fun H locs hP hD hS => ?_)
  refine W.eq (g2 := F0 m 6 ls []) rfl ?_
  refine lv_aload_n hx hb dX10_asNow_6 rfl (lv_at hl 0 rfl) ?_
  refine lv_iconst (v := (1 : Int32)) hx hb dX10_asNow_7 (by decide) ?_
  refine wr (ci := 10) (C := RX10) (T := TX10) (N := 37) hx hb hts inX10 tyX10 tyX10_ok nmX10 hown hK hP hD hS 0 17 rfl rfl (by decide) (hts _ q_fX10_112) rfl rfl rfl (Nat.le_of_ble_eq_true rfl) dX10_asNow_8 (ws2 := (wX10_asNow cI cJ cZ h_o h_o_all h_o_tape h_o_words h_o_told h_o_isTold h_o_toldWave h_o_isPoint h_o_quarter h_o_roots h_o_laidRe h_o_laidIm h_o_byOrder h_o_noted1 h_o_counts h_o_binBy o_tapeSize o_thrown o_fault o_faultPlace o_stop o_next o_kind o_which o_at o_pointsRead (1 : Int32) o_isImage o_undos o_runRadix o_runOrder o_runNear o_runLimit o_runHalves o_power o_notedMany o_knownTold o_drawn o_all_1)) rfl (fun H locs hP hD hS => ?_)
  cases hf
  exact hret _ _ _ _ dX10_asNow_11 hP hD hS
