def wX9_layDown (cI cJ cZ : ClassId) (h_o h_o_tape h_o_way h_o_wave h_o_past h_o_notes h_o_ring h_o_turns h_o_beater h_o_reader h_o_dice h_o_trialWay h_o_trial h_o_otherTrial h_o_sumsRe h_o_sumsIm h_o_tally h_o_image : Nat) (o_imageKept : Int32) (o_taped : Int32) (o_tape : Nat → Int32) : va_W := [(h_o, .inr (9, [.ref h_o_way, .ref h_o_wave, .ref h_o_past, .ref h_o_notes, .ref h_o_ring, .ref h_o_turns, .ref h_o_beater, .ref h_o_reader, .ref h_o_dice, .ref h_o_trialWay, .ref h_o_trial, .ref h_o_otherTrial, .ref h_o_sumsRe, .ref h_o_sumsIm, .ref h_o_tally, .ref h_o_image, .int o_imageKept, .ref h_o_tape, .int o_taped])), (h_o_tape, .inl (cI, 700, .inl o_tape))]
def fX9_layDown_43 (k3 : Int32 → (Nat → Int32) → Int32 → Int32 → Option (Int32 × (Nat → Int32))) (o_taped : Int32) (o_tape : Nat → Int32) (v1 : Int32) (v2 : Int32) : Option (Int32 × (Nat → Int32)) :=
  nm (v2 + (-8 : Int32)) (fun v2_6 =>
  k3 o_taped o_tape v1 v2_6)
def fX9_layDown_3 : Nat → Int32 → (Nat → Int32) → Int32 → Int32 → Option (Int32 × (Nat → Int32))
  | 0, _, _, _, _ => none
  | n + 1, o_taped, o_tape, v1, v2 =>
    if v2 < 0 then (
      some (o_taped, o_tape)
    ) else (
      if (700 : Int32) ≤ o_taped then (
        fX9_layDown_43 (fX9_layDown_3 n) o_taped o_tape v1 v2
      ) else (
        gd (inb o_taped 700) (
        nm (upd o_tape (Int32.toNatClampNeg o_taped) (((Int32.toUInt32 v1 >>> (Int32.toUInt32 v2 &&& Int32.toUInt32 31)).toInt32) &&& (255 : Int32))) (fun o_tape_4 =>
        nm (o_taped + (1 : Int32)) (fun u_5 =>
        fX9_layDown_43 (fX9_layDown_3 n) u_5 o_tape_4 v1 v2)))
      )
    )
def fX9_layDown (o_taped : Int32) (o_tape : Nat → Int32) (p1 : Int32) : Option (Int32 × (Nat → Int32)) :=
  fX9_layDown_3 FU o_taped o_tape p1 (24 : Int32)
set_option maxHeartbeats 4000000 in
set_option maxRecDepth 100000 in
theorem tX9_layDown (l : Launch) (G : va_G) (cI cJ cZ : ClassId) (sz : Nat) (h_o h_o_tape h_o_way h_o_wave h_o_past h_o_notes h_o_ring h_o_turns h_o_beater h_o_reader h_o_dice h_o_trialWay h_o_trial h_o_otherTrial h_o_sumsRe h_o_sumsIm h_o_tally h_o_image : Nat) (o_imageKept : Int32) (o_taped : Int32) (o_tape : Nat → Int32) (p1 : Int32) (out_o_taped : Int32) (out_o_tape : Nat → Int32) (hf : fX9_layDown o_taped o_tape p1 = some (out_o_taped, out_o_tape)) : Met l yX9_layDown (Cond.code yX9_layDown cX9_layDown 3 none :: BIG) ({ frames := 0, cells := 0, slots := 0, locals := 0 } : Room) (cP G (TY3 cI cJ cZ) [.ref h_o, .int p1] sz (wX9_layDown cI cJ cZ h_o h_o_tape h_o_way h_o_wave h_o_past h_o_notes h_o_ring h_o_turns h_o_beater h_o_reader h_o_dice h_o_trialWay h_o_trial h_o_otherTrial h_o_sumsRe h_o_sumsIm h_o_tally h_o_image o_imageKept o_taped o_tape)) (cQ G (TY3 cI cJ cZ) sz (wX9_layDown cI cJ cZ h_o h_o_tape h_o_way h_o_wave h_o_past h_o_notes h_o_ring h_o_turns h_o_beater h_o_reader h_o_dice h_o_trialWay h_o_trial h_o_otherTrial h_o_sumsRe h_o_sumsIm h_o_tally h_o_image o_imageKept o_taped o_tape) (wX9_layDown cI cJ cZ h_o h_o_tape h_o_way h_o_wave h_o_past h_o_notes h_o_ring h_o_turns h_o_beater h_o_reader h_o_dice h_o_trialWay h_o_trial h_o_otherTrial h_o_sumsRe h_o_sumsIm h_o_tally h_o_image o_imageKept out_o_taped out_o_tape) none) 0 0 (va_A (wX9_layDown cI cJ cZ h_o h_o_tape h_o_way h_o_wave h_o_past h_o_notes h_o_ring h_o_turns h_o_beater h_o_reader h_o_dice h_o_trialWay h_o_trial h_o_otherTrial h_o_sumsRe h_o_sumsIm h_o_tally h_o_image o_imageKept o_taped o_tape) sz) := by
  refine met_v (cc := cX9_layDown) (maxL := 3) (plainFor_of_name (by decide)) (Nat.le_of_ble_eq_true rfl) (fun p e s m below meth c A ls Q hx hb hml hts hown hK hP hD hS hA hl hret => ?_)
  have hown : s.vm.findClass RX9 = some m.cls := hown
  have hl : lv_has ls 3 [(0, .ref h_o), (1, .int p1)] := hl
  have j43 : ∀ (k3 : Int32 → (Nat → Int32) → Int32 → Int32 → Option (Int32 × (Nat → Int32))), (∀ (o_taped : Int32) (o_tape : Nat → Int32) (v1 : Int32) (v2 : Int32) (H : Heap) (locs : List Loc) (ls : Array Slot), k3 o_taped o_tape v1 v2 = some (out_o_taped, out_o_tape) → va_P G vwCl (wX9_layDown cI cJ cZ h_o h_o_tape h_o_way h_o_wave h_o_past h_o_notes h_o_ring h_o_turns h_o_beater h_o_reader h_o_dice h_o_trialWay h_o_trial h_o_otherTrial h_o_sumsRe h_o_sumsIm h_o_tally h_o_image o_imageKept o_taped o_tape) H → va_D A (wX9_layDown cI cJ cZ h_o h_o_tape h_o_way h_o_wave h_o_past h_o_notes h_o_ring h_o_turns h_o_beater h_o_reader h_o_dice h_o_trialWay h_o_trial h_o_otherTrial h_o_sumsRe h_o_sumsIm h_o_tally h_o_image o_imageKept o_taped o_tape) → va_S A s.heap H locs → lv_has ls 3 [(0, .ref h_o), (1, .int v1), (2, .int v2)] → W p l e ({ frames := 0, cells := 0, slots := 0, locals := 0 } : Room) s m ([.ref h_o, .int p1] : List Value).toArray below meth c H locs 0 0 Q (F0 m 3 ls [])) → ∀ (o_taped : Int32) (o_tape : Nat → Int32) (v1 : Int32) (v2 : Int32) (H : Heap) (locs : List Loc) (ls : Array Slot), fX9_layDown_43 k3 o_taped o_tape v1 v2 = some (out_o_taped, out_o_tape) → va_P G vwCl (wX9_layDown cI cJ cZ h_o h_o_tape h_o_way h_o_wave h_o_past h_o_notes h_o_ring h_o_turns h_o_beater h_o_reader h_o_dice h_o_trialWay h_o_trial h_o_otherTrial h_o_sumsRe h_o_sumsIm h_o_tally h_o_image o_imageKept o_taped o_tape) H → va_D A (wX9_layDown cI cJ cZ h_o h_o_tape h_o_way h_o_wave h_o_past h_o_notes h_o_ring h_o_turns h_o_beater h_o_reader h_o_dice h_o_trialWay h_o_trial h_o_otherTrial h_o_sumsRe h_o_sumsIm h_o_tally h_o_image o_imageKept o_taped o_tape) → va_S A s.heap H locs → lv_has ls 3 [(0, .ref h_o), (1, .int v1), (2, .int v2)] → W p l e ({ frames := 0, cells := 0, slots := 0, locals := 0 } : Room) s m ([.ref h_o, .int p1] : List Value).toArray below meth c H locs 0 0 Q (F0 m 43 ls []) := by
    intro k3 hk3 o_taped o_tape v1 v2 H locs ls hf hP hD hS hl
    unfold fX9_layDown_43 at hf
    obtain ⟨v2_6, ev2_6⟩ : ∃ y : Int32, y = v2 + (-8 : Int32) := ⟨_, rfl⟩
    have hf := nm_x ev2_6 hf
    refine lv_iinc (v := v2_6) (lv' := [(2, .int v2_6), (0, .ref h_o), (1, .int v1)]) hx hb dX9_layDown_43 hl (k := 2) rfl (by rw [ev2_6]; rfl) (by decide) rfl (fun ls hl => ?_)
    refine lv_goto (tgt := 3) hx hb dX9_layDown_46 (by decide) ?_
    exact hk3 o_taped o_tape v1 v2_6 H locs ls hf hP hD hS (lv_sub hl [1, 2, 0] rfl)
  have j3 : ∀ (n : Nat) (o_taped : Int32) (o_tape : Nat → Int32) (v1 : Int32) (v2 : Int32) (H : Heap) (locs : List Loc) (ls : Array Slot), fX9_layDown_3 n o_taped o_tape v1 v2 = some (out_o_taped, out_o_tape) → va_P G vwCl (wX9_layDown cI cJ cZ h_o h_o_tape h_o_way h_o_wave h_o_past h_o_notes h_o_ring h_o_turns h_o_beater h_o_reader h_o_dice h_o_trialWay h_o_trial h_o_otherTrial h_o_sumsRe h_o_sumsIm h_o_tally h_o_image o_imageKept o_taped o_tape) H → va_D A (wX9_layDown cI cJ cZ h_o h_o_tape h_o_way h_o_wave h_o_past h_o_notes h_o_ring h_o_turns h_o_beater h_o_reader h_o_dice h_o_trialWay h_o_trial h_o_otherTrial h_o_sumsRe h_o_sumsIm h_o_tally h_o_image o_imageKept o_taped o_tape) → va_S A s.heap H locs → lv_has ls 3 [(0, .ref h_o), (1, .int v1), (2, .int v2)] → W p l e ({ frames := 0, cells := 0, slots := 0, locals := 0 } : Room) s m ([.ref h_o, .int p1] : List Value).toArray below meth c H locs 0 0 Q (F0 m 3 ls []) := by
    intro n
    induction n with
    | zero =>
      intro o_taped o_tape v1 v2 H locs ls hf
      have hf : (none : Option (Int32 × (Nat → Int32))) = some (out_o_taped, out_o_tape) := hf
      cases hf
    | succ n ih =>
      intro o_taped o_tape v1 v2 H locs ls hf hP hD hS hl
      rw [fX9_layDown_3.eq_2] at hf
      refine lv_iload_n hx hb dX9_layDown_3 rfl (lv_at hl 2 rfl) ?_
      refine lv_if_lt (tgt := 49) hx hb dX9_layDown_4 (by decide) (fun c_1 => ?_) (fun c_1 => ?_)
      · have hf := it_t c_1 hf
        cases hf
        exact hret _ _ _ _ dX9_layDown_49 hP hD hS
      · have hf := it_f c_1 hf
        refine lv_aload_n hx hb dX9_layDown_7 rfl (lv_at hl 0 rfl) ?_
        refine rd (ci := 9) (C := RX9) (T := TX9) (N := 19) hx hb hts inX9 hown hK hP 0 18 rfl rfl (by decide) (hts _ q_fX9_104) rfl dX9_layDown_8 ?_
        refine lv_sipush (v := (700 : Int32)) hx hb dX9_layDown_11 (by decide) ?_
        refine lv_icmp_ge (tgt := 43) hx hb dX9_layDown_14 (by decide) (fun c_2 => ?_) (fun c_2 => ?_)
        · have hf := it_t c_2 hf
          exact j43 (fX9_layDown_3 n) ih o_taped o_tape v1 v2 H locs ls hf hP hD hS (lv_sub hl [0, 1, 2] rfl)
        · have hf := it_f c_2 hf
          refine lv_aload_n hx hb dX9_layDown_17 rfl (lv_at hl 0 rfl) ?_
          refine rd (ci := 9) (C := RX9) (T := TX9) (N := 19) hx hb hts inX9 hown hK hP 0 17 rfl rfl (by decide) (hts _ q_fX9_101) rfl dX9_layDown_18 ?_
          refine lv_aload_n hx hb dX9_layDown_21 rfl (lv_at hl 0 rfl) ?_
          refine rd (ci := 9) (C := RX9) (T := TX9) (N := 19) hx hb hts inX9 hown hK hP 0 18 rfl rfl (by decide) (hts _ q_fX9_104) rfl dX9_layDown_22 ?_
          refine lv_iload_n hx hb dX9_layDown_25 rfl (lv_at hl 1 rfl) ?_
          refine lv_iload_n hx hb dX9_layDown_26 rfl (lv_at hl 2 rfl) ?_
          refine lv_iushr hx hb dX9_layDown_27 rfl ?_
          refine lv_sipush (v := (255 : Int32)) hx hb dX9_layDown_28 (by decide) ?_
          refine lv_iand hx hb dX9_layDown_31 ?_
          obtain ⟨g_3, hf⟩ := gd_x hf
          obtain ⟨o_tape_4, eo_tape_4⟩ : ∃ y : Nat → Int32, y = upd o_tape (Int32.toNatClampNeg o_taped) (((Int32.toUInt32 v1 >>> (Int32.toUInt32 v2 &&& Int32.toUInt32 31)).toInt32) &&& (255 : Int32)) := ⟨_, rfl⟩
          have hf := nm_x eo_tape_4 hf
          refine ist hx hb hK hP hD hS 1 0 rfl rfl (inb_x g_3) dX9_layDown_32 eo_tape_4 (ws2 := (wX9_layDown cI cJ cZ h_o h_o_tape h_o_way h_o_wave h_o_past h_o_notes h_o_ring h_o_turns h_o_beater h_o_reader h_o_dice h_o_trialWay h_o_trial h_o_otherTrial h_o_sumsRe h_o_sumsIm h_o_tally h_o_image o_imageKept o_taped o_tape_4)) rfl (fun H locs hP hD hS => ?_)
          refine lv_aload_n hx hb dX9_layDown_33 rfl (lv_at hl 0 rfl) ?_
          refine lv_dup hx hb dX9_layDown_34 rfl ?_
          refine rd (ci := 9) (C := RX9) (T := TX9) (N := 19) hx hb hts inX9 hown hK hP 0 18 rfl rfl (by decide) (hts _ q_fX9_104) rfl dX9_layDown_35 ?_
          refine lv_iconst (v := (1 : Int32)) hx hb dX9_layDown_38 (by decide) ?_
          refine lv_iadd hx hb dX9_layDown_39 ?_
          refine lv_topi (fun u_5 eu_5 => ?_)
          have hf := nm_x eu_5 hf
          refine wr (ci := 9) (C := RX9) (T := TX9) (N := 19) hx hb hts inX9 tyX9 tyX9_ok nmX9 hown hK hP hD hS 0 18 rfl rfl (by decide) (hts _ q_fX9_104) rfl rfl rfl (Nat.le_of_ble_eq_true rfl) dX9_layDown_40 (ws2 := (wX9_layDown cI cJ cZ h_o h_o_tape h_o_way h_o_wave h_o_past h_o_notes h_o_ring h_o_turns h_o_beater h_o_reader h_o_dice h_o_trialWay h_o_trial h_o_otherTrial h_o_sumsRe h_o_sumsIm h_o_tally h_o_image o_imageKept u_5 o_tape_4)) rfl (fun H locs hP hD hS => ?_)
          exact j43 (fX9_layDown_3 n) ih u_5 o_tape_4 v1 v2 H locs ls hf hP hD hS (lv_sub hl [0, 1, 2] rfl)
  unfold fX9_layDown at hf
  obtain ⟨H, eH⟩ : ∃ H, H = s.heap := ⟨_, rfl⟩
  obtain ⟨locs, elocs⟩ : ∃ z : List Loc, z = [] := ⟨_, rfl⟩
  have hP : va_P G vwCl (wX9_layDown cI cJ cZ h_o h_o_tape h_o_way h_o_wave h_o_past h_o_notes h_o_ring h_o_turns h_o_beater h_o_reader h_o_dice h_o_trialWay h_o_trial h_o_otherTrial h_o_sumsRe h_o_sumsIm h_o_tally h_o_image o_imageKept o_taped o_tape) H := by rw [eH]; exact hP
  have hS : va_S A s.heap H locs := by rw [eH, elocs]; exact hS
  suffices hgo : W p l e ({ frames := 0, cells := 0, slots := 0, locals := 0 } : Room) s m ([.ref h_o, .int p1] : List Value).toArray below meth c H locs 0 0 Q (F0 m 0 ls []) by rw [eH, elocs] at hgo; exact hgo
  clear eH elocs
  refine lv_bipush (v := (24 : Int32)) hx hb dX9_layDown_0 (by decide) ?_
  refine lv_istore_n (lv' := [(2, .int (24 : Int32)), (0, .ref h_o), (1, .int p1)]) hx hb dX9_layDown_2 rfl hl (by decide) rfl (fun ls hl => ?_)
  exact j3 FU o_taped o_tape p1 (24 : Int32) H locs ls hf hP hD hS (lv_sub hl [1, 2, 0] rfl)
def wX9_feed (cI cJ cZ : ClassId) (h_o h_o_tape h_o_way h_o_wave h_o_past h_o_notes h_o_ring h_o_turns h_o_beater h_o_reader h_o_dice h_o_trialWay h_o_trial h_o_otherTrial h_o_sumsRe h_o_sumsIm h_o_tally h_o_image : Nat) (o_imageKept : Int32) (o_taped : Int32) (o_tape : Nat → Int32) : va_W := [(h_o, .inr (9, [.ref h_o_way, .ref h_o_wave, .ref h_o_past, .ref h_o_notes, .ref h_o_ring, .ref h_o_turns, .ref h_o_beater, .ref h_o_reader, .ref h_o_dice, .ref h_o_trialWay, .ref h_o_trial, .ref h_o_otherTrial, .ref h_o_sumsRe, .ref h_o_sumsIm, .ref h_o_tally, .ref h_o_image, .int o_imageKept, .ref h_o_tape, .int o_taped])), (h_o_tape, .inl (cI, 700, .inl o_tape))]
def fX9_feed (o_taped : Int32) (o_tape : Nat → Int32) (p1 : Int32) (p2 : Int32) (p3 : Int32) (p4 : Int32) (p5 : Int32) : Option (Int32 × Int32 × (Nat → Int32)) :=
  if (o_taped + (20 : Int32)) ≤ (700 : Int32) then (
    bd2 (fX9_layDown o_taped o_tape p1) (fun o_taped_2 o_tape_3 =>
    bd2 (fX9_layDown o_taped_2 o_tape_3 p2) (fun o_taped_5 o_tape_6 =>
    bd2 (fX9_layDown o_taped_5 o_tape_6 p3) (fun o_taped_8 o_tape_9 =>
    bd2 (fX9_layDown o_taped_8 o_tape_9 p4) (fun o_taped_11 o_tape_12 =>
    bd2 (fX9_layDown o_taped_11 o_tape_12 p5) (fun o_taped_14 o_tape_15 =>
    some (o_taped_14, o_taped_14, o_tape_15))))))
  ) else (
    some ((-1 : Int32), o_taped, o_tape)
  )
set_option maxHeartbeats 4000000 in
set_option maxRecDepth 100000 in
theorem tX9_feed (l : Launch) (G : va_G) (cI cJ cZ : ClassId) (sz : Nat) (h_o h_o_tape h_o_way h_o_wave h_o_past h_o_notes h_o_ring h_o_turns h_o_beater h_o_reader h_o_dice h_o_trialWay h_o_trial h_o_otherTrial h_o_sumsRe h_o_sumsIm h_o_tally h_o_image : Nat) (o_imageKept : Int32) (o_taped : Int32) (o_tape : Nat → Int32) (p1 : Int32) (p2 : Int32) (p3 : Int32) (p4 : Int32) (p5 : Int32) (r : Int32) (out_o_taped : Int32) (out_o_tape : Nat → Int32) (hf : fX9_feed o_taped o_tape p1 p2 p3 p4 p5 = some (r, out_o_taped, out_o_tape)) : Met l yX9_feed (Cond.code yX9_feed cX9_feed 6 (some .int) :: BIG) ({ frames := 1, cells := 0, slots := 0, locals := 22 } : Room) (cP G (TY3 cI cJ cZ) [.ref h_o, .int p1, .int p2, .int p3, .int p4, .int p5] sz (wX9_feed cI cJ cZ h_o h_o_tape h_o_way h_o_wave h_o_past h_o_notes h_o_ring h_o_turns h_o_beater h_o_reader h_o_dice h_o_trialWay h_o_trial h_o_otherTrial h_o_sumsRe h_o_sumsIm h_o_tally h_o_image o_imageKept o_taped o_tape)) (cQ G (TY3 cI cJ cZ) sz (wX9_feed cI cJ cZ h_o h_o_tape h_o_way h_o_wave h_o_past h_o_notes h_o_ring h_o_turns h_o_beater h_o_reader h_o_dice h_o_trialWay h_o_trial h_o_otherTrial h_o_sumsRe h_o_sumsIm h_o_tally h_o_image o_imageKept o_taped o_tape) (wX9_feed cI cJ cZ h_o h_o_tape h_o_way h_o_wave h_o_past h_o_notes h_o_ring h_o_turns h_o_beater h_o_reader h_o_dice h_o_trialWay h_o_trial h_o_otherTrial h_o_sumsRe h_o_sumsIm h_o_tally h_o_image o_imageKept out_o_taped out_o_tape) (some (.int r))) 0 0 (va_A (wX9_feed cI cJ cZ h_o h_o_tape h_o_way h_o_wave h_o_past h_o_notes h_o_ring h_o_turns h_o_beater h_o_reader h_o_dice h_o_trialWay h_o_trial h_o_otherTrial h_o_sumsRe h_o_sumsIm h_o_tally h_o_image o_imageKept o_taped o_tape) sz) := by
  refine met_i (cc := cX9_feed) (maxL := 6) (plainFor_of_name (by decide)) (Nat.le_of_ble_eq_true rfl) (fun p e s m below meth c A ls Q hx hb hml hts hown hK hP hD hS hA hl hret => ?_)
  have hown : s.vm.findClass RX9 = some m.cls := hown
  have hl : lv_has ls 6 [(0, .ref h_o), (1, .int p1), (2, .int p2), (3, .int p3), (4, .int p4), (5, .int p5)] := hl
  unfold fX9_feed at hf
  obtain ⟨H, eH⟩ : ∃ H, H = s.heap := ⟨_, rfl⟩
  obtain ⟨locs, elocs⟩ : ∃ z : List Loc, z = [] := ⟨_, rfl⟩
  have hP : va_P G vwCl (wX9_feed cI cJ cZ h_o h_o_tape h_o_way h_o_wave h_o_past h_o_notes h_o_ring h_o_turns h_o_beater h_o_reader h_o_dice h_o_trialWay h_o_trial h_o_otherTrial h_o_sumsRe h_o_sumsIm h_o_tally h_o_image o_imageKept o_taped o_tape) H := by rw [eH]; exact hP
  have hS : va_S A s.heap H locs := by rw [eH, elocs]; exact hS
  suffices hgo : W p l e ({ frames := 1, cells := 0, slots := 0, locals := 22 } : Room) s m ([.ref h_o, .int p1, .int p2, .int p3, .int p4, .int p5] : List Value).toArray below meth c H locs 0 0 Q (F0 m 0 ls []) by rw [eH, elocs] at hgo; exact hgo
  clear eH elocs
  refine lv_aload_n hx hb dX9_feed_0 rfl (lv_at hl 0 rfl) ?_
  refine rd (ci := 9) (C := RX9) (T := TX9) (N := 19) hx hb hts inX9 hown hK hP 0 18 rfl rfl (by decide) (hts _ q_fX9_104) rfl dX9_feed_1 ?_
  refine lv_bipush (v := (20 : Int32)) hx hb dX9_feed_4 (by decide) ?_
  refine lv_iadd hx hb dX9_feed_6 ?_
  refine lv_sipush (v := (700 : Int32)) hx hb dX9_feed_7 (by decide) ?_
  refine lv_icmp_le (tgt := 15) hx hb dX9_feed_10 (by decide) (fun c_1 => ?_) (fun c_1 => ?_)
  · have hf := it_t c_1 hf
    refine lv_aload_n hx hb dX9_feed_15 rfl (lv_at hl 0 rfl) ?_
    refine lv_iload_n hx hb dX9_feed_16 rfl (lv_at hl 1 rfl) ?_
    obtain ⟨o_taped_2, o_tape_3, e_4, hf⟩ := bd2_x hf
    refine call_v [.int p1] [] ⟨hx, hb, hml, hown, hts⟩ hK hP hD hS hA hl.1 (tX9_layDown l G cI cJ cZ H.size h_o h_o_tape h_o_way h_o_wave h_o_past h_o_notes h_o_ring h_o_turns h_o_beater h_o_reader h_o_dice h_o_trialWay h_o_trial h_o_otherTrial h_o_sumsRe h_o_sumsIm h_o_tally h_o_image o_imageKept o_taped o_tape p1 o_taped_2 o_tape_3 e_4) (cwV 1 hts (gv q_mX9_121 q_i_yX9_layDown q_s_yX9_layDown q_n_RX9 q_k_yX9_layDown) rfl rfl rfl (by decide +kernel) ⟨by decide, by decide⟩) rfl rfl (Nat.le_of_ble_eq_true rfl) dX9_feed_17 ⟨Nat.zero_le _, Nat.zero_le _⟩ (ci := 9) rfl 0 rfl [0, 1] [] [0, 1] rfl rfl (ws2 := (wX9_feed cI cJ cZ h_o h_o_tape h_o_way h_o_wave h_o_past h_o_notes h_o_ring h_o_turns h_o_beater h_o_reader h_o_dice h_o_trialWay h_o_trial h_o_otherTrial h_o_sumsRe h_o_sumsIm h_o_tally h_o_image o_imageKept o_taped_2 o_tape_3)) rfl (fun H locs hP hD hS => ?_)
    refine W.eq (g2 := F0 m 20 ls []) rfl ?_
    refine lv_aload_n hx hb dX9_feed_20 rfl (lv_at hl 0 rfl) ?_
    refine lv_iload_n hx hb dX9_feed_21 rfl (lv_at hl 2 rfl) ?_
    obtain ⟨o_taped_5, o_tape_6, e_7, hf⟩ := bd2_x hf
    refine call_v [.int p2] [] ⟨hx, hb, hml, hown, hts⟩ hK hP hD hS hA hl.1 (tX9_layDown l G cI cJ cZ H.size h_o h_o_tape h_o_way h_o_wave h_o_past h_o_notes h_o_ring h_o_turns h_o_beater h_o_reader h_o_dice h_o_trialWay h_o_trial h_o_otherTrial h_o_sumsRe h_o_sumsIm h_o_tally h_o_image o_imageKept o_taped_2 o_tape_3 p2 o_taped_5 o_tape_6 e_7) (cwV 1 hts (gv q_mX9_121 q_i_yX9_layDown q_s_yX9_layDown q_n_RX9 q_k_yX9_layDown) rfl rfl rfl (by decide +kernel) ⟨by decide, by decide⟩) rfl rfl (Nat.le_of_ble_eq_true rfl) dX9_feed_22 ⟨Nat.zero_le _, Nat.zero_le _⟩ (ci := 9) rfl 0 rfl [0, 1] [] [0, 1] rfl rfl (ws2 := (wX9_feed cI cJ cZ h_o h_o_tape h_o_way h_o_wave h_o_past h_o_notes h_o_ring h_o_turns h_o_beater h_o_reader h_o_dice h_o_trialWay h_o_trial h_o_otherTrial h_o_sumsRe h_o_sumsIm h_o_tally h_o_image o_imageKept o_taped_5 o_tape_6)) rfl (fun H locs hP hD hS => ?_)
    refine W.eq (g2 := F0 m 25 ls []) rfl ?_
    refine lv_aload_n hx hb dX9_feed_25 rfl (lv_at hl 0 rfl) ?_
    refine lv_iload_n hx hb dX9_feed_26 rfl (lv_at hl 3 rfl) ?_
    obtain ⟨o_taped_8, o_tape_9, e_10, hf⟩ := bd2_x hf
    refine call_v [.int p3] [] ⟨hx, hb, hml, hown, hts⟩ hK hP hD hS hA hl.1 (tX9_layDown l G cI cJ cZ H.size h_o h_o_tape h_o_way h_o_wave h_o_past h_o_notes h_o_ring h_o_turns h_o_beater h_o_reader h_o_dice h_o_trialWay h_o_trial h_o_otherTrial h_o_sumsRe h_o_sumsIm h_o_tally h_o_image o_imageKept o_taped_5 o_tape_6 p3 o_taped_8 o_tape_9 e_10) (cwV 1 hts (gv q_mX9_121 q_i_yX9_layDown q_s_yX9_layDown q_n_RX9 q_k_yX9_layDown) rfl rfl rfl (by decide +kernel) ⟨by decide, by decide⟩) rfl rfl (Nat.le_of_ble_eq_true rfl) dX9_feed_27 ⟨Nat.zero_le _, Nat.zero_le _⟩ (ci := 9) rfl 0 rfl [0, 1] [] [0, 1] rfl rfl (ws2 := (wX9_feed cI cJ cZ h_o h_o_tape h_o_way h_o_wave h_o_past h_o_notes h_o_ring h_o_turns h_o_beater h_o_reader h_o_dice h_o_trialWay h_o_trial h_o_otherTrial h_o_sumsRe h_o_sumsIm h_o_tally h_o_image o_imageKept o_taped_8 o_tape_9)) rfl (fun H locs hP hD hS => ?_)
    refine W.eq (g2 := F0 m 30 ls []) rfl ?_
    refine lv_aload_n hx hb dX9_feed_30 rfl (lv_at hl 0 rfl) ?_
    refine lv_iload hx hb dX9_feed_31 (lv_at hl 4 rfl) ?_
    obtain ⟨o_taped_11, o_tape_12, e_13, hf⟩ := bd2_x hf
    refine call_v [.int p4] [] ⟨hx, hb, hml, hown, hts⟩ hK hP hD hS hA hl.1 (tX9_layDown l G cI cJ cZ H.size h_o h_o_tape h_o_way h_o_wave h_o_past h_o_notes h_o_ring h_o_turns h_o_beater h_o_reader h_o_dice h_o_trialWay h_o_trial h_o_otherTrial h_o_sumsRe h_o_sumsIm h_o_tally h_o_image o_imageKept o_taped_8 o_tape_9 p4 o_taped_11 o_tape_12 e_13) (cwV 1 hts (gv q_mX9_121 q_i_yX9_layDown q_s_yX9_layDown q_n_RX9 q_k_yX9_layDown) rfl rfl rfl (by decide +kernel) ⟨by decide, by decide⟩) rfl rfl (Nat.le_of_ble_eq_true rfl) dX9_feed_33 ⟨Nat.zero_le _, Nat.zero_le _⟩ (ci := 9) rfl 0 rfl [0, 1] [] [0, 1] rfl rfl (ws2 := (wX9_feed cI cJ cZ h_o h_o_tape h_o_way h_o_wave h_o_past h_o_notes h_o_ring h_o_turns h_o_beater h_o_reader h_o_dice h_o_trialWay h_o_trial h_o_otherTrial h_o_sumsRe h_o_sumsIm h_o_tally h_o_image o_imageKept o_taped_11 o_tape_12)) rfl (fun H locs hP hD hS => ?_)
    refine W.eq (g2 := F0 m 36 ls []) rfl ?_
    refine lv_aload_n hx hb dX9_feed_36 rfl (lv_at hl 0 rfl) ?_
    refine lv_iload hx hb dX9_feed_37 (lv_at hl 5 rfl) ?_
    obtain ⟨o_taped_14, o_tape_15, e_16, hf⟩ := bd2_x hf
    refine call_v [.int p5] [] ⟨hx, hb, hml, hown, hts⟩ hK hP hD hS hA hl.1 (tX9_layDown l G cI cJ cZ H.size h_o h_o_tape h_o_way h_o_wave h_o_past h_o_notes h_o_ring h_o_turns h_o_beater h_o_reader h_o_dice h_o_trialWay h_o_trial h_o_otherTrial h_o_sumsRe h_o_sumsIm h_o_tally h_o_image o_imageKept o_taped_11 o_tape_12 p5 o_taped_14 o_tape_15 e_16) (cwV 1 hts (gv q_mX9_121 q_i_yX9_layDown q_s_yX9_layDown q_n_RX9 q_k_yX9_layDown) rfl rfl rfl (by decide +kernel) ⟨by decide, by decide⟩) rfl rfl (Nat.le_of_ble_eq_true rfl) dX9_feed_39 ⟨Nat.zero_le _, Nat.zero_le _⟩ (ci := 9) rfl 0 rfl [0, 1] [] [0, 1] rfl rfl (ws2 := (wX9_feed cI cJ cZ h_o h_o_tape h_o_way h_o_wave h_o_past h_o_notes h_o_ring h_o_turns h_o_beater h_o_reader h_o_dice h_o_trialWay h_o_trial h_o_otherTrial h_o_sumsRe h_o_sumsIm h_o_tally h_o_image o_imageKept o_taped_14 o_tape_15)) rfl (fun H locs hP hD hS => ?_)
    refine W.eq (g2 := F0 m 42 ls []) rfl ?_
    refine lv_aload_n hx hb dX9_feed_42 rfl (lv_at hl 0 rfl) ?_
    refine rd (ci := 9) (C := RX9) (T := TX9) (N := 19) hx hb hts inX9 hown hK hP 0 18 rfl rfl (by decide) (hts _ q_fX9_104) rfl dX9_feed_43 ?_
    cases hf
    exact hret _ _ _ _ dX9_feed_46 hP hD hS
  · have hf := it_f c_1 hf
    refine lv_iconst (v := (-1 : Int32)) hx hb dX9_feed_13 (by decide) ?_
    cases hf
    exact hret _ _ _ _ dX9_feed_14 hP hD hS
def wX9_fault (cI cJ cZ : ClassId) (h_o h_o_reader h_o_way h_o_wave h_o_past h_o_notes h_o_ring h_o_turns h_o_beater h_o_dice h_o_trialWay h_o_trial h_o_otherTrial h_o_sumsRe h_o_sumsIm h_o_tally h_o_image h_o_tape h_o_reader_way h_o_reader_re h_o_reader_im : Nat) (o_imageKept : Int32) (o_taped : Int32) (o_reader_fault : Int32) (o_reader_faultPlace : Int32) (o_reader_toldWords : Int32) (o_reader_toldRe : Int32) (o_reader_toldIm : Int32) (o_reader_length : Int32) (o_reader_place : Int32) (o_reader_kind : Int32) (o_reader_start : Int32) (o_reader_number : Int32) : va_W := [(h_o, .inr (9, [.ref h_o_way, .ref h_o_wave, .ref h_o_past, .ref h_o_notes, .ref h_o_ring, .ref h_o_turns, .ref h_o_beater, .ref h_o_reader, .ref h_o_dice, .ref h_o_trialWay, .ref h_o_trial, .ref h_o_otherTrial, .ref h_o_sumsRe, .ref h_o_sumsIm, .ref h_o_tally, .ref h_o_image, .int o_imageKept, .ref h_o_tape, .int o_taped])), (h_o_reader, .inr (4, [.ref h_o_reader_way, .ref h_o_reader_re, .ref h_o_reader_im, .int o_reader_fault, .int o_reader_faultPlace, .int o_reader_toldWords, .int o_reader_toldRe, .int o_reader_toldIm, .int o_reader_length, .int o_reader_place, .int o_reader_kind, .int o_reader_start, .int o_reader_number]))]
def fX9_fault (o_reader_fault : Int32) (o_reader_faultPlace : Int32) (p1 : Int32) : Option (Int32) :=
  if p1 = 0 then (
    some o_reader_fault
  ) else (
    if p1 = (1 : Int32) then (
      some o_reader_faultPlace
    ) else (
      some (-1 : Int32)
    )
  )
set_option maxHeartbeats 4000000 in
set_option maxRecDepth 100000 in
theorem tX9_fault (l : Launch) (G : va_G) (cI cJ cZ : ClassId) (sz : Nat) (h_o h_o_reader h_o_way h_o_wave h_o_past h_o_notes h_o_ring h_o_turns h_o_beater h_o_dice h_o_trialWay h_o_trial h_o_otherTrial h_o_sumsRe h_o_sumsIm h_o_tally h_o_image h_o_tape h_o_reader_way h_o_reader_re h_o_reader_im : Nat) (o_imageKept : Int32) (o_taped : Int32) (o_reader_fault : Int32) (o_reader_faultPlace : Int32) (o_reader_toldWords : Int32) (o_reader_toldRe : Int32) (o_reader_toldIm : Int32) (o_reader_length : Int32) (o_reader_place : Int32) (o_reader_kind : Int32) (o_reader_start : Int32) (o_reader_number : Int32) (p1 : Int32) (r : Int32) (hf : fX9_fault o_reader_fault o_reader_faultPlace p1 = some r) : Met l yX9_fault (Cond.code yX9_fault cX9_fault 2 (some .int) :: BIG) ({ frames := 0, cells := 0, slots := 0, locals := 0 } : Room) (cP G (TY3 cI cJ cZ) [.ref h_o, .int p1] sz (wX9_fault cI cJ cZ h_o h_o_reader h_o_way h_o_wave h_o_past h_o_notes h_o_ring h_o_turns h_o_beater h_o_dice h_o_trialWay h_o_trial h_o_otherTrial h_o_sumsRe h_o_sumsIm h_o_tally h_o_image h_o_tape h_o_reader_way h_o_reader_re h_o_reader_im o_imageKept o_taped o_reader_fault o_reader_faultPlace o_reader_toldWords o_reader_toldRe o_reader_toldIm o_reader_length o_reader_place o_reader_kind o_reader_start o_reader_number)) (cQ G (TY3 cI cJ cZ) sz (wX9_fault cI cJ cZ h_o h_o_reader h_o_way h_o_wave h_o_past h_o_notes h_o_ring h_o_turns h_o_beater h_o_dice h_o_trialWay h_o_trial h_o_otherTrial h_o_sumsRe h_o_sumsIm h_o_tally h_o_image h_o_tape h_o_reader_way h_o_reader_re h_o_reader_im o_imageKept o_taped o_reader_fault o_reader_faultPlace o_reader_toldWords o_reader_toldRe o_reader_toldIm o_reader_length o_reader_place o_reader_kind o_reader_start o_reader_number) (wX9_fault cI cJ cZ h_o h_o_reader h_o_way h_o_wave h_o_past h_o_notes h_o_ring h_o_turns h_o_beater h_o_dice h_o_trialWay h_o_trial h_o_otherTrial h_o_sumsRe h_o_sumsIm h_o_tally h_o_image h_o_tape h_o_reader_way h_o_reader_re h_o_reader_im o_imageKept o_taped o_reader_fault o_reader_faultPlace o_reader_toldWords o_reader_toldRe o_reader_toldIm o_reader_length o_reader_place o_reader_kind o_reader_start o_reader_number) (some (.int r))) 0 0 (va_A (wX9_fault cI cJ cZ h_o h_o_reader h_o_way h_o_wave h_o_past h_o_notes h_o_ring h_o_turns h_o_beater h_o_dice h_o_trialWay h_o_trial h_o_otherTrial h_o_sumsRe h_o_sumsIm h_o_tally h_o_image h_o_tape h_o_reader_way h_o_reader_re h_o_reader_im o_imageKept o_taped o_reader_fault o_reader_faultPlace o_reader_toldWords o_reader_toldRe o_reader_toldIm o_reader_length o_reader_place o_reader_kind o_reader_start o_reader_number) sz) := by
  refine met_i (cc := cX9_fault) (maxL := 2) (plainFor_of_name (by decide)) (Nat.le_of_ble_eq_true rfl) (fun p e s m below meth c A ls Q hx hb hml hts hown hK hP hD hS hA hl hret => ?_)
  have hown : s.vm.findClass RX9 = some m.cls := hown
  have hl : lv_has ls 2 [(0, .ref h_o), (1, .int p1)] := hl
  unfold fX9_fault at hf
  obtain ⟨H, eH⟩ : ∃ H, H = s.heap := ⟨_, rfl⟩
  obtain ⟨locs, elocs⟩ : ∃ z : List Loc, z = [] := ⟨_, rfl⟩
  have hP : va_P G vwCl (wX9_fault cI cJ cZ h_o h_o_reader h_o_way h_o_wave h_o_past h_o_notes h_o_ring h_o_turns h_o_beater h_o_dice h_o_trialWay h_o_trial h_o_otherTrial h_o_sumsRe h_o_sumsIm h_o_tally h_o_image h_o_tape h_o_reader_way h_o_reader_re h_o_reader_im o_imageKept o_taped o_reader_fault o_reader_faultPlace o_reader_toldWords o_reader_toldRe o_reader_toldIm o_reader_length o_reader_place o_reader_kind o_reader_start o_reader_number) H := by rw [eH]; exact hP
  have hS : va_S A s.heap H locs := by rw [eH, elocs]; exact hS
  suffices hgo : W p l e ({ frames := 0, cells := 0, slots := 0, locals := 0 } : Room) s m ([.ref h_o, .int p1] : List Value).toArray below meth c H locs 0 0 Q (F0 m 0 ls []) by rw [eH, elocs] at hgo; exact hgo
  clear eH elocs
  refine lv_iload_n hx hb dX9_fault_0 rfl (lv_at hl 1 rfl) ?_
  refine lv_if_ne (tgt := 12) hx hb dX9_fault_1 (by decide) (fun c_1 => ?_) (fun c_1 => ?_)
  · have hf := it_f c_1 hf
    refine lv_iload_n hx hb dX9_fault_12 rfl (lv_at hl 1 rfl) ?_
    refine lv_iconst (v := (1 : Int32)) hx hb dX9_fault_13 (by decide) ?_
    refine lv_icmp_ne (tgt := 27) hx hb dX9_fault_14 (by decide) (fun c_2 => ?_) (fun c_2 => ?_)
    · have hf := it_f c_2 hf
      refine lv_iconst (v := (-1 : Int32)) hx hb dX9_fault_27 (by decide) ?_
      cases hf
      exact hret _ _ _ _ dX9_fault_28 hP hD hS
    · have hf := it_t c_2 hf
      refine lv_aload_n hx hb dX9_fault_17 rfl (lv_at hl 0 rfl) ?_
      refine rd (ci := 9) (C := RX9) (T := TX9) (N := 19) hx hb hts inX9 hown hK hP 0 7 rfl rfl (by decide) (hts _ q_fX9_63) rfl dX9_fault_18 ?_
      refine rd (ci := 4) (C := RX4) (T := TX4) (N := 13) hx hb hts inX4 hown hK hP 1 4 rfl rfl (by decide) (hts _ q_fX9_156) rfl dX9_fault_21 ?_
      refine lv_goto (tgt := 28) hx hb dX9_fault_24 (by decide) ?_
      cases hf
      exact hret _ _ _ _ dX9_fault_28 hP hD hS
  · have hf := it_t c_1 hf
    refine lv_aload_n hx hb dX9_fault_4 rfl (lv_at hl 0 rfl) ?_
    refine rd (ci := 9) (C := RX9) (T := TX9) (N := 19) hx hb hts inX9 hown hK hP 0 7 rfl rfl (by decide) (hts _ q_fX9_63) rfl dX9_fault_5 ?_
    refine rd (ci := 4) (C := RX4) (T := TX4) (N := 13) hx hb hts inX4 hown hK hP 1 3 rfl rfl (by decide) (hts _ q_fX9_153) rfl dX9_fault_8 ?_
    cases hf
    exact hret _ _ _ _ dX9_fault_11 hP hD hS
def wX9_isPlace (cI cJ cZ : ClassId) (h_o h_o_way h_o_wave h_o_past h_o_notes h_o_ring h_o_turns h_o_beater h_o_reader h_o_dice h_o_trialWay h_o_trial h_o_otherTrial h_o_sumsRe h_o_sumsIm h_o_tally h_o_image h_o_tape h_o_way_shifts : Nat) (o_imageKept : Int32) (o_taped : Int32) (o_way_size : Int32) (o_way_log : Int32) (o_way_wordBits : Int32) (o_way_limit : Int32) (o_way_radix : Int32) (o_way_order : Int32) (o_way_near : Int32) (o_way_seed : Int32) (o_way_stages : Int32) : va_W := [(h_o, .inr (9, [.ref h_o_way, .ref h_o_wave, .ref h_o_past, .ref h_o_notes, .ref h_o_ring, .ref h_o_turns, .ref h_o_beater, .ref h_o_reader, .ref h_o_dice, .ref h_o_trialWay, .ref h_o_trial, .ref h_o_otherTrial, .ref h_o_sumsRe, .ref h_o_sumsIm, .ref h_o_tally, .ref h_o_image, .int o_imageKept, .ref h_o_tape, .int o_taped])), (h_o_way, .inr (8, [.int o_way_size, .int o_way_log, .int o_way_wordBits, .int o_way_limit, .int o_way_radix, .int o_way_order, .int o_way_near, .int o_way_seed, .int o_way_stages, .ref h_o_way_shifts]))]
def fX9_isPlace (o_way_size : Int32) (p1 : Int32) : Option (Int32) :=
  if p1 < 0 then (
    some (0 : Int32)
  ) else (
    if o_way_size ≤ p1 then (
      some (0 : Int32)
    ) else (
      some (1 : Int32)
    )
  )
set_option maxHeartbeats 4000000 in
set_option maxRecDepth 100000 in
theorem tX9_isPlace (l : Launch) (G : va_G) (cI cJ cZ : ClassId) (sz : Nat) (h_o h_o_way h_o_wave h_o_past h_o_notes h_o_ring h_o_turns h_o_beater h_o_reader h_o_dice h_o_trialWay h_o_trial h_o_otherTrial h_o_sumsRe h_o_sumsIm h_o_tally h_o_image h_o_tape h_o_way_shifts : Nat) (o_imageKept : Int32) (o_taped : Int32) (o_way_size : Int32) (o_way_log : Int32) (o_way_wordBits : Int32) (o_way_limit : Int32) (o_way_radix : Int32) (o_way_order : Int32) (o_way_near : Int32) (o_way_seed : Int32) (o_way_stages : Int32) (p1 : Int32) (r : Int32) (hf : fX9_isPlace o_way_size p1 = some r) : Met l yX9_isPlace (Cond.code yX9_isPlace cX9_isPlace 2 (some .boolean) :: BIG) ({ frames := 0, cells := 0, slots := 0, locals := 0 } : Room) (cP G (TY3 cI cJ cZ) [.ref h_o, .int p1] sz (wX9_isPlace cI cJ cZ h_o h_o_way h_o_wave h_o_past h_o_notes h_o_ring h_o_turns h_o_beater h_o_reader h_o_dice h_o_trialWay h_o_trial h_o_otherTrial h_o_sumsRe h_o_sumsIm h_o_tally h_o_image h_o_tape h_o_way_shifts o_imageKept o_taped o_way_size o_way_log o_way_wordBits o_way_limit o_way_radix o_way_order o_way_near o_way_seed o_way_stages)) (cQ G (TY3 cI cJ cZ) sz (wX9_isPlace cI cJ cZ h_o h_o_way h_o_wave h_o_past h_o_notes h_o_ring h_o_turns h_o_beater h_o_reader h_o_dice h_o_trialWay h_o_trial h_o_otherTrial h_o_sumsRe h_o_sumsIm h_o_tally h_o_image h_o_tape h_o_way_shifts o_imageKept o_taped o_way_size o_way_log o_way_wordBits o_way_limit o_way_radix o_way_order o_way_near o_way_seed o_way_stages) (wX9_isPlace cI cJ cZ h_o h_o_way h_o_wave h_o_past h_o_notes h_o_ring h_o_turns h_o_beater h_o_reader h_o_dice h_o_trialWay h_o_trial h_o_otherTrial h_o_sumsRe h_o_sumsIm h_o_tally h_o_image h_o_tape h_o_way_shifts o_imageKept o_taped o_way_size o_way_log o_way_wordBits o_way_limit o_way_radix o_way_order o_way_near o_way_seed o_way_stages) (some (.int r))) 0 0 (va_A (wX9_isPlace cI cJ cZ h_o h_o_way h_o_wave h_o_past h_o_notes h_o_ring h_o_turns h_o_beater h_o_reader h_o_dice h_o_trialWay h_o_trial h_o_otherTrial h_o_sumsRe h_o_sumsIm h_o_tally h_o_image h_o_tape h_o_way_shifts o_imageKept o_taped o_way_size o_way_log o_way_wordBits o_way_limit o_way_radix o_way_order o_way_near o_way_seed o_way_stages) sz) := by
  refine met_z (cc := cX9_isPlace) (maxL := 2) (plainFor_of_name (by decide)) (Nat.le_of_ble_eq_true rfl) (fun p e s m below meth c A ls Q hx hb hml hts hown hK hP hD hS hA hl hret => ?_)
  have hown : s.vm.findClass RX9 = some m.cls := hown
  have hl : lv_has ls 2 [(0, .ref h_o), (1, .int p1)] := hl
  unfold fX9_isPlace at hf
  obtain ⟨H, eH⟩ : ∃ H, H = s.heap := ⟨_, rfl⟩
  obtain ⟨locs, elocs⟩ : ∃ z : List Loc, z = [] := ⟨_, rfl⟩
  have hP : va_P G vwCl (wX9_isPlace cI cJ cZ h_o h_o_way h_o_wave h_o_past h_o_notes h_o_ring h_o_turns h_o_beater h_o_reader h_o_dice h_o_trialWay h_o_trial h_o_otherTrial h_o_sumsRe h_o_sumsIm h_o_tally h_o_image h_o_tape h_o_way_shifts o_imageKept o_taped o_way_size o_way_log o_way_wordBits o_way_limit o_way_radix o_way_order o_way_near o_way_seed o_way_stages) H := by rw [eH]; exact hP
  have hS : va_S A s.heap H locs := by rw [eH, elocs]; exact hS
  suffices hgo : W p l e ({ frames := 0, cells := 0, slots := 0, locals := 0 } : Room) s m ([.ref h_o, .int p1] : List Value).toArray below meth c H locs 0 0 Q (F0 m 0 ls []) by rw [eH, elocs] at hgo; exact hgo
  clear eH elocs
  refine lv_iload_n hx hb dX9_isPlace_0 rfl (lv_at hl 1 rfl) ?_
  refine lv_if_lt (tgt := 19) hx hb dX9_isPlace_1 (by decide) (fun c_1 => ?_) (fun c_1 => ?_)
  · have hf := it_t c_1 hf
    refine lv_iconst (v := (0 : Int32)) hx hb dX9_isPlace_19 (by decide) ?_
    cases hf
    exact hret _ _ _ _ dX9_isPlace_20 rfl hP hD hS
  · have hf := it_f c_1 hf
    refine lv_iload_n hx hb dX9_isPlace_4 rfl (lv_at hl 1 rfl) ?_
    refine lv_aload_n hx hb dX9_isPlace_5 rfl (lv_at hl 0 rfl) ?_
    refine rd (ci := 9) (C := RX9) (T := TX9) (N := 19) hx hb hts inX9 hown hK hP 0 0 rfl rfl (by decide) (hts _ q_fX9_10) rfl dX9_isPlace_6 ?_
    refine rd (ci := 8) (C := RX8) (T := TX8) (N := 10) hx hb hts inX8 hown hK hP 1 0 rfl rfl (by decide) (hts _ q_fX9_115) rfl dX9_isPlace_9 ?_
    refine lv_icmp_ge (tgt := 19) hx hb dX9_isPlace_12 (by decide) (fun c_2 => ?_) (fun c_2 => ?_)
    · have hf := it_t c_2 hf
      refine lv_iconst (v := (0 : Int32)) hx hb dX9_isPlace_19 (by decide) ?_
      cases hf
      exact hret _ _ _ _ dX9_isPlace_20 rfl hP hD hS
    · have hf := it_f c_2 hf
      refine lv_iconst (v := (1 : Int32)) hx hb dX9_isPlace_15 (by decide) ?_
      refine lv_goto (tgt := 20) hx hb dX9_isPlace_16 (by decide) ?_
      cases hf
      exact hret _ _ _ _ dX9_isPlace_20 rfl hP hD hS
def wX9_turn (cI cJ cZ : ClassId) (h_o h_o_turns h_o_way h_o_turns_cos h_o_turns_sin h_o_wave h_o_past h_o_notes h_o_ring h_o_beater h_o_reader h_o_dice h_o_trialWay h_o_trial h_o_otherTrial h_o_sumsRe h_o_sumsIm h_o_tally h_o_image h_o_tape h_o_way_shifts : Nat) (o_imageKept : Int32) (o_taped : Int32) (o_way_size : Int32) (o_way_log : Int32) (o_way_wordBits : Int32) (o_way_limit : Int32) (o_way_radix : Int32) (o_way_order : Int32) (o_way_near : Int32) (o_way_seed : Int32) (o_way_stages : Int32) (o_turns_cos : Nat → Int32) (o_turns_sin : Nat → Int32) : va_W := [(h_o, .inr (9, [.ref h_o_way, .ref h_o_wave, .ref h_o_past, .ref h_o_notes, .ref h_o_ring, .ref h_o_turns, .ref h_o_beater, .ref h_o_reader, .ref h_o_dice, .ref h_o_trialWay, .ref h_o_trial, .ref h_o_otherTrial, .ref h_o_sumsRe, .ref h_o_sumsIm, .ref h_o_tally, .ref h_o_image, .int o_imageKept, .ref h_o_tape, .int o_taped])), (h_o_turns, .inr (6, [.ref h_o_turns_cos, .ref h_o_turns_sin])), (h_o_way, .inr (8, [.int o_way_size, .int o_way_log, .int o_way_wordBits, .int o_way_limit, .int o_way_radix, .int o_way_order, .int o_way_near, .int o_way_seed, .int o_way_stages, .ref h_o_way_shifts])), (h_o_turns_cos, .inl (cI, 32, .inl o_turns_cos)), (h_o_turns_sin, .inl (cI, 32, .inl o_turns_sin))]
def fX9_turn (o_way_size : Int32) (o_turns_cos : Nat → Int32) (o_turns_sin : Nat → Int32) (p1 : Int32) (p2 : Int32) : Option (Int32) :=
  bd1 (fX9_isPlace o_way_size p1) (fun r_1 =>
  if r_1 = 0 then (
    some (-2147483648 : Int32)
  ) else (
    if p2 < 0 then (
      some (-2147483648 : Int32)
    ) else (
      if p2 ≤ (1 : Int32) then (
        if p2 = 0 then (
          gd (inb p1 32) (
          some (o_turns_cos (Int32.toNatClampNeg p1)))
        ) else (
          gd (inb p1 32) (
          some (-(o_turns_sin (Int32.toNatClampNeg p1))))
        )
      ) else (
        some (-2147483648 : Int32)
      )
    )
  ))
set_option maxHeartbeats 4000000 in
set_option maxRecDepth 100000 in
theorem tX9_turn (l : Launch) (G : va_G) (cI cJ cZ : ClassId) (sz : Nat) (h_o h_o_turns h_o_way h_o_turns_cos h_o_turns_sin h_o_wave h_o_past h_o_notes h_o_ring h_o_beater h_o_reader h_o_dice h_o_trialWay h_o_trial h_o_otherTrial h_o_sumsRe h_o_sumsIm h_o_tally h_o_image h_o_tape h_o_way_shifts : Nat) (o_imageKept : Int32) (o_taped : Int32) (o_way_size : Int32) (o_way_log : Int32) (o_way_wordBits : Int32) (o_way_limit : Int32) (o_way_radix : Int32) (o_way_order : Int32) (o_way_near : Int32) (o_way_seed : Int32) (o_way_stages : Int32) (o_turns_cos : Nat → Int32) (o_turns_sin : Nat → Int32) (p1 : Int32) (p2 : Int32) (r : Int32) (hf : fX9_turn o_way_size o_turns_cos o_turns_sin p1 p2 = some r) : Met l yX9_turn (Cond.code yX9_turn cX9_turn 3 (some .int) :: BIG) ({ frames := 1, cells := 0, slots := 0, locals := 21 } : Room) (cP G (TY3 cI cJ cZ) [.ref h_o, .int p1, .int p2] sz (wX9_turn cI cJ cZ h_o h_o_turns h_o_way h_o_turns_cos h_o_turns_sin h_o_wave h_o_past h_o_notes h_o_ring h_o_beater h_o_reader h_o_dice h_o_trialWay h_o_trial h_o_otherTrial h_o_sumsRe h_o_sumsIm h_o_tally h_o_image h_o_tape h_o_way_shifts o_imageKept o_taped o_way_size o_way_log o_way_wordBits o_way_limit o_way_radix o_way_order o_way_near o_way_seed o_way_stages o_turns_cos o_turns_sin)) (cQ G (TY3 cI cJ cZ) sz (wX9_turn cI cJ cZ h_o h_o_turns h_o_way h_o_turns_cos h_o_turns_sin h_o_wave h_o_past h_o_notes h_o_ring h_o_beater h_o_reader h_o_dice h_o_trialWay h_o_trial h_o_otherTrial h_o_sumsRe h_o_sumsIm h_o_tally h_o_image h_o_tape h_o_way_shifts o_imageKept o_taped o_way_size o_way_log o_way_wordBits o_way_limit o_way_radix o_way_order o_way_near o_way_seed o_way_stages o_turns_cos o_turns_sin) (wX9_turn cI cJ cZ h_o h_o_turns h_o_way h_o_turns_cos h_o_turns_sin h_o_wave h_o_past h_o_notes h_o_ring h_o_beater h_o_reader h_o_dice h_o_trialWay h_o_trial h_o_otherTrial h_o_sumsRe h_o_sumsIm h_o_tally h_o_image h_o_tape h_o_way_shifts o_imageKept o_taped o_way_size o_way_log o_way_wordBits o_way_limit o_way_radix o_way_order o_way_near o_way_seed o_way_stages o_turns_cos o_turns_sin) (some (.int r))) 0 0 (va_A (wX9_turn cI cJ cZ h_o h_o_turns h_o_way h_o_turns_cos h_o_turns_sin h_o_wave h_o_past h_o_notes h_o_ring h_o_beater h_o_reader h_o_dice h_o_trialWay h_o_trial h_o_otherTrial h_o_sumsRe h_o_sumsIm h_o_tally h_o_image h_o_tape h_o_way_shifts o_imageKept o_taped o_way_size o_way_log o_way_wordBits o_way_limit o_way_radix o_way_order o_way_near o_way_seed o_way_stages o_turns_cos o_turns_sin) sz) := by
  refine met_i (cc := cX9_turn) (maxL := 3) (plainFor_of_name (by decide)) (Nat.le_of_ble_eq_true rfl) (fun p e s m below meth c A ls Q hx hb hml hts hown hK hP hD hS hA hl hret => ?_)
  have hown : s.vm.findClass RX9 = some m.cls := hown
  have hl : lv_has ls 3 [(0, .ref h_o), (1, .int p1), (2, .int p2)] := hl
  unfold fX9_turn at hf
  obtain ⟨H, eH⟩ : ∃ H, H = s.heap := ⟨_, rfl⟩
  obtain ⟨locs, elocs⟩ : ∃ z : List Loc, z = [] := ⟨_, rfl⟩
  have hP : va_P G vwCl (wX9_turn cI cJ cZ h_o h_o_turns h_o_way h_o_turns_cos h_o_turns_sin h_o_wave h_o_past h_o_notes h_o_ring h_o_beater h_o_reader h_o_dice h_o_trialWay h_o_trial h_o_otherTrial h_o_sumsRe h_o_sumsIm h_o_tally h_o_image h_o_tape h_o_way_shifts o_imageKept o_taped o_way_size o_way_log o_way_wordBits o_way_limit o_way_radix o_way_order o_way_near o_way_seed o_way_stages o_turns_cos o_turns_sin) H := by rw [eH]; exact hP
  have hS : va_S A s.heap H locs := by rw [eH, elocs]; exact hS
  suffices hgo : W p l e ({ frames := 1, cells := 0, slots := 0, locals := 21 } : Room) s m ([.ref h_o, .int p1, .int p2] : List Value).toArray below meth c H locs 0 0 Q (F0 m 0 ls []) by rw [eH, elocs] at hgo; exact hgo
  clear eH elocs
  refine lv_aload_n hx hb dX9_turn_0 rfl (lv_at hl 0 rfl) ?_
  refine lv_iload_n hx hb dX9_turn_1 rfl (lv_at hl 1 rfl) ?_
  obtain ⟨r_1, e_2, hf⟩ := bd1_x hf
  refine call_v [.int p1] [] ⟨hx, hb, hml, hown, hts⟩ hK hP hD hS hA hl.1 (tX9_isPlace l G cI cJ cZ H.size h_o h_o_way h_o_wave h_o_past h_o_notes h_o_ring h_o_turns h_o_beater h_o_reader h_o_dice h_o_trialWay h_o_trial h_o_otherTrial h_o_sumsRe h_o_sumsIm h_o_tally h_o_image h_o_tape h_o_way_shifts o_imageKept o_taped o_way_size o_way_log o_way_wordBits o_way_limit o_way_radix o_way_order o_way_near o_way_seed o_way_stages p1 r_1 e_2) (cwV 1 hts (gv q_mX9_159 q_i_yX9_isPlace q_s_yX9_isPlace q_n_RX9 q_k_yX9_isPlace) rfl rfl rfl (by decide +kernel) ⟨by decide, by decide⟩) rfl rfl (Nat.le_of_ble_eq_true rfl) dX9_turn_2 ⟨Nat.zero_le _, Nat.zero_le _⟩ (ci := 9) rfl 0 rfl [0, 2] [1, 3, 4] [3, 0, 4, 1, 2] rfl rfl (ws2 := (wX9_turn cI cJ cZ h_o h_o_turns h_o_way h_o_turns_cos h_o_turns_sin h_o_wave h_o_past h_o_notes h_o_ring h_o_beater h_o_reader h_o_dice h_o_trialWay h_o_trial h_o_otherTrial h_o_sumsRe h_o_sumsIm h_o_tally h_o_image h_o_tape h_o_way_shifts o_imageKept o_taped o_way_size o_way_log o_way_wordBits o_way_limit o_way_radix o_way_order o_way_near o_way_seed o_way_stages o_turns_cos o_turns_sin)) rfl (fun H locs hP hD hS => ?_)
  refine W.eq (g2 := F0 m 5 ls [.int r_1]) rfl ?_
  refine lv_if_eq (tgt := 17) hx hb dX9_turn_5 (by decide) (fun c_3 => ?_) (fun c_3 => ?_)
  · have hf := it_t c_3 hf
    refine lv_ldc (v := (-2147483648 : Int32)) hx hb hown (hts _ q_cX9_185) dX9_turn_17 ?_
    cases hf
    exact hret _ _ _ _ dX9_turn_19 hP hD hS
  · have hf := it_f c_3 hf
    refine lv_iload_n hx hb dX9_turn_8 rfl (lv_at hl 2 rfl) ?_
    refine lv_if_lt (tgt := 17) hx hb dX9_turn_9 (by decide) (fun c_4 => ?_) (fun c_4 => ?_)
    · have hf := it_t c_4 hf
      refine lv_ldc (v := (-2147483648 : Int32)) hx hb hown (hts _ q_cX9_185) dX9_turn_17 ?_
      cases hf
      exact hret _ _ _ _ dX9_turn_19 hP hD hS
    · have hf := it_f c_4 hf
      refine lv_iload_n hx hb dX9_turn_12 rfl (lv_at hl 2 rfl) ?_
      refine lv_iconst (v := (1 : Int32)) hx hb dX9_turn_13 (by decide) ?_
      refine lv_icmp_le (tgt := 20) hx hb dX9_turn_14 (by decide) (fun c_5 => ?_) (fun c_5 => ?_)
      · have hf := it_t c_5 hf
        refine lv_iload_n hx hb dX9_turn_20 rfl (lv_at hl 2 rfl) ?_
        refine lv_if_ne (tgt := 36) hx hb dX9_turn_21 (by decide) (fun c_6 => ?_) (fun c_6 => ?_)
        · have hf := it_f c_6 hf
          refine lv_aload_n hx hb dX9_turn_36 rfl (lv_at hl 0 rfl) ?_
          refine rd (ci := 9) (C := RX9) (T := TX9) (N := 19) hx hb hts inX9 hown hK hP 0 5 rfl rfl (by decide) (hts _ q_fX9_47) rfl dX9_turn_37 ?_
          refine rd (ci := 6) (C := RX6) (T := TX6) (N := 2) hx hb hts inX6 hown hK hP 1 1 rfl rfl (by decide) (hts _ q_fX9_189) rfl dX9_turn_40 ?_
          refine lv_iload_n hx hb dX9_turn_43 rfl (lv_at hl 1 rfl) ?_
          obtain ⟨g_7, hf⟩ := gd_x hf
          refine va_iald hx hb hK hP 4 0 rfl rfl (inb_x g_7) dX9_turn_44 ?_
          refine lv_ineg hx hb dX9_turn_45 ?_
          cases hf
          exact hret _ _ _ _ dX9_turn_46 hP hD hS
        · have hf := it_t c_6 hf
          refine lv_aload_n hx hb dX9_turn_24 rfl (lv_at hl 0 rfl) ?_
          refine rd (ci := 9) (C := RX9) (T := TX9) (N := 19) hx hb hts inX9 hown hK hP 0 5 rfl rfl (by decide) (hts _ q_fX9_47) rfl dX9_turn_25 ?_
          refine rd (ci := 6) (C := RX6) (T := TX6) (N := 2) hx hb hts inX6 hown hK hP 1 0 rfl rfl (by decide) (hts _ q_fX9_186) rfl dX9_turn_28 ?_
          refine lv_iload_n hx hb dX9_turn_31 rfl (lv_at hl 1 rfl) ?_
          obtain ⟨g_8, hf⟩ := gd_x hf
          refine va_iald hx hb hK hP 3 0 rfl rfl (inb_x g_8) dX9_turn_32 ?_
          refine lv_goto (tgt := 46) hx hb dX9_turn_33 (by decide) ?_
          cases hf
          exact hret _ _ _ _ dX9_turn_46 hP hD hS
      · have hf := it_f c_5 hf
        refine lv_ldc (v := (-2147483648 : Int32)) hx hb hown (hts _ q_cX9_185) dX9_turn_17 ?_
        cases hf
        exact hret _ _ _ _ dX9_turn_19 hP hD hS
def wX9_reversed (cI cJ cZ : ClassId) (h_o h_o_way h_o_way_shifts h_o_wave h_o_past h_o_notes h_o_ring h_o_turns h_o_beater h_o_reader h_o_dice h_o_trialWay h_o_trial h_o_otherTrial h_o_sumsRe h_o_sumsIm h_o_tally h_o_image h_o_tape : Nat) (o_imageKept : Int32) (o_taped : Int32) (o_way_size : Int32) (o_way_log : Int32) (o_way_wordBits : Int32) (o_way_limit : Int32) (o_way_radix : Int32) (o_way_order : Int32) (o_way_near : Int32) (o_way_seed : Int32) (o_way_stages : Int32) (o_way_shifts : Nat → Int32) : va_W := [(h_o, .inr (9, [.ref h_o_way, .ref h_o_wave, .ref h_o_past, .ref h_o_notes, .ref h_o_ring, .ref h_o_turns, .ref h_o_beater, .ref h_o_reader, .ref h_o_dice, .ref h_o_trialWay, .ref h_o_trial, .ref h_o_otherTrial, .ref h_o_sumsRe, .ref h_o_sumsIm, .ref h_o_tally, .ref h_o_image, .int o_imageKept, .ref h_o_tape, .int o_taped])), (h_o_way, .inr (8, [.int o_way_size, .int o_way_log, .int o_way_wordBits, .int o_way_limit, .int o_way_radix, .int o_way_order, .int o_way_near, .int o_way_seed, .int o_way_stages, .ref h_o_way_shifts])), (h_o_way_shifts, .inl (cI, 5, .inl o_way_shifts))]
def fX9_reversed (o_way_size : Int32) (o_way_stages : Int32) (o_way_shifts : Nat → Int32) (p1 : Int32) : Option (Int32) :=
  bd1 (fX9_isPlace o_way_size p1) (fun r_1 =>
  if r_1 = 0 then (
    some (-1 : Int32)
  ) else (
    bd1 (fX8_reversedPlace o_way_stages o_way_shifts p1) (fun r_4 =>
    some r_4)
  ))
set_option maxHeartbeats 4000000 in
set_option maxRecDepth 100000 in
theorem tX9_reversed (l : Launch) (G : va_G) (cI cJ cZ : ClassId) (sz : Nat) (h_o h_o_way h_o_way_shifts h_o_wave h_o_past h_o_notes h_o_ring h_o_turns h_o_beater h_o_reader h_o_dice h_o_trialWay h_o_trial h_o_otherTrial h_o_sumsRe h_o_sumsIm h_o_tally h_o_image h_o_tape : Nat) (o_imageKept : Int32) (o_taped : Int32) (o_way_size : Int32) (o_way_log : Int32) (o_way_wordBits : Int32) (o_way_limit : Int32) (o_way_radix : Int32) (o_way_order : Int32) (o_way_near : Int32) (o_way_seed : Int32) (o_way_stages : Int32) (o_way_shifts : Nat → Int32) (p1 : Int32) (r : Int32) (hf : fX9_reversed o_way_size o_way_stages o_way_shifts p1 = some r) : Met l yX9_reversed (Cond.code yX9_reversed cX9_reversed 2 (some .int) :: BIG) ({ frames := 1, cells := 0, slots := 0, locals := 25 } : Room) (cP G (TY3 cI cJ cZ) [.ref h_o, .int p1] sz (wX9_reversed cI cJ cZ h_o h_o_way h_o_way_shifts h_o_wave h_o_past h_o_notes h_o_ring h_o_turns h_o_beater h_o_reader h_o_dice h_o_trialWay h_o_trial h_o_otherTrial h_o_sumsRe h_o_sumsIm h_o_tally h_o_image h_o_tape o_imageKept o_taped o_way_size o_way_log o_way_wordBits o_way_limit o_way_radix o_way_order o_way_near o_way_seed o_way_stages o_way_shifts)) (cQ G (TY3 cI cJ cZ) sz (wX9_reversed cI cJ cZ h_o h_o_way h_o_way_shifts h_o_wave h_o_past h_o_notes h_o_ring h_o_turns h_o_beater h_o_reader h_o_dice h_o_trialWay h_o_trial h_o_otherTrial h_o_sumsRe h_o_sumsIm h_o_tally h_o_image h_o_tape o_imageKept o_taped o_way_size o_way_log o_way_wordBits o_way_limit o_way_radix o_way_order o_way_near o_way_seed o_way_stages o_way_shifts) (wX9_reversed cI cJ cZ h_o h_o_way h_o_way_shifts h_o_wave h_o_past h_o_notes h_o_ring h_o_turns h_o_beater h_o_reader h_o_dice h_o_trialWay h_o_trial h_o_otherTrial h_o_sumsRe h_o_sumsIm h_o_tally h_o_image h_o_tape o_imageKept o_taped o_way_size o_way_log o_way_wordBits o_way_limit o_way_radix o_way_order o_way_near o_way_seed o_way_stages o_way_shifts) (some (.int r))) 0 0 (va_A (wX9_reversed cI cJ cZ h_o h_o_way h_o_way_shifts h_o_wave h_o_past h_o_notes h_o_ring h_o_turns h_o_beater h_o_reader h_o_dice h_o_trialWay h_o_trial h_o_otherTrial h_o_sumsRe h_o_sumsIm h_o_tally h_o_image h_o_tape o_imageKept o_taped o_way_size o_way_log o_way_wordBits o_way_limit o_way_radix o_way_order o_way_near o_way_seed o_way_stages o_way_shifts) sz) := by
  refine met_i (cc := cX9_reversed) (maxL := 2) (plainFor_of_name (by decide)) (Nat.le_of_ble_eq_true rfl) (fun p e s m below meth c A ls Q hx hb hml hts hown hK hP hD hS hA hl hret => ?_)
  have hown : s.vm.findClass RX9 = some m.cls := hown
  have hl : lv_has ls 2 [(0, .ref h_o), (1, .int p1)] := hl
  unfold fX9_reversed at hf
  obtain ⟨H, eH⟩ : ∃ H, H = s.heap := ⟨_, rfl⟩
  obtain ⟨locs, elocs⟩ : ∃ z : List Loc, z = [] := ⟨_, rfl⟩
  have hP : va_P G vwCl (wX9_reversed cI cJ cZ h_o h_o_way h_o_way_shifts h_o_wave h_o_past h_o_notes h_o_ring h_o_turns h_o_beater h_o_reader h_o_dice h_o_trialWay h_o_trial h_o_otherTrial h_o_sumsRe h_o_sumsIm h_o_tally h_o_image h_o_tape o_imageKept o_taped o_way_size o_way_log o_way_wordBits o_way_limit o_way_radix o_way_order o_way_near o_way_seed o_way_stages o_way_shifts) H := by rw [eH]; exact hP
  have hS : va_S A s.heap H locs := by rw [eH, elocs]; exact hS
  suffices hgo : W p l e ({ frames := 1, cells := 0, slots := 0, locals := 25 } : Room) s m ([.ref h_o, .int p1] : List Value).toArray below meth c H locs 0 0 Q (F0 m 0 ls []) by rw [eH, elocs] at hgo; exact hgo
  clear eH elocs
  refine lv_aload_n hx hb dX9_reversed_0 rfl (lv_at hl 0 rfl) ?_
  refine lv_iload_n hx hb dX9_reversed_1 rfl (lv_at hl 1 rfl) ?_
  obtain ⟨r_1, e_2, hf⟩ := bd1_x hf
  refine call_v [.int p1] [] ⟨hx, hb, hml, hown, hts⟩ hK hP hD hS hA hl.1 (tX9_isPlace l G cI cJ cZ H.size h_o h_o_way h_o_wave h_o_past h_o_notes h_o_ring h_o_turns h_o_beater h_o_reader h_o_dice h_o_trialWay h_o_trial h_o_otherTrial h_o_sumsRe h_o_sumsIm h_o_tally h_o_image h_o_tape h_o_way_shifts o_imageKept o_taped o_way_size o_way_log o_way_wordBits o_way_limit o_way_radix o_way_order o_way_near o_way_seed o_way_stages p1 r_1 e_2) (cwV 1 hts (gv q_mX9_159 q_i_yX9_isPlace q_s_yX9_isPlace q_n_RX9 q_k_yX9_isPlace) rfl rfl rfl (by decide +kernel) ⟨by decide, by decide⟩) rfl rfl (Nat.le_of_ble_eq_true rfl) dX9_reversed_2 ⟨Nat.zero_le _, Nat.zero_le _⟩ (ci := 9) rfl 0 rfl [0, 1] [2] [1, 2, 0] rfl rfl (ws2 := (wX9_reversed cI cJ cZ h_o h_o_way h_o_way_shifts h_o_wave h_o_past h_o_notes h_o_ring h_o_turns h_o_beater h_o_reader h_o_dice h_o_trialWay h_o_trial h_o_otherTrial h_o_sumsRe h_o_sumsIm h_o_tally h_o_image h_o_tape o_imageKept o_taped o_way_size o_way_log o_way_wordBits o_way_limit o_way_radix o_way_order o_way_near o_way_seed o_way_stages o_way_shifts)) rfl (fun H locs hP hD hS => ?_)
  refine W.eq (g2 := F0 m 5 ls [.int r_1]) rfl ?_
  refine lv_if_eq (tgt := 19) hx hb dX9_reversed_5 (by decide) (fun c_3 => ?_) (fun c_3 => ?_)
  · have hf := it_t c_3 hf
    refine lv_iconst (v := (-1 : Int32)) hx hb dX9_reversed_19 (by decide) ?_
    cases hf
    exact hret _ _ _ _ dX9_reversed_20 hP hD hS
  · have hf := it_f c_3 hf
    refine lv_aload_n hx hb dX9_reversed_8 rfl (lv_at hl 0 rfl) ?_
    refine rd (ci := 9) (C := RX9) (T := TX9) (N := 19) hx hb hts inX9 hown hK hP 0 0 rfl rfl (by decide) (hts _ q_fX9_10) rfl dX9_reversed_9 ?_
    refine lv_iload_n hx hb dX9_reversed_12 rfl (lv_at hl 1 rfl) ?_
    obtain ⟨r_4, e_5, hf⟩ := bd1_x hf
    refine call_v [.int p1] [] ⟨hx, hb, hml, hown, hts⟩ hK hP hD hS hA hl.1 (tX8_reversedPlace l G cI cJ cZ H.size h_o_way h_o_way_shifts o_way_size o_way_log o_way_wordBits o_way_limit o_way_radix o_way_order o_way_near o_way_seed o_way_stages o_way_shifts p1 r_4 e_5) (cwV 1 hts (gv q_mX9_192 q_i_yX8_reversedPlace q_s_yX8_reversedPlace q_n_RX8 q_k_yX8_reversedPlace) rfl rfl rfl (by decide +kernel) ⟨by decide, by decide⟩) rfl rfl (Nat.le_of_ble_eq_true rfl) dX9_reversed_13 ⟨Nat.zero_le _, Nat.zero_le _⟩ (ci := 8) rfl 0 rfl [1, 2] [0] [0, 1, 2] rfl rfl (ws2 := (wX9_reversed cI cJ cZ h_o h_o_way h_o_way_shifts h_o_wave h_o_past h_o_notes h_o_ring h_o_turns h_o_beater h_o_reader h_o_dice h_o_trialWay h_o_trial h_o_otherTrial h_o_sumsRe h_o_sumsIm h_o_tally h_o_image h_o_tape o_imageKept o_taped o_way_size o_way_log o_way_wordBits o_way_limit o_way_radix o_way_order o_way_near o_way_seed o_way_stages o_way_shifts)) rfl (fun H locs hP hD hS => ?_)
    refine W.eq (g2 := F0 m 16 ls [.int r_4]) rfl ?_
    refine lv_goto (tgt := 20) hx hb dX9_reversed_16 (by decide) ?_
    cases hf
    exact hret _ _ _ _ dX9_reversed_20 hP hD hS
def wX9_digit (cI cJ cZ : ClassId) (h_o h_o_way h_o_way_shifts h_o_wave h_o_past h_o_notes h_o_ring h_o_turns h_o_beater h_o_reader h_o_dice h_o_trialWay h_o_trial h_o_otherTrial h_o_sumsRe h_o_sumsIm h_o_tally h_o_image h_o_tape : Nat) (o_imageKept : Int32) (o_taped : Int32) (o_way_size : Int32) (o_way_log : Int32) (o_way_wordBits : Int32) (o_way_limit : Int32) (o_way_radix : Int32) (o_way_order : Int32) (o_way_near : Int32) (o_way_seed : Int32) (o_way_stages : Int32) (o_way_shifts : Nat → Int32) : va_W := [(h_o, .inr (9, [.ref h_o_way, .ref h_o_wave, .ref h_o_past, .ref h_o_notes, .ref h_o_ring, .ref h_o_turns, .ref h_o_beater, .ref h_o_reader, .ref h_o_dice, .ref h_o_trialWay, .ref h_o_trial, .ref h_o_otherTrial, .ref h_o_sumsRe, .ref h_o_sumsIm, .ref h_o_tally, .ref h_o_image, .int o_imageKept, .ref h_o_tape, .int o_taped])), (h_o_way, .inr (8, [.int o_way_size, .int o_way_log, .int o_way_wordBits, .int o_way_limit, .int o_way_radix, .int o_way_order, .int o_way_near, .int o_way_seed, .int o_way_stages, .ref h_o_way_shifts])), (h_o_way_shifts, .inl (cI, 5, .inl o_way_shifts))]
def fX9_digit (o_way_size : Int32) (o_way_stages : Int32) (o_way_shifts : Nat → Int32) (p1 : Int32) (p2 : Int32) : Option (Int32) :=
  bd1 (fX9_isPlace o_way_size p1) (fun r_1 =>
  if r_1 = 0 then (
    some (-1 : Int32)
  ) else (
    if p2 < 0 then (
      some (-1 : Int32)
    ) else (
      if p2 < o_way_stages then (
        bd1 (fX8_digitOf o_way_stages o_way_shifts p1 p2) (fun r_6 =>
        some r_6)
      ) else (
        some (-1 : Int32)
      )
    )
  ))
set_option maxHeartbeats 4000000 in
set_option maxRecDepth 100000 in
theorem tX9_digit (l : Launch) (G : va_G) (cI cJ cZ : ClassId) (sz : Nat) (h_o h_o_way h_o_way_shifts h_o_wave h_o_past h_o_notes h_o_ring h_o_turns h_o_beater h_o_reader h_o_dice h_o_trialWay h_o_trial h_o_otherTrial h_o_sumsRe h_o_sumsIm h_o_tally h_o_image h_o_tape : Nat) (o_imageKept : Int32) (o_taped : Int32) (o_way_size : Int32) (o_way_log : Int32) (o_way_wordBits : Int32) (o_way_limit : Int32) (o_way_radix : Int32) (o_way_order : Int32) (o_way_near : Int32) (o_way_seed : Int32) (o_way_stages : Int32) (o_way_shifts : Nat → Int32) (p1 : Int32) (p2 : Int32) (r : Int32) (hf : fX9_digit o_way_size o_way_stages o_way_shifts p1 p2 = some r) : Met l yX9_digit (Cond.code yX9_digit cX9_digit 3 (some .int) :: BIG) ({ frames := 1, cells := 0, slots := 0, locals := 24 } : Room) (cP G (TY3 cI cJ cZ) [.ref h_o, .int p1, .int p2] sz (wX9_digit cI cJ cZ h_o h_o_way h_o_way_shifts h_o_wave h_o_past h_o_notes h_o_ring h_o_turns h_o_beater h_o_reader h_o_dice h_o_trialWay h_o_trial h_o_otherTrial h_o_sumsRe h_o_sumsIm h_o_tally h_o_image h_o_tape o_imageKept o_taped o_way_size o_way_log o_way_wordBits o_way_limit o_way_radix o_way_order o_way_near o_way_seed o_way_stages o_way_shifts)) (cQ G (TY3 cI cJ cZ) sz (wX9_digit cI cJ cZ h_o h_o_way h_o_way_shifts h_o_wave h_o_past h_o_notes h_o_ring h_o_turns h_o_beater h_o_reader h_o_dice h_o_trialWay h_o_trial h_o_otherTrial h_o_sumsRe h_o_sumsIm h_o_tally h_o_image h_o_tape o_imageKept o_taped o_way_size o_way_log o_way_wordBits o_way_limit o_way_radix o_way_order o_way_near o_way_seed o_way_stages o_way_shifts) (wX9_digit cI cJ cZ h_o h_o_way h_o_way_shifts h_o_wave h_o_past h_o_notes h_o_ring h_o_turns h_o_beater h_o_reader h_o_dice h_o_trialWay h_o_trial h_o_otherTrial h_o_sumsRe h_o_sumsIm h_o_tally h_o_image h_o_tape o_imageKept o_taped o_way_size o_way_log o_way_wordBits o_way_limit o_way_radix o_way_order o_way_near o_way_seed o_way_stages o_way_shifts) (some (.int r))) 0 0 (va_A (wX9_digit cI cJ cZ h_o h_o_way h_o_way_shifts h_o_wave h_o_past h_o_notes h_o_ring h_o_turns h_o_beater h_o_reader h_o_dice h_o_trialWay h_o_trial h_o_otherTrial h_o_sumsRe h_o_sumsIm h_o_tally h_o_image h_o_tape o_imageKept o_taped o_way_size o_way_log o_way_wordBits o_way_limit o_way_radix o_way_order o_way_near o_way_seed o_way_stages o_way_shifts) sz) := by
  refine met_i (cc := cX9_digit) (maxL := 3) (plainFor_of_name (by decide)) (Nat.le_of_ble_eq_true rfl) (fun p e s m below meth c A ls Q hx hb hml hts hown hK hP hD hS hA hl hret => ?_)
  have hown : s.vm.findClass RX9 = some m.cls := hown
  have hl : lv_has ls 3 [(0, .ref h_o), (1, .int p1), (2, .int p2)] := hl
  unfold fX9_digit at hf
  obtain ⟨H, eH⟩ : ∃ H, H = s.heap := ⟨_, rfl⟩
  obtain ⟨locs, elocs⟩ : ∃ z : List Loc, z = [] := ⟨_, rfl⟩
  have hP : va_P G vwCl (wX9_digit cI cJ cZ h_o h_o_way h_o_way_shifts h_o_wave h_o_past h_o_notes h_o_ring h_o_turns h_o_beater h_o_reader h_o_dice h_o_trialWay h_o_trial h_o_otherTrial h_o_sumsRe h_o_sumsIm h_o_tally h_o_image h_o_tape o_imageKept o_taped o_way_size o_way_log o_way_wordBits o_way_limit o_way_radix o_way_order o_way_near o_way_seed o_way_stages o_way_shifts) H := by rw [eH]; exact hP
  have hS : va_S A s.heap H locs := by rw [eH, elocs]; exact hS
  suffices hgo : W p l e ({ frames := 1, cells := 0, slots := 0, locals := 24 } : Room) s m ([.ref h_o, .int p1, .int p2] : List Value).toArray below meth c H locs 0 0 Q (F0 m 0 ls []) by rw [eH, elocs] at hgo; exact hgo
  clear eH elocs
  refine lv_aload_n hx hb dX9_digit_0 rfl (lv_at hl 0 rfl) ?_
  refine lv_iload_n hx hb dX9_digit_1 rfl (lv_at hl 1 rfl) ?_
  obtain ⟨r_1, e_2, hf⟩ := bd1_x hf
  refine call_v [.int p1] [] ⟨hx, hb, hml, hown, hts⟩ hK hP hD hS hA hl.1 (tX9_isPlace l G cI cJ cZ H.size h_o h_o_way h_o_wave h_o_past h_o_notes h_o_ring h_o_turns h_o_beater h_o_reader h_o_dice h_o_trialWay h_o_trial h_o_otherTrial h_o_sumsRe h_o_sumsIm h_o_tally h_o_image h_o_tape h_o_way_shifts o_imageKept o_taped o_way_size o_way_log o_way_wordBits o_way_limit o_way_radix o_way_order o_way_near o_way_seed o_way_stages p1 r_1 e_2) (cwV 1 hts (gv q_mX9_159 q_i_yX9_isPlace q_s_yX9_isPlace q_n_RX9 q_k_yX9_isPlace) rfl rfl rfl (by decide +kernel) ⟨by decide, by decide⟩) rfl rfl (Nat.le_of_ble_eq_true rfl) dX9_digit_2 ⟨Nat.zero_le _, Nat.zero_le _⟩ (ci := 9) rfl 0 rfl [0, 1] [2] [1, 2, 0] rfl rfl (ws2 := (wX9_digit cI cJ cZ h_o h_o_way h_o_way_shifts h_o_wave h_o_past h_o_notes h_o_ring h_o_turns h_o_beater h_o_reader h_o_dice h_o_trialWay h_o_trial h_o_otherTrial h_o_sumsRe h_o_sumsIm h_o_tally h_o_image h_o_tape o_imageKept o_taped o_way_size o_way_log o_way_wordBits o_way_limit o_way_radix o_way_order o_way_near o_way_seed o_way_stages o_way_shifts)) rfl (fun H locs hP hD hS => ?_)
  refine W.eq (g2 := F0 m 5 ls [.int r_1]) rfl ?_
  refine lv_if_eq (tgt := 23) hx hb dX9_digit_5 (by decide) (fun c_3 => ?_) (fun c_3 => ?_)
  · have hf := it_t c_3 hf
    refine lv_iconst (v := (-1 : Int32)) hx hb dX9_digit_23 (by decide) ?_
    cases hf
    exact hret _ _ _ _ dX9_digit_24 hP hD hS
  · have hf := it_f c_3 hf
    refine lv_iload_n hx hb dX9_digit_8 rfl (lv_at hl 2 rfl) ?_
    refine lv_if_lt (tgt := 23) hx hb dX9_digit_9 (by decide) (fun c_4 => ?_) (fun c_4 => ?_)
    · have hf := it_t c_4 hf
      refine lv_iconst (v := (-1 : Int32)) hx hb dX9_digit_23 (by decide) ?_
      cases hf
      exact hret _ _ _ _ dX9_digit_24 hP hD hS
    · have hf := it_f c_4 hf
      refine lv_iload_n hx hb dX9_digit_12 rfl (lv_at hl 2 rfl) ?_
      refine lv_aload_n hx hb dX9_digit_13 rfl (lv_at hl 0 rfl) ?_
      refine rd (ci := 9) (C := RX9) (T := TX9) (N := 19) hx hb hts inX9 hown hK hP 0 0 rfl rfl (by decide) (hts _ q_fX9_10) rfl dX9_digit_14 ?_
      refine rd (ci := 8) (C := RX8) (T := TX8) (N := 10) hx hb hts inX8 hown hK hP 1 8 rfl rfl (by decide) (hts _ q_fX9_196) rfl dX9_digit_17 ?_
      refine lv_icmp_lt (tgt := 25) hx hb dX9_digit_20 (by decide) (fun c_5 => ?_) (fun c_5 => ?_)
      · have hf := it_t c_5 hf
        refine lv_aload_n hx hb dX9_digit_25 rfl (lv_at hl 0 rfl) ?_
        refine rd (ci := 9) (C := RX9) (T := TX9) (N := 19) hx hb hts inX9 hown hK hP 0 0 rfl rfl (by decide) (hts _ q_fX9_10) rfl dX9_digit_26 ?_
        refine lv_iload_n hx hb dX9_digit_29 rfl (lv_at hl 1 rfl) ?_
        refine lv_iload_n hx hb dX9_digit_30 rfl (lv_at hl 2 rfl) ?_
        obtain ⟨r_6, e_7, hf⟩ := bd1_x hf
        refine call_v [.int p1, .int p2] [] ⟨hx, hb, hml, hown, hts⟩ hK hP hD hS hA hl.1 (tX8_digitOf l G cI cJ cZ H.size h_o_way h_o_way_shifts o_way_size o_way_log o_way_wordBits o_way_limit o_way_radix o_way_order o_way_near o_way_seed o_way_stages o_way_shifts p1 p2 r_6 e_7) (cwV 2 hts (gv q_mX9_199 q_i_yX8_digitOf q_s_yX8_digitOf q_n_RX8 q_k_yX8_digitOf) rfl rfl rfl (by decide +kernel) ⟨by decide, by decide⟩) rfl rfl (Nat.le_of_ble_eq_true rfl) dX9_digit_31 ⟨Nat.zero_le _, Nat.zero_le _⟩ (ci := 8) rfl 0 rfl [1, 2] [0] [0, 1, 2] rfl rfl (ws2 := (wX9_digit cI cJ cZ h_o h_o_way h_o_way_shifts h_o_wave h_o_past h_o_notes h_o_ring h_o_turns h_o_beater h_o_reader h_o_dice h_o_trialWay h_o_trial h_o_otherTrial h_o_sumsRe h_o_sumsIm h_o_tally h_o_image h_o_tape o_imageKept o_taped o_way_size o_way_log o_way_wordBits o_way_limit o_way_radix o_way_order o_way_near o_way_seed o_way_stages o_way_shifts)) rfl (fun H locs hP hD hS => ?_)
        refine W.eq (g2 := F0 m 34 ls [.int r_6]) rfl ?_
        cases hf
        exact hret _ _ _ _ dX9_digit_34 hP hD hS
      · have hf := it_f c_5 hf
        refine lv_iconst (v := (-1 : Int32)) hx hb dX9_digit_23 (by decide) ?_
        cases hf
        exact hret _ _ _ _ dX9_digit_24 hP hD hS
def wX9_stage (cI cJ cZ : ClassId) (h_o h_o_wave h_o_way h_o_wave_halved h_o_way_shifts h_o_past h_o_notes h_o_ring h_o_turns h_o_beater h_o_reader h_o_dice h_o_trialWay h_o_trial h_o_otherTrial h_o_sumsRe h_o_sumsIm h_o_tally h_o_image h_o_tape h_o_wave_re h_o_wave_im h_o_wave_wasRe h_o_wave_wasIm : Nat) (o_imageKept : Int32) (o_taped : Int32) (o_wave_exp : Int32) (o_wave_done : Int32) (o_wave_backward : Int32) (o_way_size : Int32) (o_way_log : Int32) (o_way_wordBits : Int32) (o_way_limit : Int32) (o_way_radix : Int32) (o_way_order : Int32) (o_way_near : Int32) (o_way_seed : Int32) (o_way_stages : Int32) (o_wave_halved : Nat → Int32) (o_way_shifts : Nat → Int32) : va_W := [(h_o, .inr (9, [.ref h_o_way, .ref h_o_wave, .ref h_o_past, .ref h_o_notes, .ref h_o_ring, .ref h_o_turns, .ref h_o_beater, .ref h_o_reader, .ref h_o_dice, .ref h_o_trialWay, .ref h_o_trial, .ref h_o_otherTrial, .ref h_o_sumsRe, .ref h_o_sumsIm, .ref h_o_tally, .ref h_o_image, .int o_imageKept, .ref h_o_tape, .int o_taped])), (h_o_wave, .inr (7, [.ref h_o_wave_re, .ref h_o_wave_im, .ref h_o_wave_wasRe, .ref h_o_wave_wasIm, .ref h_o_wave_halved, .int o_wave_exp, .int o_wave_done, .int o_wave_backward])), (h_o_way, .inr (8, [.int o_way_size, .int o_way_log, .int o_way_wordBits, .int o_way_limit, .int o_way_radix, .int o_way_order, .int o_way_near, .int o_way_seed, .int o_way_stages, .ref h_o_way_shifts])), (h_o_wave_halved, .inl (cI, 5, .inl o_wave_halved)), (h_o_way_shifts, .inl (cI, 5, .inl o_way_shifts))]
def fX9_stage (o_wave_done : Int32) (o_way_stages : Int32) (o_wave_halved : Nat → Int32) (o_way_shifts : Nat → Int32) (p1 : Int32) (p2 : Int32) : Option (Int32) :=
  if p1 < 0 then (
    some (-1 : Int32)
  ) else (
    if o_way_stages ≤ p1 then (
      some (-1 : Int32)
    ) else (
      if p2 < 0 then (
        some (-1 : Int32)
      ) else (
        if p2 ≤ (1 : Int32) then (
          if p2 = 0 then (
            gd (inb p1 5) (
            some ((1 : Int32) <<< ((o_way_shifts (Int32.toNatClampNeg p1)) &&& 31)))
          ) else (
            if o_wave_done ≤ p1 then (
              some (-2 : Int32)
            ) else (
              gd (inb p1 5) (
              some (o_wave_halved (Int32.toNatClampNeg p1)))
            )
          )
        ) else (
          some (-1 : Int32)
        )
      )
    )
  )
set_option maxHeartbeats 4000000 in
set_option maxRecDepth 100000 in
theorem tX9_stage (l : Launch) (G : va_G) (cI cJ cZ : ClassId) (sz : Nat) (h_o h_o_wave h_o_way h_o_wave_halved h_o_way_shifts h_o_past h_o_notes h_o_ring h_o_turns h_o_beater h_o_reader h_o_dice h_o_trialWay h_o_trial h_o_otherTrial h_o_sumsRe h_o_sumsIm h_o_tally h_o_image h_o_tape h_o_wave_re h_o_wave_im h_o_wave_wasRe h_o_wave_wasIm : Nat) (o_imageKept : Int32) (o_taped : Int32) (o_wave_exp : Int32) (o_wave_done : Int32) (o_wave_backward : Int32) (o_way_size : Int32) (o_way_log : Int32) (o_way_wordBits : Int32) (o_way_limit : Int32) (o_way_radix : Int32) (o_way_order : Int32) (o_way_near : Int32) (o_way_seed : Int32) (o_way_stages : Int32) (o_wave_halved : Nat → Int32) (o_way_shifts : Nat → Int32) (p1 : Int32) (p2 : Int32) (r : Int32) (hf : fX9_stage o_wave_done o_way_stages o_wave_halved o_way_shifts p1 p2 = some r) : Met l yX9_stage (Cond.code yX9_stage cX9_stage 3 (some .int) :: BIG) ({ frames := 0, cells := 0, slots := 0, locals := 0 } : Room) (cP G (TY3 cI cJ cZ) [.ref h_o, .int p1, .int p2] sz (wX9_stage cI cJ cZ h_o h_o_wave h_o_way h_o_wave_halved h_o_way_shifts h_o_past h_o_notes h_o_ring h_o_turns h_o_beater h_o_reader h_o_dice h_o_trialWay h_o_trial h_o_otherTrial h_o_sumsRe h_o_sumsIm h_o_tally h_o_image h_o_tape h_o_wave_re h_o_wave_im h_o_wave_wasRe h_o_wave_wasIm o_imageKept o_taped o_wave_exp o_wave_done o_wave_backward o_way_size o_way_log o_way_wordBits o_way_limit o_way_radix o_way_order o_way_near o_way_seed o_way_stages o_wave_halved o_way_shifts)) (cQ G (TY3 cI cJ cZ) sz (wX9_stage cI cJ cZ h_o h_o_wave h_o_way h_o_wave_halved h_o_way_shifts h_o_past h_o_notes h_o_ring h_o_turns h_o_beater h_o_reader h_o_dice h_o_trialWay h_o_trial h_o_otherTrial h_o_sumsRe h_o_sumsIm h_o_tally h_o_image h_o_tape h_o_wave_re h_o_wave_im h_o_wave_wasRe h_o_wave_wasIm o_imageKept o_taped o_wave_exp o_wave_done o_wave_backward o_way_size o_way_log o_way_wordBits o_way_limit o_way_radix o_way_order o_way_near o_way_seed o_way_stages o_wave_halved o_way_shifts) (wX9_stage cI cJ cZ h_o h_o_wave h_o_way h_o_wave_halved h_o_way_shifts h_o_past h_o_notes h_o_ring h_o_turns h_o_beater h_o_reader h_o_dice h_o_trialWay h_o_trial h_o_otherTrial h_o_sumsRe h_o_sumsIm h_o_tally h_o_image h_o_tape h_o_wave_re h_o_wave_im h_o_wave_wasRe h_o_wave_wasIm o_imageKept o_taped o_wave_exp o_wave_done o_wave_backward o_way_size o_way_log o_way_wordBits o_way_limit o_way_radix o_way_order o_way_near o_way_seed o_way_stages o_wave_halved o_way_shifts) (some (.int r))) 0 0 (va_A (wX9_stage cI cJ cZ h_o h_o_wave h_o_way h_o_wave_halved h_o_way_shifts h_o_past h_o_notes h_o_ring h_o_turns h_o_beater h_o_reader h_o_dice h_o_trialWay h_o_trial h_o_otherTrial h_o_sumsRe h_o_sumsIm h_o_tally h_o_image h_o_tape h_o_wave_re h_o_wave_im h_o_wave_wasRe h_o_wave_wasIm o_imageKept o_taped o_wave_exp o_wave_done o_wave_backward o_way_size o_way_log o_way_wordBits o_way_limit o_way_radix o_way_order o_way_near o_way_seed o_way_stages o_wave_halved o_way_shifts) sz) := by
  refine met_i (cc := cX9_stage) (maxL := 3) (plainFor_of_name (by decide)) (Nat.le_of_ble_eq_true rfl) (fun p e s m below meth c A ls Q hx hb hml hts hown hK hP hD hS hA hl hret => ?_)
  have hown : s.vm.findClass RX9 = some m.cls := hown
  have hl : lv_has ls 3 [(0, .ref h_o), (1, .int p1), (2, .int p2)] := hl
  unfold fX9_stage at hf
  obtain ⟨H, eH⟩ : ∃ H, H = s.heap := ⟨_, rfl⟩
  obtain ⟨locs, elocs⟩ : ∃ z : List Loc, z = [] := ⟨_, rfl⟩
  have hP : va_P G vwCl (wX9_stage cI cJ cZ h_o h_o_wave h_o_way h_o_wave_halved h_o_way_shifts h_o_past h_o_notes h_o_ring h_o_turns h_o_beater h_o_reader h_o_dice h_o_trialWay h_o_trial h_o_otherTrial h_o_sumsRe h_o_sumsIm h_o_tally h_o_image h_o_tape h_o_wave_re h_o_wave_im h_o_wave_wasRe h_o_wave_wasIm o_imageKept o_taped o_wave_exp o_wave_done o_wave_backward o_way_size o_way_log o_way_wordBits o_way_limit o_way_radix o_way_order o_way_near o_way_seed o_way_stages o_wave_halved o_way_shifts) H := by rw [eH]; exact hP
  have hS : va_S A s.heap H locs := by rw [eH, elocs]; exact hS
  suffices hgo : W p l e ({ frames := 0, cells := 0, slots := 0, locals := 0 } : Room) s m ([.ref h_o, .int p1, .int p2] : List Value).toArray below meth c H locs 0 0 Q (F0 m 0 ls []) by rw [eH, elocs] at hgo; exact hgo
  clear eH elocs
  refine lv_iload_n hx hb dX9_stage_0 rfl (lv_at hl 1 rfl) ?_
  refine lv_if_lt (tgt := 24) hx hb dX9_stage_1 (by decide) (fun c_1 => ?_) (fun c_1 => ?_)
  · have hf := it_t c_1 hf
    refine lv_iconst (v := (-1 : Int32)) hx hb dX9_stage_24 (by decide) ?_
    cases hf
    exact hret _ _ _ _ dX9_stage_25 hP hD hS
  · have hf := it_f c_1 hf
    refine lv_iload_n hx hb dX9_stage_4 rfl (lv_at hl 1 rfl) ?_
    refine lv_aload_n hx hb dX9_stage_5 rfl (lv_at hl 0 rfl) ?_
    refine rd (ci := 9) (C := RX9) (T := TX9) (N := 19) hx hb hts inX9 hown hK hP 0 0 rfl rfl (by decide) (hts _ q_fX9_10) rfl dX9_stage_6 ?_
    refine rd (ci := 8) (C := RX8) (T := TX8) (N := 10) hx hb hts inX8 hown hK hP 2 8 rfl rfl (by decide) (hts _ q_fX9_196) rfl dX9_stage_9 ?_
    refine lv_icmp_ge (tgt := 24) hx hb dX9_stage_12 (by decide) (fun c_2 => ?_) (fun c_2 => ?_)
    · have hf := it_t c_2 hf
      refine lv_iconst (v := (-1 : Int32)) hx hb dX9_stage_24 (by decide) ?_
      cases hf
      exact hret _ _ _ _ dX9_stage_25 hP hD hS
    · have hf := it_f c_2 hf
      refine lv_iload_n hx hb dX9_stage_15 rfl (lv_at hl 2 rfl) ?_
      refine lv_if_lt (tgt := 24) hx hb dX9_stage_16 (by decide) (fun c_3 => ?_) (fun c_3 => ?_)
      · have hf := it_t c_3 hf
        refine lv_iconst (v := (-1 : Int32)) hx hb dX9_stage_24 (by decide) ?_
        cases hf
        exact hret _ _ _ _ dX9_stage_25 hP hD hS
      · have hf := it_f c_3 hf
        refine lv_iload_n hx hb dX9_stage_19 rfl (lv_at hl 2 rfl) ?_
        refine lv_iconst (v := (1 : Int32)) hx hb dX9_stage_20 (by decide) ?_
        refine lv_icmp_le (tgt := 26) hx hb dX9_stage_21 (by decide) (fun c_4 => ?_) (fun c_4 => ?_)
        · have hf := it_t c_4 hf
          refine lv_iload_n hx hb dX9_stage_26 rfl (lv_at hl 2 rfl) ?_
          refine lv_if_ne (tgt := 42) hx hb dX9_stage_27 (by decide) (fun c_5 => ?_) (fun c_5 => ?_)
          · have hf := it_f c_5 hf
            refine lv_iload_n hx hb dX9_stage_42 rfl (lv_at hl 1 rfl) ?_
            refine lv_aload_n hx hb dX9_stage_43 rfl (lv_at hl 0 rfl) ?_
            refine rd (ci := 9) (C := RX9) (T := TX9) (N := 19) hx hb hts inX9 hown hK hP 0 1 rfl rfl (by decide) (hts _ q_fX9_19) rfl dX9_stage_44 ?_
            refine rd (ci := 7) (C := RX7) (T := TX7) (N := 8) hx hb hts inX7 hown hK hP 1 6 rfl rfl (by decide) (hts _ q_fX9_206) rfl dX9_stage_47 ?_
            refine lv_icmp_ge (tgt := 65) hx hb dX9_stage_50 (by decide) (fun c_6 => ?_) (fun c_6 => ?_)
            · have hf := it_t c_6 hf
              refine lv_bipush (v := (-2 : Int32)) hx hb dX9_stage_65 (by decide) ?_
              cases hf
              exact hret _ _ _ _ dX9_stage_67 hP hD hS
            · have hf := it_f c_6 hf
              refine lv_aload_n hx hb dX9_stage_53 rfl (lv_at hl 0 rfl) ?_
              refine rd (ci := 9) (C := RX9) (T := TX9) (N := 19) hx hb hts inX9 hown hK hP 0 1 rfl rfl (by decide) (hts _ q_fX9_19) rfl dX9_stage_54 ?_
              refine rd (ci := 7) (C := RX7) (T := TX7) (N := 8) hx hb hts inX7 hown hK hP 1 4 rfl rfl (by decide) (hts _ q_fX9_209) rfl dX9_stage_57 ?_
              refine lv_iload_n hx hb dX9_stage_60 rfl (lv_at hl 1 rfl) ?_
              obtain ⟨g_7, hf⟩ := gd_x hf
              refine va_iald hx hb hK hP 3 0 rfl rfl (inb_x g_7) dX9_stage_61 ?_
              refine lv_goto (tgt := 67) hx hb dX9_stage_62 (by decide) ?_
              cases hf
              exact hret _ _ _ _ dX9_stage_67 hP hD hS
          · have hf := it_t c_5 hf
            refine lv_iconst (v := (1 : Int32)) hx hb dX9_stage_30 (by decide) ?_
            refine lv_aload_n hx hb dX9_stage_31 rfl (lv_at hl 0 rfl) ?_
            refine rd (ci := 9) (C := RX9) (T := TX9) (N := 19) hx hb hts inX9 hown hK hP 0 0 rfl rfl (by decide) (hts _ q_fX9_10) rfl dX9_stage_32 ?_
            refine rd (ci := 8) (C := RX8) (T := TX8) (N := 10) hx hb hts inX8 hown hK hP 2 9 rfl rfl (by decide) (hts _ q_fX9_203) rfl dX9_stage_35 ?_
            refine lv_iload_n hx hb dX9_stage_38 rfl (lv_at hl 1 rfl) ?_
            obtain ⟨g_8, hf⟩ := gd_x hf
            refine va_iald hx hb hK hP 4 0 rfl rfl (inb_x g_8) dX9_stage_39 ?_
            refine lv_ishl hx hb dX9_stage_40 ?_
            cases hf
            exact hret _ _ _ _ dX9_stage_41 hP hD hS
        · have hf := it_f c_4 hf
          refine lv_iconst (v := (-1 : Int32)) hx hb dX9_stage_24 (by decide) ?_
          cases hf
          exact hret _ _ _ _ dX9_stage_25 hP hD hS
def wX9_largest (cI cJ cZ : ClassId) (h_o h_o_wave h_o_way h_o_wave_im h_o_wave_re h_o_past h_o_notes h_o_ring h_o_turns h_o_beater h_o_reader h_o_dice h_o_trialWay h_o_trial h_o_otherTrial h_o_sumsRe h_o_sumsIm h_o_tally h_o_image h_o_tape h_o_wave_wasRe h_o_wave_wasIm h_o_wave_halved h_o_way_shifts : Nat) (o_imageKept : Int32) (o_taped : Int32) (o_wave_exp : Int32) (o_wave_done : Int32) (o_wave_backward : Int32) (o_way_size : Int32) (o_way_log : Int32) (o_way_wordBits : Int32) (o_way_limit : Int32) (o_way_radix : Int32) (o_way_order : Int32) (o_way_near : Int32) (o_way_seed : Int32) (o_way_stages : Int32) (o_wave_im : Nat → Int32) (o_wave_re : Nat → Int32) : va_W := [(h_o, .inr (9, [.ref h_o_way, .ref h_o_wave, .ref h_o_past, .ref h_o_notes, .ref h_o_ring, .ref h_o_turns, .ref h_o_beater, .ref h_o_reader, .ref h_o_dice, .ref h_o_trialWay, .ref h_o_trial, .ref h_o_otherTrial, .ref h_o_sumsRe, .ref h_o_sumsIm, .ref h_o_tally, .ref h_o_image, .int o_imageKept, .ref h_o_tape, .int o_taped])), (h_o_wave, .inr (7, [.ref h_o_wave_re, .ref h_o_wave_im, .ref h_o_wave_wasRe, .ref h_o_wave_wasIm, .ref h_o_wave_halved, .int o_wave_exp, .int o_wave_done, .int o_wave_backward])), (h_o_way, .inr (8, [.int o_way_size, .int o_way_log, .int o_way_wordBits, .int o_way_limit, .int o_way_radix, .int o_way_order, .int o_way_near, .int o_way_seed, .int o_way_stages, .ref h_o_way_shifts])), (h_o_wave_im, .inl (cI, 32, .inl o_wave_im)), (h_o_wave_re, .inl (cI, 32, .inl o_wave_re))]
def fX9_largest (o_way_size : Int32) (o_wave_im : Nat → Int32) (o_wave_re : Nat → Int32) : Option (Int32) :=
  bd1 (fX7_greatest o_wave_im o_wave_re (0 : Int32) o_way_size) (fun r_1 =>
  some r_1)
set_option maxHeartbeats 4000000 in
set_option maxRecDepth 100000 in
theorem tX9_largest (l : Launch) (G : va_G) (cI cJ cZ : ClassId) (sz : Nat) (h_o h_o_wave h_o_way h_o_wave_im h_o_wave_re h_o_past h_o_notes h_o_ring h_o_turns h_o_beater h_o_reader h_o_dice h_o_trialWay h_o_trial h_o_otherTrial h_o_sumsRe h_o_sumsIm h_o_tally h_o_image h_o_tape h_o_wave_wasRe h_o_wave_wasIm h_o_wave_halved h_o_way_shifts : Nat) (o_imageKept : Int32) (o_taped : Int32) (o_wave_exp : Int32) (o_wave_done : Int32) (o_wave_backward : Int32) (o_way_size : Int32) (o_way_log : Int32) (o_way_wordBits : Int32) (o_way_limit : Int32) (o_way_radix : Int32) (o_way_order : Int32) (o_way_near : Int32) (o_way_seed : Int32) (o_way_stages : Int32) (o_wave_im : Nat → Int32) (o_wave_re : Nat → Int32) (r : Int32) (hf : fX9_largest o_way_size o_wave_im o_wave_re = some r) : Met l yX9_largest (Cond.code yX9_largest cX9_largest 1 (some .int) :: BIG) ({ frames := 2, cells := 0, slots := 0, locals := 39 } : Room) (cP G (TY3 cI cJ cZ) [.ref h_o] sz (wX9_largest cI cJ cZ h_o h_o_wave h_o_way h_o_wave_im h_o_wave_re h_o_past h_o_notes h_o_ring h_o_turns h_o_beater h_o_reader h_o_dice h_o_trialWay h_o_trial h_o_otherTrial h_o_sumsRe h_o_sumsIm h_o_tally h_o_image h_o_tape h_o_wave_wasRe h_o_wave_wasIm h_o_wave_halved h_o_way_shifts o_imageKept o_taped o_wave_exp o_wave_done o_wave_backward o_way_size o_way_log o_way_wordBits o_way_limit o_way_radix o_way_order o_way_near o_way_seed o_way_stages o_wave_im o_wave_re)) (cQ G (TY3 cI cJ cZ) sz (wX9_largest cI cJ cZ h_o h_o_wave h_o_way h_o_wave_im h_o_wave_re h_o_past h_o_notes h_o_ring h_o_turns h_o_beater h_o_reader h_o_dice h_o_trialWay h_o_trial h_o_otherTrial h_o_sumsRe h_o_sumsIm h_o_tally h_o_image h_o_tape h_o_wave_wasRe h_o_wave_wasIm h_o_wave_halved h_o_way_shifts o_imageKept o_taped o_wave_exp o_wave_done o_wave_backward o_way_size o_way_log o_way_wordBits o_way_limit o_way_radix o_way_order o_way_near o_way_seed o_way_stages o_wave_im o_wave_re) (wX9_largest cI cJ cZ h_o h_o_wave h_o_way h_o_wave_im h_o_wave_re h_o_past h_o_notes h_o_ring h_o_turns h_o_beater h_o_reader h_o_dice h_o_trialWay h_o_trial h_o_otherTrial h_o_sumsRe h_o_sumsIm h_o_tally h_o_image h_o_tape h_o_wave_wasRe h_o_wave_wasIm h_o_wave_halved h_o_way_shifts o_imageKept o_taped o_wave_exp o_wave_done o_wave_backward o_way_size o_way_log o_way_wordBits o_way_limit o_way_radix o_way_order o_way_near o_way_seed o_way_stages o_wave_im o_wave_re) (some (.int r))) 0 0 (va_A (wX9_largest cI cJ cZ h_o h_o_wave h_o_way h_o_wave_im h_o_wave_re h_o_past h_o_notes h_o_ring h_o_turns h_o_beater h_o_reader h_o_dice h_o_trialWay h_o_trial h_o_otherTrial h_o_sumsRe h_o_sumsIm h_o_tally h_o_image h_o_tape h_o_wave_wasRe h_o_wave_wasIm h_o_wave_halved h_o_way_shifts o_imageKept o_taped o_wave_exp o_wave_done o_wave_backward o_way_size o_way_log o_way_wordBits o_way_limit o_way_radix o_way_order o_way_near o_way_seed o_way_stages o_wave_im o_wave_re) sz) := by
  refine met_i (cc := cX9_largest) (maxL := 1) (plainFor_of_name (by decide)) (Nat.le_of_ble_eq_true rfl) (fun p e s m below meth c A ls Q hx hb hml hts hown hK hP hD hS hA hl hret => ?_)
  have hown : s.vm.findClass RX9 = some m.cls := hown
  have hl : lv_has ls 1 [(0, .ref h_o)] := hl
  unfold fX9_largest at hf
  obtain ⟨H, eH⟩ : ∃ H, H = s.heap := ⟨_, rfl⟩
  obtain ⟨locs, elocs⟩ : ∃ z : List Loc, z = [] := ⟨_, rfl⟩
  have hP : va_P G vwCl (wX9_largest cI cJ cZ h_o h_o_wave h_o_way h_o_wave_im h_o_wave_re h_o_past h_o_notes h_o_ring h_o_turns h_o_beater h_o_reader h_o_dice h_o_trialWay h_o_trial h_o_otherTrial h_o_sumsRe h_o_sumsIm h_o_tally h_o_image h_o_tape h_o_wave_wasRe h_o_wave_wasIm h_o_wave_halved h_o_way_shifts o_imageKept o_taped o_wave_exp o_wave_done o_wave_backward o_way_size o_way_log o_way_wordBits o_way_limit o_way_radix o_way_order o_way_near o_way_seed o_way_stages o_wave_im o_wave_re) H := by rw [eH]; exact hP
  have hS : va_S A s.heap H locs := by rw [eH, elocs]; exact hS
  suffices hgo : W p l e ({ frames := 2, cells := 0, slots := 0, locals := 39 } : Room) s m ([.ref h_o] : List Value).toArray below meth c H locs 0 0 Q (F0 m 0 ls []) by rw [eH, elocs] at hgo; exact hgo
  clear eH elocs
  refine lv_aload_n hx hb dX9_largest_0 rfl (lv_at hl 0 rfl) ?_
  refine rd (ci := 9) (C := RX9) (T := TX9) (N := 19) hx hb hts inX9 hown hK hP 0 1 rfl rfl (by decide) (hts _ q_fX9_19) rfl dX9_largest_1 ?_
  refine lv_iconst (v := (0 : Int32)) hx hb dX9_largest_4 (by decide) ?_
  refine lv_aload_n hx hb dX9_largest_5 rfl (lv_at hl 0 rfl) ?_
  refine rd (ci := 9) (C := RX9) (T := TX9) (N := 19) hx hb hts inX9 hown hK hP 0 0 rfl rfl (by decide) (hts _ q_fX9_10) rfl dX9_largest_6 ?_
  refine rd (ci := 8) (C := RX8) (T := TX8) (N := 10) hx hb hts inX8 hown hK hP 2 0 rfl rfl (by decide) (hts _ q_fX9_115) rfl dX9_largest_9 ?_
  obtain ⟨r_1, e_2, hf⟩ := bd1_x hf
  refine call_v [.int (0 : Int32), .int o_way_size] [] ⟨hx, hb, hml, hown, hts⟩ hK hP hD hS hA hl.1 (tX7_greatest l G cI cJ cZ H.size h_o_wave h_o_wave_im h_o_wave_re h_o_wave_wasRe h_o_wave_wasIm h_o_wave_halved o_wave_exp o_wave_done o_wave_backward o_wave_im o_wave_re (0 : Int32) o_way_size r_1 e_2) (cwV 2 hts (gv q_mX9_212 q_i_yX7_greatest q_s_yX7_greatest q_n_RX7 q_k_yX7_greatest) rfl rfl rfl (by decide +kernel) ⟨by decide, by decide⟩) rfl rfl (Nat.le_of_ble_eq_true rfl) dX9_largest_12 ⟨Nat.zero_le _, Nat.zero_le _⟩ (ci := 7) rfl 0 rfl [1, 3, 4] [0, 2] [0, 2, 1, 3, 4] rfl rfl (ws2 := (wX9_largest cI cJ cZ h_o h_o_wave h_o_way h_o_wave_im h_o_wave_re h_o_past h_o_notes h_o_ring h_o_turns h_o_beater h_o_reader h_o_dice h_o_trialWay h_o_trial h_o_otherTrial h_o_sumsRe h_o_sumsIm h_o_tally h_o_image h_o_tape h_o_wave_wasRe h_o_wave_wasIm h_o_wave_halved h_o_way_shifts o_imageKept o_taped o_wave_exp o_wave_done o_wave_backward o_way_size o_way_log o_way_wordBits o_way_limit o_way_radix o_way_order o_way_near o_way_seed o_way_stages o_wave_im o_wave_re)) rfl (fun H locs hP hD hS => ?_)
  refine W.eq (g2 := F0 m 15 ls [.int r_1]) rfl ?_
  cases hf
  exact hret _ _ _ _ dX9_largest_15 hP hD hS
def wX9_doublings (cI cJ cZ : ClassId) (h_o h_o_way h_o_wave h_o_past h_o_notes h_o_ring h_o_turns h_o_beater h_o_reader h_o_dice h_o_trialWay h_o_trial h_o_otherTrial h_o_sumsRe h_o_sumsIm h_o_tally h_o_image h_o_tape h_o_way_shifts : Nat) (o_imageKept : Int32) (o_taped : Int32) (o_way_size : Int32) (o_way_log : Int32) (o_way_wordBits : Int32) (o_way_limit : Int32) (o_way_radix : Int32) (o_way_order : Int32) (o_way_near : Int32) (o_way_seed : Int32) (o_way_stages : Int32) : va_W := [(h_o, .inr (9, [.ref h_o_way, .ref h_o_wave, .ref h_o_past, .ref h_o_notes, .ref h_o_ring, .ref h_o_turns, .ref h_o_beater, .ref h_o_reader, .ref h_o_dice, .ref h_o_trialWay, .ref h_o_trial, .ref h_o_otherTrial, .ref h_o_sumsRe, .ref h_o_sumsIm, .ref h_o_tally, .ref h_o_image, .int o_imageKept, .ref h_o_tape, .int o_taped])), (h_o_way, .inr (8, [.int o_way_size, .int o_way_log, .int o_way_wordBits, .int o_way_limit, .int o_way_radix, .int o_way_order, .int o_way_near, .int o_way_seed, .int o_way_stages, .ref h_o_way_shifts]))]
def fX9_doublings_6 (o_way_limit : Int32) : Nat → Int64 → Int32 → Option (Int32)
  | 0, _, _ => none
  | n + 1, v2, v4 =>
    if (15 : Int32) ≤ v4 then (
      some v4
    ) else (
      if (Int32.toInt64 o_way_limit) < (v2 * (2 : Int64)) then (
        some v4
      ) else (
        nm (v2 * (2 : Int64)) (fun v2_4 =>
        nm (v4 + (1 : Int32)) (fun v4_5 =>
        fX9_doublings_6 o_way_limit n v2_4 v4_5))
      )
    )
def fX9_doublings (o_way_limit : Int32) (p1 : Int32) : Option (Int32) :=
  nm (Int32.toInt64 p1) (fun v2_1 =>
  fX9_doublings_6 o_way_limit FU v2_1 (0 : Int32))
set_option maxHeartbeats 4000000 in
set_option maxRecDepth 100000 in
theorem tX9_doublings (l : Launch) (G : va_G) (cI cJ cZ : ClassId) (sz : Nat) (h_o h_o_way h_o_wave h_o_past h_o_notes h_o_ring h_o_turns h_o_beater h_o_reader h_o_dice h_o_trialWay h_o_trial h_o_otherTrial h_o_sumsRe h_o_sumsIm h_o_tally h_o_image h_o_tape h_o_way_shifts : Nat) (o_imageKept : Int32) (o_taped : Int32) (o_way_size : Int32) (o_way_log : Int32) (o_way_wordBits : Int32) (o_way_limit : Int32) (o_way_radix : Int32) (o_way_order : Int32) (o_way_near : Int32) (o_way_seed : Int32) (o_way_stages : Int32) (p1 : Int32) (r : Int32) (hf : fX9_doublings o_way_limit p1 = some r) : Met l yX9_doublings (Cond.code yX9_doublings cX9_doublings 5 (some .int) :: BIG) ({ frames := 0, cells := 0, slots := 0, locals := 0 } : Room) (cP G (TY3 cI cJ cZ) [.ref h_o, .int p1] sz (wX9_doublings cI cJ cZ h_o h_o_way h_o_wave h_o_past h_o_notes h_o_ring h_o_turns h_o_beater h_o_reader h_o_dice h_o_trialWay h_o_trial h_o_otherTrial h_o_sumsRe h_o_sumsIm h_o_tally h_o_image h_o_tape h_o_way_shifts o_imageKept o_taped o_way_size o_way_log o_way_wordBits o_way_limit o_way_radix o_way_order o_way_near o_way_seed o_way_stages)) (cQ G (TY3 cI cJ cZ) sz (wX9_doublings cI cJ cZ h_o h_o_way h_o_wave h_o_past h_o_notes h_o_ring h_o_turns h_o_beater h_o_reader h_o_dice h_o_trialWay h_o_trial h_o_otherTrial h_o_sumsRe h_o_sumsIm h_o_tally h_o_image h_o_tape h_o_way_shifts o_imageKept o_taped o_way_size o_way_log o_way_wordBits o_way_limit o_way_radix o_way_order o_way_near o_way_seed o_way_stages) (wX9_doublings cI cJ cZ h_o h_o_way h_o_wave h_o_past h_o_notes h_o_ring h_o_turns h_o_beater h_o_reader h_o_dice h_o_trialWay h_o_trial h_o_otherTrial h_o_sumsRe h_o_sumsIm h_o_tally h_o_image h_o_tape h_o_way_shifts o_imageKept o_taped o_way_size o_way_log o_way_wordBits o_way_limit o_way_radix o_way_order o_way_near o_way_seed o_way_stages) (some (.int r))) 0 0 (va_A (wX9_doublings cI cJ cZ h_o h_o_way h_o_wave h_o_past h_o_notes h_o_ring h_o_turns h_o_beater h_o_reader h_o_dice h_o_trialWay h_o_trial h_o_otherTrial h_o_sumsRe h_o_sumsIm h_o_tally h_o_image h_o_tape h_o_way_shifts o_imageKept o_taped o_way_size o_way_log o_way_wordBits o_way_limit o_way_radix o_way_order o_way_near o_way_seed o_way_stages) sz) := by
  refine met_i (cc := cX9_doublings) (maxL := 5) (plainFor_of_name (by decide)) (Nat.le_of_ble_eq_true rfl) (fun p e s m below meth c A ls Q hx hb hml hts hown hK hP hD hS hA hl hret => ?_)
  have hown : s.vm.findClass RX9 = some m.cls := hown
  have hl : lv_has ls 5 [(0, .ref h_o), (1, .int p1)] := hl
  have j6 : ∀ (n : Nat) (v2 : Int64) (v4 : Int32) (H : Heap) (locs : List Loc) (ls : Array Slot), fX9_doublings_6 o_way_limit n v2 v4 = some r → va_P G vwCl (wX9_doublings cI cJ cZ h_o h_o_way h_o_wave h_o_past h_o_notes h_o_ring h_o_turns h_o_beater h_o_reader h_o_dice h_o_trialWay h_o_trial h_o_otherTrial h_o_sumsRe h_o_sumsIm h_o_tally h_o_image h_o_tape h_o_way_shifts o_imageKept o_taped o_way_size o_way_log o_way_wordBits o_way_limit o_way_radix o_way_order o_way_near o_way_seed o_way_stages) H → va_D A (wX9_doublings cI cJ cZ h_o h_o_way h_o_wave h_o_past h_o_notes h_o_ring h_o_turns h_o_beater h_o_reader h_o_dice h_o_trialWay h_o_trial h_o_otherTrial h_o_sumsRe h_o_sumsIm h_o_tally h_o_image h_o_tape h_o_way_shifts o_imageKept o_taped o_way_size o_way_log o_way_wordBits o_way_limit o_way_radix o_way_order o_way_near o_way_seed o_way_stages) → va_S A s.heap H locs → lv_has ls 5 [(0, .ref h_o), (2, .long v2), (4, .int v4)] → W p l e ({ frames := 0, cells := 0, slots := 0, locals := 0 } : Room) s m ([.ref h_o, .int p1] : List Value).toArray below meth c H locs 0 0 Q (F0 m 6 ls []) := by
    intro n
    induction n with
    | zero =>
      intro v2 v4 H locs ls hf
      have hf : (none : Option (Int32)) = some r := hf
      cases hf
    | succ n ih =>
      intro v2 v4 H locs ls hf hP hD hS hl
      rw [fX9_doublings_6.eq_2] at hf
      refine lv_iload hx hb dX9_doublings_6 (lv_at hl 2 rfl) ?_
      refine lv_bipush (v := (15 : Int32)) hx hb dX9_doublings_8 (by decide) ?_
      refine lv_icmp_ge (tgt := 42) hx hb dX9_doublings_10 (by decide) (fun c_2 => ?_) (fun c_2 => ?_)
      · have hf := it_t c_2 hf
        refine lv_iload hx hb dX9_doublings_42 (lv_at hl 2 rfl) ?_
        cases hf
        exact hret _ _ _ _ dX9_doublings_44 hP hD hS
      · have hf := it_f c_2 hf
        refine lv_lload_n hx hb dX9_doublings_13 rfl (lv_at hl 1 rfl) ?_
        refine lv_ldc2 (v := (2 : Int64)) hx hb hown (hts _ q_cX9_218) dX9_doublings_14 ?_
        refine lv_lmul hx hb dX9_doublings_17 ?_
        refine lv_aload_n hx hb dX9_doublings_18 rfl (lv_at hl 0 rfl) ?_
        refine rd (ci := 9) (C := RX9) (T := TX9) (N := 19) hx hb hts inX9 hown hK hP 0 0 rfl rfl (by decide) (hts _ q_fX9_10) rfl dX9_doublings_19 ?_
        refine rd (ci := 8) (C := RX8) (T := TX8) (N := 10) hx hb hts inX8 hown hK hP 1 3 rfl rfl (by decide) (hts _ q_fX9_220) rfl dX9_doublings_22 ?_
        refine lv_i2l hx hb dX9_doublings_25 rfl ?_
        refine lc_gt (tgt := 42) hx hb dX9_doublings_26 dX9_doublings_27 (by decide) (fun c_3 => ?_) (fun c_3 => ?_)
        · have hf := it_t c_3 hf
          refine lv_iload hx hb dX9_doublings_42 (lv_at hl 2 rfl) ?_
          cases hf
          exact hret _ _ _ _ dX9_doublings_44 hP hD hS
        · have hf := it_f c_3 hf
          refine lv_lload_n hx hb dX9_doublings_30 rfl (lv_at hl 1 rfl) ?_
          refine lv_ldc2 (v := (2 : Int64)) hx hb hown (hts _ q_cX9_218) dX9_doublings_31 ?_
          refine lv_lmul hx hb dX9_doublings_34 ?_
          refine lv_topl (fun v2_4 ev2_4 => ?_)
          have hf := nm_x ev2_4 hf
          refine lv_lstore_n (lv' := [(2, .long v2_4), (0, .ref h_o), (4, .int v4)]) hx hb dX9_doublings_35 rfl hl (by decide) rfl (fun ls hl => ?_)
          obtain ⟨v4_5, ev4_5⟩ : ∃ y : Int32, y = v4 + (1 : Int32) := ⟨_, rfl⟩
          have hf := nm_x ev4_5 hf
          refine lv_iinc (v := v4_5) (lv' := [(4, .int v4_5), (2, .long v2_4), (0, .ref h_o)]) hx hb dX9_doublings_36 hl (k := 2) rfl (by rw [ev4_5]; rfl) (by decide) rfl (fun ls hl => ?_)
          refine lv_goto (tgt := 6) hx hb dX9_doublings_39 (by decide) ?_
          exact ih v2_4 v4_5 H locs ls hf hP hD hS (lv_sub hl [2, 1, 0] rfl)
  unfold fX9_doublings at hf
  obtain ⟨H, eH⟩ : ∃ H, H = s.heap := ⟨_, rfl⟩
  obtain ⟨locs, elocs⟩ : ∃ z : List Loc, z = [] := ⟨_, rfl⟩
  have hP : va_P G vwCl (wX9_doublings cI cJ cZ h_o h_o_way h_o_wave h_o_past h_o_notes h_o_ring h_o_turns h_o_beater h_o_reader h_o_dice h_o_trialWay h_o_trial h_o_otherTrial h_o_sumsRe h_o_sumsIm h_o_tally h_o_image h_o_tape h_o_way_shifts o_imageKept o_taped o_way_size o_way_log o_way_wordBits o_way_limit o_way_radix o_way_order o_way_near o_way_seed o_way_stages) H := by rw [eH]; exact hP
  have hS : va_S A s.heap H locs := by rw [eH, elocs]; exact hS
  suffices hgo : W p l e ({ frames := 0, cells := 0, slots := 0, locals := 0 } : Room) s m ([.ref h_o, .int p1] : List Value).toArray below meth c H locs 0 0 Q (F0 m 0 ls []) by rw [eH, elocs] at hgo; exact hgo
  clear eH elocs
  refine lv_iload_n hx hb dX9_doublings_0 rfl (lv_at hl 1 rfl) ?_
  refine lv_i2l hx hb dX9_doublings_1 rfl ?_
  refine lv_topl (fun v2_1 ev2_1 => ?_)
  have hf := nm_x ev2_1 hf
  refine lv_lstore_n (lv' := [(2, .long v2_1), (0, .ref h_o), (1, .int p1)]) hx hb dX9_doublings_2 rfl hl (by decide) rfl (fun ls hl => ?_)
  refine lv_iconst (v := (0 : Int32)) hx hb dX9_doublings_3 (by decide) ?_
  refine lv_istore (lv' := [(4, .int (0 : Int32)), (2, .long v2_1), (0, .ref h_o), (1, .int p1)]) hx hb dX9_doublings_4 hl (by decide) rfl (fun ls hl => ?_)
  exact j6 FU v2_1 (0 : Int32) H locs ls hf hP hD hS (lv_sub hl [2, 1, 0] rfl)
def wX9_left (cI cJ cZ : ClassId) (h_o h_o_wave h_o_way h_o_wave_im h_o_wave_re h_o_past h_o_notes h_o_ring h_o_turns h_o_beater h_o_reader h_o_dice h_o_trialWay h_o_trial h_o_otherTrial h_o_sumsRe h_o_sumsIm h_o_tally h_o_image h_o_tape h_o_wave_wasRe h_o_wave_wasIm h_o_wave_halved h_o_way_shifts : Nat) (o_imageKept : Int32) (o_taped : Int32) (o_wave_exp : Int32) (o_wave_done : Int32) (o_wave_backward : Int32) (o_way_size : Int32) (o_way_log : Int32) (o_way_wordBits : Int32) (o_way_limit : Int32) (o_way_radix : Int32) (o_way_order : Int32) (o_way_near : Int32) (o_way_seed : Int32) (o_way_stages : Int32) (o_wave_im : Nat → Int32) (o_wave_re : Nat → Int32) : va_W := [(h_o, .inr (9, [.ref h_o_way, .ref h_o_wave, .ref h_o_past, .ref h_o_notes, .ref h_o_ring, .ref h_o_turns, .ref h_o_beater, .ref h_o_reader, .ref h_o_dice, .ref h_o_trialWay, .ref h_o_trial, .ref h_o_otherTrial, .ref h_o_sumsRe, .ref h_o_sumsIm, .ref h_o_tally, .ref h_o_image, .int o_imageKept, .ref h_o_tape, .int o_taped])), (h_o_wave, .inr (7, [.ref h_o_wave_re, .ref h_o_wave_im, .ref h_o_wave_wasRe, .ref h_o_wave_wasIm, .ref h_o_wave_halved, .int o_wave_exp, .int o_wave_done, .int o_wave_backward])), (h_o_way, .inr (8, [.int o_way_size, .int o_way_log, .int o_way_wordBits, .int o_way_limit, .int o_way_radix, .int o_way_order, .int o_way_near, .int o_way_seed, .int o_way_stages, .ref h_o_way_shifts])), (h_o_wave_im, .inl (cI, 32, .inl o_wave_im)), (h_o_wave_re, .inl (cI, 32, .inl o_wave_re))]
def fX9_left (o_way_size : Int32) (o_way_limit : Int32) (o_wave_im : Nat → Int32) (o_wave_re : Nat → Int32) : Option (Int32) :=
  bd1 (fX7_greatest o_wave_im o_wave_re (0 : Int32) o_way_size) (fun r_1 =>
  bd1 (fX9_doublings o_way_limit r_1) (fun r_3 =>
  some r_3))
set_option maxHeartbeats 4000000 in
set_option maxRecDepth 100000 in
theorem tX9_left (l : Launch) (G : va_G) (cI cJ cZ : ClassId) (sz : Nat) (h_o h_o_wave h_o_way h_o_wave_im h_o_wave_re h_o_past h_o_notes h_o_ring h_o_turns h_o_beater h_o_reader h_o_dice h_o_trialWay h_o_trial h_o_otherTrial h_o_sumsRe h_o_sumsIm h_o_tally h_o_image h_o_tape h_o_wave_wasRe h_o_wave_wasIm h_o_wave_halved h_o_way_shifts : Nat) (o_imageKept : Int32) (o_taped : Int32) (o_wave_exp : Int32) (o_wave_done : Int32) (o_wave_backward : Int32) (o_way_size : Int32) (o_way_log : Int32) (o_way_wordBits : Int32) (o_way_limit : Int32) (o_way_radix : Int32) (o_way_order : Int32) (o_way_near : Int32) (o_way_seed : Int32) (o_way_stages : Int32) (o_wave_im : Nat → Int32) (o_wave_re : Nat → Int32) (r : Int32) (hf : fX9_left o_way_size o_way_limit o_wave_im o_wave_re = some r) : Met l yX9_left (Cond.code yX9_left cX9_left 1 (some .int) :: BIG) ({ frames := 2, cells := 0, slots := 0, locals := 39 } : Room) (cP G (TY3 cI cJ cZ) [.ref h_o] sz (wX9_left cI cJ cZ h_o h_o_wave h_o_way h_o_wave_im h_o_wave_re h_o_past h_o_notes h_o_ring h_o_turns h_o_beater h_o_reader h_o_dice h_o_trialWay h_o_trial h_o_otherTrial h_o_sumsRe h_o_sumsIm h_o_tally h_o_image h_o_tape h_o_wave_wasRe h_o_wave_wasIm h_o_wave_halved h_o_way_shifts o_imageKept o_taped o_wave_exp o_wave_done o_wave_backward o_way_size o_way_log o_way_wordBits o_way_limit o_way_radix o_way_order o_way_near o_way_seed o_way_stages o_wave_im o_wave_re)) (cQ G (TY3 cI cJ cZ) sz (wX9_left cI cJ cZ h_o h_o_wave h_o_way h_o_wave_im h_o_wave_re h_o_past h_o_notes h_o_ring h_o_turns h_o_beater h_o_reader h_o_dice h_o_trialWay h_o_trial h_o_otherTrial h_o_sumsRe h_o_sumsIm h_o_tally h_o_image h_o_tape h_o_wave_wasRe h_o_wave_wasIm h_o_wave_halved h_o_way_shifts o_imageKept o_taped o_wave_exp o_wave_done o_wave_backward o_way_size o_way_log o_way_wordBits o_way_limit o_way_radix o_way_order o_way_near o_way_seed o_way_stages o_wave_im o_wave_re) (wX9_left cI cJ cZ h_o h_o_wave h_o_way h_o_wave_im h_o_wave_re h_o_past h_o_notes h_o_ring h_o_turns h_o_beater h_o_reader h_o_dice h_o_trialWay h_o_trial h_o_otherTrial h_o_sumsRe h_o_sumsIm h_o_tally h_o_image h_o_tape h_o_wave_wasRe h_o_wave_wasIm h_o_wave_halved h_o_way_shifts o_imageKept o_taped o_wave_exp o_wave_done o_wave_backward o_way_size o_way_log o_way_wordBits o_way_limit o_way_radix o_way_order o_way_near o_way_seed o_way_stages o_wave_im o_wave_re) (some (.int r))) 0 0 (va_A (wX9_left cI cJ cZ h_o h_o_wave h_o_way h_o_wave_im h_o_wave_re h_o_past h_o_notes h_o_ring h_o_turns h_o_beater h_o_reader h_o_dice h_o_trialWay h_o_trial h_o_otherTrial h_o_sumsRe h_o_sumsIm h_o_tally h_o_image h_o_tape h_o_wave_wasRe h_o_wave_wasIm h_o_wave_halved h_o_way_shifts o_imageKept o_taped o_wave_exp o_wave_done o_wave_backward o_way_size o_way_log o_way_wordBits o_way_limit o_way_radix o_way_order o_way_near o_way_seed o_way_stages o_wave_im o_wave_re) sz) := by
  refine met_i (cc := cX9_left) (maxL := 1) (plainFor_of_name (by decide)) (Nat.le_of_ble_eq_true rfl) (fun p e s m below meth c A ls Q hx hb hml hts hown hK hP hD hS hA hl hret => ?_)
  have hown : s.vm.findClass RX9 = some m.cls := hown
  have hl : lv_has ls 1 [(0, .ref h_o)] := hl
  unfold fX9_left at hf
  obtain ⟨H, eH⟩ : ∃ H, H = s.heap := ⟨_, rfl⟩
  obtain ⟨locs, elocs⟩ : ∃ z : List Loc, z = [] := ⟨_, rfl⟩
  have hP : va_P G vwCl (wX9_left cI cJ cZ h_o h_o_wave h_o_way h_o_wave_im h_o_wave_re h_o_past h_o_notes h_o_ring h_o_turns h_o_beater h_o_reader h_o_dice h_o_trialWay h_o_trial h_o_otherTrial h_o_sumsRe h_o_sumsIm h_o_tally h_o_image h_o_tape h_o_wave_wasRe h_o_wave_wasIm h_o_wave_halved h_o_way_shifts o_imageKept o_taped o_wave_exp o_wave_done o_wave_backward o_way_size o_way_log o_way_wordBits o_way_limit o_way_radix o_way_order o_way_near o_way_seed o_way_stages o_wave_im o_wave_re) H := by rw [eH]; exact hP
  have hS : va_S A s.heap H locs := by rw [eH, elocs]; exact hS
  suffices hgo : W p l e ({ frames := 2, cells := 0, slots := 0, locals := 39 } : Room) s m ([.ref h_o] : List Value).toArray below meth c H locs 0 0 Q (F0 m 0 ls []) by rw [eH, elocs] at hgo; exact hgo
  clear eH elocs
  refine lv_aload_n hx hb dX9_left_0 rfl (lv_at hl 0 rfl) ?_
  refine lv_aload_n hx hb dX9_left_1 rfl (lv_at hl 0 rfl) ?_
  refine rd (ci := 9) (C := RX9) (T := TX9) (N := 19) hx hb hts inX9 hown hK hP 0 1 rfl rfl (by decide) (hts _ q_fX9_19) rfl dX9_left_2 ?_
  refine lv_iconst (v := (0 : Int32)) hx hb dX9_left_5 (by decide) ?_
  refine lv_aload_n hx hb dX9_left_6 rfl (lv_at hl 0 rfl) ?_
  refine rd (ci := 9) (C := RX9) (T := TX9) (N := 19) hx hb hts inX9 hown hK hP 0 0 rfl rfl (by decide) (hts _ q_fX9_10) rfl dX9_left_7 ?_
  refine rd (ci := 8) (C := RX8) (T := TX8) (N := 10) hx hb hts inX8 hown hK hP 2 0 rfl rfl (by decide) (hts _ q_fX9_115) rfl dX9_left_10 ?_
  obtain ⟨r_1, e_2, hf⟩ := bd1_x hf
  refine call_v [.int (0 : Int32), .int o_way_size] [.ref h_o] ⟨hx, hb, hml, hown, hts⟩ hK hP hD hS hA hl.1 (tX7_greatest l G cI cJ cZ H.size h_o_wave h_o_wave_im h_o_wave_re h_o_wave_wasRe h_o_wave_wasIm h_o_wave_halved o_wave_exp o_wave_done o_wave_backward o_wave_im o_wave_re (0 : Int32) o_way_size r_1 e_2) (cwV 2 hts (gv q_mX9_212 q_i_yX7_greatest q_s_yX7_greatest q_n_RX7 q_k_yX7_greatest) rfl rfl rfl (by decide +kernel) ⟨by decide, by decide⟩) rfl rfl (Nat.le_of_ble_eq_true rfl) dX9_left_13 ⟨Nat.zero_le _, Nat.zero_le _⟩ (ci := 7) rfl 0 rfl [1, 3, 4] [0, 2] [0, 2, 1, 3, 4] rfl rfl (ws2 := (wX9_left cI cJ cZ h_o h_o_wave h_o_way h_o_wave_im h_o_wave_re h_o_past h_o_notes h_o_ring h_o_turns h_o_beater h_o_reader h_o_dice h_o_trialWay h_o_trial h_o_otherTrial h_o_sumsRe h_o_sumsIm h_o_tally h_o_image h_o_tape h_o_wave_wasRe h_o_wave_wasIm h_o_wave_halved h_o_way_shifts o_imageKept o_taped o_wave_exp o_wave_done o_wave_backward o_way_size o_way_log o_way_wordBits o_way_limit o_way_radix o_way_order o_way_near o_way_seed o_way_stages o_wave_im o_wave_re)) rfl (fun H locs hP hD hS => ?_)
  refine W.eq (g2 := F0 m 16 ls [.int r_1, .ref h_o]) rfl ?_
  obtain ⟨r_3, e_4, hf⟩ := bd1_x hf
  refine call_v [.int r_1] [] ⟨hx, hb, hml, hown, hts⟩ hK hP hD hS hA hl.1 (tX9_doublings l G cI cJ cZ H.size h_o h_o_way h_o_wave h_o_past h_o_notes h_o_ring h_o_turns h_o_beater h_o_reader h_o_dice h_o_trialWay h_o_trial h_o_otherTrial h_o_sumsRe h_o_sumsIm h_o_tally h_o_image h_o_tape h_o_way_shifts o_imageKept o_taped o_way_size o_way_log o_way_wordBits o_way_limit o_way_radix o_way_order o_way_near o_way_seed o_way_stages r_1 r_3 e_4) (cwV 1 hts (gv q_mX9_215 q_i_yX9_doublings q_s_yX9_doublings q_n_RX9 q_k_yX9_doublings) rfl rfl rfl (by decide +kernel) ⟨by decide, by decide⟩) rfl rfl (Nat.le_of_ble_eq_true rfl) dX9_left_16 ⟨Nat.zero_le _, Nat.zero_le _⟩ (ci := 9) rfl 0 rfl [0, 2] [1, 3, 4] [3, 0, 4, 1, 2] rfl rfl (ws2 := (wX9_left cI cJ cZ h_o h_o_wave h_o_way h_o_wave_im h_o_wave_re h_o_past h_o_notes h_o_ring h_o_turns h_o_beater h_o_reader h_o_dice h_o_trialWay h_o_trial h_o_otherTrial h_o_sumsRe h_o_sumsIm h_o_tally h_o_image h_o_tape h_o_wave_wasRe h_o_wave_wasIm h_o_wave_halved h_o_way_shifts o_imageKept o_taped o_wave_exp o_wave_done o_wave_backward o_way_size o_way_log o_way_wordBits o_way_limit o_way_radix o_way_order o_way_near o_way_seed o_way_stages o_wave_im o_wave_re)) rfl (fun H locs hP hD hS => ?_)
  refine W.eq (g2 := F0 m 19 ls [.int r_3]) rfl ?_
  cases hf
  exact hret _ _ _ _ dX9_left_19 hP hD hS
def wX9_room (cI cJ cZ : ClassId) (h_o h_o_wave h_o_way h_o_wave_im h_o_wave_re h_o_past h_o_notes h_o_ring h_o_turns h_o_beater h_o_reader h_o_dice h_o_trialWay h_o_trial h_o_otherTrial h_o_sumsRe h_o_sumsIm h_o_tally h_o_image h_o_tape h_o_wave_wasRe h_o_wave_wasIm h_o_wave_halved h_o_way_shifts : Nat) (o_imageKept : Int32) (o_taped : Int32) (o_wave_exp : Int32) (o_wave_done : Int32) (o_wave_backward : Int32) (o_way_size : Int32) (o_way_log : Int32) (o_way_wordBits : Int32) (o_way_limit : Int32) (o_way_radix : Int32) (o_way_order : Int32) (o_way_near : Int32) (o_way_seed : Int32) (o_way_stages : Int32) (o_wave_im : Nat → Int32) (o_wave_re : Nat → Int32) : va_W := [(h_o, .inr (9, [.ref h_o_way, .ref h_o_wave, .ref h_o_past, .ref h_o_notes, .ref h_o_ring, .ref h_o_turns, .ref h_o_beater, .ref h_o_reader, .ref h_o_dice, .ref h_o_trialWay, .ref h_o_trial, .ref h_o_otherTrial, .ref h_o_sumsRe, .ref h_o_sumsIm, .ref h_o_tally, .ref h_o_image, .int o_imageKept, .ref h_o_tape, .int o_taped])), (h_o_wave, .inr (7, [.ref h_o_wave_re, .ref h_o_wave_im, .ref h_o_wave_wasRe, .ref h_o_wave_wasIm, .ref h_o_wave_halved, .int o_wave_exp, .int o_wave_done, .int o_wave_backward])), (h_o_way, .inr (8, [.int o_way_size, .int o_way_log, .int o_way_wordBits, .int o_way_limit, .int o_way_radix, .int o_way_order, .int o_way_near, .int o_way_seed, .int o_way_stages, .ref h_o_way_shifts])), (h_o_wave_im, .inl (cI, 32, .inl o_wave_im)), (h_o_wave_re, .inl (cI, 32, .inl o_wave_re))]
def fX9_room_33 (o_way_size : Int32) (o_way_limit : Int32) (o_wave_im : Nat → Int32) (o_wave_re : Nat → Int32) (v1 : Int32) (v2 : Int32) (s0 : Int32) : Option (Int32) :=
  if s0 = 0 then (
    some (-1 : Int32)
  ) else (
    if o_way_size < v2 then (
      some (-1 : Int32)
    ) else (
      if v1 < 0 then (
        some (-1 : Int32)
      ) else (
        if v1 ≤ (32 : Int32) then (
          nm (v1 * v2) (fun v4_10 =>
          if v4_10 < o_way_size then (
            bd1 (fX7_greatest o_wave_im o_wave_re v4_10 (v4_10 + v2)) (fun r_12 =>
            bd1 (fX9_doublings o_way_limit r_12) (fun r_14 =>
            some r_14))
          ) else (
            some (-1 : Int32)
          ))
        ) else (
          some (-1 : Int32)
        )
      )
    )
  )
def fX9_room_28 (o_way_size : Int32) (o_way_limit : Int32) (o_wave_im : Nat → Int32) (o_wave_re : Nat → Int32) (v1 : Int32) (v2 : Int32) : Option (Int32) :=
  fX9_room_33 o_way_size o_way_limit o_wave_im o_wave_re v1 v2 (1 : Int32)
def fX9_room (o_way_size : Int32) (o_way_limit : Int32) (o_wave_im : Nat → Int32) (o_wave_re : Nat → Int32) (p1 : Int32) (p2 : Int32) : Option (Int32) :=
  if p2 = (2 : Int32) then (
    fX9_room_28 o_way_size o_way_limit o_wave_im o_wave_re p1 p2
  ) else (
    if p2 = (4 : Int32) then (
      fX9_room_28 o_way_size o_way_limit o_wave_im o_wave_re p1 p2
    ) else (
      if p2 = (8 : Int32) then (
        fX9_room_28 o_way_size o_way_limit o_wave_im o_wave_re p1 p2
      ) else (
        if p2 = (16 : Int32) then (
          fX9_room_28 o_way_size o_way_limit o_wave_im o_wave_re p1 p2
        ) else (
          if p2 = (32 : Int32) then (
            fX9_room_28 o_way_size o_way_limit o_wave_im o_wave_re p1 p2
          ) else (
            fX9_room_33 o_way_size o_way_limit o_wave_im o_wave_re p1 p2 (0 : Int32)
          )
        )
      )
    )
  )
set_option maxHeartbeats 4000000 in
set_option maxRecDepth 100000 in
theorem tX9_room (l : Launch) (G : va_G) (cI cJ cZ : ClassId) (sz : Nat) (h_o h_o_wave h_o_way h_o_wave_im h_o_wave_re h_o_past h_o_notes h_o_ring h_o_turns h_o_beater h_o_reader h_o_dice h_o_trialWay h_o_trial h_o_otherTrial h_o_sumsRe h_o_sumsIm h_o_tally h_o_image h_o_tape h_o_wave_wasRe h_o_wave_wasIm h_o_wave_halved h_o_way_shifts : Nat) (o_imageKept : Int32) (o_taped : Int32) (o_wave_exp : Int32) (o_wave_done : Int32) (o_wave_backward : Int32) (o_way_size : Int32) (o_way_log : Int32) (o_way_wordBits : Int32) (o_way_limit : Int32) (o_way_radix : Int32) (o_way_order : Int32) (o_way_near : Int32) (o_way_seed : Int32) (o_way_stages : Int32) (o_wave_im : Nat → Int32) (o_wave_re : Nat → Int32) (p1 : Int32) (p2 : Int32) (r : Int32) (hf : fX9_room o_way_size o_way_limit o_wave_im o_wave_re p1 p2 = some r) : Met l yX9_room (Cond.code yX9_room cX9_room 5 (some .int) :: BIG) ({ frames := 2, cells := 0, slots := 0, locals := 39 } : Room) (cP G (TY3 cI cJ cZ) [.ref h_o, .int p1, .int p2] sz (wX9_room cI cJ cZ h_o h_o_wave h_o_way h_o_wave_im h_o_wave_re h_o_past h_o_notes h_o_ring h_o_turns h_o_beater h_o_reader h_o_dice h_o_trialWay h_o_trial h_o_otherTrial h_o_sumsRe h_o_sumsIm h_o_tally h_o_image h_o_tape h_o_wave_wasRe h_o_wave_wasIm h_o_wave_halved h_o_way_shifts o_imageKept o_taped o_wave_exp o_wave_done o_wave_backward o_way_size o_way_log o_way_wordBits o_way_limit o_way_radix o_way_order o_way_near o_way_seed o_way_stages o_wave_im o_wave_re)) (cQ G (TY3 cI cJ cZ) sz (wX9_room cI cJ cZ h_o h_o_wave h_o_way h_o_wave_im h_o_wave_re h_o_past h_o_notes h_o_ring h_o_turns h_o_beater h_o_reader h_o_dice h_o_trialWay h_o_trial h_o_otherTrial h_o_sumsRe h_o_sumsIm h_o_tally h_o_image h_o_tape h_o_wave_wasRe h_o_wave_wasIm h_o_wave_halved h_o_way_shifts o_imageKept o_taped o_wave_exp o_wave_done o_wave_backward o_way_size o_way_log o_way_wordBits o_way_limit o_way_radix o_way_order o_way_near o_way_seed o_way_stages o_wave_im o_wave_re) (wX9_room cI cJ cZ h_o h_o_wave h_o_way h_o_wave_im h_o_wave_re h_o_past h_o_notes h_o_ring h_o_turns h_o_beater h_o_reader h_o_dice h_o_trialWay h_o_trial h_o_otherTrial h_o_sumsRe h_o_sumsIm h_o_tally h_o_image h_o_tape h_o_wave_wasRe h_o_wave_wasIm h_o_wave_halved h_o_way_shifts o_imageKept o_taped o_wave_exp o_wave_done o_wave_backward o_way_size o_way_log o_way_wordBits o_way_limit o_way_radix o_way_order o_way_near o_way_seed o_way_stages o_wave_im o_wave_re) (some (.int r))) 0 0 (va_A (wX9_room cI cJ cZ h_o h_o_wave h_o_way h_o_wave_im h_o_wave_re h_o_past h_o_notes h_o_ring h_o_turns h_o_beater h_o_reader h_o_dice h_o_trialWay h_o_trial h_o_otherTrial h_o_sumsRe h_o_sumsIm h_o_tally h_o_image h_o_tape h_o_wave_wasRe h_o_wave_wasIm h_o_wave_halved h_o_way_shifts o_imageKept o_taped o_wave_exp o_wave_done o_wave_backward o_way_size o_way_log o_way_wordBits o_way_limit o_way_radix o_way_order o_way_near o_way_seed o_way_stages o_wave_im o_wave_re) sz) := by
  refine met_i (cc := cX9_room) (maxL := 5) (plainFor_of_name (by decide)) (Nat.le_of_ble_eq_true rfl) (fun p e s m below meth c A ls Q hx hb hml hts hown hK hP hD hS hA hl hret => ?_)
  have hown : s.vm.findClass RX9 = some m.cls := hown
  have hl : lv_has ls 5 [(0, .ref h_o), (1, .int p1), (2, .int p2)] := hl
  have j33 : ∀ (v1 : Int32) (v2 : Int32) (s0 : Int32) (H : Heap) (locs : List Loc) (ls : Array Slot), fX9_room_33 o_way_size o_way_limit o_wave_im o_wave_re v1 v2 s0 = some r → va_P G vwCl (wX9_room cI cJ cZ h_o h_o_wave h_o_way h_o_wave_im h_o_wave_re h_o_past h_o_notes h_o_ring h_o_turns h_o_beater h_o_reader h_o_dice h_o_trialWay h_o_trial h_o_otherTrial h_o_sumsRe h_o_sumsIm h_o_tally h_o_image h_o_tape h_o_wave_wasRe h_o_wave_wasIm h_o_wave_halved h_o_way_shifts o_imageKept o_taped o_wave_exp o_wave_done o_wave_backward o_way_size o_way_log o_way_wordBits o_way_limit o_way_radix o_way_order o_way_near o_way_seed o_way_stages o_wave_im o_wave_re) H → va_D A (wX9_room cI cJ cZ h_o h_o_wave h_o_way h_o_wave_im h_o_wave_re h_o_past h_o_notes h_o_ring h_o_turns h_o_beater h_o_reader h_o_dice h_o_trialWay h_o_trial h_o_otherTrial h_o_sumsRe h_o_sumsIm h_o_tally h_o_image h_o_tape h_o_wave_wasRe h_o_wave_wasIm h_o_wave_halved h_o_way_shifts o_imageKept o_taped o_wave_exp o_wave_done o_wave_backward o_way_size o_way_log o_way_wordBits o_way_limit o_way_radix o_way_order o_way_near o_way_seed o_way_stages o_wave_im o_wave_re) → va_S A s.heap H locs → lv_has ls 5 [(0, .ref h_o), (1, .int v1), (2, .int v2)] → W p l e ({ frames := 2, cells := 0, slots := 0, locals := 39 } : Room) s m ([.ref h_o, .int p1, .int p2] : List Value).toArray below meth c H locs 0 0 Q (F0 m 33 ls [.int s0]) := by
    intro v1 v2 s0 H locs ls hf hP hD hS hl
    unfold fX9_room_33 at hf
    refine lv_istore_n (lv' := [(3, .int s0), (0, .ref h_o), (1, .int v1), (2, .int v2)]) hx hb dX9_room_33 rfl hl (by decide) rfl (fun ls hl => ?_)
    refine lv_iload_n hx hb dX9_room_34 rfl (lv_at hl 0 rfl) ?_
    refine lv_if_eq (tgt := 59) hx hb dX9_room_35 (by decide) (fun c_6 => ?_) (fun c_6 => ?_)
    · have hf := it_t c_6 hf
      refine lv_iconst (v := (-1 : Int32)) hx hb dX9_room_59 (by decide) ?_
      cases hf
      exact hret _ _ _ _ dX9_room_60 hP hD hS
    · have hf := it_f c_6 hf
      refine lv_iload_n hx hb dX9_room_38 rfl (lv_at hl 3 rfl) ?_
      refine lv_aload_n hx hb dX9_room_39 rfl (lv_at hl 1 rfl) ?_
      refine rd (ci := 9) (C := RX9) (T := TX9) (N := 19) hx hb hts inX9 hown hK hP 0 0 rfl rfl (by decide) (hts _ q_fX9_10) rfl dX9_room_40 ?_
      refine rd (ci := 8) (C := RX8) (T := TX8) (N := 10) hx hb hts inX8 hown hK hP 2 0 rfl rfl (by decide) (hts _ q_fX9_115) rfl dX9_room_43 ?_
      refine lv_icmp_gt (tgt := 59) hx hb dX9_room_46 (by decide) (fun c_7 => ?_) (fun c_7 => ?_)
      · have hf := it_t c_7 hf
        refine lv_iconst (v := (-1 : Int32)) hx hb dX9_room_59 (by decide) ?_
        cases hf
        exact hret _ _ _ _ dX9_room_60 hP hD hS
      · have hf := it_f c_7 hf
        refine lv_iload_n hx hb dX9_room_49 rfl (lv_at hl 2 rfl) ?_
        refine lv_if_lt (tgt := 59) hx hb dX9_room_50 (by decide) (fun c_8 => ?_) (fun c_8 => ?_)
        · have hf := it_t c_8 hf
          refine lv_iconst (v := (-1 : Int32)) hx hb dX9_room_59 (by decide) ?_
          cases hf
          exact hret _ _ _ _ dX9_room_60 hP hD hS
        · have hf := it_f c_8 hf
          refine lv_iload_n hx hb dX9_room_53 rfl (lv_at hl 2 rfl) ?_
          refine lv_bipush (v := (32 : Int32)) hx hb dX9_room_54 (by decide) ?_
          refine lv_icmp_le (tgt := 61) hx hb dX9_room_56 (by decide) (fun c_9 => ?_) (fun c_9 => ?_)
          · have hf := it_t c_9 hf
            refine lv_iload_n hx hb dX9_room_61 rfl (lv_at hl 2 rfl) ?_
            refine lv_iload_n hx hb dX9_room_62 rfl (lv_at hl 3 rfl) ?_
            refine lv_imul hx hb dX9_room_63 ?_
            refine lv_topi (fun v4_10 ev4_10 => ?_)
            have hf := nm_x ev4_10 hf
            refine lv_istore (lv' := [(4, .int v4_10), (3, .int s0), (0, .ref h_o), (1, .int v1), (2, .int v2)]) hx hb dX9_room_64 hl (by decide) rfl (fun ls hl => ?_)
            refine lv_iload hx hb dX9_room_66 (lv_at hl 0 rfl) ?_
            refine lv_aload_n hx hb dX9_room_68 rfl (lv_at hl 2 rfl) ?_
            refine rd (ci := 9) (C := RX9) (T := TX9) (N := 19) hx hb hts inX9 hown hK hP 0 0 rfl rfl (by decide) (hts _ q_fX9_10) rfl dX9_room_69 ?_
            refine rd (ci := 8) (C := RX8) (T := TX8) (N := 10) hx hb hts inX8 hown hK hP 2 0 rfl rfl (by decide) (hts _ q_fX9_115) rfl dX9_room_72 ?_
            refine lv_icmp_lt (tgt := 80) hx hb dX9_room_75 (by decide) (fun c_11 => ?_) (fun c_11 => ?_)
            · have hf := it_t c_11 hf
              refine lv_aload_n hx hb dX9_room_80 rfl (lv_at hl 2 rfl) ?_
              refine lv_aload_n hx hb dX9_room_81 rfl (lv_at hl 2 rfl) ?_
              refine rd (ci := 9) (C := RX9) (T := TX9) (N := 19) hx hb hts inX9 hown hK hP 0 1 rfl rfl (by decide) (hts _ q_fX9_19) rfl dX9_room_82 ?_
              refine lv_iload hx hb dX9_room_85 (lv_at hl 0 rfl) ?_
              refine lv_iload hx hb dX9_room_87 (lv_at hl 0 rfl) ?_
              refine lv_iload_n hx hb dX9_room_89 rfl (lv_at hl 4 rfl) ?_
              refine lv_iadd hx hb dX9_room_90 ?_
              obtain ⟨r_12, e_13, hf⟩ := bd1_x hf
              refine call_v [.int v4_10, .int (v4_10 + v2)] [.ref h_o] ⟨hx, hb, hml, hown, hts⟩ hK hP hD hS hA hl.1 (tX7_greatest l G cI cJ cZ H.size h_o_wave h_o_wave_im h_o_wave_re h_o_wave_wasRe h_o_wave_wasIm h_o_wave_halved o_wave_exp o_wave_done o_wave_backward o_wave_im o_wave_re v4_10 (v4_10 + v2) r_12 e_13) (cwV 2 hts (gv q_mX9_212 q_i_yX7_greatest q_s_yX7_greatest q_n_RX7 q_k_yX7_greatest) rfl rfl rfl (by decide +kernel) ⟨by decide, by decide⟩) rfl rfl (Nat.le_of_ble_eq_true rfl) dX9_room_91 ⟨Nat.zero_le _, Nat.zero_le _⟩ (ci := 7) rfl 0 rfl [1, 3, 4] [0, 2] [0, 2, 1, 3, 4] rfl rfl (ws2 := (wX9_room cI cJ cZ h_o h_o_wave h_o_way h_o_wave_im h_o_wave_re h_o_past h_o_notes h_o_ring h_o_turns h_o_beater h_o_reader h_o_dice h_o_trialWay h_o_trial h_o_otherTrial h_o_sumsRe h_o_sumsIm h_o_tally h_o_image h_o_tape h_o_wave_wasRe h_o_wave_wasIm h_o_wave_halved h_o_way_shifts o_imageKept o_taped o_wave_exp o_wave_done o_wave_backward o_way_size o_way_log o_way_wordBits o_way_limit o_way_radix o_way_order o_way_near o_way_seed o_way_stages o_wave_im o_wave_re)) rfl (fun H locs hP hD hS => ?_)
              refine W.eq (g2 := F0 m 94 ls [.int r_12, .ref h_o]) rfl ?_
              obtain ⟨r_14, e_15, hf⟩ := bd1_x hf
              refine call_v [.int r_12] [] ⟨hx, hb, hml, hown, hts⟩ hK hP hD hS hA hl.1 (tX9_doublings l G cI cJ cZ H.size h_o h_o_way h_o_wave h_o_past h_o_notes h_o_ring h_o_turns h_o_beater h_o_reader h_o_dice h_o_trialWay h_o_trial h_o_otherTrial h_o_sumsRe h_o_sumsIm h_o_tally h_o_image h_o_tape h_o_way_shifts o_imageKept o_taped o_way_size o_way_log o_way_wordBits o_way_limit o_way_radix o_way_order o_way_near o_way_seed o_way_stages r_12 r_14 e_15) (cwV 1 hts (gv q_mX9_215 q_i_yX9_doublings q_s_yX9_doublings q_n_RX9 q_k_yX9_doublings) rfl rfl rfl (by decide +kernel) ⟨by decide, by decide⟩) rfl rfl (Nat.le_of_ble_eq_true rfl) dX9_room_94 ⟨Nat.zero_le _, Nat.zero_le _⟩ (ci := 9) rfl 0 rfl [0, 2] [1, 3, 4] [3, 0, 4, 1, 2] rfl rfl (ws2 := (wX9_room cI cJ cZ h_o h_o_wave h_o_way h_o_wave_im h_o_wave_re h_o_past h_o_notes h_o_ring h_o_turns h_o_beater h_o_reader h_o_dice h_o_trialWay h_o_trial h_o_otherTrial h_o_sumsRe h_o_sumsIm h_o_tally h_o_image h_o_tape h_o_wave_wasRe h_o_wave_wasIm h_o_wave_halved h_o_way_shifts o_imageKept o_taped o_wave_exp o_wave_done o_wave_backward o_way_size o_way_log o_way_wordBits o_way_limit o_way_radix o_way_order o_way_near o_way_seed o_way_stages o_wave_im o_wave_re)) rfl (fun H locs hP hD hS => ?_)
              refine W.eq (g2 := F0 m 97 ls [.int r_14]) rfl ?_
              cases hf
              exact hret _ _ _ _ dX9_room_97 hP hD hS
            · have hf := it_f c_11 hf
              refine lv_iconst (v := (-1 : Int32)) hx hb dX9_room_78 (by decide) ?_
              cases hf
              exact hret _ _ _ _ dX9_room_79 hP hD hS
          · have hf := it_f c_9 hf
            refine lv_iconst (v := (-1 : Int32)) hx hb dX9_room_59 (by decide) ?_
            cases hf
            exact hret _ _ _ _ dX9_room_60 hP hD hS
  have j28 : ∀ (v1 : Int32) (v2 : Int32) (H : Heap) (locs : List Loc) (ls : Array Slot), fX9_room_28 o_way_size o_way_limit o_wave_im o_wave_re v1 v2 = some r → va_P G vwCl (wX9_room cI cJ cZ h_o h_o_wave h_o_way h_o_wave_im h_o_wave_re h_o_past h_o_notes h_o_ring h_o_turns h_o_beater h_o_reader h_o_dice h_o_trialWay h_o_trial h_o_otherTrial h_o_sumsRe h_o_sumsIm h_o_tally h_o_image h_o_tape h_o_wave_wasRe h_o_wave_wasIm h_o_wave_halved h_o_way_shifts o_imageKept o_taped o_wave_exp o_wave_done o_wave_backward o_way_size o_way_log o_way_wordBits o_way_limit o_way_radix o_way_order o_way_near o_way_seed o_way_stages o_wave_im o_wave_re) H → va_D A (wX9_room cI cJ cZ h_o h_o_wave h_o_way h_o_wave_im h_o_wave_re h_o_past h_o_notes h_o_ring h_o_turns h_o_beater h_o_reader h_o_dice h_o_trialWay h_o_trial h_o_otherTrial h_o_sumsRe h_o_sumsIm h_o_tally h_o_image h_o_tape h_o_wave_wasRe h_o_wave_wasIm h_o_wave_halved h_o_way_shifts o_imageKept o_taped o_wave_exp o_wave_done o_wave_backward o_way_size o_way_log o_way_wordBits o_way_limit o_way_radix o_way_order o_way_near o_way_seed o_way_stages o_wave_im o_wave_re) → va_S A s.heap H locs → lv_has ls 5 [(0, .ref h_o), (1, .int v1), (2, .int v2)] → W p l e ({ frames := 2, cells := 0, slots := 0, locals := 39 } : Room) s m ([.ref h_o, .int p1, .int p2] : List Value).toArray below meth c H locs 0 0 Q (F0 m 28 ls []) := by
    intro v1 v2 H locs ls hf hP hD hS hl
    unfold fX9_room_28 at hf
    refine lv_iconst (v := (1 : Int32)) hx hb dX9_room_28 (by decide) ?_
    refine lv_goto (tgt := 33) hx hb dX9_room_29 (by decide) ?_
    exact j33 v1 v2 (1 : Int32) H locs ls hf hP hD hS (lv_sub hl [0, 1, 2] rfl)
  unfold fX9_room at hf
  obtain ⟨H, eH⟩ : ∃ H, H = s.heap := ⟨_, rfl⟩
  obtain ⟨locs, elocs⟩ : ∃ z : List Loc, z = [] := ⟨_, rfl⟩
  have hP : va_P G vwCl (wX9_room cI cJ cZ h_o h_o_wave h_o_way h_o_wave_im h_o_wave_re h_o_past h_o_notes h_o_ring h_o_turns h_o_beater h_o_reader h_o_dice h_o_trialWay h_o_trial h_o_otherTrial h_o_sumsRe h_o_sumsIm h_o_tally h_o_image h_o_tape h_o_wave_wasRe h_o_wave_wasIm h_o_wave_halved h_o_way_shifts o_imageKept o_taped o_wave_exp o_wave_done o_wave_backward o_way_size o_way_log o_way_wordBits o_way_limit o_way_radix o_way_order o_way_near o_way_seed o_way_stages o_wave_im o_wave_re) H := by rw [eH]; exact hP
  have hS : va_S A s.heap H locs := by rw [eH, elocs]; exact hS
  suffices hgo : W p l e ({ frames := 2, cells := 0, slots := 0, locals := 39 } : Room) s m ([.ref h_o, .int p1, .int p2] : List Value).toArray below meth c H locs 0 0 Q (F0 m 0 ls []) by rw [eH, elocs] at hgo; exact hgo
  clear eH elocs
  refine lv_iload_n hx hb dX9_room_0 rfl (lv_at hl 2 rfl) ?_
  refine lv_iconst (v := (2 : Int32)) hx hb dX9_room_1 (by decide) ?_
  refine lv_icmp_eq (tgt := 28) hx hb dX9_room_2 (by decide) (fun c_1 => ?_) (fun c_1 => ?_)
  · have hf := it_t c_1 hf
    exact j28 p1 p2 H locs ls hf hP hD hS (lv_sub hl [0, 1, 2] rfl)
  · have hf := it_f c_1 hf
    refine lv_iload_n hx hb dX9_room_5 rfl (lv_at hl 2 rfl) ?_
    refine lv_iconst (v := (4 : Int32)) hx hb dX9_room_6 (by decide) ?_
    refine lv_icmp_eq (tgt := 28) hx hb dX9_room_7 (by decide) (fun c_2 => ?_) (fun c_2 => ?_)
    · have hf := it_t c_2 hf
      exact j28 p1 p2 H locs ls hf hP hD hS (lv_sub hl [0, 1, 2] rfl)
    · have hf := it_f c_2 hf
      refine lv_iload_n hx hb dX9_room_10 rfl (lv_at hl 2 rfl) ?_
      refine lv_bipush (v := (8 : Int32)) hx hb dX9_room_11 (by decide) ?_
      refine lv_icmp_eq (tgt := 28) hx hb dX9_room_13 (by decide) (fun c_3 => ?_) (fun c_3 => ?_)
      · have hf := it_t c_3 hf
        exact j28 p1 p2 H locs ls hf hP hD hS (lv_sub hl [0, 1, 2] rfl)
      · have hf := it_f c_3 hf
        refine lv_iload_n hx hb dX9_room_16 rfl (lv_at hl 2 rfl) ?_
        refine lv_bipush (v := (16 : Int32)) hx hb dX9_room_17 (by decide) ?_
        refine lv_icmp_eq (tgt := 28) hx hb dX9_room_19 (by decide) (fun c_4 => ?_) (fun c_4 => ?_)
        · have hf := it_t c_4 hf
          exact j28 p1 p2 H locs ls hf hP hD hS (lv_sub hl [0, 1, 2] rfl)
        · have hf := it_f c_4 hf
          refine lv_iload_n hx hb dX9_room_22 rfl (lv_at hl 2 rfl) ?_
          refine lv_bipush (v := (32 : Int32)) hx hb dX9_room_23 (by decide) ?_
          refine lv_icmp_ne (tgt := 32) hx hb dX9_room_25 (by decide) (fun c_5 => ?_) (fun c_5 => ?_)
          · have hf := it_f c_5 hf
            refine lv_iconst (v := (0 : Int32)) hx hb dX9_room_32 (by decide) ?_
            exact j33 p1 p2 (0 : Int32) H locs ls hf hP hD hS (lv_sub hl [0, 1, 2] rfl)
          · have hf := it_t c_5 hf
            exact j28 p1 p2 H locs ls hf hP hD hS (lv_sub hl [0, 1, 2] rfl)
def wX9_loudness (cI cJ cZ : ClassId) : va_W := []
def fX9_loudness (p1 : Int64) (p2 : Int64) : Option (Int64) :=
  some ((p1 * p1) + (p2 * p2))
set_option maxHeartbeats 4000000 in
set_option maxRecDepth 100000 in
theorem tX9_loudness (l : Launch) (G : va_G) (cI cJ cZ : ClassId) (sz : Nat) (p1 : Int64) (p2 : Int64) (r : Int64) (hf : fX9_loudness p1 p2 = some r) : Met l yX9_loudness (Cond.code yX9_loudness cX9_loudness 4 (some .long) :: BIG) ({ frames := 0, cells := 0, slots := 0, locals := 0 } : Room) (cP G (TY3 cI cJ cZ) [.long p1, .long p2] sz (wX9_loudness cI cJ cZ)) (cQ G (TY3 cI cJ cZ) sz (wX9_loudness cI cJ cZ) (wX9_loudness cI cJ cZ) (some (.long r))) 0 0 (va_A (wX9_loudness cI cJ cZ) sz) := by
  refine met_l (cc := cX9_loudness) (maxL := 4) (plainFor_of_name (by decide)) (Nat.le_of_ble_eq_true rfl) (fun p e s m below meth c A ls Q hx hb hml hts hown hK hP hD hS hA hl hret => ?_)
  have hown : s.vm.findClass RX9 = some m.cls := hown
  have hl : lv_has ls 4 [(0, .long p1), (2, .long p2)] := hl
  unfold fX9_loudness at hf
  obtain ⟨H, eH⟩ : ∃ H, H = s.heap := ⟨_, rfl⟩
  obtain ⟨locs, elocs⟩ : ∃ z : List Loc, z = [] := ⟨_, rfl⟩
  have hP : va_P G vwCl (wX9_loudness cI cJ cZ) H := by rw [eH]; exact hP
  have hS : va_S A s.heap H locs := by rw [eH, elocs]; exact hS
  suffices hgo : W p l e ({ frames := 0, cells := 0, slots := 0, locals := 0 } : Room) s m ([.long p1, .long p2] : List Value).toArray below meth c H locs 0 0 Q (F0 m 0 ls []) by rw [eH, elocs] at hgo; exact hgo
  clear eH elocs
  refine lv_lload_n hx hb dX9_loudness_0 rfl (lv_at hl 0 rfl) ?_
  refine lv_lload_n hx hb dX9_loudness_1 rfl (lv_at hl 0 rfl) ?_
  refine lv_lmul hx hb dX9_loudness_2 ?_
  refine lv_lload_n hx hb dX9_loudness_3 rfl (lv_at hl 1 rfl) ?_
  refine lv_lload_n hx hb dX9_loudness_4 rfl (lv_at hl 1 rfl) ?_
  refine lv_lmul hx hb dX9_loudness_5 ?_
  refine lv_ladd hx hb dX9_loudness_6 ?_
  cases hf
  exact hret _ _ _ _ dX9_loudness_7 hP hD hS
def wX9_energy (cI cJ cZ : ClassId) (h_o h_o_wave h_o_way h_o_wave_im h_o_wave_re h_o_wave_wasIm h_o_wave_wasRe h_o_past h_o_notes h_o_ring h_o_turns h_o_beater h_o_reader h_o_dice h_o_trialWay h_o_trial h_o_otherTrial h_o_sumsRe h_o_sumsIm h_o_tally h_o_image h_o_tape h_o_wave_halved h_o_way_shifts : Nat) (o_imageKept : Int32) (o_taped : Int32) (o_wave_exp : Int32) (o_wave_done : Int32) (o_wave_backward : Int32) (o_way_size : Int32) (o_way_log : Int32) (o_way_wordBits : Int32) (o_way_limit : Int32) (o_way_radix : Int32) (o_way_order : Int32) (o_way_near : Int32) (o_way_seed : Int32) (o_way_stages : Int32) (o_wave_im : Nat → Int32) (o_wave_re : Nat → Int32) (o_wave_wasIm : Nat → Int32) (o_wave_wasRe : Nat → Int32) : va_W := [(h_o, .inr (9, [.ref h_o_way, .ref h_o_wave, .ref h_o_past, .ref h_o_notes, .ref h_o_ring, .ref h_o_turns, .ref h_o_beater, .ref h_o_reader, .ref h_o_dice, .ref h_o_trialWay, .ref h_o_trial, .ref h_o_otherTrial, .ref h_o_sumsRe, .ref h_o_sumsIm, .ref h_o_tally, .ref h_o_image, .int o_imageKept, .ref h_o_tape, .int o_taped])), (h_o_wave, .inr (7, [.ref h_o_wave_re, .ref h_o_wave_im, .ref h_o_wave_wasRe, .ref h_o_wave_wasIm, .ref h_o_wave_halved, .int o_wave_exp, .int o_wave_done, .int o_wave_backward])), (h_o_way, .inr (8, [.int o_way_size, .int o_way_log, .int o_way_wordBits, .int o_way_limit, .int o_way_radix, .int o_way_order, .int o_way_near, .int o_way_seed, .int o_way_stages, .ref h_o_way_shifts])), (h_o_wave_im, .inl (cI, 32, .inl o_wave_im)), (h_o_wave_re, .inl (cI, 32, .inl o_wave_re)), (h_o_wave_wasIm, .inl (cI, 32, .inl o_wave_wasIm)), (h_o_wave_wasRe, .inl (cI, 32, .inl o_wave_wasRe))]
def fX9_energy_88 (o_way_size : Int32) (o_wave_im : Nat → Int32) (o_wave_re : Nat → Int32) (o_wave_wasIm : Nat → Int32) (o_wave_wasRe : Nat → Int32) (k18 : Int32 → Int64 → Int32 → Option (Int64)) (v1 : Int32) (v4 : Int32) (s0 : Int64) (s1 : Int64) : Option (Int64) :=
  nm (s0 + s1) (fun v2_13 =>
  nm (v4 + (1 : Int32)) (fun v4_14 =>
  k18 v1 v2_13 v4_14))
def fX9_energy_18 (o_way_size : Int32) (o_wave_im : Nat → Int32) (o_wave_re : Nat → Int32) (o_wave_wasIm : Nat → Int32) (o_wave_wasRe : Nat → Int32) : Nat → Int32 → Int64 → Int32 → Option (Int64)
  | 0, _, _, _ => none
  | n + 1, v1, v2, v4 =>
    if o_way_size ≤ v4 then (
      some v2
    ) else (
      if v1 = 0 then (
        gd (inb v4 32) (
        gd (inb v4 32) (
        bd1 (fX9_loudness (Int32.toInt64 (o_wave_re (Int32.toNatClampNeg v4))) (Int32.toInt64 (o_wave_im (Int32.toNatClampNeg v4)))) (fun r_11 =>
        fX9_energy_88 o_way_size o_wave_im o_wave_re o_wave_wasIm o_wave_wasRe (fX9_energy_18 o_way_size o_wave_im o_wave_re o_wave_wasIm o_wave_wasRe n) v1 v4 v2 r_11)))
      ) else (
        gd (inb v4 32) (
        gd (inb v4 32) (
        bd1 (fX9_loudness (Int32.toInt64 (o_wave_wasRe (Int32.toNatClampNeg v4))) (Int32.toInt64 (o_wave_wasIm (Int32.toNatClampNeg v4)))) (fun r_7 =>
        fX9_energy_88 o_way_size o_wave_im o_wave_re o_wave_wasIm o_wave_wasRe (fX9_energy_18 o_way_size o_wave_im o_wave_re o_wave_wasIm o_wave_wasRe n) v1 v4 v2 r_7)))
      )
    )
def fX9_energy (o_way_size : Int32) (o_wave_im : Nat → Int32) (o_wave_re : Nat → Int32) (o_wave_wasIm : Nat → Int32) (o_wave_wasRe : Nat → Int32) (p1 : Int32) : Option (Int64) :=
  if p1 < 0 then (
    some (-1 : Int64)
  ) else (
    if p1 ≤ (1 : Int32) then (
      fX9_energy_18 o_way_size o_wave_im o_wave_re o_wave_wasIm o_wave_wasRe FU p1 (0 : Int64) (0 : Int32)
    ) else (
      some (-1 : Int64)
    )
  )
set_option maxHeartbeats 4000000 in
set_option maxRecDepth 100000 in
theorem tX9_energy (l : Launch) (G : va_G) (cI cJ cZ : ClassId) (sz : Nat) (h_o h_o_wave h_o_way h_o_wave_im h_o_wave_re h_o_wave_wasIm h_o_wave_wasRe h_o_past h_o_notes h_o_ring h_o_turns h_o_beater h_o_reader h_o_dice h_o_trialWay h_o_trial h_o_otherTrial h_o_sumsRe h_o_sumsIm h_o_tally h_o_image h_o_tape h_o_wave_halved h_o_way_shifts : Nat) (o_imageKept : Int32) (o_taped : Int32) (o_wave_exp : Int32) (o_wave_done : Int32) (o_wave_backward : Int32) (o_way_size : Int32) (o_way_log : Int32) (o_way_wordBits : Int32) (o_way_limit : Int32) (o_way_radix : Int32) (o_way_order : Int32) (o_way_near : Int32) (o_way_seed : Int32) (o_way_stages : Int32) (o_wave_im : Nat → Int32) (o_wave_re : Nat → Int32) (o_wave_wasIm : Nat → Int32) (o_wave_wasRe : Nat → Int32) (p1 : Int32) (r : Int64) (hf : fX9_energy o_way_size o_wave_im o_wave_re o_wave_wasIm o_wave_wasRe p1 = some r) : Met l yX9_energy (Cond.code yX9_energy cX9_energy 5 (some .long) :: BIG) ({ frames := 1, cells := 0, slots := 0, locals := 23 } : Room) (cP G (TY3 cI cJ cZ) [.ref h_o, .int p1] sz (wX9_energy cI cJ cZ h_o h_o_wave h_o_way h_o_wave_im h_o_wave_re h_o_wave_wasIm h_o_wave_wasRe h_o_past h_o_notes h_o_ring h_o_turns h_o_beater h_o_reader h_o_dice h_o_trialWay h_o_trial h_o_otherTrial h_o_sumsRe h_o_sumsIm h_o_tally h_o_image h_o_tape h_o_wave_halved h_o_way_shifts o_imageKept o_taped o_wave_exp o_wave_done o_wave_backward o_way_size o_way_log o_way_wordBits o_way_limit o_way_radix o_way_order o_way_near o_way_seed o_way_stages o_wave_im o_wave_re o_wave_wasIm o_wave_wasRe)) (cQ G (TY3 cI cJ cZ) sz (wX9_energy cI cJ cZ h_o h_o_wave h_o_way h_o_wave_im h_o_wave_re h_o_wave_wasIm h_o_wave_wasRe h_o_past h_o_notes h_o_ring h_o_turns h_o_beater h_o_reader h_o_dice h_o_trialWay h_o_trial h_o_otherTrial h_o_sumsRe h_o_sumsIm h_o_tally h_o_image h_o_tape h_o_wave_halved h_o_way_shifts o_imageKept o_taped o_wave_exp o_wave_done o_wave_backward o_way_size o_way_log o_way_wordBits o_way_limit o_way_radix o_way_order o_way_near o_way_seed o_way_stages o_wave_im o_wave_re o_wave_wasIm o_wave_wasRe) (wX9_energy cI cJ cZ h_o h_o_wave h_o_way h_o_wave_im h_o_wave_re h_o_wave_wasIm h_o_wave_wasRe h_o_past h_o_notes h_o_ring h_o_turns h_o_beater h_o_reader h_o_dice h_o_trialWay h_o_trial h_o_otherTrial h_o_sumsRe h_o_sumsIm h_o_tally h_o_image h_o_tape h_o_wave_halved h_o_way_shifts o_imageKept o_taped o_wave_exp o_wave_done o_wave_backward o_way_size o_way_log o_way_wordBits o_way_limit o_way_radix o_way_order o_way_near o_way_seed o_way_stages o_wave_im o_wave_re o_wave_wasIm o_wave_wasRe) (some (.long r))) 0 0 (va_A (wX9_energy cI cJ cZ h_o h_o_wave h_o_way h_o_wave_im h_o_wave_re h_o_wave_wasIm h_o_wave_wasRe h_o_past h_o_notes h_o_ring h_o_turns h_o_beater h_o_reader h_o_dice h_o_trialWay h_o_trial h_o_otherTrial h_o_sumsRe h_o_sumsIm h_o_tally h_o_image h_o_tape h_o_wave_halved h_o_way_shifts o_imageKept o_taped o_wave_exp o_wave_done o_wave_backward o_way_size o_way_log o_way_wordBits o_way_limit o_way_radix o_way_order o_way_near o_way_seed o_way_stages o_wave_im o_wave_re o_wave_wasIm o_wave_wasRe) sz) := by
  refine met_l (cc := cX9_energy) (maxL := 5) (plainFor_of_name (by decide)) (Nat.le_of_ble_eq_true rfl) (fun p e s m below meth c A ls Q hx hb hml hts hown hK hP hD hS hA hl hret => ?_)
  have hown : s.vm.findClass RX9 = some m.cls := hown
  have hl : lv_has ls 5 [(0, .ref h_o), (1, .int p1)] := hl
  have j88 : ∀ (k18 : Int32 → Int64 → Int32 → Option (Int64)), (∀ (v1 : Int32) (v2 : Int64) (v4 : Int32) (H : Heap) (locs : List Loc) (ls : Array Slot), k18 v1 v2 v4 = some r → va_P G vwCl (wX9_energy cI cJ cZ h_o h_o_wave h_o_way h_o_wave_im h_o_wave_re h_o_wave_wasIm h_o_wave_wasRe h_o_past h_o_notes h_o_ring h_o_turns h_o_beater h_o_reader h_o_dice h_o_trialWay h_o_trial h_o_otherTrial h_o_sumsRe h_o_sumsIm h_o_tally h_o_image h_o_tape h_o_wave_halved h_o_way_shifts o_imageKept o_taped o_wave_exp o_wave_done o_wave_backward o_way_size o_way_log o_way_wordBits o_way_limit o_way_radix o_way_order o_way_near o_way_seed o_way_stages o_wave_im o_wave_re o_wave_wasIm o_wave_wasRe) H → va_D A (wX9_energy cI cJ cZ h_o h_o_wave h_o_way h_o_wave_im h_o_wave_re h_o_wave_wasIm h_o_wave_wasRe h_o_past h_o_notes h_o_ring h_o_turns h_o_beater h_o_reader h_o_dice h_o_trialWay h_o_trial h_o_otherTrial h_o_sumsRe h_o_sumsIm h_o_tally h_o_image h_o_tape h_o_wave_halved h_o_way_shifts o_imageKept o_taped o_wave_exp o_wave_done o_wave_backward o_way_size o_way_log o_way_wordBits o_way_limit o_way_radix o_way_order o_way_near o_way_seed o_way_stages o_wave_im o_wave_re o_wave_wasIm o_wave_wasRe) → va_S A s.heap H locs → lv_has ls 5 [(0, .ref h_o), (1, .int v1), (2, .long v2), (4, .int v4)] → W p l e ({ frames := 1, cells := 0, slots := 0, locals := 23 } : Room) s m ([.ref h_o, .int p1] : List Value).toArray below meth c H locs 0 0 Q (F0 m 18 ls [])) → ∀ (v1 : Int32) (v4 : Int32) (s0 : Int64) (s1 : Int64) (H : Heap) (locs : List Loc) (ls : Array Slot), fX9_energy_88 o_way_size o_wave_im o_wave_re o_wave_wasIm o_wave_wasRe k18 v1 v4 s0 s1 = some r → va_P G vwCl (wX9_energy cI cJ cZ h_o h_o_wave h_o_way h_o_wave_im h_o_wave_re h_o_wave_wasIm h_o_wave_wasRe h_o_past h_o_notes h_o_ring h_o_turns h_o_beater h_o_reader h_o_dice h_o_trialWay h_o_trial h_o_otherTrial h_o_sumsRe h_o_sumsIm h_o_tally h_o_image h_o_tape h_o_wave_halved h_o_way_shifts o_imageKept o_taped o_wave_exp o_wave_done o_wave_backward o_way_size o_way_log o_way_wordBits o_way_limit o_way_radix o_way_order o_way_near o_way_seed o_way_stages o_wave_im o_wave_re o_wave_wasIm o_wave_wasRe) H → va_D A (wX9_energy cI cJ cZ h_o h_o_wave h_o_way h_o_wave_im h_o_wave_re h_o_wave_wasIm h_o_wave_wasRe h_o_past h_o_notes h_o_ring h_o_turns h_o_beater h_o_reader h_o_dice h_o_trialWay h_o_trial h_o_otherTrial h_o_sumsRe h_o_sumsIm h_o_tally h_o_image h_o_tape h_o_wave_halved h_o_way_shifts o_imageKept o_taped o_wave_exp o_wave_done o_wave_backward o_way_size o_way_log o_way_wordBits o_way_limit o_way_radix o_way_order o_way_near o_way_seed o_way_stages o_wave_im o_wave_re o_wave_wasIm o_wave_wasRe) → va_S A s.heap H locs → lv_has ls 5 [(0, .ref h_o), (1, .int v1), (4, .int v4)] → W p l e ({ frames := 1, cells := 0, slots := 0, locals := 23 } : Room) s m ([.ref h_o, .int p1] : List Value).toArray below meth c H locs 0 0 Q (F0 m 88 ls [.long s1, .long s0]) := by
    intro k18 hk18 v1 v4 s0 s1 H locs ls hf hP hD hS hl
    unfold fX9_energy_88 at hf
    refine lv_ladd hx hb dX9_energy_88 ?_
    refine lv_topl (fun v2_13 ev2_13 => ?_)
    have hf := nm_x ev2_13 hf
    refine lv_lstore_n (lv' := [(2, .long v2_13), (0, .ref h_o), (1, .int v1), (4, .int v4)]) hx hb dX9_energy_89 rfl hl (by decide) rfl (fun ls hl => ?_)
    obtain ⟨v4_14, ev4_14⟩ : ∃ y : Int32, y = v4 + (1 : Int32) := ⟨_, rfl⟩
    have hf := nm_x ev4_14 hf
    refine lv_iinc (v := v4_14) (lv' := [(4, .int v4_14), (2, .long v2_13), (0, .ref h_o), (1, .int v1)]) hx hb dX9_energy_90 hl (k := 3) rfl (by rw [ev4_14]; rfl) (by decide) rfl (fun ls hl => ?_)
    refine lv_goto (tgt := 18) hx hb dX9_energy_93 (by decide) ?_
    exact hk18 v1 v2_13 v4_14 H locs ls hf hP hD hS (lv_sub hl [2, 3, 1, 0] rfl)
  have j18 : ∀ (n : Nat) (v1 : Int32) (v2 : Int64) (v4 : Int32) (H : Heap) (locs : List Loc) (ls : Array Slot), fX9_energy_18 o_way_size o_wave_im o_wave_re o_wave_wasIm o_wave_wasRe n v1 v2 v4 = some r → va_P G vwCl (wX9_energy cI cJ cZ h_o h_o_wave h_o_way h_o_wave_im h_o_wave_re h_o_wave_wasIm h_o_wave_wasRe h_o_past h_o_notes h_o_ring h_o_turns h_o_beater h_o_reader h_o_dice h_o_trialWay h_o_trial h_o_otherTrial h_o_sumsRe h_o_sumsIm h_o_tally h_o_image h_o_tape h_o_wave_halved h_o_way_shifts o_imageKept o_taped o_wave_exp o_wave_done o_wave_backward o_way_size o_way_log o_way_wordBits o_way_limit o_way_radix o_way_order o_way_near o_way_seed o_way_stages o_wave_im o_wave_re o_wave_wasIm o_wave_wasRe) H → va_D A (wX9_energy cI cJ cZ h_o h_o_wave h_o_way h_o_wave_im h_o_wave_re h_o_wave_wasIm h_o_wave_wasRe h_o_past h_o_notes h_o_ring h_o_turns h_o_beater h_o_reader h_o_dice h_o_trialWay h_o_trial h_o_otherTrial h_o_sumsRe h_o_sumsIm h_o_tally h_o_image h_o_tape h_o_wave_halved h_o_way_shifts o_imageKept o_taped o_wave_exp o_wave_done o_wave_backward o_way_size o_way_log o_way_wordBits o_way_limit o_way_radix o_way_order o_way_near o_way_seed o_way_stages o_wave_im o_wave_re o_wave_wasIm o_wave_wasRe) → va_S A s.heap H locs → lv_has ls 5 [(0, .ref h_o), (1, .int v1), (2, .long v2), (4, .int v4)] → W p l e ({ frames := 1, cells := 0, slots := 0, locals := 23 } : Room) s m ([.ref h_o, .int p1] : List Value).toArray below meth c H locs 0 0 Q (F0 m 18 ls []) := by
    intro n
    induction n with
    | zero =>
      intro v1 v2 v4 H locs ls hf
      have hf : (none : Option (Int64)) = some r := hf
      cases hf
    | succ n ih =>
      intro v1 v2 v4 H locs ls hf hP hD hS hl
      rw [fX9_energy_18.eq_2] at hf
      refine lv_iload hx hb dX9_energy_18 (lv_at hl 3 rfl) ?_
      refine lv_aload_n hx hb dX9_energy_20 rfl (lv_at hl 0 rfl) ?_
      refine rd (ci := 9) (C := RX9) (T := TX9) (N := 19) hx hb hts inX9 hown hK hP 0 0 rfl rfl (by decide) (hts _ q_fX9_10) rfl dX9_energy_21 ?_
      refine rd (ci := 8) (C := RX8) (T := TX8) (N := 10) hx hb hts inX8 hown hK hP 2 0 rfl rfl (by decide) (hts _ q_fX9_115) rfl dX9_energy_24 ?_
      refine lv_icmp_ge (tgt := 96) hx hb dX9_energy_27 (by decide) (fun c_3 => ?_) (fun c_3 => ?_)
      · have hf := it_t c_3 hf
        refine lv_lload_n hx hb dX9_energy_96 rfl (lv_at hl 2 rfl) ?_
        cases hf
        exact hret _ _ _ _ dX9_energy_97 hP hD hS
      · have hf := it_f c_3 hf
        refine lv_lload_n hx hb dX9_energy_30 rfl (lv_at hl 2 rfl) ?_
        refine lv_iload_n hx hb dX9_energy_31 rfl (lv_at hl 1 rfl) ?_
        refine lv_if_ne (tgt := 63) hx hb dX9_energy_32 (by decide) (fun c_4 => ?_) (fun c_4 => ?_)
        · have hf := it_f c_4 hf
          refine lv_aload_n hx hb dX9_energy_63 rfl (lv_at hl 0 rfl) ?_
          refine rd (ci := 9) (C := RX9) (T := TX9) (N := 19) hx hb hts inX9 hown hK hP 0 1 rfl rfl (by decide) (hts _ q_fX9_19) rfl dX9_energy_64 ?_
          refine rd (ci := 7) (C := RX7) (T := TX7) (N := 8) hx hb hts inX7 hown hK hP 1 2 rfl rfl (by decide) (hts _ q_fX9_177) rfl dX9_energy_67 ?_
          refine lv_iload hx hb dX9_energy_70 (lv_at hl 3 rfl) ?_
          obtain ⟨g_5, hf⟩ := gd_x hf
          refine va_iald hx hb hK hP 6 0 rfl rfl (inb_x g_5) dX9_energy_72 ?_
          refine lv_i2l hx hb dX9_energy_73 rfl ?_
          refine lv_aload_n hx hb dX9_energy_74 rfl (lv_at hl 0 rfl) ?_
          refine rd (ci := 9) (C := RX9) (T := TX9) (N := 19) hx hb hts inX9 hown hK hP 0 1 rfl rfl (by decide) (hts _ q_fX9_19) rfl dX9_energy_75 ?_
          refine rd (ci := 7) (C := RX7) (T := TX7) (N := 8) hx hb hts inX7 hown hK hP 1 3 rfl rfl (by decide) (hts _ q_fX9_180) rfl dX9_energy_78 ?_
          refine lv_iload hx hb dX9_energy_81 (lv_at hl 3 rfl) ?_
          obtain ⟨g_6, hf⟩ := gd_x hf
          refine va_iald hx hb hK hP 5 0 rfl rfl (inb_x g_6) dX9_energy_83 ?_
          refine lv_i2l hx hb dX9_energy_84 rfl ?_
          obtain ⟨r_7, e_8, hf⟩ := bd1_x hf
          refine call_s [.long (Int32.toInt64 (o_wave_wasRe (Int32.toNatClampNeg v4))), .long (Int32.toInt64 (o_wave_wasIm (Int32.toNatClampNeg v4)))] [.long v2] ⟨hx, hb, hml, hown, hts⟩ hK hP hD hS hA hl.1 (tX9_loudness l G cI cJ cZ H.size (Int32.toInt64 (o_wave_wasRe (Int32.toNatClampNeg v4))) (Int32.toInt64 (o_wave_wasIm (Int32.toNatClampNeg v4))) r_7 e_8) (va_cwS 2 hts (gs q_mX9_225 q_s_yX9_loudness q_n_RX9 q_k_yX9_loudness) rfl rfl rfl (by decide +kernel) ⟨by decide, by decide⟩) rfl rfl (Nat.le_of_ble_eq_true rfl) dX9_energy_85 ⟨Nat.zero_le _, Nat.zero_le _⟩ [] [0, 1, 2, 3, 4, 5, 6] [0, 1, 2, 3, 4, 5, 6] rfl rfl (ws2 := (wX9_energy cI cJ cZ h_o h_o_wave h_o_way h_o_wave_im h_o_wave_re h_o_wave_wasIm h_o_wave_wasRe h_o_past h_o_notes h_o_ring h_o_turns h_o_beater h_o_reader h_o_dice h_o_trialWay h_o_trial h_o_otherTrial h_o_sumsRe h_o_sumsIm h_o_tally h_o_image h_o_tape h_o_wave_halved h_o_way_shifts o_imageKept o_taped o_wave_exp o_wave_done o_wave_backward o_way_size o_way_log o_way_wordBits o_way_limit o_way_radix o_way_order o_way_near o_way_seed o_way_stages o_wave_im o_wave_re o_wave_wasIm o_wave_wasRe)) rfl (fun H locs hP hD hS => ?_)
          refine W.eq (g2 := F0 m 88 ls [.long r_7, .long v2]) rfl ?_
          exact j88 (fX9_energy_18 o_way_size o_wave_im o_wave_re o_wave_wasIm o_wave_wasRe n) ih v1 v4 v2 r_7 H locs ls hf hP hD hS (lv_sub hl [0, 1, 3] rfl)
        · have hf := it_t c_4 hf
          refine lv_aload_n hx hb dX9_energy_35 rfl (lv_at hl 0 rfl) ?_
          refine rd (ci := 9) (C := RX9) (T := TX9) (N := 19) hx hb hts inX9 hown hK hP 0 1 rfl rfl (by decide) (hts _ q_fX9_19) rfl dX9_energy_36 ?_
          refine rd (ci := 7) (C := RX7) (T := TX7) (N := 8) hx hb hts inX7 hown hK hP 1 0 rfl rfl (by decide) (hts _ q_fX9_175) rfl dX9_energy_39 ?_
          refine lv_iload hx hb dX9_energy_42 (lv_at hl 3 rfl) ?_
          obtain ⟨g_9, hf⟩ := gd_x hf
          refine va_iald hx hb hK hP 4 0 rfl rfl (inb_x g_9) dX9_energy_44 ?_
          refine lv_i2l hx hb dX9_energy_45 rfl ?_
          refine lv_aload_n hx hb dX9_energy_46 rfl (lv_at hl 0 rfl) ?_
          refine rd (ci := 9) (C := RX9) (T := TX9) (N := 19) hx hb hts inX9 hown hK hP 0 1 rfl rfl (by decide) (hts _ q_fX9_19) rfl dX9_energy_47 ?_
          refine rd (ci := 7) (C := RX7) (T := TX7) (N := 8) hx hb hts inX7 hown hK hP 1 1 rfl rfl (by decide) (hts _ q_fX9_176) rfl dX9_energy_50 ?_
          refine lv_iload hx hb dX9_energy_53 (lv_at hl 3 rfl) ?_
          obtain ⟨g_10, hf⟩ := gd_x hf
          refine va_iald hx hb hK hP 3 0 rfl rfl (inb_x g_10) dX9_energy_55 ?_
          refine lv_i2l hx hb dX9_energy_56 rfl ?_
          obtain ⟨r_11, e_12, hf⟩ := bd1_x hf
          refine call_s [.long (Int32.toInt64 (o_wave_re (Int32.toNatClampNeg v4))), .long (Int32.toInt64 (o_wave_im (Int32.toNatClampNeg v4)))] [.long v2] ⟨hx, hb, hml, hown, hts⟩ hK hP hD hS hA hl.1 (tX9_loudness l G cI cJ cZ H.size (Int32.toInt64 (o_wave_re (Int32.toNatClampNeg v4))) (Int32.toInt64 (o_wave_im (Int32.toNatClampNeg v4))) r_11 e_12) (va_cwS 2 hts (gs q_mX9_225 q_s_yX9_loudness q_n_RX9 q_k_yX9_loudness) rfl rfl rfl (by decide +kernel) ⟨by decide, by decide⟩) rfl rfl (Nat.le_of_ble_eq_true rfl) dX9_energy_57 ⟨Nat.zero_le _, Nat.zero_le _⟩ [] [0, 1, 2, 3, 4, 5, 6] [0, 1, 2, 3, 4, 5, 6] rfl rfl (ws2 := (wX9_energy cI cJ cZ h_o h_o_wave h_o_way h_o_wave_im h_o_wave_re h_o_wave_wasIm h_o_wave_wasRe h_o_past h_o_notes h_o_ring h_o_turns h_o_beater h_o_reader h_o_dice h_o_trialWay h_o_trial h_o_otherTrial h_o_sumsRe h_o_sumsIm h_o_tally h_o_image h_o_tape h_o_wave_halved h_o_way_shifts o_imageKept o_taped o_wave_exp o_wave_done o_wave_backward o_way_size o_way_log o_way_wordBits o_way_limit o_way_radix o_way_order o_way_near o_way_seed o_way_stages o_wave_im o_wave_re o_wave_wasIm o_wave_wasRe)) rfl (fun H locs hP hD hS => ?_)
          refine W.eq (g2 := F0 m 60 ls [.long r_11, .long v2]) rfl ?_
          refine lv_goto (tgt := 88) hx hb dX9_energy_60 (by decide) ?_
          exact j88 (fX9_energy_18 o_way_size o_wave_im o_wave_re o_wave_wasIm o_wave_wasRe n) ih v1 v4 v2 r_11 H locs ls hf hP hD hS (lv_sub hl [0, 1, 3] rfl)
  unfold fX9_energy at hf
  obtain ⟨H, eH⟩ : ∃ H, H = s.heap := ⟨_, rfl⟩
  obtain ⟨locs, elocs⟩ : ∃ z : List Loc, z = [] := ⟨_, rfl⟩
  have hP : va_P G vwCl (wX9_energy cI cJ cZ h_o h_o_wave h_o_way h_o_wave_im h_o_wave_re h_o_wave_wasIm h_o_wave_wasRe h_o_past h_o_notes h_o_ring h_o_turns h_o_beater h_o_reader h_o_dice h_o_trialWay h_o_trial h_o_otherTrial h_o_sumsRe h_o_sumsIm h_o_tally h_o_image h_o_tape h_o_wave_halved h_o_way_shifts o_imageKept o_taped o_wave_exp o_wave_done o_wave_backward o_way_size o_way_log o_way_wordBits o_way_limit o_way_radix o_way_order o_way_near o_way_seed o_way_stages o_wave_im o_wave_re o_wave_wasIm o_wave_wasRe) H := by rw [eH]; exact hP
  have hS : va_S A s.heap H locs := by rw [eH, elocs]; exact hS
  suffices hgo : W p l e ({ frames := 1, cells := 0, slots := 0, locals := 23 } : Room) s m ([.ref h_o, .int p1] : List Value).toArray below meth c H locs 0 0 Q (F0 m 0 ls []) by rw [eH, elocs] at hgo; exact hgo
  clear eH elocs
  refine lv_iload_n hx hb dX9_energy_0 rfl (lv_at hl 1 rfl) ?_
  refine lv_if_lt (tgt := 9) hx hb dX9_energy_1 (by decide) (fun c_1 => ?_) (fun c_1 => ?_)
  · have hf := it_t c_1 hf
    refine lv_ldc2 (v := (-1 : Int64)) hx hb hown (hts _ q_cX9_223) dX9_energy_9 ?_
    cases hf
    exact hret _ _ _ _ dX9_energy_12 hP hD hS
  · have hf := it_f c_1 hf
    refine lv_iload_n hx hb dX9_energy_4 rfl (lv_at hl 1 rfl) ?_
    refine lv_iconst (v := (1 : Int32)) hx hb dX9_energy_5 (by decide) ?_
    refine lv_icmp_le (tgt := 13) hx hb dX9_energy_6 (by decide) (fun c_2 => ?_) (fun c_2 => ?_)
    · have hf := it_t c_2 hf
      refine lv_lconst (v := (0 : Int64)) hx hb dX9_energy_13 (by decide) ?_
      refine lv_lstore_n (lv' := [(2, .long (0 : Int64)), (0, .ref h_o), (1, .int p1)]) hx hb dX9_energy_14 rfl hl (by decide) rfl (fun ls hl => ?_)
      refine lv_iconst (v := (0 : Int32)) hx hb dX9_energy_15 (by decide) ?_
      refine lv_istore (lv' := [(4, .int (0 : Int32)), (2, .long (0 : Int64)), (0, .ref h_o), (1, .int p1)]) hx hb dX9_energy_16 hl (by decide) rfl (fun ls hl => ?_)
      exact j18 FU p1 (0 : Int64) (0 : Int32) H locs ls hf hP hD hS (lv_sub hl [2, 3, 1, 0] rfl)
    · have hf := it_f c_2 hf
      refine lv_ldc2 (v := (-1 : Int64)) hx hb hown (hts _ q_cX9_223) dX9_energy_9 ?_
      cases hf
      exact hret _ _ _ _ dX9_energy_12 hP hD hS
def wX9_over (cI cJ cZ : ClassId) (h_o h_o_wave h_o_way h_o_wave_im h_o_wave_re h_o_past h_o_notes h_o_ring h_o_turns h_o_beater h_o_reader h_o_dice h_o_trialWay h_o_trial h_o_otherTrial h_o_sumsRe h_o_sumsIm h_o_tally h_o_image h_o_tape h_o_wave_wasRe h_o_wave_wasIm h_o_wave_halved h_o_way_shifts : Nat) (o_imageKept : Int32) (o_taped : Int32) (o_wave_exp : Int32) (o_wave_done : Int32) (o_wave_backward : Int32) (o_way_size : Int32) (o_way_log : Int32) (o_way_wordBits : Int32) (o_way_limit : Int32) (o_way_radix : Int32) (o_way_order : Int32) (o_way_near : Int32) (o_way_seed : Int32) (o_way_stages : Int32) (o_wave_im : Nat → Int32) (o_wave_re : Nat → Int32) : va_W := [(h_o, .inr (9, [.ref h_o_way, .ref h_o_wave, .ref h_o_past, .ref h_o_notes, .ref h_o_ring, .ref h_o_turns, .ref h_o_beater, .ref h_o_reader, .ref h_o_dice, .ref h_o_trialWay, .ref h_o_trial, .ref h_o_otherTrial, .ref h_o_sumsRe, .ref h_o_sumsIm, .ref h_o_tally, .ref h_o_image, .int o_imageKept, .ref h_o_tape, .int o_taped])), (h_o_wave, .inr (7, [.ref h_o_wave_re, .ref h_o_wave_im, .ref h_o_wave_wasRe, .ref h_o_wave_wasIm, .ref h_o_wave_halved, .int o_wave_exp, .int o_wave_done, .int o_wave_backward])), (h_o_way, .inr (8, [.int o_way_size, .int o_way_log, .int o_way_wordBits, .int o_way_limit, .int o_way_radix, .int o_way_order, .int o_way_near, .int o_way_seed, .int o_way_stages, .ref h_o_way_shifts])), (h_o_wave_im, .inl (cI, 32, .inl o_wave_im)), (h_o_wave_re, .inl (cI, 32, .inl o_wave_re))]
def fX9_over_53 (o_way_size : Int32) (o_wave_im : Nat → Int32) (o_wave_re : Nat → Int32) (k10 : Int32 → Int32 → Int32 → Option (Int32)) (v1 : Int32) (v2 : Int32) (v3 : Int32) : Option (Int32) :=
  nm (v3 + (1 : Int32)) (fun v3_9 =>
  k10 v1 v2 v3_9)
def fX9_over_10 (o_way_size : Int32) (o_wave_im : Nat → Int32) (o_wave_re : Nat → Int32) : Nat → Int32 → Int32 → Int32 → Option (Int32)
  | 0, _, _, _ => none
  | n + 1, v1, v2, v3 =>
    if o_way_size ≤ v3 then (
      some v2
    ) else (
      gd (inb v3 32) (
      gd (inb v3 32) (
      bd1 (fX9_loudness (Int32.toInt64 (o_wave_re (Int32.toNatClampNeg v3))) (Int32.toInt64 (o_wave_im (Int32.toNatClampNeg v3)))) (fun r_5 =>
      if r_5 < (Int32.toInt64 v1) then (
        fX9_over_53 o_way_size o_wave_im o_wave_re (fX9_over_10 o_way_size o_wave_im o_wave_re n) v1 v2 v3
      ) else (
        nm (v2 + (1 : Int32)) (fun v2_8 =>
        fX9_over_53 o_way_size o_wave_im o_wave_re (fX9_over_10 o_way_size o_wave_im o_wave_re n) v1 v2_8 v3)
      ))))
    )
def fX9_over (o_way_size : Int32) (o_wave_im : Nat → Int32) (o_wave_re : Nat → Int32) (p1 : Int32) : Option (Int32) :=
  if 0 ≤ p1 then (
    fX9_over_10 o_way_size o_wave_im o_wave_re FU p1 (0 : Int32) (0 : Int32)
  ) else (
    some (-1 : Int32)
  )
set_option maxHeartbeats 4000000 in
set_option maxRecDepth 100000 in
theorem tX9_over (l : Launch) (G : va_G) (cI cJ cZ : ClassId) (sz : Nat) (h_o h_o_wave h_o_way h_o_wave_im h_o_wave_re h_o_past h_o_notes h_o_ring h_o_turns h_o_beater h_o_reader h_o_dice h_o_trialWay h_o_trial h_o_otherTrial h_o_sumsRe h_o_sumsIm h_o_tally h_o_image h_o_tape h_o_wave_wasRe h_o_wave_wasIm h_o_wave_halved h_o_way_shifts : Nat) (o_imageKept : Int32) (o_taped : Int32) (o_wave_exp : Int32) (o_wave_done : Int32) (o_wave_backward : Int32) (o_way_size : Int32) (o_way_log : Int32) (o_way_wordBits : Int32) (o_way_limit : Int32) (o_way_radix : Int32) (o_way_order : Int32) (o_way_near : Int32) (o_way_seed : Int32) (o_way_stages : Int32) (o_wave_im : Nat → Int32) (o_wave_re : Nat → Int32) (p1 : Int32) (r : Int32) (hf : fX9_over o_way_size o_wave_im o_wave_re p1 = some r) : Met l yX9_over (Cond.code yX9_over cX9_over 4 (some .int) :: BIG) ({ frames := 1, cells := 0, slots := 0, locals := 23 } : Room) (cP G (TY3 cI cJ cZ) [.ref h_o, .int p1] sz (wX9_over cI cJ cZ h_o h_o_wave h_o_way h_o_wave_im h_o_wave_re h_o_past h_o_notes h_o_ring h_o_turns h_o_beater h_o_reader h_o_dice h_o_trialWay h_o_trial h_o_otherTrial h_o_sumsRe h_o_sumsIm h_o_tally h_o_image h_o_tape h_o_wave_wasRe h_o_wave_wasIm h_o_wave_halved h_o_way_shifts o_imageKept o_taped o_wave_exp o_wave_done o_wave_backward o_way_size o_way_log o_way_wordBits o_way_limit o_way_radix o_way_order o_way_near o_way_seed o_way_stages o_wave_im o_wave_re)) (cQ G (TY3 cI cJ cZ) sz (wX9_over cI cJ cZ h_o h_o_wave h_o_way h_o_wave_im h_o_wave_re h_o_past h_o_notes h_o_ring h_o_turns h_o_beater h_o_reader h_o_dice h_o_trialWay h_o_trial h_o_otherTrial h_o_sumsRe h_o_sumsIm h_o_tally h_o_image h_o_tape h_o_wave_wasRe h_o_wave_wasIm h_o_wave_halved h_o_way_shifts o_imageKept o_taped o_wave_exp o_wave_done o_wave_backward o_way_size o_way_log o_way_wordBits o_way_limit o_way_radix o_way_order o_way_near o_way_seed o_way_stages o_wave_im o_wave_re) (wX9_over cI cJ cZ h_o h_o_wave h_o_way h_o_wave_im h_o_wave_re h_o_past h_o_notes h_o_ring h_o_turns h_o_beater h_o_reader h_o_dice h_o_trialWay h_o_trial h_o_otherTrial h_o_sumsRe h_o_sumsIm h_o_tally h_o_image h_o_tape h_o_wave_wasRe h_o_wave_wasIm h_o_wave_halved h_o_way_shifts o_imageKept o_taped o_wave_exp o_wave_done o_wave_backward o_way_size o_way_log o_way_wordBits o_way_limit o_way_radix o_way_order o_way_near o_way_seed o_way_stages o_wave_im o_wave_re) (some (.int r))) 0 0 (va_A (wX9_over cI cJ cZ h_o h_o_wave h_o_way h_o_wave_im h_o_wave_re h_o_past h_o_notes h_o_ring h_o_turns h_o_beater h_o_reader h_o_dice h_o_trialWay h_o_trial h_o_otherTrial h_o_sumsRe h_o_sumsIm h_o_tally h_o_image h_o_tape h_o_wave_wasRe h_o_wave_wasIm h_o_wave_halved h_o_way_shifts o_imageKept o_taped o_wave_exp o_wave_done o_wave_backward o_way_size o_way_log o_way_wordBits o_way_limit o_way_radix o_way_order o_way_near o_way_seed o_way_stages o_wave_im o_wave_re) sz) := by
  refine met_i (cc := cX9_over) (maxL := 4) (plainFor_of_name (by decide)) (Nat.le_of_ble_eq_true rfl) (fun p e s m below meth c A ls Q hx hb hml hts hown hK hP hD hS hA hl hret => ?_)
  have hown : s.vm.findClass RX9 = some m.cls := hown
  have hl : lv_has ls 4 [(0, .ref h_o), (1, .int p1)] := hl
  have j53 : ∀ (k10 : Int32 → Int32 → Int32 → Option (Int32)), (∀ (v1 : Int32) (v2 : Int32) (v3 : Int32) (H : Heap) (locs : List Loc) (ls : Array Slot), k10 v1 v2 v3 = some r → va_P G vwCl (wX9_over cI cJ cZ h_o h_o_wave h_o_way h_o_wave_im h_o_wave_re h_o_past h_o_notes h_o_ring h_o_turns h_o_beater h_o_reader h_o_dice h_o_trialWay h_o_trial h_o_otherTrial h_o_sumsRe h_o_sumsIm h_o_tally h_o_image h_o_tape h_o_wave_wasRe h_o_wave_wasIm h_o_wave_halved h_o_way_shifts o_imageKept o_taped o_wave_exp o_wave_done o_wave_backward o_way_size o_way_log o_way_wordBits o_way_limit o_way_radix o_way_order o_way_near o_way_seed o_way_stages o_wave_im o_wave_re) H → va_D A (wX9_over cI cJ cZ h_o h_o_wave h_o_way h_o_wave_im h_o_wave_re h_o_past h_o_notes h_o_ring h_o_turns h_o_beater h_o_reader h_o_dice h_o_trialWay h_o_trial h_o_otherTrial h_o_sumsRe h_o_sumsIm h_o_tally h_o_image h_o_tape h_o_wave_wasRe h_o_wave_wasIm h_o_wave_halved h_o_way_shifts o_imageKept o_taped o_wave_exp o_wave_done o_wave_backward o_way_size o_way_log o_way_wordBits o_way_limit o_way_radix o_way_order o_way_near o_way_seed o_way_stages o_wave_im o_wave_re) → va_S A s.heap H locs → lv_has ls 4 [(0, .ref h_o), (1, .int v1), (2, .int v2), (3, .int v3)] → W p l e ({ frames := 1, cells := 0, slots := 0, locals := 23 } : Room) s m ([.ref h_o, .int p1] : List Value).toArray below meth c H locs 0 0 Q (F0 m 10 ls [])) → ∀ (v1 : Int32) (v2 : Int32) (v3 : Int32) (H : Heap) (locs : List Loc) (ls : Array Slot), fX9_over_53 o_way_size o_wave_im o_wave_re k10 v1 v2 v3 = some r → va_P G vwCl (wX9_over cI cJ cZ h_o h_o_wave h_o_way h_o_wave_im h_o_wave_re h_o_past h_o_notes h_o_ring h_o_turns h_o_beater h_o_reader h_o_dice h_o_trialWay h_o_trial h_o_otherTrial h_o_sumsRe h_o_sumsIm h_o_tally h_o_image h_o_tape h_o_wave_wasRe h_o_wave_wasIm h_o_wave_halved h_o_way_shifts o_imageKept o_taped o_wave_exp o_wave_done o_wave_backward o_way_size o_way_log o_way_wordBits o_way_limit o_way_radix o_way_order o_way_near o_way_seed o_way_stages o_wave_im o_wave_re) H → va_D A (wX9_over cI cJ cZ h_o h_o_wave h_o_way h_o_wave_im h_o_wave_re h_o_past h_o_notes h_o_ring h_o_turns h_o_beater h_o_reader h_o_dice h_o_trialWay h_o_trial h_o_otherTrial h_o_sumsRe h_o_sumsIm h_o_tally h_o_image h_o_tape h_o_wave_wasRe h_o_wave_wasIm h_o_wave_halved h_o_way_shifts o_imageKept o_taped o_wave_exp o_wave_done o_wave_backward o_way_size o_way_log o_way_wordBits o_way_limit o_way_radix o_way_order o_way_near o_way_seed o_way_stages o_wave_im o_wave_re) → va_S A s.heap H locs → lv_has ls 4 [(0, .ref h_o), (1, .int v1), (2, .int v2), (3, .int v3)] → W p l e ({ frames := 1, cells := 0, slots := 0, locals := 23 } : Room) s m ([.ref h_o, .int p1] : List Value).toArray below meth c H locs 0 0 Q (F0 m 53 ls []) := by
    intro k10 hk10 v1 v2 v3 H locs ls hf hP hD hS hl
    unfold fX9_over_53 at hf
    obtain ⟨v3_9, ev3_9⟩ : ∃ y : Int32, y = v3 + (1 : Int32) := ⟨_, rfl⟩
    have hf := nm_x ev3_9 hf
    refine lv_iinc (v := v3_9) (lv' := [(3, .int v3_9), (0, .ref h_o), (1, .int v1), (2, .int v2)]) hx hb dX9_over_53 hl (k := 3) rfl (by rw [ev3_9]; rfl) (by decide) rfl (fun ls hl => ?_)
    refine lv_goto (tgt := 10) hx hb dX9_over_56 (by decide) ?_
    exact hk10 v1 v2 v3_9 H locs ls hf hP hD hS (lv_sub hl [1, 2, 3, 0] rfl)
  have j10 : ∀ (n : Nat) (v1 : Int32) (v2 : Int32) (v3 : Int32) (H : Heap) (locs : List Loc) (ls : Array Slot), fX9_over_10 o_way_size o_wave_im o_wave_re n v1 v2 v3 = some r → va_P G vwCl (wX9_over cI cJ cZ h_o h_o_wave h_o_way h_o_wave_im h_o_wave_re h_o_past h_o_notes h_o_ring h_o_turns h_o_beater h_o_reader h_o_dice h_o_trialWay h_o_trial h_o_otherTrial h_o_sumsRe h_o_sumsIm h_o_tally h_o_image h_o_tape h_o_wave_wasRe h_o_wave_wasIm h_o_wave_halved h_o_way_shifts o_imageKept o_taped o_wave_exp o_wave_done o_wave_backward o_way_size o_way_log o_way_wordBits o_way_limit o_way_radix o_way_order o_way_near o_way_seed o_way_stages o_wave_im o_wave_re) H → va_D A (wX9_over cI cJ cZ h_o h_o_wave h_o_way h_o_wave_im h_o_wave_re h_o_past h_o_notes h_o_ring h_o_turns h_o_beater h_o_reader h_o_dice h_o_trialWay h_o_trial h_o_otherTrial h_o_sumsRe h_o_sumsIm h_o_tally h_o_image h_o_tape h_o_wave_wasRe h_o_wave_wasIm h_o_wave_halved h_o_way_shifts o_imageKept o_taped o_wave_exp o_wave_done o_wave_backward o_way_size o_way_log o_way_wordBits o_way_limit o_way_radix o_way_order o_way_near o_way_seed o_way_stages o_wave_im o_wave_re) → va_S A s.heap H locs → lv_has ls 4 [(0, .ref h_o), (1, .int v1), (2, .int v2), (3, .int v3)] → W p l e ({ frames := 1, cells := 0, slots := 0, locals := 23 } : Room) s m ([.ref h_o, .int p1] : List Value).toArray below meth c H locs 0 0 Q (F0 m 10 ls []) := by
    intro n
    induction n with
    | zero =>
      intro v1 v2 v3 H locs ls hf
      have hf : (none : Option (Int32)) = some r := hf
      cases hf
    | succ n ih =>
      intro v1 v2 v3 H locs ls hf hP hD hS hl
      rw [fX9_over_10.eq_2] at hf
      refine lv_iload_n hx hb dX9_over_10 rfl (lv_at hl 3 rfl) ?_
      refine lv_aload_n hx hb dX9_over_11 rfl (lv_at hl 0 rfl) ?_
      refine rd (ci := 9) (C := RX9) (T := TX9) (N := 19) hx hb hts inX9 hown hK hP 0 0 rfl rfl (by decide) (hts _ q_fX9_10) rfl dX9_over_12 ?_
      refine rd (ci := 8) (C := RX8) (T := TX8) (N := 10) hx hb hts inX8 hown hK hP 2 0 rfl rfl (by decide) (hts _ q_fX9_115) rfl dX9_over_15 ?_
      refine lv_icmp_ge (tgt := 59) hx hb dX9_over_18 (by decide) (fun c_2 => ?_) (fun c_2 => ?_)
      · have hf := it_t c_2 hf
        refine lv_iload_n hx hb dX9_over_59 rfl (lv_at hl 2 rfl) ?_
        cases hf
        exact hret _ _ _ _ dX9_over_60 hP hD hS
      · have hf := it_f c_2 hf
        refine lv_aload_n hx hb dX9_over_21 rfl (lv_at hl 0 rfl) ?_
        refine rd (ci := 9) (C := RX9) (T := TX9) (N := 19) hx hb hts inX9 hown hK hP 0 1 rfl rfl (by decide) (hts _ q_fX9_19) rfl dX9_over_22 ?_
        refine rd (ci := 7) (C := RX7) (T := TX7) (N := 8) hx hb hts inX7 hown hK hP 1 0 rfl rfl (by decide) (hts _ q_fX9_175) rfl dX9_over_25 ?_
        refine lv_iload_n hx hb dX9_over_28 rfl (lv_at hl 3 rfl) ?_
        obtain ⟨g_3, hf⟩ := gd_x hf
        refine va_iald hx hb hK hP 4 0 rfl rfl (inb_x g_3) dX9_over_29 ?_
        refine lv_i2l hx hb dX9_over_30 rfl ?_
        refine lv_aload_n hx hb dX9_over_31 rfl (lv_at hl 0 rfl) ?_
        refine rd (ci := 9) (C := RX9) (T := TX9) (N := 19) hx hb hts inX9 hown hK hP 0 1 rfl rfl (by decide) (hts _ q_fX9_19) rfl dX9_over_32 ?_
        refine rd (ci := 7) (C := RX7) (T := TX7) (N := 8) hx hb hts inX7 hown hK hP 1 1 rfl rfl (by decide) (hts _ q_fX9_176) rfl dX9_over_35 ?_
        refine lv_iload_n hx hb dX9_over_38 rfl (lv_at hl 3 rfl) ?_
        obtain ⟨g_4, hf⟩ := gd_x hf
        refine va_iald hx hb hK hP 3 0 rfl rfl (inb_x g_4) dX9_over_39 ?_
        refine lv_i2l hx hb dX9_over_40 rfl ?_
        obtain ⟨r_5, e_6, hf⟩ := bd1_x hf
        refine call_s [.long (Int32.toInt64 (o_wave_re (Int32.toNatClampNeg v3))), .long (Int32.toInt64 (o_wave_im (Int32.toNatClampNeg v3)))] [] ⟨hx, hb, hml, hown, hts⟩ hK hP hD hS hA hl.1 (tX9_loudness l G cI cJ cZ H.size (Int32.toInt64 (o_wave_re (Int32.toNatClampNeg v3))) (Int32.toInt64 (o_wave_im (Int32.toNatClampNeg v3))) r_5 e_6) (va_cwS 2 hts (gs q_mX9_225 q_s_yX9_loudness q_n_RX9 q_k_yX9_loudness) rfl rfl rfl (by decide +kernel) ⟨by decide, by decide⟩) rfl rfl (Nat.le_of_ble_eq_true rfl) dX9_over_41 ⟨Nat.zero_le _, Nat.zero_le _⟩ [] [0, 1, 2, 3, 4] [0, 1, 2, 3, 4] rfl rfl (ws2 := (wX9_over cI cJ cZ h_o h_o_wave h_o_way h_o_wave_im h_o_wave_re h_o_past h_o_notes h_o_ring h_o_turns h_o_beater h_o_reader h_o_dice h_o_trialWay h_o_trial h_o_otherTrial h_o_sumsRe h_o_sumsIm h_o_tally h_o_image h_o_tape h_o_wave_wasRe h_o_wave_wasIm h_o_wave_halved h_o_way_shifts o_imageKept o_taped o_wave_exp o_wave_done o_wave_backward o_way_size o_way_log o_way_wordBits o_way_limit o_way_radix o_way_order o_way_near o_way_seed o_way_stages o_wave_im o_wave_re)) rfl (fun H locs hP hD hS => ?_)
        refine W.eq (g2 := F0 m 44 ls [.long r_5]) rfl ?_
        refine lv_iload_n hx hb dX9_over_44 rfl (lv_at hl 1 rfl) ?_
        refine lv_i2l hx hb dX9_over_45 rfl ?_
        refine lc_lt (tgt := 53) hx hb dX9_over_46 dX9_over_47 (by decide) (fun c_7 => ?_) (fun c_7 => ?_)
        · have hf := it_t c_7 hf
          exact j53 (fX9_over_10 o_way_size o_wave_im o_wave_re n) ih v1 v2 v3 H locs ls hf hP hD hS (lv_sub hl [0, 1, 2, 3] rfl)
        · have hf := it_f c_7 hf
          obtain ⟨v2_8, ev2_8⟩ : ∃ y : Int32, y = v2 + (1 : Int32) := ⟨_, rfl⟩
          have hf := nm_x ev2_8 hf
          refine lv_iinc (v := v2_8) (lv' := [(2, .int v2_8), (0, .ref h_o), (1, .int v1), (3, .int v3)]) hx hb dX9_over_50 hl (k := 2) rfl (by rw [ev2_8]; rfl) (by decide) rfl (fun ls hl => ?_)
          exact j53 (fX9_over_10 o_way_size o_wave_im o_wave_re n) ih v1 v2_8 v3 H locs ls hf hP hD hS (lv_sub hl [1, 2, 0, 3] rfl)
  unfold fX9_over at hf
  obtain ⟨H, eH⟩ : ∃ H, H = s.heap := ⟨_, rfl⟩
  obtain ⟨locs, elocs⟩ : ∃ z : List Loc, z = [] := ⟨_, rfl⟩
  have hP : va_P G vwCl (wX9_over cI cJ cZ h_o h_o_wave h_o_way h_o_wave_im h_o_wave_re h_o_past h_o_notes h_o_ring h_o_turns h_o_beater h_o_reader h_o_dice h_o_trialWay h_o_trial h_o_otherTrial h_o_sumsRe h_o_sumsIm h_o_tally h_o_image h_o_tape h_o_wave_wasRe h_o_wave_wasIm h_o_wave_halved h_o_way_shifts o_imageKept o_taped o_wave_exp o_wave_done o_wave_backward o_way_size o_way_log o_way_wordBits o_way_limit o_way_radix o_way_order o_way_near o_way_seed o_way_stages o_wave_im o_wave_re) H := by rw [eH]; exact hP
  have hS : va_S A s.heap H locs := by rw [eH, elocs]; exact hS
  suffices hgo : W p l e ({ frames := 1, cells := 0, slots := 0, locals := 23 } : Room) s m ([.ref h_o, .int p1] : List Value).toArray below meth c H locs 0 0 Q (F0 m 0 ls []) by rw [eH, elocs] at hgo; exact hgo
  clear eH elocs
  refine lv_iload_n hx hb dX9_over_0 rfl (lv_at hl 1 rfl) ?_
  refine lv_if_ge (tgt := 6) hx hb dX9_over_1 (by decide) (fun c_1 => ?_) (fun c_1 => ?_)
  · have hf := it_t c_1 hf
    refine lv_iconst (v := (0 : Int32)) hx hb dX9_over_6 (by decide) ?_
    refine lv_istore_n (lv' := [(2, .int (0 : Int32)), (0, .ref h_o), (1, .int p1)]) hx hb dX9_over_7 rfl hl (by decide) rfl (fun ls hl => ?_)
    refine lv_iconst (v := (0 : Int32)) hx hb dX9_over_8 (by decide) ?_
    refine lv_istore_n (lv' := [(3, .int (0 : Int32)), (2, .int (0 : Int32)), (0, .ref h_o), (1, .int p1)]) hx hb dX9_over_9 rfl hl (by decide) rfl (fun ls hl => ?_)
    exact j10 FU p1 (0 : Int32) (0 : Int32) H locs ls hf hP hD hS (lv_sub hl [2, 3, 1, 0] rfl)
  · have hf := it_f c_1 hf
    refine lv_iconst (v := (-1 : Int32)) hx hb dX9_over_4 (by decide) ?_
    cases hf
    exact hret _ _ _ _ dX9_over_5 hP hD hS
def wX9_count (cI cJ cZ : ClassId) (h_o h_o_notes h_o_past h_o_wave h_o_way h_o_ring h_o_turns h_o_beater h_o_reader h_o_dice h_o_trialWay h_o_trial h_o_otherTrial h_o_sumsRe h_o_sumsIm h_o_tally h_o_image h_o_tape h_o_notes_kinds h_o_notes_targets h_o_notes_bins h_o_past_cells h_o_wave_re h_o_wave_im h_o_wave_wasRe h_o_wave_wasIm h_o_wave_halved h_o_way_shifts : Nat) (o_imageKept : Int32) (o_taped : Int32) (o_notes_total : Int32) (o_notes_knownBy : Int32) (o_past_next : Int32) (o_past_held : Int32) (o_wave_exp : Int32) (o_wave_done : Int32) (o_wave_backward : Int32) (o_way_size : Int32) (o_way_log : Int32) (o_way_wordBits : Int32) (o_way_limit : Int32) (o_way_radix : Int32) (o_way_order : Int32) (o_way_near : Int32) (o_way_seed : Int32) (o_way_stages : Int32) : va_W := [(h_o, .inr (9, [.ref h_o_way, .ref h_o_wave, .ref h_o_past, .ref h_o_notes, .ref h_o_ring, .ref h_o_turns, .ref h_o_beater, .ref h_o_reader, .ref h_o_dice, .ref h_o_trialWay, .ref h_o_trial, .ref h_o_otherTrial, .ref h_o_sumsRe, .ref h_o_sumsIm, .ref h_o_tally, .ref h_o_image, .int o_imageKept, .ref h_o_tape, .int o_taped])), (h_o_notes, .inr (2, [.ref h_o_notes_kinds, .ref h_o_notes_targets, .ref h_o_notes_bins, .int o_notes_total, .int o_notes_knownBy])), (h_o_past, .inr (3, [.ref h_o_past_cells, .int o_past_next, .int o_past_held])), (h_o_wave, .inr (7, [.ref h_o_wave_re, .ref h_o_wave_im, .ref h_o_wave_wasRe, .ref h_o_wave_wasIm, .ref h_o_wave_halved, .int o_wave_exp, .int o_wave_done, .int o_wave_backward])), (h_o_way, .inr (8, [.int o_way_size, .int o_way_log, .int o_way_wordBits, .int o_way_limit, .int o_way_radix, .int o_way_order, .int o_way_near, .int o_way_seed, .int o_way_stages, .ref h_o_way_shifts]))]
def fX9_count (o_notes_total : Int32) (o_notes_knownBy : Int32) (o_past_held : Int32) (o_wave_exp : Int32) (o_wave_done : Int32) (o_wave_backward : Int32) (o_way_size : Int32) (o_way_wordBits : Int32) (o_way_limit : Int32) (o_way_radix : Int32) (o_way_order : Int32) (o_way_near : Int32) (o_way_stages : Int32) (p1 : Int32) : Option (Int32) :=
  if p1 = (0 : Int32) then (
    some o_way_size
  ) else (
  if p1 = (1 : Int32) then (
    some o_way_wordBits
  ) else (
  if p1 = (2 : Int32) then (
    some o_way_radix
  ) else (
  if p1 = (3 : Int32) then (
    some o_way_order
  ) else (
  if p1 = (4 : Int32) then (
    some o_way_near
  ) else (
  if p1 = (5 : Int32) then (
    some o_way_stages
  ) else (
  if p1 = (6 : Int32) then (
    some o_wave_done
  ) else (
  if p1 = (7 : Int32) then (
    if o_wave_backward = 0 then (
      some (0 : Int32)
    ) else (
      some (1 : Int32)
    )
  ) else (
  if p1 = (8 : Int32) then (
    some o_wave_exp
  ) else (
  if p1 = (9 : Int32) then (
    some o_way_limit
  ) else (
  if p1 = (10 : Int32) then (
    some o_notes_total
  ) else (
  if p1 = (11 : Int32) then (
    bd1 (fX2_knownNow o_notes_total o_notes_knownBy) (fun r_14 =>
    some r_14)
  ) else (
  if p1 = (12 : Int32) then (
    some o_past_held
  ) else (
  some (-2147483648 : Int32))))))))))))))
set_option maxHeartbeats 4000000 in
set_option maxRecDepth 100000 in
theorem tX9_count (l : Launch) (G : va_G) (cI cJ cZ : ClassId) (sz : Nat) (h_o h_o_notes h_o_past h_o_wave h_o_way h_o_ring h_o_turns h_o_beater h_o_reader h_o_dice h_o_trialWay h_o_trial h_o_otherTrial h_o_sumsRe h_o_sumsIm h_o_tally h_o_image h_o_tape h_o_notes_kinds h_o_notes_targets h_o_notes_bins h_o_past_cells h_o_wave_re h_o_wave_im h_o_wave_wasRe h_o_wave_wasIm h_o_wave_halved h_o_way_shifts : Nat) (o_imageKept : Int32) (o_taped : Int32) (o_notes_total : Int32) (o_notes_knownBy : Int32) (o_past_next : Int32) (o_past_held : Int32) (o_wave_exp : Int32) (o_wave_done : Int32) (o_wave_backward : Int32) (o_way_size : Int32) (o_way_log : Int32) (o_way_wordBits : Int32) (o_way_limit : Int32) (o_way_radix : Int32) (o_way_order : Int32) (o_way_near : Int32) (o_way_seed : Int32) (o_way_stages : Int32) (p1 : Int32) (r : Int32) (hf : fX9_count o_notes_total o_notes_knownBy o_past_held o_wave_exp o_wave_done o_wave_backward o_way_size o_way_wordBits o_way_limit o_way_radix o_way_order o_way_near o_way_stages p1 = some r) : Met l yX9_count (Cond.code yX9_count cX9_count 2 (some .int) :: BIG) ({ frames := 1, cells := 0, slots := 0, locals := 20 } : Room) (cP G (TY3 cI cJ cZ) [.ref h_o, .int p1] sz (wX9_count cI cJ cZ h_o h_o_notes h_o_past h_o_wave h_o_way h_o_ring h_o_turns h_o_beater h_o_reader h_o_dice h_o_trialWay h_o_trial h_o_otherTrial h_o_sumsRe h_o_sumsIm h_o_tally h_o_image h_o_tape h_o_notes_kinds h_o_notes_targets h_o_notes_bins h_o_past_cells h_o_wave_re h_o_wave_im h_o_wave_wasRe h_o_wave_wasIm h_o_wave_halved h_o_way_shifts o_imageKept o_taped o_notes_total o_notes_knownBy o_past_next o_past_held o_wave_exp o_wave_done o_wave_backward o_way_size o_way_log o_way_wordBits o_way_limit o_way_radix o_way_order o_way_near o_way_seed o_way_stages)) (cQ G (TY3 cI cJ cZ) sz (wX9_count cI cJ cZ h_o h_o_notes h_o_past h_o_wave h_o_way h_o_ring h_o_turns h_o_beater h_o_reader h_o_dice h_o_trialWay h_o_trial h_o_otherTrial h_o_sumsRe h_o_sumsIm h_o_tally h_o_image h_o_tape h_o_notes_kinds h_o_notes_targets h_o_notes_bins h_o_past_cells h_o_wave_re h_o_wave_im h_o_wave_wasRe h_o_wave_wasIm h_o_wave_halved h_o_way_shifts o_imageKept o_taped o_notes_total o_notes_knownBy o_past_next o_past_held o_wave_exp o_wave_done o_wave_backward o_way_size o_way_log o_way_wordBits o_way_limit o_way_radix o_way_order o_way_near o_way_seed o_way_stages) (wX9_count cI cJ cZ h_o h_o_notes h_o_past h_o_wave h_o_way h_o_ring h_o_turns h_o_beater h_o_reader h_o_dice h_o_trialWay h_o_trial h_o_otherTrial h_o_sumsRe h_o_sumsIm h_o_tally h_o_image h_o_tape h_o_notes_kinds h_o_notes_targets h_o_notes_bins h_o_past_cells h_o_wave_re h_o_wave_im h_o_wave_wasRe h_o_wave_wasIm h_o_wave_halved h_o_way_shifts o_imageKept o_taped o_notes_total o_notes_knownBy o_past_next o_past_held o_wave_exp o_wave_done o_wave_backward o_way_size o_way_log o_way_wordBits o_way_limit o_way_radix o_way_order o_way_near o_way_seed o_way_stages) (some (.int r))) 0 0 (va_A (wX9_count cI cJ cZ h_o h_o_notes h_o_past h_o_wave h_o_way h_o_ring h_o_turns h_o_beater h_o_reader h_o_dice h_o_trialWay h_o_trial h_o_otherTrial h_o_sumsRe h_o_sumsIm h_o_tally h_o_image h_o_tape h_o_notes_kinds h_o_notes_targets h_o_notes_bins h_o_past_cells h_o_wave_re h_o_wave_im h_o_wave_wasRe h_o_wave_wasIm h_o_wave_halved h_o_way_shifts o_imageKept o_taped o_notes_total o_notes_knownBy o_past_next o_past_held o_wave_exp o_wave_done o_wave_backward o_way_size o_way_log o_way_wordBits o_way_limit o_way_radix o_way_order o_way_near o_way_seed o_way_stages) sz) := by
  refine met_i (cc := cX9_count) (maxL := 2) (plainFor_of_name (by decide)) (Nat.le_of_ble_eq_true rfl) (fun p e s m below meth c A ls Q hx hb hml hts hown hK hP hD hS hA hl hret => ?_)
  have hown : s.vm.findClass RX9 = some m.cls := hown
  have hl : lv_has ls 2 [(0, .ref h_o), (1, .int p1)] := hl
  unfold fX9_count at hf
  obtain ⟨H, eH⟩ : ∃ H, H = s.heap := ⟨_, rfl⟩
  obtain ⟨locs, elocs⟩ : ∃ z : List Loc, z = [] := ⟨_, rfl⟩
  have hP : va_P G vwCl (wX9_count cI cJ cZ h_o h_o_notes h_o_past h_o_wave h_o_way h_o_ring h_o_turns h_o_beater h_o_reader h_o_dice h_o_trialWay h_o_trial h_o_otherTrial h_o_sumsRe h_o_sumsIm h_o_tally h_o_image h_o_tape h_o_notes_kinds h_o_notes_targets h_o_notes_bins h_o_past_cells h_o_wave_re h_o_wave_im h_o_wave_wasRe h_o_wave_wasIm h_o_wave_halved h_o_way_shifts o_imageKept o_taped o_notes_total o_notes_knownBy o_past_next o_past_held o_wave_exp o_wave_done o_wave_backward o_way_size o_way_log o_way_wordBits o_way_limit o_way_radix o_way_order o_way_near o_way_seed o_way_stages) H := by rw [eH]; exact hP
  have hS : va_S A s.heap H locs := by rw [eH, elocs]; exact hS
  suffices hgo : W p l e ({ frames := 1, cells := 0, slots := 0, locals := 20 } : Room) s m ([.ref h_o, .int p1] : List Value).toArray below meth c H locs 0 0 Q (F0 m 0 ls []) by rw [eH, elocs] at hgo; exact hgo
  clear eH elocs
  refine lv_iload_n hx hb dX9_count_0 rfl (lv_at hl 1 rfl) ?_
  by_cases c_1 : p1 = (0 : Int32)
  · have hf := it_t c_1 hf
    refine lv_tableIn (tgt := 68) hx hb dX9_count_1 (by rw [c_1]; decide) (by rw [c_1]; decide) (by rw [c_1]; rfl) (by decide) ?_
    refine lv_aload_n hx hb dX9_count_68 rfl (lv_at hl 0 rfl) ?_
    refine rd (ci := 9) (C := RX9) (T := TX9) (N := 19) hx hb hts inX9 hown hK hP 0 0 rfl rfl (by decide) (hts _ q_fX9_10) rfl dX9_count_69 ?_
    refine rd (ci := 8) (C := RX8) (T := TX8) (N := 10) hx hb hts inX8 hown hK hP 4 0 rfl rfl (by decide) (hts _ q_fX9_115) rfl dX9_count_72 ?_
    cases hf
    exact hret _ _ _ _ dX9_count_75 hP hD hS
  have hf := it_f c_1 hf
  by_cases c_2 : p1 = (1 : Int32)
  · have hf := it_t c_2 hf
    refine lv_tableIn (tgt := 76) hx hb dX9_count_1 (by rw [c_2]; decide) (by rw [c_2]; decide) (by rw [c_2]; rfl) (by decide) ?_
    refine lv_aload_n hx hb dX9_count_76 rfl (lv_at hl 0 rfl) ?_
    refine rd (ci := 9) (C := RX9) (T := TX9) (N := 19) hx hb hts inX9 hown hK hP 0 0 rfl rfl (by decide) (hts _ q_fX9_10) rfl dX9_count_77 ?_
    refine rd (ci := 8) (C := RX8) (T := TX8) (N := 10) hx hb hts inX8 hown hK hP 4 2 rfl rfl (by decide) (hts _ q_fX9_229) rfl dX9_count_80 ?_
    cases hf
    exact hret _ _ _ _ dX9_count_83 hP hD hS
  have hf := it_f c_2 hf
  by_cases c_3 : p1 = (2 : Int32)
  · have hf := it_t c_3 hf
    refine lv_tableIn (tgt := 84) hx hb dX9_count_1 (by rw [c_3]; decide) (by rw [c_3]; decide) (by rw [c_3]; rfl) (by decide) ?_
    refine lv_aload_n hx hb dX9_count_84 rfl (lv_at hl 0 rfl) ?_
    refine rd (ci := 9) (C := RX9) (T := TX9) (N := 19) hx hb hts inX9 hown hK hP 0 0 rfl rfl (by decide) (hts _ q_fX9_10) rfl dX9_count_85 ?_
    refine rd (ci := 8) (C := RX8) (T := TX8) (N := 10) hx hb hts inX8 hown hK hP 4 4 rfl rfl (by decide) (hts _ q_fX9_232) rfl dX9_count_88 ?_
    cases hf
    exact hret _ _ _ _ dX9_count_91 hP hD hS
  have hf := it_f c_3 hf
  by_cases c_4 : p1 = (3 : Int32)
  · have hf := it_t c_4 hf
    refine lv_tableIn (tgt := 92) hx hb dX9_count_1 (by rw [c_4]; decide) (by rw [c_4]; decide) (by rw [c_4]; rfl) (by decide) ?_
    refine lv_aload_n hx hb dX9_count_92 rfl (lv_at hl 0 rfl) ?_
    refine rd (ci := 9) (C := RX9) (T := TX9) (N := 19) hx hb hts inX9 hown hK hP 0 0 rfl rfl (by decide) (hts _ q_fX9_10) rfl dX9_count_93 ?_
    refine rd (ci := 8) (C := RX8) (T := TX8) (N := 10) hx hb hts inX8 hown hK hP 4 5 rfl rfl (by decide) (hts _ q_fX9_235) rfl dX9_count_96 ?_
    cases hf
    exact hret _ _ _ _ dX9_count_99 hP hD hS
  have hf := it_f c_4 hf
  by_cases c_5 : p1 = (4 : Int32)
  · have hf := it_t c_5 hf
    refine lv_tableIn (tgt := 100) hx hb dX9_count_1 (by rw [c_5]; decide) (by rw [c_5]; decide) (by rw [c_5]; rfl) (by decide) ?_
    refine lv_aload_n hx hb dX9_count_100 rfl (lv_at hl 0 rfl) ?_
    refine rd (ci := 9) (C := RX9) (T := TX9) (N := 19) hx hb hts inX9 hown hK hP 0 0 rfl rfl (by decide) (hts _ q_fX9_10) rfl dX9_count_101 ?_
    refine rd (ci := 8) (C := RX8) (T := TX8) (N := 10) hx hb hts inX8 hown hK hP 4 6 rfl rfl (by decide) (hts _ q_fX9_238) rfl dX9_count_104 ?_
    cases hf
    exact hret _ _ _ _ dX9_count_107 hP hD hS
  have hf := it_f c_5 hf
  by_cases c_6 : p1 = (5 : Int32)
  · have hf := it_t c_6 hf
    refine lv_tableIn (tgt := 108) hx hb dX9_count_1 (by rw [c_6]; decide) (by rw [c_6]; decide) (by rw [c_6]; rfl) (by decide) ?_
    refine lv_aload_n hx hb dX9_count_108 rfl (lv_at hl 0 rfl) ?_
    refine rd (ci := 9) (C := RX9) (T := TX9) (N := 19) hx hb hts inX9 hown hK hP 0 0 rfl rfl (by decide) (hts _ q_fX9_10) rfl dX9_count_109 ?_
    refine rd (ci := 8) (C := RX8) (T := TX8) (N := 10) hx hb hts inX8 hown hK hP 4 8 rfl rfl (by decide) (hts _ q_fX9_196) rfl dX9_count_112 ?_
    cases hf
    exact hret _ _ _ _ dX9_count_115 hP hD hS
  have hf := it_f c_6 hf
  by_cases c_7 : p1 = (6 : Int32)
  · have hf := it_t c_7 hf
    refine lv_tableIn (tgt := 116) hx hb dX9_count_1 (by rw [c_7]; decide) (by rw [c_7]; decide) (by rw [c_7]; rfl) (by decide) ?_
    refine lv_aload_n hx hb dX9_count_116 rfl (lv_at hl 0 rfl) ?_
    refine rd (ci := 9) (C := RX9) (T := TX9) (N := 19) hx hb hts inX9 hown hK hP 0 1 rfl rfl (by decide) (hts _ q_fX9_19) rfl dX9_count_117 ?_
    refine rd (ci := 7) (C := RX7) (T := TX7) (N := 8) hx hb hts inX7 hown hK hP 3 6 rfl rfl (by decide) (hts _ q_fX9_206) rfl dX9_count_120 ?_
    cases hf
    exact hret _ _ _ _ dX9_count_123 hP hD hS
  have hf := it_f c_7 hf
  by_cases c_8 : p1 = (7 : Int32)
  · have hf := it_t c_8 hf
    refine lv_tableIn (tgt := 124) hx hb dX9_count_1 (by rw [c_8]; decide) (by rw [c_8]; decide) (by rw [c_8]; rfl) (by decide) ?_
    refine lv_aload_n hx hb dX9_count_124 rfl (lv_at hl 0 rfl) ?_
    refine rd (ci := 9) (C := RX9) (T := TX9) (N := 19) hx hb hts inX9 hown hK hP 0 1 rfl rfl (by decide) (hts _ q_fX9_19) rfl dX9_count_125 ?_
    refine rd (ci := 7) (C := RX7) (T := TX7) (N := 8) hx hb hts inX7 hown hK hP 3 7 rfl rfl (by decide) (hts _ q_fX9_241) rfl dX9_count_128 ?_
    refine lv_if_eq (tgt := 138) hx hb dX9_count_131 (by decide) (fun c_9 => ?_) (fun c_9 => ?_)
    · have hf := it_t c_9 hf
      refine lv_iconst (v := (0 : Int32)) hx hb dX9_count_138 (by decide) ?_
      cases hf
      exact hret _ _ _ _ dX9_count_139 hP hD hS
    · have hf := it_f c_9 hf
      refine lv_iconst (v := (1 : Int32)) hx hb dX9_count_134 (by decide) ?_
      refine lv_goto (tgt := 139) hx hb dX9_count_135 (by decide) ?_
      cases hf
      exact hret _ _ _ _ dX9_count_139 hP hD hS
  have hf := it_f c_8 hf
  by_cases c_10 : p1 = (8 : Int32)
  · have hf := it_t c_10 hf
    refine lv_tableIn (tgt := 140) hx hb dX9_count_1 (by rw [c_10]; decide) (by rw [c_10]; decide) (by rw [c_10]; rfl) (by decide) ?_
    refine lv_aload_n hx hb dX9_count_140 rfl (lv_at hl 0 rfl) ?_
    refine rd (ci := 9) (C := RX9) (T := TX9) (N := 19) hx hb hts inX9 hown hK hP 0 1 rfl rfl (by decide) (hts _ q_fX9_19) rfl dX9_count_141 ?_
    refine rd (ci := 7) (C := RX7) (T := TX7) (N := 8) hx hb hts inX7 hown hK hP 3 5 rfl rfl (by decide) (hts _ q_fX9_244) rfl dX9_count_144 ?_
    cases hf
    exact hret _ _ _ _ dX9_count_147 hP hD hS
  have hf := it_f c_10 hf
  by_cases c_11 : p1 = (9 : Int32)
  · have hf := it_t c_11 hf
    refine lv_tableIn (tgt := 148) hx hb dX9_count_1 (by rw [c_11]; decide) (by rw [c_11]; decide) (by rw [c_11]; rfl) (by decide) ?_
    refine lv_aload_n hx hb dX9_count_148 rfl (lv_at hl 0 rfl) ?_
    refine rd (ci := 9) (C := RX9) (T := TX9) (N := 19) hx hb hts inX9 hown hK hP 0 0 rfl rfl (by decide) (hts _ q_fX9_10) rfl dX9_count_149 ?_
    refine rd (ci := 8) (C := RX8) (T := TX8) (N := 10) hx hb hts inX8 hown hK hP 4 3 rfl rfl (by decide) (hts _ q_fX9_220) rfl dX9_count_152 ?_
    cases hf
    exact hret _ _ _ _ dX9_count_155 hP hD hS
  have hf := it_f c_11 hf
  by_cases c_12 : p1 = (10 : Int32)
  · have hf := it_t c_12 hf
    refine lv_tableIn (tgt := 156) hx hb dX9_count_1 (by rw [c_12]; decide) (by rw [c_12]; decide) (by rw [c_12]; rfl) (by decide) ?_
    refine lv_aload_n hx hb dX9_count_156 rfl (lv_at hl 0 rfl) ?_
    refine rd (ci := 9) (C := RX9) (T := TX9) (N := 19) hx hb hts inX9 hown hK hP 0 3 rfl rfl (by decide) (hts _ q_fX9_33) rfl dX9_count_157 ?_
    refine rd (ci := 2) (C := RX2) (T := TX2) (N := 5) hx hb hts inX2 hown hK hP 1 3 rfl rfl (by decide) (hts _ q_fX9_247) rfl dX9_count_160 ?_
    cases hf
    exact hret _ _ _ _ dX9_count_163 hP hD hS
  have hf := it_f c_12 hf
  by_cases c_13 : p1 = (11 : Int32)
  · have hf := it_t c_13 hf
    refine lv_tableIn (tgt := 164) hx hb dX9_count_1 (by rw [c_13]; decide) (by rw [c_13]; decide) (by rw [c_13]; rfl) (by decide) ?_
    refine lv_aload_n hx hb dX9_count_164 rfl (lv_at hl 0 rfl) ?_
    refine rd (ci := 9) (C := RX9) (T := TX9) (N := 19) hx hb hts inX9 hown hK hP 0 3 rfl rfl (by decide) (hts _ q_fX9_33) rfl dX9_count_165 ?_
    obtain ⟨r_14, e_15, hf⟩ := bd1_x hf
    refine call_v [] [] ⟨hx, hb, hml, hown, hts⟩ hK hP hD hS hA hl.1 (tX2_knownNow l G cI cJ cZ H.size h_o_notes h_o_notes_kinds h_o_notes_targets h_o_notes_bins o_notes_total o_notes_knownBy r_14 e_15) (cwV 0 hts (gv q_mX9_250 q_i_yX2_knownNow q_s_yX2_knownNow q_n_RX2 q_k_yX2_knownNow) rfl rfl rfl (by decide +kernel) ⟨by decide, by decide⟩) rfl rfl (Nat.le_of_ble_eq_true rfl) dX9_count_168 ⟨Nat.zero_le _, Nat.zero_le _⟩ (ci := 2) rfl 0 rfl [1] [0, 2, 3, 4] [0, 4, 1, 2, 3] rfl rfl (ws2 := (wX9_count cI cJ cZ h_o h_o_notes h_o_past h_o_wave h_o_way h_o_ring h_o_turns h_o_beater h_o_reader h_o_dice h_o_trialWay h_o_trial h_o_otherTrial h_o_sumsRe h_o_sumsIm h_o_tally h_o_image h_o_tape h_o_notes_kinds h_o_notes_targets h_o_notes_bins h_o_past_cells h_o_wave_re h_o_wave_im h_o_wave_wasRe h_o_wave_wasIm h_o_wave_halved h_o_way_shifts o_imageKept o_taped o_notes_total o_notes_knownBy o_past_next o_past_held o_wave_exp o_wave_done o_wave_backward o_way_size o_way_log o_way_wordBits o_way_limit o_way_radix o_way_order o_way_near o_way_seed o_way_stages)) rfl (fun H locs hP hD hS => ?_)
    refine W.eq (g2 := F0 m 171 ls [.int r_14]) rfl ?_
    cases hf
    exact hret _ _ _ _ dX9_count_171 hP hD hS
  have hf := it_f c_13 hf
  by_cases c_16 : p1 = (12 : Int32)
  · have hf := it_t c_16 hf
    refine lv_tableIn (tgt := 172) hx hb dX9_count_1 (by rw [c_16]; decide) (by rw [c_16]; decide) (by rw [c_16]; rfl) (by decide) ?_
    refine lv_aload_n hx hb dX9_count_172 rfl (lv_at hl 0 rfl) ?_
    refine rd (ci := 9) (C := RX9) (T := TX9) (N := 19) hx hb hts inX9 hown hK hP 0 2 rfl rfl (by decide) (hts _ q_fX9_26) rfl dX9_count_173 ?_
    refine rd (ci := 3) (C := RX3) (T := TX3) (N := 3) hx hb hts inX3 hown hK hP 2 2 rfl rfl (by decide) (hts _ q_fX9_254) rfl dX9_count_176 ?_
    cases hf
    exact hret _ _ _ _ dX9_count_179 hP hD hS
  have hf := it_f c_16 hf
  refine lv_tableOut (tgt := 180) hx hb dX9_count_1 (by have q0 := lv_neT (a := 0) c_1 rfl; have q1 := lv_neT (a := 1) c_2 rfl; have q2 := lv_neT (a := 2) c_3 rfl; have q3 := lv_neT (a := 3) c_4 rfl; have q4 := lv_neT (a := 4) c_5 rfl; have q5 := lv_neT (a := 5) c_6 rfl; have q6 := lv_neT (a := 6) c_7 rfl; have q7 := lv_neT (a := 7) c_8 rfl; have q8 := lv_neT (a := 8) c_10 rfl; have q9 := lv_neT (a := 9) c_11 rfl; have q10 := lv_neT (a := 10) c_12 rfl; have q11 := lv_neT (a := 11) c_13 rfl; have q12 := lv_neT (a := 12) c_16 rfl; omega) (by decide) ?_
  refine lv_ldc (v := (-2147483648 : Int32)) hx hb hown (hts _ q_cX9_185) dX9_count_180 ?_
  cases hf
  exact hret _ _ _ _ dX9_count_182 hP hD hS
def wX9_mirrored (cI cJ cZ : ClassId) (h_o h_o_way h_o_wave h_o_past h_o_notes h_o_ring h_o_turns h_o_beater h_o_reader h_o_dice h_o_trialWay h_o_trial h_o_otherTrial h_o_sumsRe h_o_sumsIm h_o_tally h_o_image h_o_tape h_o_way_shifts : Nat) (o_imageKept : Int32) (o_taped : Int32) (o_way_size : Int32) (o_way_log : Int32) (o_way_wordBits : Int32) (o_way_limit : Int32) (o_way_radix : Int32) (o_way_order : Int32) (o_way_near : Int32) (o_way_seed : Int32) (o_way_stages : Int32) : va_W := [(h_o, .inr (9, [.ref h_o_way, .ref h_o_wave, .ref h_o_past, .ref h_o_notes, .ref h_o_ring, .ref h_o_turns, .ref h_o_beater, .ref h_o_reader, .ref h_o_dice, .ref h_o_trialWay, .ref h_o_trial, .ref h_o_otherTrial, .ref h_o_sumsRe, .ref h_o_sumsIm, .ref h_o_tally, .ref h_o_image, .int o_imageKept, .ref h_o_tape, .int o_taped])), (h_o_way, .inr (8, [.int o_way_size, .int o_way_log, .int o_way_wordBits, .int o_way_limit, .int o_way_radix, .int o_way_order, .int o_way_near, .int o_way_seed, .int o_way_stages, .ref h_o_way_shifts]))]
def fX9_mirrored (o_way_size : Int32) (p1 : Int32) : Option (Int32) :=
  some ((-p1) &&& (o_way_size - (1 : Int32)))
set_option maxHeartbeats 4000000 in
set_option maxRecDepth 100000 in
theorem tX9_mirrored (l : Launch) (G : va_G) (cI cJ cZ : ClassId) (sz : Nat) (h_o h_o_way h_o_wave h_o_past h_o_notes h_o_ring h_o_turns h_o_beater h_o_reader h_o_dice h_o_trialWay h_o_trial h_o_otherTrial h_o_sumsRe h_o_sumsIm h_o_tally h_o_image h_o_tape h_o_way_shifts : Nat) (o_imageKept : Int32) (o_taped : Int32) (o_way_size : Int32) (o_way_log : Int32) (o_way_wordBits : Int32) (o_way_limit : Int32) (o_way_radix : Int32) (o_way_order : Int32) (o_way_near : Int32) (o_way_seed : Int32) (o_way_stages : Int32) (p1 : Int32) (r : Int32) (hf : fX9_mirrored o_way_size p1 = some r) : Met l yX9_mirrored (Cond.code yX9_mirrored cX9_mirrored 2 (some .int) :: BIG) ({ frames := 0, cells := 0, slots := 0, locals := 0 } : Room) (cP G (TY3 cI cJ cZ) [.ref h_o, .int p1] sz (wX9_mirrored cI cJ cZ h_o h_o_way h_o_wave h_o_past h_o_notes h_o_ring h_o_turns h_o_beater h_o_reader h_o_dice h_o_trialWay h_o_trial h_o_otherTrial h_o_sumsRe h_o_sumsIm h_o_tally h_o_image h_o_tape h_o_way_shifts o_imageKept o_taped o_way_size o_way_log o_way_wordBits o_way_limit o_way_radix o_way_order o_way_near o_way_seed o_way_stages)) (cQ G (TY3 cI cJ cZ) sz (wX9_mirrored cI cJ cZ h_o h_o_way h_o_wave h_o_past h_o_notes h_o_ring h_o_turns h_o_beater h_o_reader h_o_dice h_o_trialWay h_o_trial h_o_otherTrial h_o_sumsRe h_o_sumsIm h_o_tally h_o_image h_o_tape h_o_way_shifts o_imageKept o_taped o_way_size o_way_log o_way_wordBits o_way_limit o_way_radix o_way_order o_way_near o_way_seed o_way_stages) (wX9_mirrored cI cJ cZ h_o h_o_way h_o_wave h_o_past h_o_notes h_o_ring h_o_turns h_o_beater h_o_reader h_o_dice h_o_trialWay h_o_trial h_o_otherTrial h_o_sumsRe h_o_sumsIm h_o_tally h_o_image h_o_tape h_o_way_shifts o_imageKept o_taped o_way_size o_way_log o_way_wordBits o_way_limit o_way_radix o_way_order o_way_near o_way_seed o_way_stages) (some (.int r))) 0 0 (va_A (wX9_mirrored cI cJ cZ h_o h_o_way h_o_wave h_o_past h_o_notes h_o_ring h_o_turns h_o_beater h_o_reader h_o_dice h_o_trialWay h_o_trial h_o_otherTrial h_o_sumsRe h_o_sumsIm h_o_tally h_o_image h_o_tape h_o_way_shifts o_imageKept o_taped o_way_size o_way_log o_way_wordBits o_way_limit o_way_radix o_way_order o_way_near o_way_seed o_way_stages) sz) := by
  refine met_i (cc := cX9_mirrored) (maxL := 2) (plainFor_of_name (by decide)) (Nat.le_of_ble_eq_true rfl) (fun p e s m below meth c A ls Q hx hb hml hts hown hK hP hD hS hA hl hret => ?_)
  have hown : s.vm.findClass RX9 = some m.cls := hown
  have hl : lv_has ls 2 [(0, .ref h_o), (1, .int p1)] := hl
  unfold fX9_mirrored at hf
  obtain ⟨H, eH⟩ : ∃ H, H = s.heap := ⟨_, rfl⟩
  obtain ⟨locs, elocs⟩ : ∃ z : List Loc, z = [] := ⟨_, rfl⟩
  have hP : va_P G vwCl (wX9_mirrored cI cJ cZ h_o h_o_way h_o_wave h_o_past h_o_notes h_o_ring h_o_turns h_o_beater h_o_reader h_o_dice h_o_trialWay h_o_trial h_o_otherTrial h_o_sumsRe h_o_sumsIm h_o_tally h_o_image h_o_tape h_o_way_shifts o_imageKept o_taped o_way_size o_way_log o_way_wordBits o_way_limit o_way_radix o_way_order o_way_near o_way_seed o_way_stages) H := by rw [eH]; exact hP
  have hS : va_S A s.heap H locs := by rw [eH, elocs]; exact hS
  suffices hgo : W p l e ({ frames := 0, cells := 0, slots := 0, locals := 0 } : Room) s m ([.ref h_o, .int p1] : List Value).toArray below meth c H locs 0 0 Q (F0 m 0 ls []) by rw [eH, elocs] at hgo; exact hgo
  clear eH elocs
  refine lv_iload_n hx hb dX9_mirrored_0 rfl (lv_at hl 1 rfl) ?_
  refine lv_ineg hx hb dX9_mirrored_1 ?_
  refine lv_aload_n hx hb dX9_mirrored_2 rfl (lv_at hl 0 rfl) ?_
  refine rd (ci := 9) (C := RX9) (T := TX9) (N := 19) hx hb hts inX9 hown hK hP 0 0 rfl rfl (by decide) (hts _ q_fX9_10) rfl dX9_mirrored_3 ?_
  refine rd (ci := 8) (C := RX8) (T := TX8) (N := 10) hx hb hts inX8 hown hK hP 1 0 rfl rfl (by decide) (hts _ q_fX9_115) rfl dX9_mirrored_6 ?_
  refine lv_iconst (v := (1 : Int32)) hx hb dX9_mirrored_9 (by decide) ?_
  refine lv_isub hx hb dX9_mirrored_10 ?_
  refine lv_iand hx hb dX9_mirrored_11 ?_
  cases hf
  exact hret _ _ _ _ dX9_mirrored_12 hP hD hS
def wX9_isFresh (cI cJ cZ : ClassId) (h_o h_o_wave h_o_way h_o_past h_o_notes h_o_ring h_o_turns h_o_beater h_o_reader h_o_dice h_o_trialWay h_o_trial h_o_otherTrial h_o_sumsRe h_o_sumsIm h_o_tally h_o_image h_o_tape h_o_wave_re h_o_wave_im h_o_wave_wasRe h_o_wave_wasIm h_o_wave_halved : Nat) (o_imageKept : Int32) (o_taped : Int32) (o_wave_exp : Int32) (o_wave_done : Int32) (o_wave_backward : Int32) : va_W := [(h_o, .inr (9, [.ref h_o_way, .ref h_o_wave, .ref h_o_past, .ref h_o_notes, .ref h_o_ring, .ref h_o_turns, .ref h_o_beater, .ref h_o_reader, .ref h_o_dice, .ref h_o_trialWay, .ref h_o_trial, .ref h_o_otherTrial, .ref h_o_sumsRe, .ref h_o_sumsIm, .ref h_o_tally, .ref h_o_image, .int o_imageKept, .ref h_o_tape, .int o_taped])), (h_o_wave, .inr (7, [.ref h_o_wave_re, .ref h_o_wave_im, .ref h_o_wave_wasRe, .ref h_o_wave_wasIm, .ref h_o_wave_halved, .int o_wave_exp, .int o_wave_done, .int o_wave_backward]))]
def fX9_isFresh (o_wave_done : Int32) (o_wave_backward : Int32) : Option (Int32) :=
  if o_wave_done = 0 then (
    if o_wave_backward = 0 then (
      some (1 : Int32)
    ) else (
      some (0 : Int32)
    )
  ) else (
    some (0 : Int32)
  )
set_option maxHeartbeats 4000000 in
set_option maxRecDepth 100000 in
theorem tX9_isFresh (l : Launch) (G : va_G) (cI cJ cZ : ClassId) (sz : Nat) (h_o h_o_wave h_o_way h_o_past h_o_notes h_o_ring h_o_turns h_o_beater h_o_reader h_o_dice h_o_trialWay h_o_trial h_o_otherTrial h_o_sumsRe h_o_sumsIm h_o_tally h_o_image h_o_tape h_o_wave_re h_o_wave_im h_o_wave_wasRe h_o_wave_wasIm h_o_wave_halved : Nat) (o_imageKept : Int32) (o_taped : Int32) (o_wave_exp : Int32) (o_wave_done : Int32) (o_wave_backward : Int32) (r : Int32) (hf : fX9_isFresh o_wave_done o_wave_backward = some r) : Met l yX9_isFresh (Cond.code yX9_isFresh cX9_isFresh 1 (some .boolean) :: BIG) ({ frames := 0, cells := 0, slots := 0, locals := 0 } : Room) (cP G (TY3 cI cJ cZ) [.ref h_o] sz (wX9_isFresh cI cJ cZ h_o h_o_wave h_o_way h_o_past h_o_notes h_o_ring h_o_turns h_o_beater h_o_reader h_o_dice h_o_trialWay h_o_trial h_o_otherTrial h_o_sumsRe h_o_sumsIm h_o_tally h_o_image h_o_tape h_o_wave_re h_o_wave_im h_o_wave_wasRe h_o_wave_wasIm h_o_wave_halved o_imageKept o_taped o_wave_exp o_wave_done o_wave_backward)) (cQ G (TY3 cI cJ cZ) sz (wX9_isFresh cI cJ cZ h_o h_o_wave h_o_way h_o_past h_o_notes h_o_ring h_o_turns h_o_beater h_o_reader h_o_dice h_o_trialWay h_o_trial h_o_otherTrial h_o_sumsRe h_o_sumsIm h_o_tally h_o_image h_o_tape h_o_wave_re h_o_wave_im h_o_wave_wasRe h_o_wave_wasIm h_o_wave_halved o_imageKept o_taped o_wave_exp o_wave_done o_wave_backward) (wX9_isFresh cI cJ cZ h_o h_o_wave h_o_way h_o_past h_o_notes h_o_ring h_o_turns h_o_beater h_o_reader h_o_dice h_o_trialWay h_o_trial h_o_otherTrial h_o_sumsRe h_o_sumsIm h_o_tally h_o_image h_o_tape h_o_wave_re h_o_wave_im h_o_wave_wasRe h_o_wave_wasIm h_o_wave_halved o_imageKept o_taped o_wave_exp o_wave_done o_wave_backward) (some (.int r))) 0 0 (va_A (wX9_isFresh cI cJ cZ h_o h_o_wave h_o_way h_o_past h_o_notes h_o_ring h_o_turns h_o_beater h_o_reader h_o_dice h_o_trialWay h_o_trial h_o_otherTrial h_o_sumsRe h_o_sumsIm h_o_tally h_o_image h_o_tape h_o_wave_re h_o_wave_im h_o_wave_wasRe h_o_wave_wasIm h_o_wave_halved o_imageKept o_taped o_wave_exp o_wave_done o_wave_backward) sz) := by
  refine met_z (cc := cX9_isFresh) (maxL := 1) (plainFor_of_name (by decide)) (Nat.le_of_ble_eq_true rfl) (fun p e s m below meth c A ls Q hx hb hml hts hown hK hP hD hS hA hl hret => ?_)
  have hown : s.vm.findClass RX9 = some m.cls := hown
  have hl : lv_has ls 1 [(0, .ref h_o)] := hl
  unfold fX9_isFresh at hf
  obtain ⟨H, eH⟩ : ∃ H, H = s.heap := ⟨_, rfl⟩
  obtain ⟨locs, elocs⟩ : ∃ z : List Loc, z = [] := ⟨_, rfl⟩
  have hP : va_P G vwCl (wX9_isFresh cI cJ cZ h_o h_o_wave h_o_way h_o_past h_o_notes h_o_ring h_o_turns h_o_beater h_o_reader h_o_dice h_o_trialWay h_o_trial h_o_otherTrial h_o_sumsRe h_o_sumsIm h_o_tally h_o_image h_o_tape h_o_wave_re h_o_wave_im h_o_wave_wasRe h_o_wave_wasIm h_o_wave_halved o_imageKept o_taped o_wave_exp o_wave_done o_wave_backward) H := by rw [eH]; exact hP
  have hS : va_S A s.heap H locs := by rw [eH, elocs]; exact hS
  suffices hgo : W p l e ({ frames := 0, cells := 0, slots := 0, locals := 0 } : Room) s m ([.ref h_o] : List Value).toArray below meth c H locs 0 0 Q (F0 m 0 ls []) by rw [eH, elocs] at hgo; exact hgo
  clear eH elocs
  refine lv_aload_n hx hb dX9_isFresh_0 rfl (lv_at hl 0 rfl) ?_
  refine rd (ci := 9) (C := RX9) (T := TX9) (N := 19) hx hb hts inX9 hown hK hP 0 1 rfl rfl (by decide) (hts _ q_fX9_19) rfl dX9_isFresh_1 ?_
  refine rd (ci := 7) (C := RX7) (T := TX7) (N := 8) hx hb hts inX7 hown hK hP 1 6 rfl rfl (by decide) (hts _ q_fX9_206) rfl dX9_isFresh_4 ?_
  refine lv_if_ne (tgt := 24) hx hb dX9_isFresh_7 (by decide) (fun c_1 => ?_) (fun c_1 => ?_)
  · have hf := it_f c_1 hf
    refine lv_iconst (v := (0 : Int32)) hx hb dX9_isFresh_24 (by decide) ?_
    cases hf
    exact hret _ _ _ _ dX9_isFresh_25 rfl hP hD hS
  · have hf := it_t c_1 hf
    refine lv_aload_n hx hb dX9_isFresh_10 rfl (lv_at hl 0 rfl) ?_
    refine rd (ci := 9) (C := RX9) (T := TX9) (N := 19) hx hb hts inX9 hown hK hP 0 1 rfl rfl (by decide) (hts _ q_fX9_19) rfl dX9_isFresh_11 ?_
    refine rd (ci := 7) (C := RX7) (T := TX7) (N := 8) hx hb hts inX7 hown hK hP 1 7 rfl rfl (by decide) (hts _ q_fX9_241) rfl dX9_isFresh_14 ?_
    refine lv_if_ne (tgt := 24) hx hb dX9_isFresh_17 (by decide) (fun c_2 => ?_) (fun c_2 => ?_)
    · have hf := it_f c_2 hf
      refine lv_iconst (v := (0 : Int32)) hx hb dX9_isFresh_24 (by decide) ?_
      cases hf
      exact hret _ _ _ _ dX9_isFresh_25 rfl hP hD hS
    · have hf := it_t c_2 hf
      refine lv_iconst (v := (1 : Int32)) hx hb dX9_isFresh_20 (by decide) ?_
      refine lv_goto (tgt := 25) hx hb dX9_isFresh_21 (by decide) ?_
      cases hf
      exact hret _ _ _ _ dX9_isFresh_25 rfl hP hD hS
def wX9_isInWord (cI cJ cZ : ClassId) (h_o h_o_way h_o_wave h_o_past h_o_notes h_o_ring h_o_turns h_o_beater h_o_reader h_o_dice h_o_trialWay h_o_trial h_o_otherTrial h_o_sumsRe h_o_sumsIm h_o_tally h_o_image h_o_tape h_o_way_shifts : Nat) (o_imageKept : Int32) (o_taped : Int32) (o_way_size : Int32) (o_way_log : Int32) (o_way_wordBits : Int32) (o_way_limit : Int32) (o_way_radix : Int32) (o_way_order : Int32) (o_way_near : Int32) (o_way_seed : Int32) (o_way_stages : Int32) : va_W := [(h_o, .inr (9, [.ref h_o_way, .ref h_o_wave, .ref h_o_past, .ref h_o_notes, .ref h_o_ring, .ref h_o_turns, .ref h_o_beater, .ref h_o_reader, .ref h_o_dice, .ref h_o_trialWay, .ref h_o_trial, .ref h_o_otherTrial, .ref h_o_sumsRe, .ref h_o_sumsIm, .ref h_o_tally, .ref h_o_image, .int o_imageKept, .ref h_o_tape, .int o_taped])), (h_o_way, .inr (8, [.int o_way_size, .int o_way_log, .int o_way_wordBits, .int o_way_limit, .int o_way_radix, .int o_way_order, .int o_way_near, .int o_way_seed, .int o_way_stages, .ref h_o_way_shifts]))]
def fX9_isInWord (o_way_limit : Int32) (p1 : Int64) : Option (Int32) :=
  if (Int32.toInt64 o_way_limit) < p1 then (
    some (0 : Int32)
  ) else (
    if p1 < (Int32.toInt64 (-o_way_limit)) then (
      some (0 : Int32)
    ) else (
      some (1 : Int32)
    )
  )
set_option maxHeartbeats 4000000 in
set_option maxRecDepth 100000 in
theorem tX9_isInWord (l : Launch) (G : va_G) (cI cJ cZ : ClassId) (sz : Nat) (h_o h_o_way h_o_wave h_o_past h_o_notes h_o_ring h_o_turns h_o_beater h_o_reader h_o_dice h_o_trialWay h_o_trial h_o_otherTrial h_o_sumsRe h_o_sumsIm h_o_tally h_o_image h_o_tape h_o_way_shifts : Nat) (o_imageKept : Int32) (o_taped : Int32) (o_way_size : Int32) (o_way_log : Int32) (o_way_wordBits : Int32) (o_way_limit : Int32) (o_way_radix : Int32) (o_way_order : Int32) (o_way_near : Int32) (o_way_seed : Int32) (o_way_stages : Int32) (p1 : Int64) (r : Int32) (hf : fX9_isInWord o_way_limit p1 = some r) : Met l yX9_isInWord (Cond.code yX9_isInWord cX9_isInWord 3 (some .boolean) :: BIG) ({ frames := 0, cells := 0, slots := 0, locals := 0 } : Room) (cP G (TY3 cI cJ cZ) [.ref h_o, .long p1] sz (wX9_isInWord cI cJ cZ h_o h_o_way h_o_wave h_o_past h_o_notes h_o_ring h_o_turns h_o_beater h_o_reader h_o_dice h_o_trialWay h_o_trial h_o_otherTrial h_o_sumsRe h_o_sumsIm h_o_tally h_o_image h_o_tape h_o_way_shifts o_imageKept o_taped o_way_size o_way_log o_way_wordBits o_way_limit o_way_radix o_way_order o_way_near o_way_seed o_way_stages)) (cQ G (TY3 cI cJ cZ) sz (wX9_isInWord cI cJ cZ h_o h_o_way h_o_wave h_o_past h_o_notes h_o_ring h_o_turns h_o_beater h_o_reader h_o_dice h_o_trialWay h_o_trial h_o_otherTrial h_o_sumsRe h_o_sumsIm h_o_tally h_o_image h_o_tape h_o_way_shifts o_imageKept o_taped o_way_size o_way_log o_way_wordBits o_way_limit o_way_radix o_way_order o_way_near o_way_seed o_way_stages) (wX9_isInWord cI cJ cZ h_o h_o_way h_o_wave h_o_past h_o_notes h_o_ring h_o_turns h_o_beater h_o_reader h_o_dice h_o_trialWay h_o_trial h_o_otherTrial h_o_sumsRe h_o_sumsIm h_o_tally h_o_image h_o_tape h_o_way_shifts o_imageKept o_taped o_way_size o_way_log o_way_wordBits o_way_limit o_way_radix o_way_order o_way_near o_way_seed o_way_stages) (some (.int r))) 0 0 (va_A (wX9_isInWord cI cJ cZ h_o h_o_way h_o_wave h_o_past h_o_notes h_o_ring h_o_turns h_o_beater h_o_reader h_o_dice h_o_trialWay h_o_trial h_o_otherTrial h_o_sumsRe h_o_sumsIm h_o_tally h_o_image h_o_tape h_o_way_shifts o_imageKept o_taped o_way_size o_way_log o_way_wordBits o_way_limit o_way_radix o_way_order o_way_near o_way_seed o_way_stages) sz) := by
  refine met_z (cc := cX9_isInWord) (maxL := 3) (plainFor_of_name (by decide)) (Nat.le_of_ble_eq_true rfl) (fun p e s m below meth c A ls Q hx hb hml hts hown hK hP hD hS hA hl hret => ?_)
  have hown : s.vm.findClass RX9 = some m.cls := hown
  have hl : lv_has ls 3 [(0, .ref h_o), (1, .long p1)] := hl
  unfold fX9_isInWord at hf
  obtain ⟨H, eH⟩ : ∃ H, H = s.heap := ⟨_, rfl⟩
  obtain ⟨locs, elocs⟩ : ∃ z : List Loc, z = [] := ⟨_, rfl⟩
  have hP : va_P G vwCl (wX9_isInWord cI cJ cZ h_o h_o_way h_o_wave h_o_past h_o_notes h_o_ring h_o_turns h_o_beater h_o_reader h_o_dice h_o_trialWay h_o_trial h_o_otherTrial h_o_sumsRe h_o_sumsIm h_o_tally h_o_image h_o_tape h_o_way_shifts o_imageKept o_taped o_way_size o_way_log o_way_wordBits o_way_limit o_way_radix o_way_order o_way_near o_way_seed o_way_stages) H := by rw [eH]; exact hP
  have hS : va_S A s.heap H locs := by rw [eH, elocs]; exact hS
  suffices hgo : W p l e ({ frames := 0, cells := 0, slots := 0, locals := 0 } : Room) s m ([.ref h_o, .long p1] : List Value).toArray below meth c H locs 0 0 Q (F0 m 0 ls []) by rw [eH, elocs] at hgo; exact hgo
  clear eH elocs
  refine lv_lload_n hx hb dX9_isInWord_0 rfl (lv_at hl 1 rfl) ?_
  refine lv_aload_n hx hb dX9_isInWord_1 rfl (lv_at hl 0 rfl) ?_
  refine rd (ci := 9) (C := RX9) (T := TX9) (N := 19) hx hb hts inX9 hown hK hP 0 0 rfl rfl (by decide) (hts _ q_fX9_10) rfl dX9_isInWord_2 ?_
  refine rd (ci := 8) (C := RX8) (T := TX8) (N := 10) hx hb hts inX8 hown hK hP 1 3 rfl rfl (by decide) (hts _ q_fX9_220) rfl dX9_isInWord_5 ?_
  refine lv_i2l hx hb dX9_isInWord_8 rfl ?_
  refine lc_gt (tgt := 31) hx hb dX9_isInWord_9 dX9_isInWord_10 (by decide) (fun c_1 => ?_) (fun c_1 => ?_)
  · have hf := it_t c_1 hf
    refine lv_iconst (v := (0 : Int32)) hx hb dX9_isInWord_31 (by decide) ?_
    cases hf
    exact hret _ _ _ _ dX9_isInWord_32 rfl hP hD hS
  · have hf := it_f c_1 hf
    refine lv_lload_n hx hb dX9_isInWord_13 rfl (lv_at hl 1 rfl) ?_
    refine lv_aload_n hx hb dX9_isInWord_14 rfl (lv_at hl 0 rfl) ?_
    refine rd (ci := 9) (C := RX9) (T := TX9) (N := 19) hx hb hts inX9 hown hK hP 0 0 rfl rfl (by decide) (hts _ q_fX9_10) rfl dX9_isInWord_15 ?_
    refine rd (ci := 8) (C := RX8) (T := TX8) (N := 10) hx hb hts inX8 hown hK hP 1 3 rfl rfl (by decide) (hts _ q_fX9_220) rfl dX9_isInWord_18 ?_
    refine lv_ineg hx hb dX9_isInWord_21 ?_
    refine lv_i2l hx hb dX9_isInWord_22 rfl ?_
    refine lc_lt (tgt := 31) hx hb dX9_isInWord_23 dX9_isInWord_24 (by decide) (fun c_2 => ?_) (fun c_2 => ?_)
    · have hf := it_t c_2 hf
      refine lv_iconst (v := (0 : Int32)) hx hb dX9_isInWord_31 (by decide) ?_
      cases hf
      exact hret _ _ _ _ dX9_isInWord_32 rfl hP hD hS
    · have hf := it_f c_2 hf
      refine lv_iconst (v := (1 : Int32)) hx hb dX9_isInWord_27 (by decide) ?_
      refine lv_goto (tgt := 32) hx hb dX9_isInWord_28 (by decide) ?_
      cases hf
      exact hret _ _ _ _ dX9_isInWord_32 rfl hP hD hS
def wX9_set (cI cJ cZ : ClassId) (h_o h_o_past h_o_wave h_o_way h_o_past_cells h_o_wave_halved h_o_wave_im h_o_wave_re h_o_wave_wasIm h_o_wave_wasRe h_o_notes h_o_ring h_o_turns h_o_beater h_o_reader h_o_dice h_o_trialWay h_o_trial h_o_otherTrial h_o_sumsRe h_o_sumsIm h_o_tally h_o_image h_o_tape h_o_way_shifts : Nat) (o_imageKept : Int32) (o_taped : Int32) (o_past_next : Int32) (o_past_held : Int32) (o_wave_exp : Int32) (o_wave_done : Int32) (o_wave_backward : Int32) (o_way_size : Int32) (o_way_log : Int32) (o_way_wordBits : Int32) (o_way_limit : Int32) (o_way_radix : Int32) (o_way_order : Int32) (o_way_near : Int32) (o_way_seed : Int32) (o_way_stages : Int32) (o_past_cells : Nat → Int32) (o_wave_halved : Nat → Int32) (o_wave_im : Nat → Int32) (o_wave_re : Nat → Int32) (o_wave_wasIm : Nat → Int32) (o_wave_wasRe : Nat → Int32) : va_W := [(h_o, .inr (9, [.ref h_o_way, .ref h_o_wave, .ref h_o_past, .ref h_o_notes, .ref h_o_ring, .ref h_o_turns, .ref h_o_beater, .ref h_o_reader, .ref h_o_dice, .ref h_o_trialWay, .ref h_o_trial, .ref h_o_otherTrial, .ref h_o_sumsRe, .ref h_o_sumsIm, .ref h_o_tally, .ref h_o_image, .int o_imageKept, .ref h_o_tape, .int o_taped])), (h_o_past, .inr (3, [.ref h_o_past_cells, .int o_past_next, .int o_past_held])), (h_o_wave, .inr (7, [.ref h_o_wave_re, .ref h_o_wave_im, .ref h_o_wave_wasRe, .ref h_o_wave_wasIm, .ref h_o_wave_halved, .int o_wave_exp, .int o_wave_done, .int o_wave_backward])), (h_o_way, .inr (8, [.int o_way_size, .int o_way_log, .int o_way_wordBits, .int o_way_limit, .int o_way_radix, .int o_way_order, .int o_way_near, .int o_way_seed, .int o_way_stages, .ref h_o_way_shifts])), (h_o_past_cells, .inl (cI, 2720, .inl o_past_cells)), (h_o_wave_halved, .inl (cI, 5, .inl o_wave_halved)), (h_o_wave_im, .inl (cI, 32, .inl o_wave_im)), (h_o_wave_re, .inl (cI, 32, .inl o_wave_re)), (h_o_wave_wasIm, .inl (cI, 32, .inl o_wave_wasIm)), (h_o_wave_wasRe, .inl (cI, 32, .inl o_wave_wasRe))]
def fX9_set (o_past_next : Int32) (o_past_held : Int32) (o_wave_exp : Int32) (o_wave_done : Int32) (o_wave_backward : Int32) (o_way_size : Int32) (o_way_limit : Int32) (o_past_cells : Nat → Int32) (o_wave_halved : Nat → Int32) (o_wave_im : Nat → Int32) (o_wave_re : Nat → Int32) (o_wave_wasIm : Nat → Int32) (o_wave_wasRe : Nat → Int32) (p1 : Int32) (p2 : Int32) (p3 : Int32) : Option (Int32 × Int32 × Int32 × (Nat → Int32) × (Nat → Int32) × (Nat → Int32) × (Nat → Int32) × (Nat → Int32)) :=
  bd1 (fX9_isPlace o_way_size p1) (fun r_1 =>
  if r_1 = 0 then (
    some ((0 : Int32), o_past_next, o_past_held, o_past_cells, o_wave_im, o_wave_re, o_wave_wasIm, o_wave_wasRe)
  ) else (
    bd1 (fX9_isInWord o_way_limit (Int32.toInt64 p2)) (fun r_4 =>
    if r_4 = 0 then (
      some ((0 : Int32), o_past_next, o_past_held, o_past_cells, o_wave_im, o_wave_re, o_wave_wasIm, o_wave_wasRe)
    ) else (
      bd1 (fX9_isInWord o_way_limit (Int32.toInt64 p3)) (fun r_7 =>
      if r_7 = 0 then (
        some ((0 : Int32), o_past_next, o_past_held, o_past_cells, o_wave_im, o_wave_re, o_wave_wasIm, o_wave_wasRe)
      ) else (
        bd1 (fX9_isFresh o_wave_done o_wave_backward) (fun r_10 =>
        if r_10 = 0 then (
          some ((0 : Int32), o_past_next, o_past_held, o_past_cells, o_wave_im, o_wave_re, o_wave_wasIm, o_wave_wasRe)
        ) else (
          bd3 (fX3_remember o_past_next o_past_held o_wave_exp o_wave_done o_wave_backward o_wave_halved o_wave_im o_wave_re o_wave_wasIm o_wave_wasRe o_past_cells) (fun o_past_next_13 o_past_held_14 o_past_cells_15 =>
          gd (inb p1 32) (
          nm (upd o_wave_re (Int32.toNatClampNeg p1) p2) (fun o_wave_re_18 =>
          gd (inb p1 32) (
          nm (upd o_wave_im (Int32.toNatClampNeg p1) p3) (fun o_wave_im_20 =>
          bd2 (fX7_settle o_wave_im_20 o_wave_re_18 o_wave_wasIm o_wave_wasRe) (fun o_wave_wasIm_21 o_wave_wasRe_22 =>
          some ((1 : Int32), o_past_next_13, o_past_held_14, o_past_cells_15, o_wave_im_20, o_wave_re_18, o_wave_wasIm_21, o_wave_wasRe_22)))))))
        ))
      ))
    ))
  ))
set_option maxHeartbeats 4000000 in
set_option maxRecDepth 100000 in
theorem tX9_set (l : Launch) (G : va_G) (cI cJ cZ : ClassId) (sz : Nat) (h_o h_o_past h_o_wave h_o_way h_o_past_cells h_o_wave_halved h_o_wave_im h_o_wave_re h_o_wave_wasIm h_o_wave_wasRe h_o_notes h_o_ring h_o_turns h_o_beater h_o_reader h_o_dice h_o_trialWay h_o_trial h_o_otherTrial h_o_sumsRe h_o_sumsIm h_o_tally h_o_image h_o_tape h_o_way_shifts : Nat) (o_imageKept : Int32) (o_taped : Int32) (o_past_next : Int32) (o_past_held : Int32) (o_wave_exp : Int32) (o_wave_done : Int32) (o_wave_backward : Int32) (o_way_size : Int32) (o_way_log : Int32) (o_way_wordBits : Int32) (o_way_limit : Int32) (o_way_radix : Int32) (o_way_order : Int32) (o_way_near : Int32) (o_way_seed : Int32) (o_way_stages : Int32) (o_past_cells : Nat → Int32) (o_wave_halved : Nat → Int32) (o_wave_im : Nat → Int32) (o_wave_re : Nat → Int32) (o_wave_wasIm : Nat → Int32) (o_wave_wasRe : Nat → Int32) (p1 : Int32) (p2 : Int32) (p3 : Int32) (r : Int32) (out_o_past_next : Int32) (out_o_past_held : Int32) (out_o_past_cells : Nat → Int32) (out_o_wave_im : Nat → Int32) (out_o_wave_re : Nat → Int32) (out_o_wave_wasIm : Nat → Int32) (out_o_wave_wasRe : Nat → Int32) (hf : fX9_set o_past_next o_past_held o_wave_exp o_wave_done o_wave_backward o_way_size o_way_limit o_past_cells o_wave_halved o_wave_im o_wave_re o_wave_wasIm o_wave_wasRe p1 p2 p3 = some (r, out_o_past_next, out_o_past_held, out_o_past_cells, out_o_wave_im, out_o_wave_re, out_o_wave_wasIm, out_o_wave_wasRe)) : Met l yX9_set (Cond.code yX9_set cX9_set 4 (some .boolean) :: BIG) ({ frames := 3, cells := 0, slots := 0, locals := 62 } : Room) (cP G (TY3 cI cJ cZ) [.ref h_o, .int p1, .int p2, .int p3] sz (wX9_set cI cJ cZ h_o h_o_past h_o_wave h_o_way h_o_past_cells h_o_wave_halved h_o_wave_im h_o_wave_re h_o_wave_wasIm h_o_wave_wasRe h_o_notes h_o_ring h_o_turns h_o_beater h_o_reader h_o_dice h_o_trialWay h_o_trial h_o_otherTrial h_o_sumsRe h_o_sumsIm h_o_tally h_o_image h_o_tape h_o_way_shifts o_imageKept o_taped o_past_next o_past_held o_wave_exp o_wave_done o_wave_backward o_way_size o_way_log o_way_wordBits o_way_limit o_way_radix o_way_order o_way_near o_way_seed o_way_stages o_past_cells o_wave_halved o_wave_im o_wave_re o_wave_wasIm o_wave_wasRe)) (cQ G (TY3 cI cJ cZ) sz (wX9_set cI cJ cZ h_o h_o_past h_o_wave h_o_way h_o_past_cells h_o_wave_halved h_o_wave_im h_o_wave_re h_o_wave_wasIm h_o_wave_wasRe h_o_notes h_o_ring h_o_turns h_o_beater h_o_reader h_o_dice h_o_trialWay h_o_trial h_o_otherTrial h_o_sumsRe h_o_sumsIm h_o_tally h_o_image h_o_tape h_o_way_shifts o_imageKept o_taped o_past_next o_past_held o_wave_exp o_wave_done o_wave_backward o_way_size o_way_log o_way_wordBits o_way_limit o_way_radix o_way_order o_way_near o_way_seed o_way_stages o_past_cells o_wave_halved o_wave_im o_wave_re o_wave_wasIm o_wave_wasRe) (wX9_set cI cJ cZ h_o h_o_past h_o_wave h_o_way h_o_past_cells h_o_wave_halved h_o_wave_im h_o_wave_re h_o_wave_wasIm h_o_wave_wasRe h_o_notes h_o_ring h_o_turns h_o_beater h_o_reader h_o_dice h_o_trialWay h_o_trial h_o_otherTrial h_o_sumsRe h_o_sumsIm h_o_tally h_o_image h_o_tape h_o_way_shifts o_imageKept o_taped out_o_past_next out_o_past_held o_wave_exp o_wave_done o_wave_backward o_way_size o_way_log o_way_wordBits o_way_limit o_way_radix o_way_order o_way_near o_way_seed o_way_stages out_o_past_cells o_wave_halved out_o_wave_im out_o_wave_re out_o_wave_wasIm out_o_wave_wasRe) (some (.int r))) 0 0 (va_A (wX9_set cI cJ cZ h_o h_o_past h_o_wave h_o_way h_o_past_cells h_o_wave_halved h_o_wave_im h_o_wave_re h_o_wave_wasIm h_o_wave_wasRe h_o_notes h_o_ring h_o_turns h_o_beater h_o_reader h_o_dice h_o_trialWay h_o_trial h_o_otherTrial h_o_sumsRe h_o_sumsIm h_o_tally h_o_image h_o_tape h_o_way_shifts o_imageKept o_taped o_past_next o_past_held o_wave_exp o_wave_done o_wave_backward o_way_size o_way_log o_way_wordBits o_way_limit o_way_radix o_way_order o_way_near o_way_seed o_way_stages o_past_cells o_wave_halved o_wave_im o_wave_re o_wave_wasIm o_wave_wasRe) sz) := by
  refine met_z (cc := cX9_set) (maxL := 4) (plainFor_of_name (by decide)) (Nat.le_of_ble_eq_true rfl) (fun p e s m below meth c A ls Q hx hb hml hts hown hK hP hD hS hA hl hret => ?_)
  have hown : s.vm.findClass RX9 = some m.cls := hown
  have hl : lv_has ls 4 [(0, .ref h_o), (1, .int p1), (2, .int p2), (3, .int p3)] := hl
  unfold fX9_set at hf
  obtain ⟨H, eH⟩ : ∃ H, H = s.heap := ⟨_, rfl⟩
  obtain ⟨locs, elocs⟩ : ∃ z : List Loc, z = [] := ⟨_, rfl⟩
  have hP : va_P G vwCl (wX9_set cI cJ cZ h_o h_o_past h_o_wave h_o_way h_o_past_cells h_o_wave_halved h_o_wave_im h_o_wave_re h_o_wave_wasIm h_o_wave_wasRe h_o_notes h_o_ring h_o_turns h_o_beater h_o_reader h_o_dice h_o_trialWay h_o_trial h_o_otherTrial h_o_sumsRe h_o_sumsIm h_o_tally h_o_image h_o_tape h_o_way_shifts o_imageKept o_taped o_past_next o_past_held o_wave_exp o_wave_done o_wave_backward o_way_size o_way_log o_way_wordBits o_way_limit o_way_radix o_way_order o_way_near o_way_seed o_way_stages o_past_cells o_wave_halved o_wave_im o_wave_re o_wave_wasIm o_wave_wasRe) H := by rw [eH]; exact hP
  have hS : va_S A s.heap H locs := by rw [eH, elocs]; exact hS
  suffices hgo : W p l e ({ frames := 3, cells := 0, slots := 0, locals := 62 } : Room) s m ([.ref h_o, .int p1, .int p2, .int p3] : List Value).toArray below meth c H locs 0 0 Q (F0 m 0 ls []) by rw [eH, elocs] at hgo; exact hgo
  clear eH elocs
  refine lv_aload_n hx hb dX9_set_0 rfl (lv_at hl 0 rfl) ?_
  refine lv_iload_n hx hb dX9_set_1 rfl (lv_at hl 1 rfl) ?_
  obtain ⟨r_1, e_2, hf⟩ := bd1_x hf
  refine call_v [.int p1] [] ⟨hx, hb, hml, hown, hts⟩ hK hP hD hS hA hl.1 (tX9_isPlace l G cI cJ cZ H.size h_o h_o_way h_o_wave h_o_past h_o_notes h_o_ring h_o_turns h_o_beater h_o_reader h_o_dice h_o_trialWay h_o_trial h_o_otherTrial h_o_sumsRe h_o_sumsIm h_o_tally h_o_image h_o_tape h_o_way_shifts o_imageKept o_taped o_way_size o_way_log o_way_wordBits o_way_limit o_way_radix o_way_order o_way_near o_way_seed o_way_stages p1 r_1 e_2) (cwV 1 hts (gv q_mX9_159 q_i_yX9_isPlace q_s_yX9_isPlace q_n_RX9 q_k_yX9_isPlace) rfl rfl rfl (by decide +kernel) ⟨by decide, by decide⟩) rfl rfl (Nat.le_of_ble_eq_true rfl) dX9_set_2 ⟨Nat.zero_le _, Nat.zero_le _⟩ (ci := 9) rfl 0 rfl [0, 3] [1, 2, 4, 5, 6, 7, 8, 9] [8, 0, 1, 9, 2, 3, 4, 5, 6, 7] rfl rfl (ws2 := (wX9_set cI cJ cZ h_o h_o_past h_o_wave h_o_way h_o_past_cells h_o_wave_halved h_o_wave_im h_o_wave_re h_o_wave_wasIm h_o_wave_wasRe h_o_notes h_o_ring h_o_turns h_o_beater h_o_reader h_o_dice h_o_trialWay h_o_trial h_o_otherTrial h_o_sumsRe h_o_sumsIm h_o_tally h_o_image h_o_tape h_o_way_shifts o_imageKept o_taped o_past_next o_past_held o_wave_exp o_wave_done o_wave_backward o_way_size o_way_log o_way_wordBits o_way_limit o_way_radix o_way_order o_way_near o_way_seed o_way_stages o_past_cells o_wave_halved o_wave_im o_wave_re o_wave_wasIm o_wave_wasRe)) rfl (fun H locs hP hD hS => ?_)
  refine W.eq (g2 := F0 m 5 ls [.int r_1]) rfl ?_
  refine lv_if_eq (tgt := 33) hx hb dX9_set_5 (by decide) (fun c_3 => ?_) (fun c_3 => ?_)
  · have hf := it_t c_3 hf
    refine lv_iconst (v := (0 : Int32)) hx hb dX9_set_33 (by decide) ?_
    cases hf
    exact hret _ _ _ _ dX9_set_34 rfl hP hD hS
  · have hf := it_f c_3 hf
    refine lv_aload_n hx hb dX9_set_8 rfl (lv_at hl 0 rfl) ?_
    refine lv_iload_n hx hb dX9_set_9 rfl (lv_at hl 2 rfl) ?_
    refine lv_i2l hx hb dX9_set_10 rfl ?_
    obtain ⟨r_4, e_5, hf⟩ := bd1_x hf
    refine call_v [.long (Int32.toInt64 p2)] [] ⟨hx, hb, hml, hown, hts⟩ hK hP hD hS hA hl.1 (tX9_isInWord l G cI cJ cZ H.size h_o h_o_way h_o_wave h_o_past h_o_notes h_o_ring h_o_turns h_o_beater h_o_reader h_o_dice h_o_trialWay h_o_trial h_o_otherTrial h_o_sumsRe h_o_sumsIm h_o_tally h_o_image h_o_tape h_o_way_shifts o_imageKept o_taped o_way_size o_way_log o_way_wordBits o_way_limit o_way_radix o_way_order o_way_near o_way_seed o_way_stages (Int32.toInt64 p2) r_4 e_5) (cwV 1 hts (gv q_mX9_257 q_i_yX9_isInWord q_s_yX9_isInWord q_n_RX9 q_k_yX9_isInWord) rfl rfl rfl (by decide +kernel) ⟨by decide, by decide⟩) rfl rfl (Nat.le_of_ble_eq_true rfl) dX9_set_11 ⟨Nat.zero_le _, Nat.zero_le _⟩ (ci := 9) rfl 0 rfl [0, 3] [1, 2, 4, 5, 6, 7, 8, 9] [8, 0, 1, 9, 2, 3, 4, 5, 6, 7] rfl rfl (ws2 := (wX9_set cI cJ cZ h_o h_o_past h_o_wave h_o_way h_o_past_cells h_o_wave_halved h_o_wave_im h_o_wave_re h_o_wave_wasIm h_o_wave_wasRe h_o_notes h_o_ring h_o_turns h_o_beater h_o_reader h_o_dice h_o_trialWay h_o_trial h_o_otherTrial h_o_sumsRe h_o_sumsIm h_o_tally h_o_image h_o_tape h_o_way_shifts o_imageKept o_taped o_past_next o_past_held o_wave_exp o_wave_done o_wave_backward o_way_size o_way_log o_way_wordBits o_way_limit o_way_radix o_way_order o_way_near o_way_seed o_way_stages o_past_cells o_wave_halved o_wave_im o_wave_re o_wave_wasIm o_wave_wasRe)) rfl (fun H locs hP hD hS => ?_)
    refine W.eq (g2 := F0 m 14 ls [.int r_4]) rfl ?_
    refine lv_if_eq (tgt := 33) hx hb dX9_set_14 (by decide) (fun c_6 => ?_) (fun c_6 => ?_)
    · have hf := it_t c_6 hf
      refine lv_iconst (v := (0 : Int32)) hx hb dX9_set_33 (by decide) ?_
      cases hf
      exact hret _ _ _ _ dX9_set_34 rfl hP hD hS
    · have hf := it_f c_6 hf
      refine lv_aload_n hx hb dX9_set_17 rfl (lv_at hl 0 rfl) ?_
      refine lv_iload_n hx hb dX9_set_18 rfl (lv_at hl 3 rfl) ?_
      refine lv_i2l hx hb dX9_set_19 rfl ?_
      obtain ⟨r_7, e_8, hf⟩ := bd1_x hf
      refine call_v [.long (Int32.toInt64 p3)] [] ⟨hx, hb, hml, hown, hts⟩ hK hP hD hS hA hl.1 (tX9_isInWord l G cI cJ cZ H.size h_o h_o_way h_o_wave h_o_past h_o_notes h_o_ring h_o_turns h_o_beater h_o_reader h_o_dice h_o_trialWay h_o_trial h_o_otherTrial h_o_sumsRe h_o_sumsIm h_o_tally h_o_image h_o_tape h_o_way_shifts o_imageKept o_taped o_way_size o_way_log o_way_wordBits o_way_limit o_way_radix o_way_order o_way_near o_way_seed o_way_stages (Int32.toInt64 p3) r_7 e_8) (cwV 1 hts (gv q_mX9_257 q_i_yX9_isInWord q_s_yX9_isInWord q_n_RX9 q_k_yX9_isInWord) rfl rfl rfl (by decide +kernel) ⟨by decide, by decide⟩) rfl rfl (Nat.le_of_ble_eq_true rfl) dX9_set_20 ⟨Nat.zero_le _, Nat.zero_le _⟩ (ci := 9) rfl 0 rfl [0, 3] [1, 2, 4, 5, 6, 7, 8, 9] [8, 0, 1, 9, 2, 3, 4, 5, 6, 7] rfl rfl (ws2 := (wX9_set cI cJ cZ h_o h_o_past h_o_wave h_o_way h_o_past_cells h_o_wave_halved h_o_wave_im h_o_wave_re h_o_wave_wasIm h_o_wave_wasRe h_o_notes h_o_ring h_o_turns h_o_beater h_o_reader h_o_dice h_o_trialWay h_o_trial h_o_otherTrial h_o_sumsRe h_o_sumsIm h_o_tally h_o_image h_o_tape h_o_way_shifts o_imageKept o_taped o_past_next o_past_held o_wave_exp o_wave_done o_wave_backward o_way_size o_way_log o_way_wordBits o_way_limit o_way_radix o_way_order o_way_near o_way_seed o_way_stages o_past_cells o_wave_halved o_wave_im o_wave_re o_wave_wasIm o_wave_wasRe)) rfl (fun H locs hP hD hS => ?_)
      refine W.eq (g2 := F0 m 23 ls [.int r_7]) rfl ?_
      refine lv_if_eq (tgt := 33) hx hb dX9_set_23 (by decide) (fun c_9 => ?_) (fun c_9 => ?_)
      · have hf := it_t c_9 hf
        refine lv_iconst (v := (0 : Int32)) hx hb dX9_set_33 (by decide) ?_
        cases hf
        exact hret _ _ _ _ dX9_set_34 rfl hP hD hS
      · have hf := it_f c_9 hf
        refine lv_aload_n hx hb dX9_set_26 rfl (lv_at hl 0 rfl) ?_
        obtain ⟨r_10, e_11, hf⟩ := bd1_x hf
        refine call_v [] [] ⟨hx, hb, hml, hown, hts⟩ hK hP hD hS hA hl.1 (tX9_isFresh l G cI cJ cZ H.size h_o h_o_wave h_o_way h_o_past h_o_notes h_o_ring h_o_turns h_o_beater h_o_reader h_o_dice h_o_trialWay h_o_trial h_o_otherTrial h_o_sumsRe h_o_sumsIm h_o_tally h_o_image h_o_tape h_o_wave_re h_o_wave_im h_o_wave_wasRe h_o_wave_wasIm h_o_wave_halved o_imageKept o_taped o_wave_exp o_wave_done o_wave_backward r_10 e_11) (cwV 0 hts (gv q_mX9_261 q_i_yX9_isFresh q_s_yX9_isFresh q_n_RX9 q_k_yX9_isFresh) rfl rfl rfl (by decide +kernel) ⟨by decide, by decide⟩) rfl rfl (Nat.le_of_ble_eq_true rfl) dX9_set_27 ⟨Nat.zero_le _, Nat.zero_le _⟩ (ci := 9) rfl 0 rfl [0, 2] [1, 3, 4, 5, 6, 7, 8, 9] [8, 0, 9, 1, 2, 3, 4, 5, 6, 7] rfl rfl (ws2 := (wX9_set cI cJ cZ h_o h_o_past h_o_wave h_o_way h_o_past_cells h_o_wave_halved h_o_wave_im h_o_wave_re h_o_wave_wasIm h_o_wave_wasRe h_o_notes h_o_ring h_o_turns h_o_beater h_o_reader h_o_dice h_o_trialWay h_o_trial h_o_otherTrial h_o_sumsRe h_o_sumsIm h_o_tally h_o_image h_o_tape h_o_way_shifts o_imageKept o_taped o_past_next o_past_held o_wave_exp o_wave_done o_wave_backward o_way_size o_way_log o_way_wordBits o_way_limit o_way_radix o_way_order o_way_near o_way_seed o_way_stages o_past_cells o_wave_halved o_wave_im o_wave_re o_wave_wasIm o_wave_wasRe)) rfl (fun H locs hP hD hS => ?_)
        refine W.eq (g2 := F0 m 30 ls [.int r_10]) rfl ?_
        refine lv_if_ne (tgt := 35) hx hb dX9_set_30 (by decide) (fun c_12 => ?_) (fun c_12 => ?_)
        · have hf := it_f c_12 hf
          refine lv_aload_n hx hb dX9_set_35 rfl (lv_at hl 0 rfl) ?_
          refine rd (ci := 9) (C := RX9) (T := TX9) (N := 19) hx hb hts inX9 hown hK hP 0 2 rfl rfl (by decide) (hts _ q_fX9_26) rfl dX9_set_36 ?_
          refine lv_aload_n hx hb dX9_set_39 rfl (lv_at hl 0 rfl) ?_
          refine rd (ci := 9) (C := RX9) (T := TX9) (N := 19) hx hb hts inX9 hown hK hP 0 1 rfl rfl (by decide) (hts _ q_fX9_19) rfl dX9_set_40 ?_
          obtain ⟨o_past_next_13, o_past_held_14, o_past_cells_15, e_16, hf⟩ := bd3_x hf
          refine call_v [.ref h_o_wave] [] ⟨hx, hb, hml, hown, hts⟩ hK hP hD hS hA hl.1 (tX3_remember l G cI cJ cZ H.size h_o_past h_o_wave h_o_wave_halved h_o_wave_im h_o_wave_re h_o_wave_wasIm h_o_wave_wasRe h_o_past_cells o_past_next o_past_held o_wave_exp o_wave_done o_wave_backward o_wave_halved o_wave_im o_wave_re o_wave_wasIm o_wave_wasRe o_past_cells o_past_next_13 o_past_held_14 o_past_cells_15 e_16) (cwV 1 hts (gv q_mX9_265 q_i_yX3_remember q_s_yX3_remember q_n_RX3 q_k_yX3_remember) rfl rfl rfl (by decide +kernel) ⟨by decide, by decide⟩) rfl rfl (Nat.le_of_ble_eq_true rfl) dX9_set_43 ⟨Nat.zero_le _, Nat.zero_le _⟩ (ci := 3) rfl 0 rfl [1, 2, 5, 6, 7, 8, 9, 4] [0, 3] [0, 2, 3, 1, 9, 4, 5, 6, 7, 8] rfl rfl (ws2 := (wX9_set cI cJ cZ h_o h_o_past h_o_wave h_o_way h_o_past_cells h_o_wave_halved h_o_wave_im h_o_wave_re h_o_wave_wasIm h_o_wave_wasRe h_o_notes h_o_ring h_o_turns h_o_beater h_o_reader h_o_dice h_o_trialWay h_o_trial h_o_otherTrial h_o_sumsRe h_o_sumsIm h_o_tally h_o_image h_o_tape h_o_way_shifts o_imageKept o_taped o_past_next_13 o_past_held_14 o_wave_exp o_wave_done o_wave_backward o_way_size o_way_log o_way_wordBits o_way_limit o_way_radix o_way_order o_way_near o_way_seed o_way_stages o_past_cells_15 o_wave_halved o_wave_im o_wave_re o_wave_wasIm o_wave_wasRe)) rfl (fun H locs hP hD hS => ?_)
          refine W.eq (g2 := F0 m 46 ls []) rfl ?_
          refine lv_aload_n hx hb dX9_set_46 rfl (lv_at hl 0 rfl) ?_
          refine rd (ci := 9) (C := RX9) (T := TX9) (N := 19) hx hb hts inX9 hown hK hP 0 1 rfl rfl (by decide) (hts _ q_fX9_19) rfl dX9_set_47 ?_
          refine rd (ci := 7) (C := RX7) (T := TX7) (N := 8) hx hb hts inX7 hown hK hP 2 0 rfl rfl (by decide) (hts _ q_fX9_175) rfl dX9_set_50 ?_
          refine lv_iload_n hx hb dX9_set_53 rfl (lv_at hl 1 rfl) ?_
          refine lv_iload_n hx hb dX9_set_54 rfl (lv_at hl 2 rfl) ?_
          obtain ⟨g_17, hf⟩ := gd_x hf
          obtain ⟨o_wave_re_18, eo_wave_re_18⟩ : ∃ y : Nat → Int32, y = upd o_wave_re (Int32.toNatClampNeg p1) p2 := ⟨_, rfl⟩
          have hf := nm_x eo_wave_re_18 hf
          refine ist hx hb hK hP hD hS 7 0 rfl rfl (inb_x g_17) dX9_set_55 eo_wave_re_18 (ws2 := (wX9_set cI cJ cZ h_o h_o_past h_o_wave h_o_way h_o_past_cells h_o_wave_halved h_o_wave_im h_o_wave_re h_o_wave_wasIm h_o_wave_wasRe h_o_notes h_o_ring h_o_turns h_o_beater h_o_reader h_o_dice h_o_trialWay h_o_trial h_o_otherTrial h_o_sumsRe h_o_sumsIm h_o_tally h_o_image h_o_tape h_o_way_shifts o_imageKept o_taped o_past_next_13 o_past_held_14 o_wave_exp o_wave_done o_wave_backward o_way_size o_way_log o_way_wordBits o_way_limit o_way_radix o_way_order o_way_near o_way_seed o_way_stages o_past_cells_15 o_wave_halved o_wave_im o_wave_re_18 o_wave_wasIm o_wave_wasRe)) rfl (fun H locs hP hD hS => ?_)
          refine lv_aload_n hx hb dX9_set_56 rfl (lv_at hl 0 rfl) ?_
          refine rd (ci := 9) (C := RX9) (T := TX9) (N := 19) hx hb hts inX9 hown hK hP 0 1 rfl rfl (by decide) (hts _ q_fX9_19) rfl dX9_set_57 ?_
          refine rd (ci := 7) (C := RX7) (T := TX7) (N := 8) hx hb hts inX7 hown hK hP 2 1 rfl rfl (by decide) (hts _ q_fX9_176) rfl dX9_set_60 ?_
          refine lv_iload_n hx hb dX9_set_63 rfl (lv_at hl 1 rfl) ?_
          refine lv_iload_n hx hb dX9_set_64 rfl (lv_at hl 3 rfl) ?_
          obtain ⟨g_19, hf⟩ := gd_x hf
          obtain ⟨o_wave_im_20, eo_wave_im_20⟩ : ∃ y : Nat → Int32, y = upd o_wave_im (Int32.toNatClampNeg p1) p3 := ⟨_, rfl⟩
          have hf := nm_x eo_wave_im_20 hf
          refine ist hx hb hK hP hD hS 6 0 rfl rfl (inb_x g_19) dX9_set_65 eo_wave_im_20 (ws2 := (wX9_set cI cJ cZ h_o h_o_past h_o_wave h_o_way h_o_past_cells h_o_wave_halved h_o_wave_im h_o_wave_re h_o_wave_wasIm h_o_wave_wasRe h_o_notes h_o_ring h_o_turns h_o_beater h_o_reader h_o_dice h_o_trialWay h_o_trial h_o_otherTrial h_o_sumsRe h_o_sumsIm h_o_tally h_o_image h_o_tape h_o_way_shifts o_imageKept o_taped o_past_next_13 o_past_held_14 o_wave_exp o_wave_done o_wave_backward o_way_size o_way_log o_way_wordBits o_way_limit o_way_radix o_way_order o_way_near o_way_seed o_way_stages o_past_cells_15 o_wave_halved o_wave_im_20 o_wave_re_18 o_wave_wasIm o_wave_wasRe)) rfl (fun H locs hP hD hS => ?_)
          refine lv_aload_n hx hb dX9_set_66 rfl (lv_at hl 0 rfl) ?_
          refine rd (ci := 9) (C := RX9) (T := TX9) (N := 19) hx hb hts inX9 hown hK hP 0 1 rfl rfl (by decide) (hts _ q_fX9_19) rfl dX9_set_67 ?_
          obtain ⟨o_wave_wasIm_21, o_wave_wasRe_22, e_23, hf⟩ := bd2_x hf
          refine call_v [] [] ⟨hx, hb, hml, hown, hts⟩ hK hP hD hS hA hl.1 (tX7_settle l G cI cJ cZ H.size h_o_wave h_o_wave_im h_o_wave_re h_o_wave_wasIm h_o_wave_wasRe h_o_wave_halved o_wave_exp o_wave_done o_wave_backward o_wave_im_20 o_wave_re_18 o_wave_wasIm o_wave_wasRe o_wave_wasIm_21 o_wave_wasRe_22 e_23) (cwV 0 hts (gv q_mX9_146 q_i_yX7_settle q_s_yX7_settle q_n_RX7 q_k_yX7_settle) rfl rfl rfl (by decide +kernel) ⟨by decide, by decide⟩) rfl rfl (Nat.le_of_ble_eq_true rfl) dX9_set_70 ⟨Nat.zero_le _, Nat.zero_le _⟩ (ci := 7) rfl 0 rfl [2, 6, 7, 8, 9] [0, 1, 3, 4, 5] [0, 1, 5, 2, 3, 4, 6, 7, 8, 9] rfl rfl (ws2 := (wX9_set cI cJ cZ h_o h_o_past h_o_wave h_o_way h_o_past_cells h_o_wave_halved h_o_wave_im h_o_wave_re h_o_wave_wasIm h_o_wave_wasRe h_o_notes h_o_ring h_o_turns h_o_beater h_o_reader h_o_dice h_o_trialWay h_o_trial h_o_otherTrial h_o_sumsRe h_o_sumsIm h_o_tally h_o_image h_o_tape h_o_way_shifts o_imageKept o_taped o_past_next_13 o_past_held_14 o_wave_exp o_wave_done o_wave_backward o_way_size o_way_log o_way_wordBits o_way_limit o_way_radix o_way_order o_way_near o_way_seed o_way_stages o_past_cells_15 o_wave_halved o_wave_im_20 o_wave_re_18 o_wave_wasIm_21 o_wave_wasRe_22)) rfl (fun H locs hP hD hS => ?_)
          refine W.eq (g2 := F0 m 73 ls []) rfl ?_
          refine lv_iconst (v := (1 : Int32)) hx hb dX9_set_73 (by decide) ?_
          cases hf
          exact hret _ _ _ _ dX9_set_74 rfl hP hD hS
        · have hf := it_t c_12 hf
          refine lv_iconst (v := (0 : Int32)) hx hb dX9_set_33 (by decide) ?_
          cases hf
          exact hret _ _ _ _ dX9_set_34 rfl hP hD hS
def wX9_tapered (cI cJ cZ : ClassId) (h_o h_o_way h_o_wave h_o_past h_o_notes h_o_ring h_o_turns h_o_beater h_o_reader h_o_dice h_o_trialWay h_o_trial h_o_otherTrial h_o_sumsRe h_o_sumsIm h_o_tally h_o_image h_o_tape h_o_way_shifts : Nat) (o_imageKept : Int32) (o_taped : Int32) (o_way_size : Int32) (o_way_log : Int32) (o_way_wordBits : Int32) (o_way_limit : Int32) (o_way_radix : Int32) (o_way_order : Int32) (o_way_near : Int32) (o_way_seed : Int32) (o_way_stages : Int32) : va_W := [(h_o, .inr (9, [.ref h_o_way, .ref h_o_wave, .ref h_o_past, .ref h_o_notes, .ref h_o_ring, .ref h_o_turns, .ref h_o_beater, .ref h_o_reader, .ref h_o_dice, .ref h_o_trialWay, .ref h_o_trial, .ref h_o_otherTrial, .ref h_o_sumsRe, .ref h_o_sumsIm, .ref h_o_tally, .ref h_o_image, .int o_imageKept, .ref h_o_tape, .int o_taped])), (h_o_way, .inr (8, [.int o_way_size, .int o_way_log, .int o_way_wordBits, .int o_way_limit, .int o_way_radix, .int o_way_order, .int o_way_near, .int o_way_seed, .int o_way_stages, .ref h_o_way_shifts]))]
def fX9_tapered_26 (s0 : Int64) : Option (Int32) :=
  some (Int64.toInt32 (s0 >>> (Int32.toInt64 (15 : Int32) &&& 63)))
def fX9_tapered (o_way_near : Int32) (p1 : Int32) (p2 : Int32) : Option (Int32) :=
  nm ((Int32.toInt64 p1) * (Int32.toInt64 p2)) (fun v3_1 =>
  if o_way_near = (1 : Int32) then (
    fX9_tapered_26 (v3_1 + (16384 : Int64))
  ) else (
    fX9_tapered_26 v3_1
  ))
set_option maxHeartbeats 4000000 in
set_option maxRecDepth 100000 in
theorem tX9_tapered (l : Launch) (G : va_G) (cI cJ cZ : ClassId) (sz : Nat) (h_o h_o_way h_o_wave h_o_past h_o_notes h_o_ring h_o_turns h_o_beater h_o_reader h_o_dice h_o_trialWay h_o_trial h_o_otherTrial h_o_sumsRe h_o_sumsIm h_o_tally h_o_image h_o_tape h_o_way_shifts : Nat) (o_imageKept : Int32) (o_taped : Int32) (o_way_size : Int32) (o_way_log : Int32) (o_way_wordBits : Int32) (o_way_limit : Int32) (o_way_radix : Int32) (o_way_order : Int32) (o_way_near : Int32) (o_way_seed : Int32) (o_way_stages : Int32) (p1 : Int32) (p2 : Int32) (r : Int32) (hf : fX9_tapered o_way_near p1 p2 = some r) : Met l yX9_tapered (Cond.code yX9_tapered cX9_tapered 5 (some .int) :: BIG) ({ frames := 0, cells := 0, slots := 0, locals := 0 } : Room) (cP G (TY3 cI cJ cZ) [.ref h_o, .int p1, .int p2] sz (wX9_tapered cI cJ cZ h_o h_o_way h_o_wave h_o_past h_o_notes h_o_ring h_o_turns h_o_beater h_o_reader h_o_dice h_o_trialWay h_o_trial h_o_otherTrial h_o_sumsRe h_o_sumsIm h_o_tally h_o_image h_o_tape h_o_way_shifts o_imageKept o_taped o_way_size o_way_log o_way_wordBits o_way_limit o_way_radix o_way_order o_way_near o_way_seed o_way_stages)) (cQ G (TY3 cI cJ cZ) sz (wX9_tapered cI cJ cZ h_o h_o_way h_o_wave h_o_past h_o_notes h_o_ring h_o_turns h_o_beater h_o_reader h_o_dice h_o_trialWay h_o_trial h_o_otherTrial h_o_sumsRe h_o_sumsIm h_o_tally h_o_image h_o_tape h_o_way_shifts o_imageKept o_taped o_way_size o_way_log o_way_wordBits o_way_limit o_way_radix o_way_order o_way_near o_way_seed o_way_stages) (wX9_tapered cI cJ cZ h_o h_o_way h_o_wave h_o_past h_o_notes h_o_ring h_o_turns h_o_beater h_o_reader h_o_dice h_o_trialWay h_o_trial h_o_otherTrial h_o_sumsRe h_o_sumsIm h_o_tally h_o_image h_o_tape h_o_way_shifts o_imageKept o_taped o_way_size o_way_log o_way_wordBits o_way_limit o_way_radix o_way_order o_way_near o_way_seed o_way_stages) (some (.int r))) 0 0 (va_A (wX9_tapered cI cJ cZ h_o h_o_way h_o_wave h_o_past h_o_notes h_o_ring h_o_turns h_o_beater h_o_reader h_o_dice h_o_trialWay h_o_trial h_o_otherTrial h_o_sumsRe h_o_sumsIm h_o_tally h_o_image h_o_tape h_o_way_shifts o_imageKept o_taped o_way_size o_way_log o_way_wordBits o_way_limit o_way_radix o_way_order o_way_near o_way_seed o_way_stages) sz) := by
  refine met_i (cc := cX9_tapered) (maxL := 5) (plainFor_of_name (by decide)) (Nat.le_of_ble_eq_true rfl) (fun p e s m below meth c A ls Q hx hb hml hts hown hK hP hD hS hA hl hret => ?_)
  have hown : s.vm.findClass RX9 = some m.cls := hown
  have hl : lv_has ls 5 [(0, .ref h_o), (1, .int p1), (2, .int p2)] := hl
  have j26 : ∀ (s0 : Int64) (H : Heap) (locs : List Loc) (ls : Array Slot), fX9_tapered_26 s0 = some r → va_P G vwCl (wX9_tapered cI cJ cZ h_o h_o_way h_o_wave h_o_past h_o_notes h_o_ring h_o_turns h_o_beater h_o_reader h_o_dice h_o_trialWay h_o_trial h_o_otherTrial h_o_sumsRe h_o_sumsIm h_o_tally h_o_image h_o_tape h_o_way_shifts o_imageKept o_taped o_way_size o_way_log o_way_wordBits o_way_limit o_way_radix o_way_order o_way_near o_way_seed o_way_stages) H → va_D A (wX9_tapered cI cJ cZ h_o h_o_way h_o_wave h_o_past h_o_notes h_o_ring h_o_turns h_o_beater h_o_reader h_o_dice h_o_trialWay h_o_trial h_o_otherTrial h_o_sumsRe h_o_sumsIm h_o_tally h_o_image h_o_tape h_o_way_shifts o_imageKept o_taped o_way_size o_way_log o_way_wordBits o_way_limit o_way_radix o_way_order o_way_near o_way_seed o_way_stages) → va_S A s.heap H locs → lv_has ls 5 [] → W p l e ({ frames := 0, cells := 0, slots := 0, locals := 0 } : Room) s m ([.ref h_o, .int p1, .int p2] : List Value).toArray below meth c H locs 0 0 Q (F0 m 26 ls [.long s0]) := by
    intro s0 H locs ls hf hP hD hS hl
    unfold fX9_tapered_26 at hf
    refine lv_bipush (v := (15 : Int32)) hx hb dX9_tapered_26 (by decide) ?_
    refine lv_lshr hx hb dX9_tapered_28 rfl ?_
    refine lv_l2i hx hb dX9_tapered_29 rfl ?_
    cases hf
    exact hret _ _ _ _ dX9_tapered_30 hP hD hS
  unfold fX9_tapered at hf
  obtain ⟨H, eH⟩ : ∃ H, H = s.heap := ⟨_, rfl⟩
  obtain ⟨locs, elocs⟩ : ∃ z : List Loc, z = [] := ⟨_, rfl⟩
  have hP : va_P G vwCl (wX9_tapered cI cJ cZ h_o h_o_way h_o_wave h_o_past h_o_notes h_o_ring h_o_turns h_o_beater h_o_reader h_o_dice h_o_trialWay h_o_trial h_o_otherTrial h_o_sumsRe h_o_sumsIm h_o_tally h_o_image h_o_tape h_o_way_shifts o_imageKept o_taped o_way_size o_way_log o_way_wordBits o_way_limit o_way_radix o_way_order o_way_near o_way_seed o_way_stages) H := by rw [eH]; exact hP
  have hS : va_S A s.heap H locs := by rw [eH, elocs]; exact hS
  suffices hgo : W p l e ({ frames := 0, cells := 0, slots := 0, locals := 0 } : Room) s m ([.ref h_o, .int p1, .int p2] : List Value).toArray below meth c H locs 0 0 Q (F0 m 0 ls []) by rw [eH, elocs] at hgo; exact hgo
  clear eH elocs
  refine lv_iload_n hx hb dX9_tapered_0 rfl (lv_at hl 1 rfl) ?_
  refine lv_i2l hx hb dX9_tapered_1 rfl ?_
  refine lv_iload_n hx hb dX9_tapered_2 rfl (lv_at hl 2 rfl) ?_
  refine lv_i2l hx hb dX9_tapered_3 rfl ?_
  refine lv_lmul hx hb dX9_tapered_4 ?_
  refine lv_topl (fun v3_1 ev3_1 => ?_)
  have hf := nm_x ev3_1 hf
  refine lv_lstore_n (lv' := [(3, .long v3_1), (0, .ref h_o), (1, .int p1), (2, .int p2)]) hx hb dX9_tapered_5 rfl hl (by decide) rfl (fun ls hl => ?_)
  refine lv_aload_n hx hb dX9_tapered_6 rfl (lv_at hl 1 rfl) ?_
  refine rd (ci := 9) (C := RX9) (T := TX9) (N := 19) hx hb hts inX9 hown hK hP 0 0 rfl rfl (by decide) (hts _ q_fX9_10) rfl dX9_tapered_7 ?_
  refine rd (ci := 8) (C := RX8) (T := TX8) (N := 10) hx hb hts inX8 hown hK hP 1 6 rfl rfl (by decide) (hts _ q_fX9_238) rfl dX9_tapered_10 ?_
  refine lv_iconst (v := (1 : Int32)) hx hb dX9_tapered_13 (by decide) ?_
  refine lv_icmp_ne (tgt := 25) hx hb dX9_tapered_14 (by decide) (fun c_2 => ?_) (fun c_2 => ?_)
  · have hf := it_f c_2 hf
    refine lv_lload_n hx hb dX9_tapered_25 rfl (lv_at hl 0 rfl) ?_
    exact j26 v3_1 H locs ls hf hP hD hS (lv_sub hl [] rfl)
  · have hf := it_t c_2 hf
    refine lv_lload_n hx hb dX9_tapered_17 rfl (lv_at hl 0 rfl) ?_
    refine lv_ldc2 (v := (16384 : Int64)) hx hb hown (hts _ q_cX9_272) dX9_tapered_18 ?_
    refine lv_ladd hx hb dX9_tapered_21 ?_
    refine lv_goto (tgt := 26) hx hb dX9_tapered_22 (by decide) ?_
    exact j26 (v3_1 + (16384 : Int64)) H locs ls hf hP hD hS (lv_sub hl [] rfl)
def wX9_taper (cI cJ cZ : ClassId) (h_o h_o_past h_o_turns h_o_wave h_o_way h_o_past_cells h_o_turns_cos h_o_wave_halved h_o_wave_im h_o_wave_re h_o_wave_wasIm h_o_wave_wasRe h_o_notes h_o_ring h_o_beater h_o_reader h_o_dice h_o_trialWay h_o_trial h_o_otherTrial h_o_sumsRe h_o_sumsIm h_o_tally h_o_image h_o_tape h_o_turns_sin h_o_way_shifts : Nat) (o_imageKept : Int32) (o_taped : Int32) (o_past_next : Int32) (o_past_held : Int32) (o_wave_exp : Int32) (o_wave_done : Int32) (o_wave_backward : Int32) (o_way_size : Int32) (o_way_log : Int32) (o_way_wordBits : Int32) (o_way_limit : Int32) (o_way_radix : Int32) (o_way_order : Int32) (o_way_near : Int32) (o_way_seed : Int32) (o_way_stages : Int32) (o_past_cells : Nat → Int32) (o_turns_cos : Nat → Int32) (o_wave_halved : Nat → Int32) (o_wave_im : Nat → Int32) (o_wave_re : Nat → Int32) (o_wave_wasIm : Nat → Int32) (o_wave_wasRe : Nat → Int32) : va_W := [(h_o, .inr (9, [.ref h_o_way, .ref h_o_wave, .ref h_o_past, .ref h_o_notes, .ref h_o_ring, .ref h_o_turns, .ref h_o_beater, .ref h_o_reader, .ref h_o_dice, .ref h_o_trialWay, .ref h_o_trial, .ref h_o_otherTrial, .ref h_o_sumsRe, .ref h_o_sumsIm, .ref h_o_tally, .ref h_o_image, .int o_imageKept, .ref h_o_tape, .int o_taped])), (h_o_past, .inr (3, [.ref h_o_past_cells, .int o_past_next, .int o_past_held])), (h_o_turns, .inr (6, [.ref h_o_turns_cos, .ref h_o_turns_sin])), (h_o_wave, .inr (7, [.ref h_o_wave_re, .ref h_o_wave_im, .ref h_o_wave_wasRe, .ref h_o_wave_wasIm, .ref h_o_wave_halved, .int o_wave_exp, .int o_wave_done, .int o_wave_backward])), (h_o_way, .inr (8, [.int o_way_size, .int o_way_log, .int o_way_wordBits, .int o_way_limit, .int o_way_radix, .int o_way_order, .int o_way_near, .int o_way_seed, .int o_way_stages, .ref h_o_way_shifts])), (h_o_past_cells, .inl (cI, 2720, .inl o_past_cells)), (h_o_turns_cos, .inl (cI, 32, .inl o_turns_cos)), (h_o_wave_halved, .inl (cI, 5, .inl o_wave_halved)), (h_o_wave_im, .inl (cI, 32, .inl o_wave_im)), (h_o_wave_re, .inl (cI, 32, .inl o_wave_re)), (h_o_wave_wasIm, .inl (cI, 32, .inl o_wave_wasIm)), (h_o_wave_wasRe, .inl (cI, 32, .inl o_wave_wasRe))]
def fX9_taper_99 (o_past_next : Int32) (o_past_held : Int32) (o_past_cells : Nat → Int32) (o_wave_im : Nat → Int32) (o_wave_re : Nat → Int32) (o_wave_wasIm : Nat → Int32) (o_wave_wasRe : Nat → Int32) : Option (Int32 × Int32 × Int32 × (Nat → Int32) × (Nat → Int32) × (Nat → Int32) × (Nat → Int32) × (Nat → Int32)) :=
  bd2 (fX7_settle o_wave_im o_wave_re o_wave_wasIm o_wave_wasRe) (fun o_wave_wasIm_22 o_wave_wasRe_23 =>
  some ((1 : Int32), o_past_next, o_past_held, o_past_cells, o_wave_im, o_wave_re, o_wave_wasIm_22, o_wave_wasRe_23))
def fX9_taper_22 (o_way_size : Int32) (o_way_near : Int32) (o_turns_cos : Nat → Int32) : Nat → Int32 → Int32 → (Nat → Int32) → (Nat → Int32) → (Nat → Int32) → (Nat → Int32) → (Nat → Int32) → Int32 → Option (Int32 × Int32 × Int32 × (Nat → Int32) × (Nat → Int32) × (Nat → Int32) × (Nat → Int32) × (Nat → Int32))
  | 0, _, _, _, _, _, _, _, _ => none
  | n + 1, o_past_next, o_past_held, o_past_cells, o_wave_im, o_wave_re, o_wave_wasIm, o_wave_wasRe, v1 =>
    if o_way_size ≤ v1 then (
      fX9_taper_99 o_past_next o_past_held o_past_cells o_wave_im o_wave_re o_wave_wasIm o_wave_wasRe
    ) else (
      gd (inb v1 32) (
      nm ((16384 : Int32) - (o_turns_cos (Int32.toNatClampNeg v1))) (fun v2_10 =>
      gd (inb v1 32) (
      bd1 (fX9_tapered o_way_near (o_wave_re (Int32.toNatClampNeg v1)) v2_10) (fun r_12 =>
      gd (inb v1 32) (
      nm (upd o_wave_re (Int32.toNatClampNeg v1) r_12) (fun o_wave_re_15 =>
      gd (inb v1 32) (
      bd1 (fX9_tapered o_way_near (o_wave_im (Int32.toNatClampNeg v1)) v2_10) (fun r_17 =>
      gd (inb v1 32) (
      nm (upd o_wave_im (Int32.toNatClampNeg v1) r_17) (fun o_wave_im_20 =>
      nm (v1 + (1 : Int32)) (fun v1_21 =>
      fX9_taper_22 o_way_size o_way_near o_turns_cos n o_past_next o_past_held o_past_cells o_wave_im_20 o_wave_re_15 o_wave_wasIm o_wave_wasRe v1_21)))))))))))
    )
def fX9_taper (o_past_next : Int32) (o_past_held : Int32) (o_wave_exp : Int32) (o_wave_done : Int32) (o_wave_backward : Int32) (o_way_size : Int32) (o_way_near : Int32) (o_past_cells : Nat → Int32) (o_turns_cos : Nat → Int32) (o_wave_halved : Nat → Int32) (o_wave_im : Nat → Int32) (o_wave_re : Nat → Int32) (o_wave_wasIm : Nat → Int32) (o_wave_wasRe : Nat → Int32) : Option (Int32 × Int32 × Int32 × (Nat → Int32) × (Nat → Int32) × (Nat → Int32) × (Nat → Int32) × (Nat → Int32)) :=
  bd1 (fX9_isFresh o_wave_done o_wave_backward) (fun r_1 =>
  if r_1 = 0 then (
    some ((0 : Int32), o_past_next, o_past_held, o_past_cells, o_wave_im, o_wave_re, o_wave_wasIm, o_wave_wasRe)
  ) else (
    bd3 (fX3_remember o_past_next o_past_held o_wave_exp o_wave_done o_wave_backward o_wave_halved o_wave_im o_wave_re o_wave_wasIm o_wave_wasRe o_past_cells) (fun o_past_next_4 o_past_held_5 o_past_cells_6 =>
    fX9_taper_22 o_way_size o_way_near o_turns_cos FU o_past_next_4 o_past_held_5 o_past_cells_6 o_wave_im o_wave_re o_wave_wasIm o_wave_wasRe (0 : Int32))
  ))
set_option maxHeartbeats 4000000 in
set_option maxRecDepth 100000 in
theorem tX9_taper (l : Launch) (G : va_G) (cI cJ cZ : ClassId) (sz : Nat) (h_o h_o_past h_o_turns h_o_wave h_o_way h_o_past_cells h_o_turns_cos h_o_wave_halved h_o_wave_im h_o_wave_re h_o_wave_wasIm h_o_wave_wasRe h_o_notes h_o_ring h_o_beater h_o_reader h_o_dice h_o_trialWay h_o_trial h_o_otherTrial h_o_sumsRe h_o_sumsIm h_o_tally h_o_image h_o_tape h_o_turns_sin h_o_way_shifts : Nat) (o_imageKept : Int32) (o_taped : Int32) (o_past_next : Int32) (o_past_held : Int32) (o_wave_exp : Int32) (o_wave_done : Int32) (o_wave_backward : Int32) (o_way_size : Int32) (o_way_log : Int32) (o_way_wordBits : Int32) (o_way_limit : Int32) (o_way_radix : Int32) (o_way_order : Int32) (o_way_near : Int32) (o_way_seed : Int32) (o_way_stages : Int32) (o_past_cells : Nat → Int32) (o_turns_cos : Nat → Int32) (o_wave_halved : Nat → Int32) (o_wave_im : Nat → Int32) (o_wave_re : Nat → Int32) (o_wave_wasIm : Nat → Int32) (o_wave_wasRe : Nat → Int32) (r : Int32) (out_o_past_next : Int32) (out_o_past_held : Int32) (out_o_past_cells : Nat → Int32) (out_o_wave_im : Nat → Int32) (out_o_wave_re : Nat → Int32) (out_o_wave_wasIm : Nat → Int32) (out_o_wave_wasRe : Nat → Int32) (hf : fX9_taper o_past_next o_past_held o_wave_exp o_wave_done o_wave_backward o_way_size o_way_near o_past_cells o_turns_cos o_wave_halved o_wave_im o_wave_re o_wave_wasIm o_wave_wasRe = some (r, out_o_past_next, out_o_past_held, out_o_past_cells, out_o_wave_im, out_o_wave_re, out_o_wave_wasIm, out_o_wave_wasRe)) : Met l yX9_taper (Cond.code yX9_taper cX9_taper 3 (some .boolean) :: BIG) ({ frames := 3, cells := 0, slots := 0, locals := 62 } : Room) (cP G (TY3 cI cJ cZ) [.ref h_o] sz (wX9_taper cI cJ cZ h_o h_o_past h_o_turns h_o_wave h_o_way h_o_past_cells h_o_turns_cos h_o_wave_halved h_o_wave_im h_o_wave_re h_o_wave_wasIm h_o_wave_wasRe h_o_notes h_o_ring h_o_beater h_o_reader h_o_dice h_o_trialWay h_o_trial h_o_otherTrial h_o_sumsRe h_o_sumsIm h_o_tally h_o_image h_o_tape h_o_turns_sin h_o_way_shifts o_imageKept o_taped o_past_next o_past_held o_wave_exp o_wave_done o_wave_backward o_way_size o_way_log o_way_wordBits o_way_limit o_way_radix o_way_order o_way_near o_way_seed o_way_stages o_past_cells o_turns_cos o_wave_halved o_wave_im o_wave_re o_wave_wasIm o_wave_wasRe)) (cQ G (TY3 cI cJ cZ) sz (wX9_taper cI cJ cZ h_o h_o_past h_o_turns h_o_wave h_o_way h_o_past_cells h_o_turns_cos h_o_wave_halved h_o_wave_im h_o_wave_re h_o_wave_wasIm h_o_wave_wasRe h_o_notes h_o_ring h_o_beater h_o_reader h_o_dice h_o_trialWay h_o_trial h_o_otherTrial h_o_sumsRe h_o_sumsIm h_o_tally h_o_image h_o_tape h_o_turns_sin h_o_way_shifts o_imageKept o_taped o_past_next o_past_held o_wave_exp o_wave_done o_wave_backward o_way_size o_way_log o_way_wordBits o_way_limit o_way_radix o_way_order o_way_near o_way_seed o_way_stages o_past_cells o_turns_cos o_wave_halved o_wave_im o_wave_re o_wave_wasIm o_wave_wasRe) (wX9_taper cI cJ cZ h_o h_o_past h_o_turns h_o_wave h_o_way h_o_past_cells h_o_turns_cos h_o_wave_halved h_o_wave_im h_o_wave_re h_o_wave_wasIm h_o_wave_wasRe h_o_notes h_o_ring h_o_beater h_o_reader h_o_dice h_o_trialWay h_o_trial h_o_otherTrial h_o_sumsRe h_o_sumsIm h_o_tally h_o_image h_o_tape h_o_turns_sin h_o_way_shifts o_imageKept o_taped out_o_past_next out_o_past_held o_wave_exp o_wave_done o_wave_backward o_way_size o_way_log o_way_wordBits o_way_limit o_way_radix o_way_order o_way_near o_way_seed o_way_stages out_o_past_cells o_turns_cos o_wave_halved out_o_wave_im out_o_wave_re out_o_wave_wasIm out_o_wave_wasRe) (some (.int r))) 0 0 (va_A (wX9_taper cI cJ cZ h_o h_o_past h_o_turns h_o_wave h_o_way h_o_past_cells h_o_turns_cos h_o_wave_halved h_o_wave_im h_o_wave_re h_o_wave_wasIm h_o_wave_wasRe h_o_notes h_o_ring h_o_beater h_o_reader h_o_dice h_o_trialWay h_o_trial h_o_otherTrial h_o_sumsRe h_o_sumsIm h_o_tally h_o_image h_o_tape h_o_turns_sin h_o_way_shifts o_imageKept o_taped o_past_next o_past_held o_wave_exp o_wave_done o_wave_backward o_way_size o_way_log o_way_wordBits o_way_limit o_way_radix o_way_order o_way_near o_way_seed o_way_stages o_past_cells o_turns_cos o_wave_halved o_wave_im o_wave_re o_wave_wasIm o_wave_wasRe) sz) := by
  refine met_z (cc := cX9_taper) (maxL := 3) (plainFor_of_name (by decide)) (Nat.le_of_ble_eq_true rfl) (fun p e s m below meth c A ls Q hx hb hml hts hown hK hP hD hS hA hl hret => ?_)
  have hown : s.vm.findClass RX9 = some m.cls := hown
  have hl : lv_has ls 3 [(0, .ref h_o)] := hl
  have j99 : ∀ (o_past_next : Int32) (o_past_held : Int32) (o_past_cells : Nat → Int32) (o_wave_im : Nat → Int32) (o_wave_re : Nat → Int32) (o_wave_wasIm : Nat → Int32) (o_wave_wasRe : Nat → Int32) (H : Heap) (locs : List Loc) (ls : Array Slot), fX9_taper_99 o_past_next o_past_held o_past_cells o_wave_im o_wave_re o_wave_wasIm o_wave_wasRe = some (r, out_o_past_next, out_o_past_held, out_o_past_cells, out_o_wave_im, out_o_wave_re, out_o_wave_wasIm, out_o_wave_wasRe) → va_P G vwCl (wX9_taper cI cJ cZ h_o h_o_past h_o_turns h_o_wave h_o_way h_o_past_cells h_o_turns_cos h_o_wave_halved h_o_wave_im h_o_wave_re h_o_wave_wasIm h_o_wave_wasRe h_o_notes h_o_ring h_o_beater h_o_reader h_o_dice h_o_trialWay h_o_trial h_o_otherTrial h_o_sumsRe h_o_sumsIm h_o_tally h_o_image h_o_tape h_o_turns_sin h_o_way_shifts o_imageKept o_taped o_past_next o_past_held o_wave_exp o_wave_done o_wave_backward o_way_size o_way_log o_way_wordBits o_way_limit o_way_radix o_way_order o_way_near o_way_seed o_way_stages o_past_cells o_turns_cos o_wave_halved o_wave_im o_wave_re o_wave_wasIm o_wave_wasRe) H → va_D A (wX9_taper cI cJ cZ h_o h_o_past h_o_turns h_o_wave h_o_way h_o_past_cells h_o_turns_cos h_o_wave_halved h_o_wave_im h_o_wave_re h_o_wave_wasIm h_o_wave_wasRe h_o_notes h_o_ring h_o_beater h_o_reader h_o_dice h_o_trialWay h_o_trial h_o_otherTrial h_o_sumsRe h_o_sumsIm h_o_tally h_o_image h_o_tape h_o_turns_sin h_o_way_shifts o_imageKept o_taped o_past_next o_past_held o_wave_exp o_wave_done o_wave_backward o_way_size o_way_log o_way_wordBits o_way_limit o_way_radix o_way_order o_way_near o_way_seed o_way_stages o_past_cells o_turns_cos o_wave_halved o_wave_im o_wave_re o_wave_wasIm o_wave_wasRe) → va_S A s.heap H locs → lv_has ls 3 [(0, .ref h_o)] → W p l e ({ frames := 3, cells := 0, slots := 0, locals := 62 } : Room) s m ([.ref h_o] : List Value).toArray below meth c H locs 0 0 Q (F0 m 99 ls []) := by
    intro o_past_next o_past_held o_past_cells o_wave_im o_wave_re o_wave_wasIm o_wave_wasRe H locs ls hf hP hD hS hl
    unfold fX9_taper_99 at hf
    refine lv_aload_n hx hb dX9_taper_99 rfl (lv_at hl 0 rfl) ?_
    refine rd (ci := 9) (C := RX9) (T := TX9) (N := 19) hx hb hts inX9 hown hK hP 0 1 rfl rfl (by decide) (hts _ q_fX9_19) rfl dX9_taper_100 ?_
    obtain ⟨o_wave_wasIm_22, o_wave_wasRe_23, e_24, hf⟩ := bd2_x hf
    refine call_v [] [] ⟨hx, hb, hml, hown, hts⟩ hK hP hD hS hA hl.1 (tX7_settle l G cI cJ cZ H.size h_o_wave h_o_wave_im h_o_wave_re h_o_wave_wasIm h_o_wave_wasRe h_o_wave_halved o_wave_exp o_wave_done o_wave_backward o_wave_im o_wave_re o_wave_wasIm o_wave_wasRe o_wave_wasIm_22 o_wave_wasRe_23 e_24) (cwV 0 hts (gv q_mX9_146 q_i_yX7_settle q_s_yX7_settle q_n_RX7 q_k_yX7_settle) rfl rfl rfl (by decide +kernel) ⟨by decide, by decide⟩) rfl rfl (Nat.le_of_ble_eq_true rfl) dX9_taper_103 ⟨Nat.zero_le _, Nat.zero_le _⟩ (ci := 7) rfl 0 rfl [3, 8, 9, 10, 11] [0, 1, 2, 4, 5, 6, 7] [0, 1, 2, 7, 3, 4, 5, 6, 8, 9, 10, 11] rfl rfl (ws2 := (wX9_taper cI cJ cZ h_o h_o_past h_o_turns h_o_wave h_o_way h_o_past_cells h_o_turns_cos h_o_wave_halved h_o_wave_im h_o_wave_re h_o_wave_wasIm h_o_wave_wasRe h_o_notes h_o_ring h_o_beater h_o_reader h_o_dice h_o_trialWay h_o_trial h_o_otherTrial h_o_sumsRe h_o_sumsIm h_o_tally h_o_image h_o_tape h_o_turns_sin h_o_way_shifts o_imageKept o_taped o_past_next o_past_held o_wave_exp o_wave_done o_wave_backward o_way_size o_way_log o_way_wordBits o_way_limit o_way_radix o_way_order o_way_near o_way_seed o_way_stages o_past_cells o_turns_cos o_wave_halved o_wave_im o_wave_re o_wave_wasIm_22 o_wave_wasRe_23)) rfl (fun H locs hP hD hS => ?_)
    refine W.eq (g2 := F0 m 106 ls []) rfl ?_
    refine lv_iconst (v := (1 : Int32)) hx hb dX9_taper_106 (by decide) ?_
    cases hf
    exact hret _ _ _ _ dX9_taper_107 rfl hP hD hS
  have j22 : ∀ (n : Nat) (o_past_next : Int32) (o_past_held : Int32) (o_past_cells : Nat → Int32) (o_wave_im : Nat → Int32) (o_wave_re : Nat → Int32) (o_wave_wasIm : Nat → Int32) (o_wave_wasRe : Nat → Int32) (v1 : Int32) (H : Heap) (locs : List Loc) (ls : Array Slot), fX9_taper_22 o_way_size o_way_near o_turns_cos n o_past_next o_past_held o_past_cells o_wave_im o_wave_re o_wave_wasIm o_wave_wasRe v1 = some (r, out_o_past_next, out_o_past_held, out_o_past_cells, out_o_wave_im, out_o_wave_re, out_o_wave_wasIm, out_o_wave_wasRe) → va_P G vwCl (wX9_taper cI cJ cZ h_o h_o_past h_o_turns h_o_wave h_o_way h_o_past_cells h_o_turns_cos h_o_wave_halved h_o_wave_im h_o_wave_re h_o_wave_wasIm h_o_wave_wasRe h_o_notes h_o_ring h_o_beater h_o_reader h_o_dice h_o_trialWay h_o_trial h_o_otherTrial h_o_sumsRe h_o_sumsIm h_o_tally h_o_image h_o_tape h_o_turns_sin h_o_way_shifts o_imageKept o_taped o_past_next o_past_held o_wave_exp o_wave_done o_wave_backward o_way_size o_way_log o_way_wordBits o_way_limit o_way_radix o_way_order o_way_near o_way_seed o_way_stages o_past_cells o_turns_cos o_wave_halved o_wave_im o_wave_re o_wave_wasIm o_wave_wasRe) H → va_D A (wX9_taper cI cJ cZ h_o h_o_past h_o_turns h_o_wave h_o_way h_o_past_cells h_o_turns_cos h_o_wave_halved h_o_wave_im h_o_wave_re h_o_wave_wasIm h_o_wave_wasRe h_o_notes h_o_ring h_o_beater h_o_reader h_o_dice h_o_trialWay h_o_trial h_o_otherTrial h_o_sumsRe h_o_sumsIm h_o_tally h_o_image h_o_tape h_o_turns_sin h_o_way_shifts o_imageKept o_taped o_past_next o_past_held o_wave_exp o_wave_done o_wave_backward o_way_size o_way_log o_way_wordBits o_way_limit o_way_radix o_way_order o_way_near o_way_seed o_way_stages o_past_cells o_turns_cos o_wave_halved o_wave_im o_wave_re o_wave_wasIm o_wave_wasRe) → va_S A s.heap H locs → lv_has ls 3 [(0, .ref h_o), (1, .int v1)] → W p l e ({ frames := 3, cells := 0, slots := 0, locals := 62 } : Room) s m ([.ref h_o] : List Value).toArray below meth c H locs 0 0 Q (F0 m 22 ls []) := by
    intro n
    induction n with
    | zero =>
      intro o_past_next o_past_held o_past_cells o_wave_im o_wave_re o_wave_wasIm o_wave_wasRe v1 H locs ls hf
      have hf : (none : Option (Int32 × Int32 × Int32 × (Nat → Int32) × (Nat → Int32) × (Nat → Int32) × (Nat → Int32) × (Nat → Int32))) = some (r, out_o_past_next, out_o_past_held, out_o_past_cells, out_o_wave_im, out_o_wave_re, out_o_wave_wasIm, out_o_wave_wasRe) := hf
      cases hf
    | succ n ih =>
      intro o_past_next o_past_held o_past_cells o_wave_im o_wave_re o_wave_wasIm o_wave_wasRe v1 H locs ls hf hP hD hS hl
      rw [fX9_taper_22.eq_2] at hf
      refine lv_iload_n hx hb dX9_taper_22 rfl (lv_at hl 1 rfl) ?_
      refine lv_aload_n hx hb dX9_taper_23 rfl (lv_at hl 0 rfl) ?_
      refine rd (ci := 9) (C := RX9) (T := TX9) (N := 19) hx hb hts inX9 hown hK hP 0 0 rfl rfl (by decide) (hts _ q_fX9_10) rfl dX9_taper_24 ?_
      refine rd (ci := 8) (C := RX8) (T := TX8) (N := 10) hx hb hts inX8 hown hK hP 4 0 rfl rfl (by decide) (hts _ q_fX9_115) rfl dX9_taper_27 ?_
      refine lv_icmp_ge (tgt := 99) hx hb dX9_taper_30 (by decide) (fun c_8 => ?_) (fun c_8 => ?_)
      · have hf := it_t c_8 hf
        exact j99 o_past_next o_past_held o_past_cells o_wave_im o_wave_re o_wave_wasIm o_wave_wasRe H locs ls hf hP hD hS (lv_sub hl [0] rfl)
      · have hf := it_f c_8 hf
        refine lv_sipush (v := (16384 : Int32)) hx hb dX9_taper_33 (by decide) ?_
        refine lv_aload_n hx hb dX9_taper_36 rfl (lv_at hl 0 rfl) ?_
        refine rd (ci := 9) (C := RX9) (T := TX9) (N := 19) hx hb hts inX9 hown hK hP 0 5 rfl rfl (by decide) (hts _ q_fX9_47) rfl dX9_taper_37 ?_
        refine rd (ci := 6) (C := RX6) (T := TX6) (N := 2) hx hb hts inX6 hown hK hP 2 0 rfl rfl (by decide) (hts _ q_fX9_186) rfl dX9_taper_40 ?_
        refine lv_iload_n hx hb dX9_taper_43 rfl (lv_at hl 1 rfl) ?_
        obtain ⟨g_9, hf⟩ := gd_x hf
        refine va_iald hx hb hK hP 6 0 rfl rfl (inb_x g_9) dX9_taper_44 ?_
        refine lv_isub hx hb dX9_taper_45 ?_
        refine lv_topi (fun v2_10 ev2_10 => ?_)
        have hf := nm_x ev2_10 hf
        refine lv_istore_n (lv' := [(2, .int v2_10), (0, .ref h_o), (1, .int v1)]) hx hb dX9_taper_46 rfl hl (by decide) rfl (fun ls hl => ?_)
        refine lv_aload_n hx hb dX9_taper_47 rfl (lv_at hl 1 rfl) ?_
        refine rd (ci := 9) (C := RX9) (T := TX9) (N := 19) hx hb hts inX9 hown hK hP 0 1 rfl rfl (by decide) (hts _ q_fX9_19) rfl dX9_taper_48 ?_
        refine rd (ci := 7) (C := RX7) (T := TX7) (N := 8) hx hb hts inX7 hown hK hP 3 0 rfl rfl (by decide) (hts _ q_fX9_175) rfl dX9_taper_51 ?_
        refine lv_iload_n hx hb dX9_taper_54 rfl (lv_at hl 2 rfl) ?_
        refine lv_aload_n hx hb dX9_taper_55 rfl (lv_at hl 1 rfl) ?_
        refine lv_aload_n hx hb dX9_taper_56 rfl (lv_at hl 1 rfl) ?_
        refine rd (ci := 9) (C := RX9) (T := TX9) (N := 19) hx hb hts inX9 hown hK hP 0 1 rfl rfl (by decide) (hts _ q_fX9_19) rfl dX9_taper_57 ?_
        refine rd (ci := 7) (C := RX7) (T := TX7) (N := 8) hx hb hts inX7 hown hK hP 3 0 rfl rfl (by decide) (hts _ q_fX9_175) rfl dX9_taper_60 ?_
        refine lv_iload_n hx hb dX9_taper_63 rfl (lv_at hl 2 rfl) ?_
        obtain ⟨g_11, hf⟩ := gd_x hf
        refine va_iald hx hb hK hP 9 0 rfl rfl (inb_x g_11) dX9_taper_64 ?_
        refine lv_iload_n hx hb dX9_taper_65 rfl (lv_at hl 0 rfl) ?_
        obtain ⟨r_12, e_13, hf⟩ := bd1_x hf
        refine call_v [.int (o_wave_re (Int32.toNatClampNeg v1)), .int v2_10] [.int v1, .ref h_o_wave_re] ⟨hx, hb, hml, hown, hts⟩ hK hP hD hS hA hl.1 (tX9_tapered l G cI cJ cZ H.size h_o h_o_way h_o_wave h_o_past h_o_notes h_o_ring h_o_turns h_o_beater h_o_reader h_o_dice h_o_trialWay h_o_trial h_o_otherTrial h_o_sumsRe h_o_sumsIm h_o_tally h_o_image h_o_tape h_o_way_shifts o_imageKept o_taped o_way_size o_way_log o_way_wordBits o_way_limit o_way_radix o_way_order o_way_near o_way_seed o_way_stages (o_wave_re (Int32.toNatClampNeg v1)) v2_10 r_12 e_13) (cwV 2 hts (gv q_mX9_269 q_i_yX9_tapered q_s_yX9_tapered q_n_RX9 q_k_yX9_tapered) rfl rfl rfl (by decide +kernel) ⟨by decide, by decide⟩) rfl rfl (Nat.le_of_ble_eq_true rfl) dX9_taper_66 ⟨Nat.zero_le _, Nat.zero_le _⟩ (ci := 9) rfl 0 rfl [0, 4] [1, 2, 3, 5, 6, 7, 8, 9, 10, 11] [10, 0, 1, 2, 11, 3, 4, 5, 6, 7, 8, 9] rfl rfl (ws2 := (wX9_taper cI cJ cZ h_o h_o_past h_o_turns h_o_wave h_o_way h_o_past_cells h_o_turns_cos h_o_wave_halved h_o_wave_im h_o_wave_re h_o_wave_wasIm h_o_wave_wasRe h_o_notes h_o_ring h_o_beater h_o_reader h_o_dice h_o_trialWay h_o_trial h_o_otherTrial h_o_sumsRe h_o_sumsIm h_o_tally h_o_image h_o_tape h_o_turns_sin h_o_way_shifts o_imageKept o_taped o_past_next o_past_held o_wave_exp o_wave_done o_wave_backward o_way_size o_way_log o_way_wordBits o_way_limit o_way_radix o_way_order o_way_near o_way_seed o_way_stages o_past_cells o_turns_cos o_wave_halved o_wave_im o_wave_re o_wave_wasIm o_wave_wasRe)) rfl (fun H locs hP hD hS => ?_)
        refine W.eq (g2 := F0 m 69 ls [.int r_12, .int v1, .ref h_o_wave_re]) rfl ?_
        obtain ⟨g_14, hf⟩ := gd_x hf
        obtain ⟨o_wave_re_15, eo_wave_re_15⟩ : ∃ y : Nat → Int32, y = upd o_wave_re (Int32.toNatClampNeg v1) r_12 := ⟨_, rfl⟩
        have hf := nm_x eo_wave_re_15 hf
        refine ist hx hb hK hP hD hS 9 0 rfl rfl (inb_x g_14) dX9_taper_69 eo_wave_re_15 (ws2 := (wX9_taper cI cJ cZ h_o h_o_past h_o_turns h_o_wave h_o_way h_o_past_cells h_o_turns_cos h_o_wave_halved h_o_wave_im h_o_wave_re h_o_wave_wasIm h_o_wave_wasRe h_o_notes h_o_ring h_o_beater h_o_reader h_o_dice h_o_trialWay h_o_trial h_o_otherTrial h_o_sumsRe h_o_sumsIm h_o_tally h_o_image h_o_tape h_o_turns_sin h_o_way_shifts o_imageKept o_taped o_past_next o_past_held o_wave_exp o_wave_done o_wave_backward o_way_size o_way_log o_way_wordBits o_way_limit o_way_radix o_way_order o_way_near o_way_seed o_way_stages o_past_cells o_turns_cos o_wave_halved o_wave_im o_wave_re_15 o_wave_wasIm o_wave_wasRe)) rfl (fun H locs hP hD hS => ?_)
        refine lv_aload_n hx hb dX9_taper_70 rfl (lv_at hl 1 rfl) ?_
        refine rd (ci := 9) (C := RX9) (T := TX9) (N := 19) hx hb hts inX9 hown hK hP 0 1 rfl rfl (by decide) (hts _ q_fX9_19) rfl dX9_taper_71 ?_
        refine rd (ci := 7) (C := RX7) (T := TX7) (N := 8) hx hb hts inX7 hown hK hP 3 1 rfl rfl (by decide) (hts _ q_fX9_176) rfl dX9_taper_74 ?_
        refine lv_iload_n hx hb dX9_taper_77 rfl (lv_at hl 2 rfl) ?_
        refine lv_aload_n hx hb dX9_taper_78 rfl (lv_at hl 1 rfl) ?_
        refine lv_aload_n hx hb dX9_taper_79 rfl (lv_at hl 1 rfl) ?_
        refine rd (ci := 9) (C := RX9) (T := TX9) (N := 19) hx hb hts inX9 hown hK hP 0 1 rfl rfl (by decide) (hts _ q_fX9_19) rfl dX9_taper_80 ?_
        refine rd (ci := 7) (C := RX7) (T := TX7) (N := 8) hx hb hts inX7 hown hK hP 3 1 rfl rfl (by decide) (hts _ q_fX9_176) rfl dX9_taper_83 ?_
        refine lv_iload_n hx hb dX9_taper_86 rfl (lv_at hl 2 rfl) ?_
        obtain ⟨g_16, hf⟩ := gd_x hf
        refine va_iald hx hb hK hP 8 0 rfl rfl (inb_x g_16) dX9_taper_87 ?_
        refine lv_iload_n hx hb dX9_taper_88 rfl (lv_at hl 0 rfl) ?_
        obtain ⟨r_17, e_18, hf⟩ := bd1_x hf
        refine call_v [.int (o_wave_im (Int32.toNatClampNeg v1)), .int v2_10] [.int v1, .ref h_o_wave_im] ⟨hx, hb, hml, hown, hts⟩ hK hP hD hS hA hl.1 (tX9_tapered l G cI cJ cZ H.size h_o h_o_way h_o_wave h_o_past h_o_notes h_o_ring h_o_turns h_o_beater h_o_reader h_o_dice h_o_trialWay h_o_trial h_o_otherTrial h_o_sumsRe h_o_sumsIm h_o_tally h_o_image h_o_tape h_o_way_shifts o_imageKept o_taped o_way_size o_way_log o_way_wordBits o_way_limit o_way_radix o_way_order o_way_near o_way_seed o_way_stages (o_wave_im (Int32.toNatClampNeg v1)) v2_10 r_17 e_18) (cwV 2 hts (gv q_mX9_269 q_i_yX9_tapered q_s_yX9_tapered q_n_RX9 q_k_yX9_tapered) rfl rfl rfl (by decide +kernel) ⟨by decide, by decide⟩) rfl rfl (Nat.le_of_ble_eq_true rfl) dX9_taper_89 ⟨Nat.zero_le _, Nat.zero_le _⟩ (ci := 9) rfl 0 rfl [0, 4] [1, 2, 3, 5, 6, 7, 8, 9, 10, 11] [10, 0, 1, 2, 11, 3, 4, 5, 6, 7, 8, 9] rfl rfl (ws2 := (wX9_taper cI cJ cZ h_o h_o_past h_o_turns h_o_wave h_o_way h_o_past_cells h_o_turns_cos h_o_wave_halved h_o_wave_im h_o_wave_re h_o_wave_wasIm h_o_wave_wasRe h_o_notes h_o_ring h_o_beater h_o_reader h_o_dice h_o_trialWay h_o_trial h_o_otherTrial h_o_sumsRe h_o_sumsIm h_o_tally h_o_image h_o_tape h_o_turns_sin h_o_way_shifts o_imageKept o_taped o_past_next o_past_held o_wave_exp o_wave_done o_wave_backward o_way_size o_way_log o_way_wordBits o_way_limit o_way_radix o_way_order o_way_near o_way_seed o_way_stages o_past_cells o_turns_cos o_wave_halved o_wave_im o_wave_re_15 o_wave_wasIm o_wave_wasRe)) rfl (fun H locs hP hD hS => ?_)
        refine W.eq (g2 := F0 m 92 ls [.int r_17, .int v1, .ref h_o_wave_im]) rfl ?_
        obtain ⟨g_19, hf⟩ := gd_x hf
        obtain ⟨o_wave_im_20, eo_wave_im_20⟩ : ∃ y : Nat → Int32, y = upd o_wave_im (Int32.toNatClampNeg v1) r_17 := ⟨_, rfl⟩
        have hf := nm_x eo_wave_im_20 hf
        refine ist hx hb hK hP hD hS 8 0 rfl rfl (inb_x g_19) dX9_taper_92 eo_wave_im_20 (ws2 := (wX9_taper cI cJ cZ h_o h_o_past h_o_turns h_o_wave h_o_way h_o_past_cells h_o_turns_cos h_o_wave_halved h_o_wave_im h_o_wave_re h_o_wave_wasIm h_o_wave_wasRe h_o_notes h_o_ring h_o_beater h_o_reader h_o_dice h_o_trialWay h_o_trial h_o_otherTrial h_o_sumsRe h_o_sumsIm h_o_tally h_o_image h_o_tape h_o_turns_sin h_o_way_shifts o_imageKept o_taped o_past_next o_past_held o_wave_exp o_wave_done o_wave_backward o_way_size o_way_log o_way_wordBits o_way_limit o_way_radix o_way_order o_way_near o_way_seed o_way_stages o_past_cells o_turns_cos o_wave_halved o_wave_im_20 o_wave_re_15 o_wave_wasIm o_wave_wasRe)) rfl (fun H locs hP hD hS => ?_)
        obtain ⟨v1_21, ev1_21⟩ : ∃ y : Int32, y = v1 + (1 : Int32) := ⟨_, rfl⟩
        have hf := nm_x ev1_21 hf
        refine lv_iinc (v := v1_21) (lv' := [(1, .int v1_21), (2, .int v2_10), (0, .ref h_o)]) hx hb dX9_taper_93 hl (k := 2) rfl (by rw [ev1_21]; rfl) (by decide) rfl (fun ls hl => ?_)
        refine lv_goto (tgt := 22) hx hb dX9_taper_96 (by decide) ?_
        exact ih o_past_next o_past_held o_past_cells o_wave_im_20 o_wave_re_15 o_wave_wasIm o_wave_wasRe v1_21 H locs ls hf hP hD hS (lv_sub hl [2, 0] rfl)
  unfold fX9_taper at hf
  obtain ⟨H, eH⟩ : ∃ H, H = s.heap := ⟨_, rfl⟩
  obtain ⟨locs, elocs⟩ : ∃ z : List Loc, z = [] := ⟨_, rfl⟩
  have hP : va_P G vwCl (wX9_taper cI cJ cZ h_o h_o_past h_o_turns h_o_wave h_o_way h_o_past_cells h_o_turns_cos h_o_wave_halved h_o_wave_im h_o_wave_re h_o_wave_wasIm h_o_wave_wasRe h_o_notes h_o_ring h_o_beater h_o_reader h_o_dice h_o_trialWay h_o_trial h_o_otherTrial h_o_sumsRe h_o_sumsIm h_o_tally h_o_image h_o_tape h_o_turns_sin h_o_way_shifts o_imageKept o_taped o_past_next o_past_held o_wave_exp o_wave_done o_wave_backward o_way_size o_way_log o_way_wordBits o_way_limit o_way_radix o_way_order o_way_near o_way_seed o_way_stages o_past_cells o_turns_cos o_wave_halved o_wave_im o_wave_re o_wave_wasIm o_wave_wasRe) H := by rw [eH]; exact hP
  have hS : va_S A s.heap H locs := by rw [eH, elocs]; exact hS
  suffices hgo : W p l e ({ frames := 3, cells := 0, slots := 0, locals := 62 } : Room) s m ([.ref h_o] : List Value).toArray below meth c H locs 0 0 Q (F0 m 0 ls []) by rw [eH, elocs] at hgo; exact hgo
  clear eH elocs
  refine lv_aload_n hx hb dX9_taper_0 rfl (lv_at hl 0 rfl) ?_
  obtain ⟨r_1, e_2, hf⟩ := bd1_x hf
  refine call_v [] [] ⟨hx, hb, hml, hown, hts⟩ hK hP hD hS hA hl.1 (tX9_isFresh l G cI cJ cZ H.size h_o h_o_wave h_o_way h_o_past h_o_notes h_o_ring h_o_turns h_o_beater h_o_reader h_o_dice h_o_trialWay h_o_trial h_o_otherTrial h_o_sumsRe h_o_sumsIm h_o_tally h_o_image h_o_tape h_o_wave_re h_o_wave_im h_o_wave_wasRe h_o_wave_wasIm h_o_wave_halved o_imageKept o_taped o_wave_exp o_wave_done o_wave_backward r_1 e_2) (cwV 0 hts (gv q_mX9_261 q_i_yX9_isFresh q_s_yX9_isFresh q_n_RX9 q_k_yX9_isFresh) rfl rfl rfl (by decide +kernel) ⟨by decide, by decide⟩) rfl rfl (Nat.le_of_ble_eq_true rfl) dX9_taper_1 ⟨Nat.zero_le _, Nat.zero_le _⟩ (ci := 9) rfl 0 rfl [0, 3] [1, 2, 4, 5, 6, 7, 8, 9, 10, 11] [10, 0, 1, 11, 2, 3, 4, 5, 6, 7, 8, 9] rfl rfl (ws2 := (wX9_taper cI cJ cZ h_o h_o_past h_o_turns h_o_wave h_o_way h_o_past_cells h_o_turns_cos h_o_wave_halved h_o_wave_im h_o_wave_re h_o_wave_wasIm h_o_wave_wasRe h_o_notes h_o_ring h_o_beater h_o_reader h_o_dice h_o_trialWay h_o_trial h_o_otherTrial h_o_sumsRe h_o_sumsIm h_o_tally h_o_image h_o_tape h_o_turns_sin h_o_way_shifts o_imageKept o_taped o_past_next o_past_held o_wave_exp o_wave_done o_wave_backward o_way_size o_way_log o_way_wordBits o_way_limit o_way_radix o_way_order o_way_near o_way_seed o_way_stages o_past_cells o_turns_cos o_wave_halved o_wave_im o_wave_re o_wave_wasIm o_wave_wasRe)) rfl (fun H locs hP hD hS => ?_)
  refine W.eq (g2 := F0 m 4 ls [.int r_1]) rfl ?_
  refine lv_if_ne (tgt := 9) hx hb dX9_taper_4 (by decide) (fun c_3 => ?_) (fun c_3 => ?_)
  · have hf := it_f c_3 hf
    refine lv_aload_n hx hb dX9_taper_9 rfl (lv_at hl 0 rfl) ?_
    refine rd (ci := 9) (C := RX9) (T := TX9) (N := 19) hx hb hts inX9 hown hK hP 0 2 rfl rfl (by decide) (hts _ q_fX9_26) rfl dX9_taper_10 ?_
    refine lv_aload_n hx hb dX9_taper_13 rfl (lv_at hl 0 rfl) ?_
    refine rd (ci := 9) (C := RX9) (T := TX9) (N := 19) hx hb hts inX9 hown hK hP 0 1 rfl rfl (by decide) (hts _ q_fX9_19) rfl dX9_taper_14 ?_
    obtain ⟨o_past_next_4, o_past_held_5, o_past_cells_6, e_7, hf⟩ := bd3_x hf
    refine call_v [.ref h_o_wave] [] ⟨hx, hb, hml, hown, hts⟩ hK hP hD hS hA hl.1 (tX3_remember l G cI cJ cZ H.size h_o_past h_o_wave h_o_wave_halved h_o_wave_im h_o_wave_re h_o_wave_wasIm h_o_wave_wasRe h_o_past_cells o_past_next o_past_held o_wave_exp o_wave_done o_wave_backward o_wave_halved o_wave_im o_wave_re o_wave_wasIm o_wave_wasRe o_past_cells o_past_next_4 o_past_held_5 o_past_cells_6 e_7) (cwV 1 hts (gv q_mX9_265 q_i_yX3_remember q_s_yX3_remember q_n_RX3 q_k_yX3_remember) rfl rfl rfl (by decide +kernel) ⟨by decide, by decide⟩) rfl rfl (Nat.le_of_ble_eq_true rfl) dX9_taper_17 ⟨Nat.zero_le _, Nat.zero_le _⟩ (ci := 3) rfl 0 rfl [1, 3, 7, 8, 9, 10, 11, 5] [0, 2, 4, 6] [0, 4, 1, 5, 2, 11, 3, 6, 7, 8, 9, 10] rfl rfl (ws2 := (wX9_taper cI cJ cZ h_o h_o_past h_o_turns h_o_wave h_o_way h_o_past_cells h_o_turns_cos h_o_wave_halved h_o_wave_im h_o_wave_re h_o_wave_wasIm h_o_wave_wasRe h_o_notes h_o_ring h_o_beater h_o_reader h_o_dice h_o_trialWay h_o_trial h_o_otherTrial h_o_sumsRe h_o_sumsIm h_o_tally h_o_image h_o_tape h_o_turns_sin h_o_way_shifts o_imageKept o_taped o_past_next_4 o_past_held_5 o_wave_exp o_wave_done o_wave_backward o_way_size o_way_log o_way_wordBits o_way_limit o_way_radix o_way_order o_way_near o_way_seed o_way_stages o_past_cells_6 o_turns_cos o_wave_halved o_wave_im o_wave_re o_wave_wasIm o_wave_wasRe)) rfl (fun H locs hP hD hS => ?_)
    refine W.eq (g2 := F0 m 20 ls []) rfl ?_
    refine lv_iconst (v := (0 : Int32)) hx hb dX9_taper_20 (by decide) ?_
    refine lv_istore_n (lv' := [(1, .int (0 : Int32)), (0, .ref h_o)]) hx hb dX9_taper_21 rfl hl (by decide) rfl (fun ls hl => ?_)
    exact j22 FU o_past_next_4 o_past_held_5 o_past_cells_6 o_wave_im o_wave_re o_wave_wasIm o_wave_wasRe (0 : Int32) H locs ls hf hP hD hS (lv_sub hl [1, 0] rfl)
  · have hf := it_t c_3 hf
    refine lv_iconst (v := (0 : Int32)) hx hb dX9_taper_7 (by decide) ?_
    cases hf
    exact hret _ _ _ _ dX9_taper_8 rfl hP hD hS
def wX9_shift (cI cJ cZ : ClassId) (h_o h_o_beater h_o_past h_o_wave h_o_way h_o_beater_spareIm h_o_beater_spareRe h_o_past_cells h_o_wave_halved h_o_wave_im h_o_wave_re h_o_wave_wasIm h_o_wave_wasRe h_o_notes h_o_ring h_o_turns h_o_reader h_o_dice h_o_trialWay h_o_trial h_o_otherTrial h_o_sumsRe h_o_sumsIm h_o_tally h_o_image h_o_tape h_o_beater_wingRe h_o_beater_wingIm h_o_way_shifts : Nat) (o_imageKept : Int32) (o_taped : Int32) (o_past_next : Int32) (o_past_held : Int32) (o_wave_exp : Int32) (o_wave_done : Int32) (o_wave_backward : Int32) (o_way_size : Int32) (o_way_log : Int32) (o_way_wordBits : Int32) (o_way_limit : Int32) (o_way_radix : Int32) (o_way_order : Int32) (o_way_near : Int32) (o_way_seed : Int32) (o_way_stages : Int32) (o_beater_spareIm : Nat → Int32) (o_beater_spareRe : Nat → Int32) (o_past_cells : Nat → Int32) (o_wave_halved : Nat → Int32) (o_wave_im : Nat → Int32) (o_wave_re : Nat → Int32) (o_wave_wasIm : Nat → Int32) (o_wave_wasRe : Nat → Int32) : va_W := [(h_o, .inr (9, [.ref h_o_way, .ref h_o_wave, .ref h_o_past, .ref h_o_notes, .ref h_o_ring, .ref h_o_turns, .ref h_o_beater, .ref h_o_reader, .ref h_o_dice, .ref h_o_trialWay, .ref h_o_trial, .ref h_o_otherTrial, .ref h_o_sumsRe, .ref h_o_sumsIm, .ref h_o_tally, .ref h_o_image, .int o_imageKept, .ref h_o_tape, .int o_taped])), (h_o_beater, .inr (0, [.ref h_o_turns, .ref h_o_beater_spareRe, .ref h_o_beater_spareIm, .ref h_o_beater_wingRe, .ref h_o_beater_wingIm])), (h_o_past, .inr (3, [.ref h_o_past_cells, .int o_past_next, .int o_past_held])), (h_o_wave, .inr (7, [.ref h_o_wave_re, .ref h_o_wave_im, .ref h_o_wave_wasRe, .ref h_o_wave_wasIm, .ref h_o_wave_halved, .int o_wave_exp, .int o_wave_done, .int o_wave_backward])), (h_o_way, .inr (8, [.int o_way_size, .int o_way_log, .int o_way_wordBits, .int o_way_limit, .int o_way_radix, .int o_way_order, .int o_way_near, .int o_way_seed, .int o_way_stages, .ref h_o_way_shifts])), (h_o_beater_spareIm, .inl (cI, 32, .inl o_beater_spareIm)), (h_o_beater_spareRe, .inl (cI, 32, .inl o_beater_spareRe)), (h_o_past_cells, .inl (cI, 2720, .inl o_past_cells)), (h_o_wave_halved, .inl (cI, 5, .inl o_wave_halved)), (h_o_wave_im, .inl (cI, 32, .inl o_wave_im)), (h_o_wave_re, .inl (cI, 32, .inl o_wave_re)), (h_o_wave_wasIm, .inl (cI, 32, .inl o_wave_wasIm)), (h_o_wave_wasRe, .inl (cI, 32, .inl o_wave_wasRe))]
def fX9_shift (o_past_next : Int32) (o_past_held : Int32) (o_wave_exp : Int32) (o_wave_done : Int32) (o_wave_backward : Int32) (o_way_size : Int32) (o_beater_spareIm : Nat → Int32) (o_beater_spareRe : Nat → Int32) (o_past_cells : Nat → Int32) (o_wave_halved : Nat → Int32) (o_wave_im : Nat → Int32) (o_wave_re : Nat → Int32) (o_wave_wasIm : Nat → Int32) (o_wave_wasRe : Nat → Int32) (p1 : Int32) : Option (Int32 × Int32 × Int32 × (Nat → Int32) × (Nat → Int32) × (Nat → Int32) × (Nat → Int32) × (Nat → Int32) × (Nat → Int32) × (Nat → Int32)) :=
  if p1 < (1 : Int32) then (
    some ((0 : Int32), o_past_next, o_past_held, o_beater_spareIm, o_beater_spareRe, o_past_cells, o_wave_im, o_wave_re, o_wave_wasIm, o_wave_wasRe)
  ) else (
    if (31 : Int32) < p1 then (
      some ((0 : Int32), o_past_next, o_past_held, o_beater_spareIm, o_beater_spareRe, o_past_cells, o_wave_im, o_wave_re, o_wave_wasIm, o_wave_wasRe)
    ) else (
      bd1 (fX9_isFresh o_wave_done o_wave_backward) (fun r_3 =>
      if r_3 = 0 then (
        some ((0 : Int32), o_past_next, o_past_held, o_beater_spareIm, o_beater_spareRe, o_past_cells, o_wave_im, o_wave_re, o_wave_wasIm, o_wave_wasRe)
      ) else (
        bd3 (fX3_remember o_past_next o_past_held o_wave_exp o_wave_done o_wave_backward o_wave_halved o_wave_im o_wave_re o_wave_wasIm o_wave_wasRe o_past_cells) (fun o_past_next_6 o_past_held_7 o_past_cells_8 =>
        bd4 (fX0_moveAll o_wave_im o_wave_re o_beater_spareIm o_beater_spareRe o_way_size (1 : Int32) p1) (fun o_wave_im_10 o_wave_re_11 o_beater_spareIm_12 o_beater_spareRe_13 =>
        bd2 (fX7_settle o_wave_im_10 o_wave_re_11 o_wave_wasIm o_wave_wasRe) (fun o_wave_wasIm_15 o_wave_wasRe_16 =>
        some ((1 : Int32), o_past_next_6, o_past_held_7, o_beater_spareIm_12, o_beater_spareRe_13, o_past_cells_8, o_wave_im_10, o_wave_re_11, o_wave_wasIm_15, o_wave_wasRe_16))))
      ))
    )
  )
set_option maxHeartbeats 4000000 in
set_option maxRecDepth 100000 in
theorem tX9_shift (l : Launch) (G : va_G) (cI cJ cZ : ClassId) (sz : Nat) (h_o h_o_beater h_o_past h_o_wave h_o_way h_o_beater_spareIm h_o_beater_spareRe h_o_past_cells h_o_wave_halved h_o_wave_im h_o_wave_re h_o_wave_wasIm h_o_wave_wasRe h_o_notes h_o_ring h_o_turns h_o_reader h_o_dice h_o_trialWay h_o_trial h_o_otherTrial h_o_sumsRe h_o_sumsIm h_o_tally h_o_image h_o_tape h_o_beater_wingRe h_o_beater_wingIm h_o_way_shifts : Nat) (o_imageKept : Int32) (o_taped : Int32) (o_past_next : Int32) (o_past_held : Int32) (o_wave_exp : Int32) (o_wave_done : Int32) (o_wave_backward : Int32) (o_way_size : Int32) (o_way_log : Int32) (o_way_wordBits : Int32) (o_way_limit : Int32) (o_way_radix : Int32) (o_way_order : Int32) (o_way_near : Int32) (o_way_seed : Int32) (o_way_stages : Int32) (o_beater_spareIm : Nat → Int32) (o_beater_spareRe : Nat → Int32) (o_past_cells : Nat → Int32) (o_wave_halved : Nat → Int32) (o_wave_im : Nat → Int32) (o_wave_re : Nat → Int32) (o_wave_wasIm : Nat → Int32) (o_wave_wasRe : Nat → Int32) (p1 : Int32) (r : Int32) (out_o_past_next : Int32) (out_o_past_held : Int32) (out_o_beater_spareIm : Nat → Int32) (out_o_beater_spareRe : Nat → Int32) (out_o_past_cells : Nat → Int32) (out_o_wave_im : Nat → Int32) (out_o_wave_re : Nat → Int32) (out_o_wave_wasIm : Nat → Int32) (out_o_wave_wasRe : Nat → Int32) (hf : fX9_shift o_past_next o_past_held o_wave_exp o_wave_done o_wave_backward o_way_size o_beater_spareIm o_beater_spareRe o_past_cells o_wave_halved o_wave_im o_wave_re o_wave_wasIm o_wave_wasRe p1 = some (r, out_o_past_next, out_o_past_held, out_o_beater_spareIm, out_o_beater_spareRe, out_o_past_cells, out_o_wave_im, out_o_wave_re, out_o_wave_wasIm, out_o_wave_wasRe)) : Met l yX9_shift (Cond.code yX9_shift cX9_shift 2 (some .boolean) :: BIG) ({ frames := 3, cells := 0, slots := 0, locals := 66 } : Room) (cP G (TY3 cI cJ cZ) [.ref h_o, .int p1] sz (wX9_shift cI cJ cZ h_o h_o_beater h_o_past h_o_wave h_o_way h_o_beater_spareIm h_o_beater_spareRe h_o_past_cells h_o_wave_halved h_o_wave_im h_o_wave_re h_o_wave_wasIm h_o_wave_wasRe h_o_notes h_o_ring h_o_turns h_o_reader h_o_dice h_o_trialWay h_o_trial h_o_otherTrial h_o_sumsRe h_o_sumsIm h_o_tally h_o_image h_o_tape h_o_beater_wingRe h_o_beater_wingIm h_o_way_shifts o_imageKept o_taped o_past_next o_past_held o_wave_exp o_wave_done o_wave_backward o_way_size o_way_log o_way_wordBits o_way_limit o_way_radix o_way_order o_way_near o_way_seed o_way_stages o_beater_spareIm o_beater_spareRe o_past_cells o_wave_halved o_wave_im o_wave_re o_wave_wasIm o_wave_wasRe)) (cQ G (TY3 cI cJ cZ) sz (wX9_shift cI cJ cZ h_o h_o_beater h_o_past h_o_wave h_o_way h_o_beater_spareIm h_o_beater_spareRe h_o_past_cells h_o_wave_halved h_o_wave_im h_o_wave_re h_o_wave_wasIm h_o_wave_wasRe h_o_notes h_o_ring h_o_turns h_o_reader h_o_dice h_o_trialWay h_o_trial h_o_otherTrial h_o_sumsRe h_o_sumsIm h_o_tally h_o_image h_o_tape h_o_beater_wingRe h_o_beater_wingIm h_o_way_shifts o_imageKept o_taped o_past_next o_past_held o_wave_exp o_wave_done o_wave_backward o_way_size o_way_log o_way_wordBits o_way_limit o_way_radix o_way_order o_way_near o_way_seed o_way_stages o_beater_spareIm o_beater_spareRe o_past_cells o_wave_halved o_wave_im o_wave_re o_wave_wasIm o_wave_wasRe) (wX9_shift cI cJ cZ h_o h_o_beater h_o_past h_o_wave h_o_way h_o_beater_spareIm h_o_beater_spareRe h_o_past_cells h_o_wave_halved h_o_wave_im h_o_wave_re h_o_wave_wasIm h_o_wave_wasRe h_o_notes h_o_ring h_o_turns h_o_reader h_o_dice h_o_trialWay h_o_trial h_o_otherTrial h_o_sumsRe h_o_sumsIm h_o_tally h_o_image h_o_tape h_o_beater_wingRe h_o_beater_wingIm h_o_way_shifts o_imageKept o_taped out_o_past_next out_o_past_held o_wave_exp o_wave_done o_wave_backward o_way_size o_way_log o_way_wordBits o_way_limit o_way_radix o_way_order o_way_near o_way_seed o_way_stages out_o_beater_spareIm out_o_beater_spareRe out_o_past_cells o_wave_halved out_o_wave_im out_o_wave_re out_o_wave_wasIm out_o_wave_wasRe) (some (.int r))) 0 0 (va_A (wX9_shift cI cJ cZ h_o h_o_beater h_o_past h_o_wave h_o_way h_o_beater_spareIm h_o_beater_spareRe h_o_past_cells h_o_wave_halved h_o_wave_im h_o_wave_re h_o_wave_wasIm h_o_wave_wasRe h_o_notes h_o_ring h_o_turns h_o_reader h_o_dice h_o_trialWay h_o_trial h_o_otherTrial h_o_sumsRe h_o_sumsIm h_o_tally h_o_image h_o_tape h_o_beater_wingRe h_o_beater_wingIm h_o_way_shifts o_imageKept o_taped o_past_next o_past_held o_wave_exp o_wave_done o_wave_backward o_way_size o_way_log o_way_wordBits o_way_limit o_way_radix o_way_order o_way_near o_way_seed o_way_stages o_beater_spareIm o_beater_spareRe o_past_cells o_wave_halved o_wave_im o_wave_re o_wave_wasIm o_wave_wasRe) sz) := by
  refine met_z (cc := cX9_shift) (maxL := 2) (plainFor_of_name (by decide)) (Nat.le_of_ble_eq_true rfl) (fun p e s m below meth c A ls Q hx hb hml hts hown hK hP hD hS hA hl hret => ?_)
  have hown : s.vm.findClass RX9 = some m.cls := hown
  have hl : lv_has ls 2 [(0, .ref h_o), (1, .int p1)] := hl
  unfold fX9_shift at hf
  obtain ⟨H, eH⟩ : ∃ H, H = s.heap := ⟨_, rfl⟩
  obtain ⟨locs, elocs⟩ : ∃ z : List Loc, z = [] := ⟨_, rfl⟩
  have hP : va_P G vwCl (wX9_shift cI cJ cZ h_o h_o_beater h_o_past h_o_wave h_o_way h_o_beater_spareIm h_o_beater_spareRe h_o_past_cells h_o_wave_halved h_o_wave_im h_o_wave_re h_o_wave_wasIm h_o_wave_wasRe h_o_notes h_o_ring h_o_turns h_o_reader h_o_dice h_o_trialWay h_o_trial h_o_otherTrial h_o_sumsRe h_o_sumsIm h_o_tally h_o_image h_o_tape h_o_beater_wingRe h_o_beater_wingIm h_o_way_shifts o_imageKept o_taped o_past_next o_past_held o_wave_exp o_wave_done o_wave_backward o_way_size o_way_log o_way_wordBits o_way_limit o_way_radix o_way_order o_way_near o_way_seed o_way_stages o_beater_spareIm o_beater_spareRe o_past_cells o_wave_halved o_wave_im o_wave_re o_wave_wasIm o_wave_wasRe) H := by rw [eH]; exact hP
  have hS : va_S A s.heap H locs := by rw [eH, elocs]; exact hS
  suffices hgo : W p l e ({ frames := 3, cells := 0, slots := 0, locals := 66 } : Room) s m ([.ref h_o, .int p1] : List Value).toArray below meth c H locs 0 0 Q (F0 m 0 ls []) by rw [eH, elocs] at hgo; exact hgo
  clear eH elocs
  refine lv_iload_n hx hb dX9_shift_0 rfl (lv_at hl 1 rfl) ?_
  refine lv_iconst (v := (1 : Int32)) hx hb dX9_shift_1 (by decide) ?_
  refine lv_icmp_lt (tgt := 18) hx hb dX9_shift_2 (by decide) (fun c_1 => ?_) (fun c_1 => ?_)
  · have hf := it_t c_1 hf
    refine lv_iconst (v := (0 : Int32)) hx hb dX9_shift_18 (by decide) ?_
    cases hf
    exact hret _ _ _ _ dX9_shift_19 rfl hP hD hS
  · have hf := it_f c_1 hf
    refine lv_iload_n hx hb dX9_shift_5 rfl (lv_at hl 1 rfl) ?_
    refine lv_bipush (v := (31 : Int32)) hx hb dX9_shift_6 (by decide) ?_
    refine lv_icmp_gt (tgt := 18) hx hb dX9_shift_8 (by decide) (fun c_2 => ?_) (fun c_2 => ?_)
    · have hf := it_t c_2 hf
      refine lv_iconst (v := (0 : Int32)) hx hb dX9_shift_18 (by decide) ?_
      cases hf
      exact hret _ _ _ _ dX9_shift_19 rfl hP hD hS
    · have hf := it_f c_2 hf
      refine lv_aload_n hx hb dX9_shift_11 rfl (lv_at hl 0 rfl) ?_
      obtain ⟨r_3, e_4, hf⟩ := bd1_x hf
      refine call_v [] [] ⟨hx, hb, hml, hown, hts⟩ hK hP hD hS hA hl.1 (tX9_isFresh l G cI cJ cZ H.size h_o h_o_wave h_o_way h_o_past h_o_notes h_o_ring h_o_turns h_o_beater h_o_reader h_o_dice h_o_trialWay h_o_trial h_o_otherTrial h_o_sumsRe h_o_sumsIm h_o_tally h_o_image h_o_tape h_o_wave_re h_o_wave_im h_o_wave_wasRe h_o_wave_wasIm h_o_wave_halved o_imageKept o_taped o_wave_exp o_wave_done o_wave_backward r_3 e_4) (cwV 0 hts (gv q_mX9_261 q_i_yX9_isFresh q_s_yX9_isFresh q_n_RX9 q_k_yX9_isFresh) rfl rfl rfl (by decide +kernel) ⟨by decide, by decide⟩) rfl rfl (Nat.le_of_ble_eq_true rfl) dX9_shift_12 ⟨Nat.zero_le _, Nat.zero_le _⟩ (ci := 9) rfl 0 rfl [0, 3] [1, 2, 4, 5, 6, 7, 8, 9, 10, 11, 12] [11, 0, 1, 12, 2, 3, 4, 5, 6, 7, 8, 9, 10] rfl rfl (ws2 := (wX9_shift cI cJ cZ h_o h_o_beater h_o_past h_o_wave h_o_way h_o_beater_spareIm h_o_beater_spareRe h_o_past_cells h_o_wave_halved h_o_wave_im h_o_wave_re h_o_wave_wasIm h_o_wave_wasRe h_o_notes h_o_ring h_o_turns h_o_reader h_o_dice h_o_trialWay h_o_trial h_o_otherTrial h_o_sumsRe h_o_sumsIm h_o_tally h_o_image h_o_tape h_o_beater_wingRe h_o_beater_wingIm h_o_way_shifts o_imageKept o_taped o_past_next o_past_held o_wave_exp o_wave_done o_wave_backward o_way_size o_way_log o_way_wordBits o_way_limit o_way_radix o_way_order o_way_near o_way_seed o_way_stages o_beater_spareIm o_beater_spareRe o_past_cells o_wave_halved o_wave_im o_wave_re o_wave_wasIm o_wave_wasRe)) rfl (fun H locs hP hD hS => ?_)
      refine W.eq (g2 := F0 m 15 ls [.int r_3]) rfl ?_
      refine lv_if_ne (tgt := 20) hx hb dX9_shift_15 (by decide) (fun c_5 => ?_) (fun c_5 => ?_)
      · have hf := it_f c_5 hf
        refine lv_aload_n hx hb dX9_shift_20 rfl (lv_at hl 0 rfl) ?_
        refine rd (ci := 9) (C := RX9) (T := TX9) (N := 19) hx hb hts inX9 hown hK hP 0 2 rfl rfl (by decide) (hts _ q_fX9_26) rfl dX9_shift_21 ?_
        refine lv_aload_n hx hb dX9_shift_24 rfl (lv_at hl 0 rfl) ?_
        refine rd (ci := 9) (C := RX9) (T := TX9) (N := 19) hx hb hts inX9 hown hK hP 0 1 rfl rfl (by decide) (hts _ q_fX9_19) rfl dX9_shift_25 ?_
        obtain ⟨o_past_next_6, o_past_held_7, o_past_cells_8, e_9, hf⟩ := bd3_x hf
        refine call_v [.ref h_o_wave] [] ⟨hx, hb, hml, hown, hts⟩ hK hP hD hS hA hl.1 (tX3_remember l G cI cJ cZ H.size h_o_past h_o_wave h_o_wave_halved h_o_wave_im h_o_wave_re h_o_wave_wasIm h_o_wave_wasRe h_o_past_cells o_past_next o_past_held o_wave_exp o_wave_done o_wave_backward o_wave_halved o_wave_im o_wave_re o_wave_wasIm o_wave_wasRe o_past_cells o_past_next_6 o_past_held_7 o_past_cells_8 e_9) (cwV 1 hts (gv q_mX9_265 q_i_yX3_remember q_s_yX3_remember q_n_RX3 q_k_yX3_remember) rfl rfl rfl (by decide +kernel) ⟨by decide, by decide⟩) rfl rfl (Nat.le_of_ble_eq_true rfl) dX9_shift_28 ⟨Nat.zero_le _, Nat.zero_le _⟩ (ci := 3) rfl 0 rfl [2, 3, 8, 9, 10, 11, 12, 7] [0, 1, 4, 5, 6] [0, 1, 5, 6, 2, 3, 4, 12, 7, 8, 9, 10, 11] rfl rfl (ws2 := (wX9_shift cI cJ cZ h_o h_o_beater h_o_past h_o_wave h_o_way h_o_beater_spareIm h_o_beater_spareRe h_o_past_cells h_o_wave_halved h_o_wave_im h_o_wave_re h_o_wave_wasIm h_o_wave_wasRe h_o_notes h_o_ring h_o_turns h_o_reader h_o_dice h_o_trialWay h_o_trial h_o_otherTrial h_o_sumsRe h_o_sumsIm h_o_tally h_o_image h_o_tape h_o_beater_wingRe h_o_beater_wingIm h_o_way_shifts o_imageKept o_taped o_past_next_6 o_past_held_7 o_wave_exp o_wave_done o_wave_backward o_way_size o_way_log o_way_wordBits o_way_limit o_way_radix o_way_order o_way_near o_way_seed o_way_stages o_beater_spareIm o_beater_spareRe o_past_cells_8 o_wave_halved o_wave_im o_wave_re o_wave_wasIm o_wave_wasRe)) rfl (fun H locs hP hD hS => ?_)
        refine W.eq (g2 := F0 m 31 ls []) rfl ?_
        refine lv_aload_n hx hb dX9_shift_31 rfl (lv_at hl 0 rfl) ?_
        refine rd (ci := 9) (C := RX9) (T := TX9) (N := 19) hx hb hts inX9 hown hK hP 0 6 rfl rfl (by decide) (hts _ q_fX9_56) rfl dX9_shift_32 ?_
        refine lv_aload_n hx hb dX9_shift_35 rfl (lv_at hl 0 rfl) ?_
        refine rd (ci := 9) (C := RX9) (T := TX9) (N := 19) hx hb hts inX9 hown hK hP 0 1 rfl rfl (by decide) (hts _ q_fX9_19) rfl dX9_shift_36 ?_
        refine lv_aload_n hx hb dX9_shift_39 rfl (lv_at hl 0 rfl) ?_
        refine rd (ci := 9) (C := RX9) (T := TX9) (N := 19) hx hb hts inX9 hown hK hP 0 0 rfl rfl (by decide) (hts _ q_fX9_10) rfl dX9_shift_40 ?_
        refine rd (ci := 8) (C := RX8) (T := TX8) (N := 10) hx hb hts inX8 hown hK hP 4 0 rfl rfl (by decide) (hts _ q_fX9_115) rfl dX9_shift_43 ?_
        refine lv_iconst (v := (1 : Int32)) hx hb dX9_shift_46 (by decide) ?_
        refine lv_iload_n hx hb dX9_shift_47 rfl (lv_at hl 1 rfl) ?_
        obtain ⟨o_wave_im_10, o_wave_re_11, o_beater_spareIm_12, o_beater_spareRe_13, e_14, hf⟩ := bd4_x hf
        refine call_v [.ref h_o_wave, .int o_way_size, .int (1 : Int32), .int p1] [] ⟨hx, hb, hml, hown, hts⟩ hK hP hD hS hA hl.1 (tX0_moveAll l G cI cJ cZ H.size h_o_beater h_o_wave h_o_wave_im h_o_wave_re h_o_beater_spareIm h_o_beater_spareRe h_o_turns h_o_beater_wingRe h_o_beater_wingIm h_o_wave_wasRe h_o_wave_wasIm h_o_wave_halved o_wave_exp o_wave_done o_wave_backward o_wave_im o_wave_re o_beater_spareIm o_beater_spareRe o_way_size (1 : Int32) p1 o_wave_im_10 o_wave_re_11 o_beater_spareIm_12 o_beater_spareRe_13 e_14) (cwV 4 hts (gv q_mX9_274 q_i_yX0_moveAll q_s_yX0_moveAll q_n_RX0 q_k_yX0_moveAll) rfl rfl rfl (by decide +kernel) ⟨by decide, by decide⟩) rfl rfl (Nat.le_of_ble_eq_true rfl) dX9_shift_48 ⟨Nat.zero_le _, Nat.zero_le _⟩ (ci := 0) rfl 0 rfl [1, 3, 9, 10, 5, 6] [0, 2, 4, 7, 8, 11, 12] [0, 7, 1, 8, 2, 11, 12, 3, 4, 9, 10, 5, 6] rfl rfl (ws2 := (wX9_shift cI cJ cZ h_o h_o_beater h_o_past h_o_wave h_o_way h_o_beater_spareIm h_o_beater_spareRe h_o_past_cells h_o_wave_halved h_o_wave_im h_o_wave_re h_o_wave_wasIm h_o_wave_wasRe h_o_notes h_o_ring h_o_turns h_o_reader h_o_dice h_o_trialWay h_o_trial h_o_otherTrial h_o_sumsRe h_o_sumsIm h_o_tally h_o_image h_o_tape h_o_beater_wingRe h_o_beater_wingIm h_o_way_shifts o_imageKept o_taped o_past_next_6 o_past_held_7 o_wave_exp o_wave_done o_wave_backward o_way_size o_way_log o_way_wordBits o_way_limit o_way_radix o_way_order o_way_near o_way_seed o_way_stages o_beater_spareIm_12 o_beater_spareRe_13 o_past_cells_8 o_wave_halved o_wave_im_10 o_wave_re_11 o_wave_wasIm o_wave_wasRe)) rfl (fun H locs hP hD hS => ?_)
        refine W.eq (g2 := F0 m 51 ls []) rfl ?_
        refine lv_aload_n hx hb dX9_shift_51 rfl (lv_at hl 0 rfl) ?_
        refine rd (ci := 9) (C := RX9) (T := TX9) (N := 19) hx hb hts inX9 hown hK hP 0 1 rfl rfl (by decide) (hts _ q_fX9_19) rfl dX9_shift_52 ?_
        obtain ⟨o_wave_wasIm_15, o_wave_wasRe_16, e_17, hf⟩ := bd2_x hf
        refine call_v [] [] ⟨hx, hb, hml, hown, hts⟩ hK hP hD hS hA hl.1 (tX7_settle l G cI cJ cZ H.size h_o_wave h_o_wave_im h_o_wave_re h_o_wave_wasIm h_o_wave_wasRe h_o_wave_halved o_wave_exp o_wave_done o_wave_backward o_wave_im_10 o_wave_re_11 o_wave_wasIm o_wave_wasRe o_wave_wasIm_15 o_wave_wasRe_16 e_17) (cwV 0 hts (gv q_mX9_146 q_i_yX7_settle q_s_yX7_settle q_n_RX7 q_k_yX7_settle) rfl rfl rfl (by decide +kernel) ⟨by decide, by decide⟩) rfl rfl (Nat.le_of_ble_eq_true rfl) dX9_shift_55 ⟨Nat.zero_le _, Nat.zero_le _⟩ (ci := 7) rfl 0 rfl [3, 9, 10, 11, 12] [0, 1, 2, 4, 5, 6, 7, 8] [0, 1, 2, 8, 3, 4, 5, 6, 7, 9, 10, 11, 12] rfl rfl (ws2 := (wX9_shift cI cJ cZ h_o h_o_beater h_o_past h_o_wave h_o_way h_o_beater_spareIm h_o_beater_spareRe h_o_past_cells h_o_wave_halved h_o_wave_im h_o_wave_re h_o_wave_wasIm h_o_wave_wasRe h_o_notes h_o_ring h_o_turns h_o_reader h_o_dice h_o_trialWay h_o_trial h_o_otherTrial h_o_sumsRe h_o_sumsIm h_o_tally h_o_image h_o_tape h_o_beater_wingRe h_o_beater_wingIm h_o_way_shifts o_imageKept o_taped o_past_next_6 o_past_held_7 o_wave_exp o_wave_done o_wave_backward o_way_size o_way_log o_way_wordBits o_way_limit o_way_radix o_way_order o_way_near o_way_seed o_way_stages o_beater_spareIm_12 o_beater_spareRe_13 o_past_cells_8 o_wave_halved o_wave_im_10 o_wave_re_11 o_wave_wasIm_15 o_wave_wasRe_16)) rfl (fun H locs hP hD hS => ?_)
        refine W.eq (g2 := F0 m 58 ls []) rfl ?_
        refine lv_iconst (v := (1 : Int32)) hx hb dX9_shift_58 (by decide) ?_
        cases hf
        exact hret _ _ _ _ dX9_shift_59 rfl hP hD hS
      · have hf := it_t c_5 hf
        refine lv_iconst (v := (0 : Int32)) hx hb dX9_shift_18 (by decide) ?_
        cases hf
        exact hret _ _ _ _ dX9_shift_19 rfl hP hD hS
def wX9_turnRound (cI cJ cZ : ClassId) (h_o h_o_beater h_o_past h_o_wave h_o_way h_o_beater_spareIm h_o_beater_spareRe h_o_past_cells h_o_wave_halved h_o_wave_im h_o_wave_re h_o_wave_wasIm h_o_wave_wasRe h_o_notes h_o_ring h_o_turns h_o_reader h_o_dice h_o_trialWay h_o_trial h_o_otherTrial h_o_sumsRe h_o_sumsIm h_o_tally h_o_image h_o_tape h_o_beater_wingRe h_o_beater_wingIm h_o_way_shifts : Nat) (o_imageKept : Int32) (o_taped : Int32) (o_past_next : Int32) (o_past_held : Int32) (o_wave_exp : Int32) (o_wave_done : Int32) (o_wave_backward : Int32) (o_way_size : Int32) (o_way_log : Int32) (o_way_wordBits : Int32) (o_way_limit : Int32) (o_way_radix : Int32) (o_way_order : Int32) (o_way_near : Int32) (o_way_seed : Int32) (o_way_stages : Int32) (o_beater_spareIm : Nat → Int32) (o_beater_spareRe : Nat → Int32) (o_past_cells : Nat → Int32) (o_wave_halved : Nat → Int32) (o_wave_im : Nat → Int32) (o_wave_re : Nat → Int32) (o_wave_wasIm : Nat → Int32) (o_wave_wasRe : Nat → Int32) : va_W := [(h_o, .inr (9, [.ref h_o_way, .ref h_o_wave, .ref h_o_past, .ref h_o_notes, .ref h_o_ring, .ref h_o_turns, .ref h_o_beater, .ref h_o_reader, .ref h_o_dice, .ref h_o_trialWay, .ref h_o_trial, .ref h_o_otherTrial, .ref h_o_sumsRe, .ref h_o_sumsIm, .ref h_o_tally, .ref h_o_image, .int o_imageKept, .ref h_o_tape, .int o_taped])), (h_o_beater, .inr (0, [.ref h_o_turns, .ref h_o_beater_spareRe, .ref h_o_beater_spareIm, .ref h_o_beater_wingRe, .ref h_o_beater_wingIm])), (h_o_past, .inr (3, [.ref h_o_past_cells, .int o_past_next, .int o_past_held])), (h_o_wave, .inr (7, [.ref h_o_wave_re, .ref h_o_wave_im, .ref h_o_wave_wasRe, .ref h_o_wave_wasIm, .ref h_o_wave_halved, .int o_wave_exp, .int o_wave_done, .int o_wave_backward])), (h_o_way, .inr (8, [.int o_way_size, .int o_way_log, .int o_way_wordBits, .int o_way_limit, .int o_way_radix, .int o_way_order, .int o_way_near, .int o_way_seed, .int o_way_stages, .ref h_o_way_shifts])), (h_o_beater_spareIm, .inl (cI, 32, .inl o_beater_spareIm)), (h_o_beater_spareRe, .inl (cI, 32, .inl o_beater_spareRe)), (h_o_past_cells, .inl (cI, 2720, .inl o_past_cells)), (h_o_wave_halved, .inl (cI, 5, .inl o_wave_halved)), (h_o_wave_im, .inl (cI, 32, .inl o_wave_im)), (h_o_wave_re, .inl (cI, 32, .inl o_wave_re)), (h_o_wave_wasIm, .inl (cI, 32, .inl o_wave_wasIm)), (h_o_wave_wasRe, .inl (cI, 32, .inl o_wave_wasRe))]
def fX9_turnRound (o_past_next : Int32) (o_past_held : Int32) (o_wave_exp : Int32) (o_wave_done : Int32) (o_wave_backward : Int32) (o_way_size : Int32) (o_beater_spareIm : Nat → Int32) (o_beater_spareRe : Nat → Int32) (o_past_cells : Nat → Int32) (o_wave_halved : Nat → Int32) (o_wave_im : Nat → Int32) (o_wave_re : Nat → Int32) (o_wave_wasIm : Nat → Int32) (o_wave_wasRe : Nat → Int32) : Option (Int32 × Int32 × Int32 × (Nat → Int32) × (Nat → Int32) × (Nat → Int32) × (Nat → Int32) × (Nat → Int32) × (Nat → Int32) × (Nat → Int32)) :=
  bd1 (fX9_isFresh o_wave_done o_wave_backward) (fun r_1 =>
  if r_1 = 0 then (
    some ((0 : Int32), o_past_next, o_past_held, o_beater_spareIm, o_beater_spareRe, o_past_cells, o_wave_im, o_wave_re, o_wave_wasIm, o_wave_wasRe)
  ) else (
    bd3 (fX3_remember o_past_next o_past_held o_wave_exp o_wave_done o_wave_backward o_wave_halved o_wave_im o_wave_re o_wave_wasIm o_wave_wasRe o_past_cells) (fun o_past_next_4 o_past_held_5 o_past_cells_6 =>
    bd4 (fX0_moveAll o_wave_im o_wave_re o_beater_spareIm o_beater_spareRe o_way_size (-1 : Int32) (0 : Int32)) (fun o_wave_im_8 o_wave_re_9 o_beater_spareIm_10 o_beater_spareRe_11 =>
    bd2 (fX7_settle o_wave_im_8 o_wave_re_9 o_wave_wasIm o_wave_wasRe) (fun o_wave_wasIm_13 o_wave_wasRe_14 =>
    some ((1 : Int32), o_past_next_4, o_past_held_5, o_beater_spareIm_10, o_beater_spareRe_11, o_past_cells_6, o_wave_im_8, o_wave_re_9, o_wave_wasIm_13, o_wave_wasRe_14))))
  ))
set_option maxHeartbeats 4000000 in
set_option maxRecDepth 100000 in
theorem tX9_turnRound (l : Launch) (G : va_G) (cI cJ cZ : ClassId) (sz : Nat) (h_o h_o_beater h_o_past h_o_wave h_o_way h_o_beater_spareIm h_o_beater_spareRe h_o_past_cells h_o_wave_halved h_o_wave_im h_o_wave_re h_o_wave_wasIm h_o_wave_wasRe h_o_notes h_o_ring h_o_turns h_o_reader h_o_dice h_o_trialWay h_o_trial h_o_otherTrial h_o_sumsRe h_o_sumsIm h_o_tally h_o_image h_o_tape h_o_beater_wingRe h_o_beater_wingIm h_o_way_shifts : Nat) (o_imageKept : Int32) (o_taped : Int32) (o_past_next : Int32) (o_past_held : Int32) (o_wave_exp : Int32) (o_wave_done : Int32) (o_wave_backward : Int32) (o_way_size : Int32) (o_way_log : Int32) (o_way_wordBits : Int32) (o_way_limit : Int32) (o_way_radix : Int32) (o_way_order : Int32) (o_way_near : Int32) (o_way_seed : Int32) (o_way_stages : Int32) (o_beater_spareIm : Nat → Int32) (o_beater_spareRe : Nat → Int32) (o_past_cells : Nat → Int32) (o_wave_halved : Nat → Int32) (o_wave_im : Nat → Int32) (o_wave_re : Nat → Int32) (o_wave_wasIm : Nat → Int32) (o_wave_wasRe : Nat → Int32) (r : Int32) (out_o_past_next : Int32) (out_o_past_held : Int32) (out_o_beater_spareIm : Nat → Int32) (out_o_beater_spareRe : Nat → Int32) (out_o_past_cells : Nat → Int32) (out_o_wave_im : Nat → Int32) (out_o_wave_re : Nat → Int32) (out_o_wave_wasIm : Nat → Int32) (out_o_wave_wasRe : Nat → Int32) (hf : fX9_turnRound o_past_next o_past_held o_wave_exp o_wave_done o_wave_backward o_way_size o_beater_spareIm o_beater_spareRe o_past_cells o_wave_halved o_wave_im o_wave_re o_wave_wasIm o_wave_wasRe = some (r, out_o_past_next, out_o_past_held, out_o_beater_spareIm, out_o_beater_spareRe, out_o_past_cells, out_o_wave_im, out_o_wave_re, out_o_wave_wasIm, out_o_wave_wasRe)) : Met l yX9_turnRound (Cond.code yX9_turnRound cX9_turnRound 1 (some .boolean) :: BIG) ({ frames := 3, cells := 0, slots := 0, locals := 66 } : Room) (cP G (TY3 cI cJ cZ) [.ref h_o] sz (wX9_turnRound cI cJ cZ h_o h_o_beater h_o_past h_o_wave h_o_way h_o_beater_spareIm h_o_beater_spareRe h_o_past_cells h_o_wave_halved h_o_wave_im h_o_wave_re h_o_wave_wasIm h_o_wave_wasRe h_o_notes h_o_ring h_o_turns h_o_reader h_o_dice h_o_trialWay h_o_trial h_o_otherTrial h_o_sumsRe h_o_sumsIm h_o_tally h_o_image h_o_tape h_o_beater_wingRe h_o_beater_wingIm h_o_way_shifts o_imageKept o_taped o_past_next o_past_held o_wave_exp o_wave_done o_wave_backward o_way_size o_way_log o_way_wordBits o_way_limit o_way_radix o_way_order o_way_near o_way_seed o_way_stages o_beater_spareIm o_beater_spareRe o_past_cells o_wave_halved o_wave_im o_wave_re o_wave_wasIm o_wave_wasRe)) (cQ G (TY3 cI cJ cZ) sz (wX9_turnRound cI cJ cZ h_o h_o_beater h_o_past h_o_wave h_o_way h_o_beater_spareIm h_o_beater_spareRe h_o_past_cells h_o_wave_halved h_o_wave_im h_o_wave_re h_o_wave_wasIm h_o_wave_wasRe h_o_notes h_o_ring h_o_turns h_o_reader h_o_dice h_o_trialWay h_o_trial h_o_otherTrial h_o_sumsRe h_o_sumsIm h_o_tally h_o_image h_o_tape h_o_beater_wingRe h_o_beater_wingIm h_o_way_shifts o_imageKept o_taped o_past_next o_past_held o_wave_exp o_wave_done o_wave_backward o_way_size o_way_log o_way_wordBits o_way_limit o_way_radix o_way_order o_way_near o_way_seed o_way_stages o_beater_spareIm o_beater_spareRe o_past_cells o_wave_halved o_wave_im o_wave_re o_wave_wasIm o_wave_wasRe) (wX9_turnRound cI cJ cZ h_o h_o_beater h_o_past h_o_wave h_o_way h_o_beater_spareIm h_o_beater_spareRe h_o_past_cells h_o_wave_halved h_o_wave_im h_o_wave_re h_o_wave_wasIm h_o_wave_wasRe h_o_notes h_o_ring h_o_turns h_o_reader h_o_dice h_o_trialWay h_o_trial h_o_otherTrial h_o_sumsRe h_o_sumsIm h_o_tally h_o_image h_o_tape h_o_beater_wingRe h_o_beater_wingIm h_o_way_shifts o_imageKept o_taped out_o_past_next out_o_past_held o_wave_exp o_wave_done o_wave_backward o_way_size o_way_log o_way_wordBits o_way_limit o_way_radix o_way_order o_way_near o_way_seed o_way_stages out_o_beater_spareIm out_o_beater_spareRe out_o_past_cells o_wave_halved out_o_wave_im out_o_wave_re out_o_wave_wasIm out_o_wave_wasRe) (some (.int r))) 0 0 (va_A (wX9_turnRound cI cJ cZ h_o h_o_beater h_o_past h_o_wave h_o_way h_o_beater_spareIm h_o_beater_spareRe h_o_past_cells h_o_wave_halved h_o_wave_im h_o_wave_re h_o_wave_wasIm h_o_wave_wasRe h_o_notes h_o_ring h_o_turns h_o_reader h_o_dice h_o_trialWay h_o_trial h_o_otherTrial h_o_sumsRe h_o_sumsIm h_o_tally h_o_image h_o_tape h_o_beater_wingRe h_o_beater_wingIm h_o_way_shifts o_imageKept o_taped o_past_next o_past_held o_wave_exp o_wave_done o_wave_backward o_way_size o_way_log o_way_wordBits o_way_limit o_way_radix o_way_order o_way_near o_way_seed o_way_stages o_beater_spareIm o_beater_spareRe o_past_cells o_wave_halved o_wave_im o_wave_re o_wave_wasIm o_wave_wasRe) sz) := by
  refine met_z (cc := cX9_turnRound) (maxL := 1) (plainFor_of_name (by decide)) (Nat.le_of_ble_eq_true rfl) (fun p e s m below meth c A ls Q hx hb hml hts hown hK hP hD hS hA hl hret => ?_)
  have hown : s.vm.findClass RX9 = some m.cls := hown
  have hl : lv_has ls 1 [(0, .ref h_o)] := hl
  unfold fX9_turnRound at hf
  obtain ⟨H, eH⟩ : ∃ H, H = s.heap := ⟨_, rfl⟩
  obtain ⟨locs, elocs⟩ : ∃ z : List Loc, z = [] := ⟨_, rfl⟩
  have hP : va_P G vwCl (wX9_turnRound cI cJ cZ h_o h_o_beater h_o_past h_o_wave h_o_way h_o_beater_spareIm h_o_beater_spareRe h_o_past_cells h_o_wave_halved h_o_wave_im h_o_wave_re h_o_wave_wasIm h_o_wave_wasRe h_o_notes h_o_ring h_o_turns h_o_reader h_o_dice h_o_trialWay h_o_trial h_o_otherTrial h_o_sumsRe h_o_sumsIm h_o_tally h_o_image h_o_tape h_o_beater_wingRe h_o_beater_wingIm h_o_way_shifts o_imageKept o_taped o_past_next o_past_held o_wave_exp o_wave_done o_wave_backward o_way_size o_way_log o_way_wordBits o_way_limit o_way_radix o_way_order o_way_near o_way_seed o_way_stages o_beater_spareIm o_beater_spareRe o_past_cells o_wave_halved o_wave_im o_wave_re o_wave_wasIm o_wave_wasRe) H := by rw [eH]; exact hP
  have hS : va_S A s.heap H locs := by rw [eH, elocs]; exact hS
  suffices hgo : W p l e ({ frames := 3, cells := 0, slots := 0, locals := 66 } : Room) s m ([.ref h_o] : List Value).toArray below meth c H locs 0 0 Q (F0 m 0 ls []) by rw [eH, elocs] at hgo; exact hgo
  clear eH elocs
  refine lv_aload_n hx hb dX9_turnRound_0 rfl (lv_at hl 0 rfl) ?_
  obtain ⟨r_1, e_2, hf⟩ := bd1_x hf
  refine call_v [] [] ⟨hx, hb, hml, hown, hts⟩ hK hP hD hS hA hl.1 (tX9_isFresh l G cI cJ cZ H.size h_o h_o_wave h_o_way h_o_past h_o_notes h_o_ring h_o_turns h_o_beater h_o_reader h_o_dice h_o_trialWay h_o_trial h_o_otherTrial h_o_sumsRe h_o_sumsIm h_o_tally h_o_image h_o_tape h_o_wave_re h_o_wave_im h_o_wave_wasRe h_o_wave_wasIm h_o_wave_halved o_imageKept o_taped o_wave_exp o_wave_done o_wave_backward r_1 e_2) (cwV 0 hts (gv q_mX9_261 q_i_yX9_isFresh q_s_yX9_isFresh q_n_RX9 q_k_yX9_isFresh) rfl rfl rfl (by decide +kernel) ⟨by decide, by decide⟩) rfl rfl (Nat.le_of_ble_eq_true rfl) dX9_turnRound_1 ⟨Nat.zero_le _, Nat.zero_le _⟩ (ci := 9) rfl 0 rfl [0, 3] [1, 2, 4, 5, 6, 7, 8, 9, 10, 11, 12] [11, 0, 1, 12, 2, 3, 4, 5, 6, 7, 8, 9, 10] rfl rfl (ws2 := (wX9_turnRound cI cJ cZ h_o h_o_beater h_o_past h_o_wave h_o_way h_o_beater_spareIm h_o_beater_spareRe h_o_past_cells h_o_wave_halved h_o_wave_im h_o_wave_re h_o_wave_wasIm h_o_wave_wasRe h_o_notes h_o_ring h_o_turns h_o_reader h_o_dice h_o_trialWay h_o_trial h_o_otherTrial h_o_sumsRe h_o_sumsIm h_o_tally h_o_image h_o_tape h_o_beater_wingRe h_o_beater_wingIm h_o_way_shifts o_imageKept o_taped o_past_next o_past_held o_wave_exp o_wave_done o_wave_backward o_way_size o_way_log o_way_wordBits o_way_limit o_way_radix o_way_order o_way_near o_way_seed o_way_stages o_beater_spareIm o_beater_spareRe o_past_cells o_wave_halved o_wave_im o_wave_re o_wave_wasIm o_wave_wasRe)) rfl (fun H locs hP hD hS => ?_)
  refine W.eq (g2 := F0 m 4 ls [.int r_1]) rfl ?_
  refine lv_if_ne (tgt := 9) hx hb dX9_turnRound_4 (by decide) (fun c_3 => ?_) (fun c_3 => ?_)
  · have hf := it_f c_3 hf
    refine lv_aload_n hx hb dX9_turnRound_9 rfl (lv_at hl 0 rfl) ?_
    refine rd (ci := 9) (C := RX9) (T := TX9) (N := 19) hx hb hts inX9 hown hK hP 0 2 rfl rfl (by decide) (hts _ q_fX9_26) rfl dX9_turnRound_10 ?_
    refine lv_aload_n hx hb dX9_turnRound_13 rfl (lv_at hl 0 rfl) ?_
    refine rd (ci := 9) (C := RX9) (T := TX9) (N := 19) hx hb hts inX9 hown hK hP 0 1 rfl rfl (by decide) (hts _ q_fX9_19) rfl dX9_turnRound_14 ?_
    obtain ⟨o_past_next_4, o_past_held_5, o_past_cells_6, e_7, hf⟩ := bd3_x hf
    refine call_v [.ref h_o_wave] [] ⟨hx, hb, hml, hown, hts⟩ hK hP hD hS hA hl.1 (tX3_remember l G cI cJ cZ H.size h_o_past h_o_wave h_o_wave_halved h_o_wave_im h_o_wave_re h_o_wave_wasIm h_o_wave_wasRe h_o_past_cells o_past_next o_past_held o_wave_exp o_wave_done o_wave_backward o_wave_halved o_wave_im o_wave_re o_wave_wasIm o_wave_wasRe o_past_cells o_past_next_4 o_past_held_5 o_past_cells_6 e_7) (cwV 1 hts (gv q_mX9_265 q_i_yX3_remember q_s_yX3_remember q_n_RX3 q_k_yX3_remember) rfl rfl rfl (by decide +kernel) ⟨by decide, by decide⟩) rfl rfl (Nat.le_of_ble_eq_true rfl) dX9_turnRound_17 ⟨Nat.zero_le _, Nat.zero_le _⟩ (ci := 3) rfl 0 rfl [2, 3, 8, 9, 10, 11, 12, 7] [0, 1, 4, 5, 6] [0, 1, 5, 6, 2, 3, 4, 12, 7, 8, 9, 10, 11] rfl rfl (ws2 := (wX9_turnRound cI cJ cZ h_o h_o_beater h_o_past h_o_wave h_o_way h_o_beater_spareIm h_o_beater_spareRe h_o_past_cells h_o_wave_halved h_o_wave_im h_o_wave_re h_o_wave_wasIm h_o_wave_wasRe h_o_notes h_o_ring h_o_turns h_o_reader h_o_dice h_o_trialWay h_o_trial h_o_otherTrial h_o_sumsRe h_o_sumsIm h_o_tally h_o_image h_o_tape h_o_beater_wingRe h_o_beater_wingIm h_o_way_shifts o_imageKept o_taped o_past_next_4 o_past_held_5 o_wave_exp o_wave_done o_wave_backward o_way_size o_way_log o_way_wordBits o_way_limit o_way_radix o_way_order o_way_near o_way_seed o_way_stages o_beater_spareIm o_beater_spareRe o_past_cells_6 o_wave_halved o_wave_im o_wave_re o_wave_wasIm o_wave_wasRe)) rfl (fun H locs hP hD hS => ?_)
    refine W.eq (g2 := F0 m 20 ls []) rfl ?_
    refine lv_aload_n hx hb dX9_turnRound_20 rfl (lv_at hl 0 rfl) ?_
    refine rd (ci := 9) (C := RX9) (T := TX9) (N := 19) hx hb hts inX9 hown hK hP 0 6 rfl rfl (by decide) (hts _ q_fX9_56) rfl dX9_turnRound_21 ?_
    refine lv_aload_n hx hb dX9_turnRound_24 rfl (lv_at hl 0 rfl) ?_
    refine rd (ci := 9) (C := RX9) (T := TX9) (N := 19) hx hb hts inX9 hown hK hP 0 1 rfl rfl (by decide) (hts _ q_fX9_19) rfl dX9_turnRound_25 ?_
    refine lv_aload_n hx hb dX9_turnRound_28 rfl (lv_at hl 0 rfl) ?_
    refine rd (ci := 9) (C := RX9) (T := TX9) (N := 19) hx hb hts inX9 hown hK hP 0 0 rfl rfl (by decide) (hts _ q_fX9_10) rfl dX9_turnRound_29 ?_
    refine rd (ci := 8) (C := RX8) (T := TX8) (N := 10) hx hb hts inX8 hown hK hP 4 0 rfl rfl (by decide) (hts _ q_fX9_115) rfl dX9_turnRound_32 ?_
    refine lv_iconst (v := (-1 : Int32)) hx hb dX9_turnRound_35 (by decide) ?_
    refine lv_iconst (v := (0 : Int32)) hx hb dX9_turnRound_36 (by decide) ?_
    obtain ⟨o_wave_im_8, o_wave_re_9, o_beater_spareIm_10, o_beater_spareRe_11, e_12, hf⟩ := bd4_x hf
    refine call_v [.ref h_o_wave, .int o_way_size, .int (-1 : Int32), .int (0 : Int32)] [] ⟨hx, hb, hml, hown, hts⟩ hK hP hD hS hA hl.1 (tX0_moveAll l G cI cJ cZ H.size h_o_beater h_o_wave h_o_wave_im h_o_wave_re h_o_beater_spareIm h_o_beater_spareRe h_o_turns h_o_beater_wingRe h_o_beater_wingIm h_o_wave_wasRe h_o_wave_wasIm h_o_wave_halved o_wave_exp o_wave_done o_wave_backward o_wave_im o_wave_re o_beater_spareIm o_beater_spareRe o_way_size (-1 : Int32) (0 : Int32) o_wave_im_8 o_wave_re_9 o_beater_spareIm_10 o_beater_spareRe_11 e_12) (cwV 4 hts (gv q_mX9_274 q_i_yX0_moveAll q_s_yX0_moveAll q_n_RX0 q_k_yX0_moveAll) rfl rfl rfl (by decide +kernel) ⟨by decide, by decide⟩) rfl rfl (Nat.le_of_ble_eq_true rfl) dX9_turnRound_37 ⟨Nat.zero_le _, Nat.zero_le _⟩ (ci := 0) rfl 0 rfl [1, 3, 9, 10, 5, 6] [0, 2, 4, 7, 8, 11, 12] [0, 7, 1, 8, 2, 11, 12, 3, 4, 9, 10, 5, 6] rfl rfl (ws2 := (wX9_turnRound cI cJ cZ h_o h_o_beater h_o_past h_o_wave h_o_way h_o_beater_spareIm h_o_beater_spareRe h_o_past_cells h_o_wave_halved h_o_wave_im h_o_wave_re h_o_wave_wasIm h_o_wave_wasRe h_o_notes h_o_ring h_o_turns h_o_reader h_o_dice h_o_trialWay h_o_trial h_o_otherTrial h_o_sumsRe h_o_sumsIm h_o_tally h_o_image h_o_tape h_o_beater_wingRe h_o_beater_wingIm h_o_way_shifts o_imageKept o_taped o_past_next_4 o_past_held_5 o_wave_exp o_wave_done o_wave_backward o_way_size o_way_log o_way_wordBits o_way_limit o_way_radix o_way_order o_way_near o_way_seed o_way_stages o_beater_spareIm_10 o_beater_spareRe_11 o_past_cells_6 o_wave_halved o_wave_im_8 o_wave_re_9 o_wave_wasIm o_wave_wasRe)) rfl (fun H locs hP hD hS => ?_)
    refine W.eq (g2 := F0 m 40 ls []) rfl ?_
    refine lv_aload_n hx hb dX9_turnRound_40 rfl (lv_at hl 0 rfl) ?_
    refine rd (ci := 9) (C := RX9) (T := TX9) (N := 19) hx hb hts inX9 hown hK hP 0 1 rfl rfl (by decide) (hts _ q_fX9_19) rfl dX9_turnRound_41 ?_
    obtain ⟨o_wave_wasIm_13, o_wave_wasRe_14, e_15, hf⟩ := bd2_x hf
    refine call_v [] [] ⟨hx, hb, hml, hown, hts⟩ hK hP hD hS hA hl.1 (tX7_settle l G cI cJ cZ H.size h_o_wave h_o_wave_im h_o_wave_re h_o_wave_wasIm h_o_wave_wasRe h_o_wave_halved o_wave_exp o_wave_done o_wave_backward o_wave_im_8 o_wave_re_9 o_wave_wasIm o_wave_wasRe o_wave_wasIm_13 o_wave_wasRe_14 e_15) (cwV 0 hts (gv q_mX9_146 q_i_yX7_settle q_s_yX7_settle q_n_RX7 q_k_yX7_settle) rfl rfl rfl (by decide +kernel) ⟨by decide, by decide⟩) rfl rfl (Nat.le_of_ble_eq_true rfl) dX9_turnRound_44 ⟨Nat.zero_le _, Nat.zero_le _⟩ (ci := 7) rfl 0 rfl [3, 9, 10, 11, 12] [0, 1, 2, 4, 5, 6, 7, 8] [0, 1, 2, 8, 3, 4, 5, 6, 7, 9, 10, 11, 12] rfl rfl (ws2 := (wX9_turnRound cI cJ cZ h_o h_o_beater h_o_past h_o_wave h_o_way h_o_beater_spareIm h_o_beater_spareRe h_o_past_cells h_o_wave_halved h_o_wave_im h_o_wave_re h_o_wave_wasIm h_o_wave_wasRe h_o_notes h_o_ring h_o_turns h_o_reader h_o_dice h_o_trialWay h_o_trial h_o_otherTrial h_o_sumsRe h_o_sumsIm h_o_tally h_o_image h_o_tape h_o_beater_wingRe h_o_beater_wingIm h_o_way_shifts o_imageKept o_taped o_past_next_4 o_past_held_5 o_wave_exp o_wave_done o_wave_backward o_way_size o_way_log o_way_wordBits o_way_limit o_way_radix o_way_order o_way_near o_way_seed o_way_stages o_beater_spareIm_10 o_beater_spareRe_11 o_past_cells_6 o_wave_halved o_wave_im_8 o_wave_re_9 o_wave_wasIm_13 o_wave_wasRe_14)) rfl (fun H locs hP hD hS => ?_)
    refine W.eq (g2 := F0 m 47 ls []) rfl ?_
    refine lv_iconst (v := (1 : Int32)) hx hb dX9_turnRound_47 (by decide) ?_
    cases hf
    exact hret _ _ _ _ dX9_turnRound_48 rfl hP hD hS
  · have hf := it_t c_3 hf
    refine lv_iconst (v := (0 : Int32)) hx hb dX9_turnRound_7 (by decide) ?_
    cases hf
    exact hret _ _ _ _ dX9_turnRound_8 rfl hP hD hS
def wX9_louder (cI cJ cZ : ClassId) (h_o h_o_past h_o_wave h_o_way h_o_past_cells h_o_wave_halved h_o_wave_im h_o_wave_re h_o_wave_wasIm h_o_wave_wasRe h_o_notes h_o_ring h_o_turns h_o_beater h_o_reader h_o_dice h_o_trialWay h_o_trial h_o_otherTrial h_o_sumsRe h_o_sumsIm h_o_tally h_o_image h_o_tape h_o_way_shifts : Nat) (o_imageKept : Int32) (o_taped : Int32) (o_past_next : Int32) (o_past_held : Int32) (o_wave_exp : Int32) (o_wave_done : Int32) (o_wave_backward : Int32) (o_way_size : Int32) (o_way_log : Int32) (o_way_wordBits : Int32) (o_way_limit : Int32) (o_way_radix : Int32) (o_way_order : Int32) (o_way_near : Int32) (o_way_seed : Int32) (o_way_stages : Int32) (o_past_cells : Nat → Int32) (o_wave_halved : Nat → Int32) (o_wave_im : Nat → Int32) (o_wave_re : Nat → Int32) (o_wave_wasIm : Nat → Int32) (o_wave_wasRe : Nat → Int32) : va_W := [(h_o, .inr (9, [.ref h_o_way, .ref h_o_wave, .ref h_o_past, .ref h_o_notes, .ref h_o_ring, .ref h_o_turns, .ref h_o_beater, .ref h_o_reader, .ref h_o_dice, .ref h_o_trialWay, .ref h_o_trial, .ref h_o_otherTrial, .ref h_o_sumsRe, .ref h_o_sumsIm, .ref h_o_tally, .ref h_o_image, .int o_imageKept, .ref h_o_tape, .int o_taped])), (h_o_past, .inr (3, [.ref h_o_past_cells, .int o_past_next, .int o_past_held])), (h_o_wave, .inr (7, [.ref h_o_wave_re, .ref h_o_wave_im, .ref h_o_wave_wasRe, .ref h_o_wave_wasIm, .ref h_o_wave_halved, .int o_wave_exp, .int o_wave_done, .int o_wave_backward])), (h_o_way, .inr (8, [.int o_way_size, .int o_way_log, .int o_way_wordBits, .int o_way_limit, .int o_way_radix, .int o_way_order, .int o_way_near, .int o_way_seed, .int o_way_stages, .ref h_o_way_shifts])), (h_o_past_cells, .inl (cI, 2720, .inl o_past_cells)), (h_o_wave_halved, .inl (cI, 5, .inl o_wave_halved)), (h_o_wave_im, .inl (cI, 32, .inl o_wave_im)), (h_o_wave_re, .inl (cI, 32, .inl o_wave_re)), (h_o_wave_wasIm, .inl (cI, 32, .inl o_wave_wasIm)), (h_o_wave_wasRe, .inl (cI, 32, .inl o_wave_wasRe))]
def fX9_louder_102 (o_past_next : Int32) (o_past_held : Int32) (o_past_cells : Nat → Int32) (o_wave_im : Nat → Int32) (o_wave_re : Nat → Int32) (o_wave_wasIm : Nat → Int32) (o_wave_wasRe : Nat → Int32) : Option (Int32 × Int32 × Int32 × (Nat → Int32) × (Nat → Int32) × (Nat → Int32) × (Nat → Int32) × (Nat → Int32)) :=
  bd2 (fX7_settle o_wave_im o_wave_re o_wave_wasIm o_wave_wasRe) (fun o_wave_wasIm_23 o_wave_wasRe_24 =>
  some ((1 : Int32), o_past_next, o_past_held, o_past_cells, o_wave_im, o_wave_re, o_wave_wasIm_23, o_wave_wasRe_24))
def fX9_louder_59 (o_way_size : Int32) : Nat → Int32 → Int32 → (Nat → Int32) → (Nat → Int32) → (Nat → Int32) → (Nat → Int32) → (Nat → Int32) → Int32 → Int32 → Option (Int32 × Int32 × Int32 × (Nat → Int32) × (Nat → Int32) × (Nat → Int32) × (Nat → Int32) × (Nat → Int32))
  | 0, _, _, _, _, _, _, _, _, _ => none
  | n + 1, o_past_next, o_past_held, o_past_cells, o_wave_im, o_wave_re, o_wave_wasIm, o_wave_wasRe, v1, v2 =>
    if o_way_size ≤ v2 then (
      fX9_louder_102 o_past_next o_past_held o_past_cells o_wave_im o_wave_re o_wave_wasIm o_wave_wasRe
    ) else (
      gd (inb v2 32) (
      gd (inb v2 32) (
      nm (upd o_wave_re (Int32.toNatClampNeg v2) ((o_wave_re (Int32.toNatClampNeg v2)) * v1)) (fun o_wave_re_18 =>
      gd (inb v2 32) (
      gd (inb v2 32) (
      nm (upd o_wave_im (Int32.toNatClampNeg v2) ((o_wave_im (Int32.toNatClampNeg v2)) * v1)) (fun o_wave_im_21 =>
      nm (v2 + (1 : Int32)) (fun v2_22 =>
      fX9_louder_59 o_way_size n o_past_next o_past_held o_past_cells o_wave_im_21 o_wave_re_18 o_wave_wasIm o_wave_wasRe v1 v2_22)))))))
    )
def fX9_louder (o_past_next : Int32) (o_past_held : Int32) (o_wave_exp : Int32) (o_wave_done : Int32) (o_wave_backward : Int32) (o_way_size : Int32) (o_way_limit : Int32) (o_past_cells : Nat → Int32) (o_wave_halved : Nat → Int32) (o_wave_im : Nat → Int32) (o_wave_re : Nat → Int32) (o_wave_wasIm : Nat → Int32) (o_wave_wasRe : Nat → Int32) (p1 : Int32) : Option (Int32 × Int32 × Int32 × (Nat → Int32) × (Nat → Int32) × (Nat → Int32) × (Nat → Int32) × (Nat → Int32)) :=
  if p1 < (2 : Int32) then (
    some ((0 : Int32), o_past_next, o_past_held, o_past_cells, o_wave_im, o_wave_re, o_wave_wasIm, o_wave_wasRe)
  ) else (
    if (9 : Int32) < p1 then (
      some ((0 : Int32), o_past_next, o_past_held, o_past_cells, o_wave_im, o_wave_re, o_wave_wasIm, o_wave_wasRe)
    ) else (
      bd1 (fX9_isFresh o_wave_done o_wave_backward) (fun r_3 =>
      if r_3 = 0 then (
        some ((0 : Int32), o_past_next, o_past_held, o_past_cells, o_wave_im, o_wave_re, o_wave_wasIm, o_wave_wasRe)
      ) else (
        bd1 (fX7_greatest o_wave_im o_wave_re (0 : Int32) o_way_size) (fun r_6 =>
        bd1 (fX9_isInWord o_way_limit ((Int32.toInt64 r_6) * (Int32.toInt64 p1))) (fun r_8 =>
        if r_8 = 0 then (
          some ((0 : Int32), o_past_next, o_past_held, o_past_cells, o_wave_im, o_wave_re, o_wave_wasIm, o_wave_wasRe)
        ) else (
          bd3 (fX3_remember o_past_next o_past_held o_wave_exp o_wave_done o_wave_backward o_wave_halved o_wave_im o_wave_re o_wave_wasIm o_wave_wasRe o_past_cells) (fun o_past_next_11 o_past_held_12 o_past_cells_13 =>
          fX9_louder_59 o_way_size FU o_past_next_11 o_past_held_12 o_past_cells_13 o_wave_im o_wave_re o_wave_wasIm o_wave_wasRe p1 (0 : Int32))
        )))
      ))
    )
  )
set_option maxHeartbeats 4000000 in
set_option maxRecDepth 100000 in
theorem tX9_louder (l : Launch) (G : va_G) (cI cJ cZ : ClassId) (sz : Nat) (h_o h_o_past h_o_wave h_o_way h_o_past_cells h_o_wave_halved h_o_wave_im h_o_wave_re h_o_wave_wasIm h_o_wave_wasRe h_o_notes h_o_ring h_o_turns h_o_beater h_o_reader h_o_dice h_o_trialWay h_o_trial h_o_otherTrial h_o_sumsRe h_o_sumsIm h_o_tally h_o_image h_o_tape h_o_way_shifts : Nat) (o_imageKept : Int32) (o_taped : Int32) (o_past_next : Int32) (o_past_held : Int32) (o_wave_exp : Int32) (o_wave_done : Int32) (o_wave_backward : Int32) (o_way_size : Int32) (o_way_log : Int32) (o_way_wordBits : Int32) (o_way_limit : Int32) (o_way_radix : Int32) (o_way_order : Int32) (o_way_near : Int32) (o_way_seed : Int32) (o_way_stages : Int32) (o_past_cells : Nat → Int32) (o_wave_halved : Nat → Int32) (o_wave_im : Nat → Int32) (o_wave_re : Nat → Int32) (o_wave_wasIm : Nat → Int32) (o_wave_wasRe : Nat → Int32) (p1 : Int32) (r : Int32) (out_o_past_next : Int32) (out_o_past_held : Int32) (out_o_past_cells : Nat → Int32) (out_o_wave_im : Nat → Int32) (out_o_wave_re : Nat → Int32) (out_o_wave_wasIm : Nat → Int32) (out_o_wave_wasRe : Nat → Int32) (hf : fX9_louder o_past_next o_past_held o_wave_exp o_wave_done o_wave_backward o_way_size o_way_limit o_past_cells o_wave_halved o_wave_im o_wave_re o_wave_wasIm o_wave_wasRe p1 = some (r, out_o_past_next, out_o_past_held, out_o_past_cells, out_o_wave_im, out_o_wave_re, out_o_wave_wasIm, out_o_wave_wasRe)) : Met l yX9_louder (Cond.code yX9_louder cX9_louder 3 (some .boolean) :: BIG) ({ frames := 3, cells := 0, slots := 0, locals := 62 } : Room) (cP G (TY3 cI cJ cZ) [.ref h_o, .int p1] sz (wX9_louder cI cJ cZ h_o h_o_past h_o_wave h_o_way h_o_past_cells h_o_wave_halved h_o_wave_im h_o_wave_re h_o_wave_wasIm h_o_wave_wasRe h_o_notes h_o_ring h_o_turns h_o_beater h_o_reader h_o_dice h_o_trialWay h_o_trial h_o_otherTrial h_o_sumsRe h_o_sumsIm h_o_tally h_o_image h_o_tape h_o_way_shifts o_imageKept o_taped o_past_next o_past_held o_wave_exp o_wave_done o_wave_backward o_way_size o_way_log o_way_wordBits o_way_limit o_way_radix o_way_order o_way_near o_way_seed o_way_stages o_past_cells o_wave_halved o_wave_im o_wave_re o_wave_wasIm o_wave_wasRe)) (cQ G (TY3 cI cJ cZ) sz (wX9_louder cI cJ cZ h_o h_o_past h_o_wave h_o_way h_o_past_cells h_o_wave_halved h_o_wave_im h_o_wave_re h_o_wave_wasIm h_o_wave_wasRe h_o_notes h_o_ring h_o_turns h_o_beater h_o_reader h_o_dice h_o_trialWay h_o_trial h_o_otherTrial h_o_sumsRe h_o_sumsIm h_o_tally h_o_image h_o_tape h_o_way_shifts o_imageKept o_taped o_past_next o_past_held o_wave_exp o_wave_done o_wave_backward o_way_size o_way_log o_way_wordBits o_way_limit o_way_radix o_way_order o_way_near o_way_seed o_way_stages o_past_cells o_wave_halved o_wave_im o_wave_re o_wave_wasIm o_wave_wasRe) (wX9_louder cI cJ cZ h_o h_o_past h_o_wave h_o_way h_o_past_cells h_o_wave_halved h_o_wave_im h_o_wave_re h_o_wave_wasIm h_o_wave_wasRe h_o_notes h_o_ring h_o_turns h_o_beater h_o_reader h_o_dice h_o_trialWay h_o_trial h_o_otherTrial h_o_sumsRe h_o_sumsIm h_o_tally h_o_image h_o_tape h_o_way_shifts o_imageKept o_taped out_o_past_next out_o_past_held o_wave_exp o_wave_done o_wave_backward o_way_size o_way_log o_way_wordBits o_way_limit o_way_radix o_way_order o_way_near o_way_seed o_way_stages out_o_past_cells o_wave_halved out_o_wave_im out_o_wave_re out_o_wave_wasIm out_o_wave_wasRe) (some (.int r))) 0 0 (va_A (wX9_louder cI cJ cZ h_o h_o_past h_o_wave h_o_way h_o_past_cells h_o_wave_halved h_o_wave_im h_o_wave_re h_o_wave_wasIm h_o_wave_wasRe h_o_notes h_o_ring h_o_turns h_o_beater h_o_reader h_o_dice h_o_trialWay h_o_trial h_o_otherTrial h_o_sumsRe h_o_sumsIm h_o_tally h_o_image h_o_tape h_o_way_shifts o_imageKept o_taped o_past_next o_past_held o_wave_exp o_wave_done o_wave_backward o_way_size o_way_log o_way_wordBits o_way_limit o_way_radix o_way_order o_way_near o_way_seed o_way_stages o_past_cells o_wave_halved o_wave_im o_wave_re o_wave_wasIm o_wave_wasRe) sz) := by
  refine met_z (cc := cX9_louder) (maxL := 3) (plainFor_of_name (by decide)) (Nat.le_of_ble_eq_true rfl) (fun p e s m below meth c A ls Q hx hb hml hts hown hK hP hD hS hA hl hret => ?_)
  have hown : s.vm.findClass RX9 = some m.cls := hown
  have hl : lv_has ls 3 [(0, .ref h_o), (1, .int p1)] := hl
  have j102 : ∀ (o_past_next : Int32) (o_past_held : Int32) (o_past_cells : Nat → Int32) (o_wave_im : Nat → Int32) (o_wave_re : Nat → Int32) (o_wave_wasIm : Nat → Int32) (o_wave_wasRe : Nat → Int32) (H : Heap) (locs : List Loc) (ls : Array Slot), fX9_louder_102 o_past_next o_past_held o_past_cells o_wave_im o_wave_re o_wave_wasIm o_wave_wasRe = some (r, out_o_past_next, out_o_past_held, out_o_past_cells, out_o_wave_im, out_o_wave_re, out_o_wave_wasIm, out_o_wave_wasRe) → va_P G vwCl (wX9_louder cI cJ cZ h_o h_o_past h_o_wave h_o_way h_o_past_cells h_o_wave_halved h_o_wave_im h_o_wave_re h_o_wave_wasIm h_o_wave_wasRe h_o_notes h_o_ring h_o_turns h_o_beater h_o_reader h_o_dice h_o_trialWay h_o_trial h_o_otherTrial h_o_sumsRe h_o_sumsIm h_o_tally h_o_image h_o_tape h_o_way_shifts o_imageKept o_taped o_past_next o_past_held o_wave_exp o_wave_done o_wave_backward o_way_size o_way_log o_way_wordBits o_way_limit o_way_radix o_way_order o_way_near o_way_seed o_way_stages o_past_cells o_wave_halved o_wave_im o_wave_re o_wave_wasIm o_wave_wasRe) H → va_D A (wX9_louder cI cJ cZ h_o h_o_past h_o_wave h_o_way h_o_past_cells h_o_wave_halved h_o_wave_im h_o_wave_re h_o_wave_wasIm h_o_wave_wasRe h_o_notes h_o_ring h_o_turns h_o_beater h_o_reader h_o_dice h_o_trialWay h_o_trial h_o_otherTrial h_o_sumsRe h_o_sumsIm h_o_tally h_o_image h_o_tape h_o_way_shifts o_imageKept o_taped o_past_next o_past_held o_wave_exp o_wave_done o_wave_backward o_way_size o_way_log o_way_wordBits o_way_limit o_way_radix o_way_order o_way_near o_way_seed o_way_stages o_past_cells o_wave_halved o_wave_im o_wave_re o_wave_wasIm o_wave_wasRe) → va_S A s.heap H locs → lv_has ls 3 [(0, .ref h_o)] → W p l e ({ frames := 3, cells := 0, slots := 0, locals := 62 } : Room) s m ([.ref h_o, .int p1] : List Value).toArray below meth c H locs 0 0 Q (F0 m 102 ls []) := by
    intro o_past_next o_past_held o_past_cells o_wave_im o_wave_re o_wave_wasIm o_wave_wasRe H locs ls hf hP hD hS hl
    unfold fX9_louder_102 at hf
    refine lv_aload_n hx hb dX9_louder_102 rfl (lv_at hl 0 rfl) ?_
    refine rd (ci := 9) (C := RX9) (T := TX9) (N := 19) hx hb hts inX9 hown hK hP 0 1 rfl rfl (by decide) (hts _ q_fX9_19) rfl dX9_louder_103 ?_
    obtain ⟨o_wave_wasIm_23, o_wave_wasRe_24, e_25, hf⟩ := bd2_x hf
    refine call_v [] [] ⟨hx, hb, hml, hown, hts⟩ hK hP hD hS hA hl.1 (tX7_settle l G cI cJ cZ H.size h_o_wave h_o_wave_im h_o_wave_re h_o_wave_wasIm h_o_wave_wasRe h_o_wave_halved o_wave_exp o_wave_done o_wave_backward o_wave_im o_wave_re o_wave_wasIm o_wave_wasRe o_wave_wasIm_23 o_wave_wasRe_24 e_25) (cwV 0 hts (gv q_mX9_146 q_i_yX7_settle q_s_yX7_settle q_n_RX7 q_k_yX7_settle) rfl rfl rfl (by decide +kernel) ⟨by decide, by decide⟩) rfl rfl (Nat.le_of_ble_eq_true rfl) dX9_louder_106 ⟨Nat.zero_le _, Nat.zero_le _⟩ (ci := 7) rfl 0 rfl [2, 6, 7, 8, 9] [0, 1, 3, 4, 5] [0, 1, 5, 2, 3, 4, 6, 7, 8, 9] rfl rfl (ws2 := (wX9_louder cI cJ cZ h_o h_o_past h_o_wave h_o_way h_o_past_cells h_o_wave_halved h_o_wave_im h_o_wave_re h_o_wave_wasIm h_o_wave_wasRe h_o_notes h_o_ring h_o_turns h_o_beater h_o_reader h_o_dice h_o_trialWay h_o_trial h_o_otherTrial h_o_sumsRe h_o_sumsIm h_o_tally h_o_image h_o_tape h_o_way_shifts o_imageKept o_taped o_past_next o_past_held o_wave_exp o_wave_done o_wave_backward o_way_size o_way_log o_way_wordBits o_way_limit o_way_radix o_way_order o_way_near o_way_seed o_way_stages o_past_cells o_wave_halved o_wave_im o_wave_re o_wave_wasIm_23 o_wave_wasRe_24)) rfl (fun H locs hP hD hS => ?_)
    refine W.eq (g2 := F0 m 109 ls []) rfl ?_
    refine lv_iconst (v := (1 : Int32)) hx hb dX9_louder_109 (by decide) ?_
    cases hf
    exact hret _ _ _ _ dX9_louder_110 rfl hP hD hS
  have j59 : ∀ (n : Nat) (o_past_next : Int32) (o_past_held : Int32) (o_past_cells : Nat → Int32) (o_wave_im : Nat → Int32) (o_wave_re : Nat → Int32) (o_wave_wasIm : Nat → Int32) (o_wave_wasRe : Nat → Int32) (v1 : Int32) (v2 : Int32) (H : Heap) (locs : List Loc) (ls : Array Slot), fX9_louder_59 o_way_size n o_past_next o_past_held o_past_cells o_wave_im o_wave_re o_wave_wasIm o_wave_wasRe v1 v2 = some (r, out_o_past_next, out_o_past_held, out_o_past_cells, out_o_wave_im, out_o_wave_re, out_o_wave_wasIm, out_o_wave_wasRe) → va_P G vwCl (wX9_louder cI cJ cZ h_o h_o_past h_o_wave h_o_way h_o_past_cells h_o_wave_halved h_o_wave_im h_o_wave_re h_o_wave_wasIm h_o_wave_wasRe h_o_notes h_o_ring h_o_turns h_o_beater h_o_reader h_o_dice h_o_trialWay h_o_trial h_o_otherTrial h_o_sumsRe h_o_sumsIm h_o_tally h_o_image h_o_tape h_o_way_shifts o_imageKept o_taped o_past_next o_past_held o_wave_exp o_wave_done o_wave_backward o_way_size o_way_log o_way_wordBits o_way_limit o_way_radix o_way_order o_way_near o_way_seed o_way_stages o_past_cells o_wave_halved o_wave_im o_wave_re o_wave_wasIm o_wave_wasRe) H → va_D A (wX9_louder cI cJ cZ h_o h_o_past h_o_wave h_o_way h_o_past_cells h_o_wave_halved h_o_wave_im h_o_wave_re h_o_wave_wasIm h_o_wave_wasRe h_o_notes h_o_ring h_o_turns h_o_beater h_o_reader h_o_dice h_o_trialWay h_o_trial h_o_otherTrial h_o_sumsRe h_o_sumsIm h_o_tally h_o_image h_o_tape h_o_way_shifts o_imageKept o_taped o_past_next o_past_held o_wave_exp o_wave_done o_wave_backward o_way_size o_way_log o_way_wordBits o_way_limit o_way_radix o_way_order o_way_near o_way_seed o_way_stages o_past_cells o_wave_halved o_wave_im o_wave_re o_wave_wasIm o_wave_wasRe) → va_S A s.heap H locs → lv_has ls 3 [(0, .ref h_o), (1, .int v1), (2, .int v2)] → W p l e ({ frames := 3, cells := 0, slots := 0, locals := 62 } : Room) s m ([.ref h_o, .int p1] : List Value).toArray below meth c H locs 0 0 Q (F0 m 59 ls []) := by
    intro n
    induction n with
    | zero =>
      intro o_past_next o_past_held o_past_cells o_wave_im o_wave_re o_wave_wasIm o_wave_wasRe v1 v2 H locs ls hf
      have hf : (none : Option (Int32 × Int32 × Int32 × (Nat → Int32) × (Nat → Int32) × (Nat → Int32) × (Nat → Int32) × (Nat → Int32))) = some (r, out_o_past_next, out_o_past_held, out_o_past_cells, out_o_wave_im, out_o_wave_re, out_o_wave_wasIm, out_o_wave_wasRe) := hf
      cases hf
    | succ n ih =>
      intro o_past_next o_past_held o_past_cells o_wave_im o_wave_re o_wave_wasIm o_wave_wasRe v1 v2 H locs ls hf hP hD hS hl
      rw [fX9_louder_59.eq_2] at hf
      refine lv_iload_n hx hb dX9_louder_59 rfl (lv_at hl 2 rfl) ?_
      refine lv_aload_n hx hb dX9_louder_60 rfl (lv_at hl 0 rfl) ?_
      refine rd (ci := 9) (C := RX9) (T := TX9) (N := 19) hx hb hts inX9 hown hK hP 0 0 rfl rfl (by decide) (hts _ q_fX9_10) rfl dX9_louder_61 ?_
      refine rd (ci := 8) (C := RX8) (T := TX8) (N := 10) hx hb hts inX8 hown hK hP 3 0 rfl rfl (by decide) (hts _ q_fX9_115) rfl dX9_louder_64 ?_
      refine lv_icmp_ge (tgt := 102) hx hb dX9_louder_67 (by decide) (fun c_15 => ?_) (fun c_15 => ?_)
      · have hf := it_t c_15 hf
        exact j102 o_past_next o_past_held o_past_cells o_wave_im o_wave_re o_wave_wasIm o_wave_wasRe H locs ls hf hP hD hS (lv_sub hl [0] rfl)
      · have hf := it_f c_15 hf
        refine lv_aload_n hx hb dX9_louder_70 rfl (lv_at hl 0 rfl) ?_
        refine rd (ci := 9) (C := RX9) (T := TX9) (N := 19) hx hb hts inX9 hown hK hP 0 1 rfl rfl (by decide) (hts _ q_fX9_19) rfl dX9_louder_71 ?_
        refine rd (ci := 7) (C := RX7) (T := TX7) (N := 8) hx hb hts inX7 hown hK hP 2 0 rfl rfl (by decide) (hts _ q_fX9_175) rfl dX9_louder_74 ?_
        refine lv_iload_n hx hb dX9_louder_77 rfl (lv_at hl 2 rfl) ?_
        refine lv_dup2_11 hx hb dX9_louder_78 rfl rfl ?_
        obtain ⟨g_16, hf⟩ := gd_x hf
        refine va_iald hx hb hK hP 7 0 rfl rfl (inb_x g_16) dX9_louder_79 ?_
        refine lv_iload_n hx hb dX9_louder_80 rfl (lv_at hl 1 rfl) ?_
        refine lv_imul hx hb dX9_louder_81 ?_
        obtain ⟨g_17, hf⟩ := gd_x hf
        obtain ⟨o_wave_re_18, eo_wave_re_18⟩ : ∃ y : Nat → Int32, y = upd o_wave_re (Int32.toNatClampNeg v2) ((o_wave_re (Int32.toNatClampNeg v2)) * v1) := ⟨_, rfl⟩
        have hf := nm_x eo_wave_re_18 hf
        refine ist hx hb hK hP hD hS 7 0 rfl rfl (inb_x g_17) dX9_louder_82 eo_wave_re_18 (ws2 := (wX9_louder cI cJ cZ h_o h_o_past h_o_wave h_o_way h_o_past_cells h_o_wave_halved h_o_wave_im h_o_wave_re h_o_wave_wasIm h_o_wave_wasRe h_o_notes h_o_ring h_o_turns h_o_beater h_o_reader h_o_dice h_o_trialWay h_o_trial h_o_otherTrial h_o_sumsRe h_o_sumsIm h_o_tally h_o_image h_o_tape h_o_way_shifts o_imageKept o_taped o_past_next o_past_held o_wave_exp o_wave_done o_wave_backward o_way_size o_way_log o_way_wordBits o_way_limit o_way_radix o_way_order o_way_near o_way_seed o_way_stages o_past_cells o_wave_halved o_wave_im o_wave_re_18 o_wave_wasIm o_wave_wasRe)) rfl (fun H locs hP hD hS => ?_)
        refine lv_aload_n hx hb dX9_louder_83 rfl (lv_at hl 0 rfl) ?_
        refine rd (ci := 9) (C := RX9) (T := TX9) (N := 19) hx hb hts inX9 hown hK hP 0 1 rfl rfl (by decide) (hts _ q_fX9_19) rfl dX9_louder_84 ?_
        refine rd (ci := 7) (C := RX7) (T := TX7) (N := 8) hx hb hts inX7 hown hK hP 2 1 rfl rfl (by decide) (hts _ q_fX9_176) rfl dX9_louder_87 ?_
        refine lv_iload_n hx hb dX9_louder_90 rfl (lv_at hl 2 rfl) ?_
        refine lv_dup2_11 hx hb dX9_louder_91 rfl rfl ?_
        obtain ⟨g_19, hf⟩ := gd_x hf
        refine va_iald hx hb hK hP 6 0 rfl rfl (inb_x g_19) dX9_louder_92 ?_
        refine lv_iload_n hx hb dX9_louder_93 rfl (lv_at hl 1 rfl) ?_
        refine lv_imul hx hb dX9_louder_94 ?_
        obtain ⟨g_20, hf⟩ := gd_x hf
        obtain ⟨o_wave_im_21, eo_wave_im_21⟩ : ∃ y : Nat → Int32, y = upd o_wave_im (Int32.toNatClampNeg v2) ((o_wave_im (Int32.toNatClampNeg v2)) * v1) := ⟨_, rfl⟩
        have hf := nm_x eo_wave_im_21 hf
        refine ist hx hb hK hP hD hS 6 0 rfl rfl (inb_x g_20) dX9_louder_95 eo_wave_im_21 (ws2 := (wX9_louder cI cJ cZ h_o h_o_past h_o_wave h_o_way h_o_past_cells h_o_wave_halved h_o_wave_im h_o_wave_re h_o_wave_wasIm h_o_wave_wasRe h_o_notes h_o_ring h_o_turns h_o_beater h_o_reader h_o_dice h_o_trialWay h_o_trial h_o_otherTrial h_o_sumsRe h_o_sumsIm h_o_tally h_o_image h_o_tape h_o_way_shifts o_imageKept o_taped o_past_next o_past_held o_wave_exp o_wave_done o_wave_backward o_way_size o_way_log o_way_wordBits o_way_limit o_way_radix o_way_order o_way_near o_way_seed o_way_stages o_past_cells o_wave_halved o_wave_im_21 o_wave_re_18 o_wave_wasIm o_wave_wasRe)) rfl (fun H locs hP hD hS => ?_)
        obtain ⟨v2_22, ev2_22⟩ : ∃ y : Int32, y = v2 + (1 : Int32) := ⟨_, rfl⟩
        have hf := nm_x ev2_22 hf
        refine lv_iinc (v := v2_22) (lv' := [(2, .int v2_22), (0, .ref h_o), (1, .int v1)]) hx hb dX9_louder_96 hl (k := 2) rfl (by rw [ev2_22]; rfl) (by decide) rfl (fun ls hl => ?_)
        refine lv_goto (tgt := 59) hx hb dX9_louder_99 (by decide) ?_
        exact ih o_past_next o_past_held o_past_cells o_wave_im_21 o_wave_re_18 o_wave_wasIm o_wave_wasRe v1 v2_22 H locs ls hf hP hD hS (lv_sub hl [1, 2, 0] rfl)
  unfold fX9_louder at hf
  obtain ⟨H, eH⟩ : ∃ H, H = s.heap := ⟨_, rfl⟩
  obtain ⟨locs, elocs⟩ : ∃ z : List Loc, z = [] := ⟨_, rfl⟩
  have hP : va_P G vwCl (wX9_louder cI cJ cZ h_o h_o_past h_o_wave h_o_way h_o_past_cells h_o_wave_halved h_o_wave_im h_o_wave_re h_o_wave_wasIm h_o_wave_wasRe h_o_notes h_o_ring h_o_turns h_o_beater h_o_reader h_o_dice h_o_trialWay h_o_trial h_o_otherTrial h_o_sumsRe h_o_sumsIm h_o_tally h_o_image h_o_tape h_o_way_shifts o_imageKept o_taped o_past_next o_past_held o_wave_exp o_wave_done o_wave_backward o_way_size o_way_log o_way_wordBits o_way_limit o_way_radix o_way_order o_way_near o_way_seed o_way_stages o_past_cells o_wave_halved o_wave_im o_wave_re o_wave_wasIm o_wave_wasRe) H := by rw [eH]; exact hP
  have hS : va_S A s.heap H locs := by rw [eH, elocs]; exact hS
  suffices hgo : W p l e ({ frames := 3, cells := 0, slots := 0, locals := 62 } : Room) s m ([.ref h_o, .int p1] : List Value).toArray below meth c H locs 0 0 Q (F0 m 0 ls []) by rw [eH, elocs] at hgo; exact hgo
  clear eH elocs
  refine lv_iload_n hx hb dX9_louder_0 rfl (lv_at hl 1 rfl) ?_
  refine lv_iconst (v := (2 : Int32)) hx hb dX9_louder_1 (by decide) ?_
  refine lv_icmp_lt (tgt := 44) hx hb dX9_louder_2 (by decide) (fun c_1 => ?_) (fun c_1 => ?_)
  · have hf := it_t c_1 hf
    refine lv_iconst (v := (0 : Int32)) hx hb dX9_louder_44 (by decide) ?_
    cases hf
    exact hret _ _ _ _ dX9_louder_45 rfl hP hD hS
  · have hf := it_f c_1 hf
    refine lv_iload_n hx hb dX9_louder_5 rfl (lv_at hl 1 rfl) ?_
    refine lv_bipush (v := (9 : Int32)) hx hb dX9_louder_6 (by decide) ?_
    refine lv_icmp_gt (tgt := 44) hx hb dX9_louder_8 (by decide) (fun c_2 => ?_) (fun c_2 => ?_)
    · have hf := it_t c_2 hf
      refine lv_iconst (v := (0 : Int32)) hx hb dX9_louder_44 (by decide) ?_
      cases hf
      exact hret _ _ _ _ dX9_louder_45 rfl hP hD hS
    · have hf := it_f c_2 hf
      refine lv_aload_n hx hb dX9_louder_11 rfl (lv_at hl 0 rfl) ?_
      obtain ⟨r_3, e_4, hf⟩ := bd1_x hf
      refine call_v [] [] ⟨hx, hb, hml, hown, hts⟩ hK hP hD hS hA hl.1 (tX9_isFresh l G cI cJ cZ H.size h_o h_o_wave h_o_way h_o_past h_o_notes h_o_ring h_o_turns h_o_beater h_o_reader h_o_dice h_o_trialWay h_o_trial h_o_otherTrial h_o_sumsRe h_o_sumsIm h_o_tally h_o_image h_o_tape h_o_wave_re h_o_wave_im h_o_wave_wasRe h_o_wave_wasIm h_o_wave_halved o_imageKept o_taped o_wave_exp o_wave_done o_wave_backward r_3 e_4) (cwV 0 hts (gv q_mX9_261 q_i_yX9_isFresh q_s_yX9_isFresh q_n_RX9 q_k_yX9_isFresh) rfl rfl rfl (by decide +kernel) ⟨by decide, by decide⟩) rfl rfl (Nat.le_of_ble_eq_true rfl) dX9_louder_12 ⟨Nat.zero_le _, Nat.zero_le _⟩ (ci := 9) rfl 0 rfl [0, 2] [1, 3, 4, 5, 6, 7, 8, 9] [8, 0, 9, 1, 2, 3, 4, 5, 6, 7] rfl rfl (ws2 := (wX9_louder cI cJ cZ h_o h_o_past h_o_wave h_o_way h_o_past_cells h_o_wave_halved h_o_wave_im h_o_wave_re h_o_wave_wasIm h_o_wave_wasRe h_o_notes h_o_ring h_o_turns h_o_beater h_o_reader h_o_dice h_o_trialWay h_o_trial h_o_otherTrial h_o_sumsRe h_o_sumsIm h_o_tally h_o_image h_o_tape h_o_way_shifts o_imageKept o_taped o_past_next o_past_held o_wave_exp o_wave_done o_wave_backward o_way_size o_way_log o_way_wordBits o_way_limit o_way_radix o_way_order o_way_near o_way_seed o_way_stages o_past_cells o_wave_halved o_wave_im o_wave_re o_wave_wasIm o_wave_wasRe)) rfl (fun H locs hP hD hS => ?_)
      refine W.eq (g2 := F0 m 15 ls [.int r_3]) rfl ?_
      refine lv_if_eq (tgt := 44) hx hb dX9_louder_15 (by decide) (fun c_5 => ?_) (fun c_5 => ?_)
      · have hf := it_t c_5 hf
        refine lv_iconst (v := (0 : Int32)) hx hb dX9_louder_44 (by decide) ?_
        cases hf
        exact hret _ _ _ _ dX9_louder_45 rfl hP hD hS
      · have hf := it_f c_5 hf
        refine lv_aload_n hx hb dX9_louder_18 rfl (lv_at hl 0 rfl) ?_
        refine lv_aload_n hx hb dX9_louder_19 rfl (lv_at hl 0 rfl) ?_
        refine rd (ci := 9) (C := RX9) (T := TX9) (N := 19) hx hb hts inX9 hown hK hP 0 1 rfl rfl (by decide) (hts _ q_fX9_19) rfl dX9_louder_20 ?_
        refine lv_iconst (v := (0 : Int32)) hx hb dX9_louder_23 (by decide) ?_
        refine lv_aload_n hx hb dX9_louder_24 rfl (lv_at hl 0 rfl) ?_
        refine rd (ci := 9) (C := RX9) (T := TX9) (N := 19) hx hb hts inX9 hown hK hP 0 0 rfl rfl (by decide) (hts _ q_fX9_10) rfl dX9_louder_25 ?_
        refine rd (ci := 8) (C := RX8) (T := TX8) (N := 10) hx hb hts inX8 hown hK hP 3 0 rfl rfl (by decide) (hts _ q_fX9_115) rfl dX9_louder_28 ?_
        obtain ⟨r_6, e_7, hf⟩ := bd1_x hf
        refine call_v [.int (0 : Int32), .int o_way_size] [.ref h_o] ⟨hx, hb, hml, hown, hts⟩ hK hP hD hS hA hl.1 (tX7_greatest l G cI cJ cZ H.size h_o_wave h_o_wave_im h_o_wave_re h_o_wave_wasRe h_o_wave_wasIm h_o_wave_halved o_wave_exp o_wave_done o_wave_backward o_wave_im o_wave_re (0 : Int32) o_way_size r_6 e_7) (cwV 2 hts (gv q_mX9_212 q_i_yX7_greatest q_s_yX7_greatest q_n_RX7 q_k_yX7_greatest) rfl rfl rfl (by decide +kernel) ⟨by decide, by decide⟩) rfl rfl (Nat.le_of_ble_eq_true rfl) dX9_louder_31 ⟨Nat.zero_le _, Nat.zero_le _⟩ (ci := 7) rfl 0 rfl [2, 6, 7] [0, 1, 3, 4, 5, 8, 9] [0, 1, 7, 2, 3, 4, 8, 9, 5, 6] rfl rfl (ws2 := (wX9_louder cI cJ cZ h_o h_o_past h_o_wave h_o_way h_o_past_cells h_o_wave_halved h_o_wave_im h_o_wave_re h_o_wave_wasIm h_o_wave_wasRe h_o_notes h_o_ring h_o_turns h_o_beater h_o_reader h_o_dice h_o_trialWay h_o_trial h_o_otherTrial h_o_sumsRe h_o_sumsIm h_o_tally h_o_image h_o_tape h_o_way_shifts o_imageKept o_taped o_past_next o_past_held o_wave_exp o_wave_done o_wave_backward o_way_size o_way_log o_way_wordBits o_way_limit o_way_radix o_way_order o_way_near o_way_seed o_way_stages o_past_cells o_wave_halved o_wave_im o_wave_re o_wave_wasIm o_wave_wasRe)) rfl (fun H locs hP hD hS => ?_)
        refine W.eq (g2 := F0 m 34 ls [.int r_6, .ref h_o]) rfl ?_
        refine lv_i2l hx hb dX9_louder_34 rfl ?_
        refine lv_iload_n hx hb dX9_louder_35 rfl (lv_at hl 1 rfl) ?_
        refine lv_i2l hx hb dX9_louder_36 rfl ?_
        refine lv_lmul hx hb dX9_louder_37 ?_
        obtain ⟨r_8, e_9, hf⟩ := bd1_x hf
        refine call_v [.long ((Int32.toInt64 r_6) * (Int32.toInt64 p1))] [] ⟨hx, hb, hml, hown, hts⟩ hK hP hD hS hA hl.1 (tX9_isInWord l G cI cJ cZ H.size h_o h_o_way h_o_wave h_o_past h_o_notes h_o_ring h_o_turns h_o_beater h_o_reader h_o_dice h_o_trialWay h_o_trial h_o_otherTrial h_o_sumsRe h_o_sumsIm h_o_tally h_o_image h_o_tape h_o_way_shifts o_imageKept o_taped o_way_size o_way_log o_way_wordBits o_way_limit o_way_radix o_way_order o_way_near o_way_seed o_way_stages ((Int32.toInt64 r_6) * (Int32.toInt64 p1)) r_8 e_9) (cwV 1 hts (gv q_mX9_257 q_i_yX9_isInWord q_s_yX9_isInWord q_n_RX9 q_k_yX9_isInWord) rfl rfl rfl (by decide +kernel) ⟨by decide, by decide⟩) rfl rfl (Nat.le_of_ble_eq_true rfl) dX9_louder_38 ⟨Nat.zero_le _, Nat.zero_le _⟩ (ci := 9) rfl 0 rfl [0, 3] [1, 2, 4, 5, 6, 7, 8, 9] [8, 0, 1, 9, 2, 3, 4, 5, 6, 7] rfl rfl (ws2 := (wX9_louder cI cJ cZ h_o h_o_past h_o_wave h_o_way h_o_past_cells h_o_wave_halved h_o_wave_im h_o_wave_re h_o_wave_wasIm h_o_wave_wasRe h_o_notes h_o_ring h_o_turns h_o_beater h_o_reader h_o_dice h_o_trialWay h_o_trial h_o_otherTrial h_o_sumsRe h_o_sumsIm h_o_tally h_o_image h_o_tape h_o_way_shifts o_imageKept o_taped o_past_next o_past_held o_wave_exp o_wave_done o_wave_backward o_way_size o_way_log o_way_wordBits o_way_limit o_way_radix o_way_order o_way_near o_way_seed o_way_stages o_past_cells o_wave_halved o_wave_im o_wave_re o_wave_wasIm o_wave_wasRe)) rfl (fun H locs hP hD hS => ?_)
        refine W.eq (g2 := F0 m 41 ls [.int r_8]) rfl ?_
        refine lv_if_ne (tgt := 46) hx hb dX9_louder_41 (by decide) (fun c_10 => ?_) (fun c_10 => ?_)
        · have hf := it_f c_10 hf
          refine lv_aload_n hx hb dX9_louder_46 rfl (lv_at hl 0 rfl) ?_
          refine rd (ci := 9) (C := RX9) (T := TX9) (N := 19) hx hb hts inX9 hown hK hP 0 2 rfl rfl (by decide) (hts _ q_fX9_26) rfl dX9_louder_47 ?_
          refine lv_aload_n hx hb dX9_louder_50 rfl (lv_at hl 0 rfl) ?_
          refine rd (ci := 9) (C := RX9) (T := TX9) (N := 19) hx hb hts inX9 hown hK hP 0 1 rfl rfl (by decide) (hts _ q_fX9_19) rfl dX9_louder_51 ?_
          obtain ⟨o_past_next_11, o_past_held_12, o_past_cells_13, e_14, hf⟩ := bd3_x hf
          refine call_v [.ref h_o_wave] [] ⟨hx, hb, hml, hown, hts⟩ hK hP hD hS hA hl.1 (tX3_remember l G cI cJ cZ H.size h_o_past h_o_wave h_o_wave_halved h_o_wave_im h_o_wave_re h_o_wave_wasIm h_o_wave_wasRe h_o_past_cells o_past_next o_past_held o_wave_exp o_wave_done o_wave_backward o_wave_halved o_wave_im o_wave_re o_wave_wasIm o_wave_wasRe o_past_cells o_past_next_11 o_past_held_12 o_past_cells_13 e_14) (cwV 1 hts (gv q_mX9_265 q_i_yX3_remember q_s_yX3_remember q_n_RX3 q_k_yX3_remember) rfl rfl rfl (by decide +kernel) ⟨by decide, by decide⟩) rfl rfl (Nat.le_of_ble_eq_true rfl) dX9_louder_54 ⟨Nat.zero_le _, Nat.zero_le _⟩ (ci := 3) rfl 0 rfl [1, 2, 5, 6, 7, 8, 9, 4] [0, 3] [0, 2, 3, 1, 9, 4, 5, 6, 7, 8] rfl rfl (ws2 := (wX9_louder cI cJ cZ h_o h_o_past h_o_wave h_o_way h_o_past_cells h_o_wave_halved h_o_wave_im h_o_wave_re h_o_wave_wasIm h_o_wave_wasRe h_o_notes h_o_ring h_o_turns h_o_beater h_o_reader h_o_dice h_o_trialWay h_o_trial h_o_otherTrial h_o_sumsRe h_o_sumsIm h_o_tally h_o_image h_o_tape h_o_way_shifts o_imageKept o_taped o_past_next_11 o_past_held_12 o_wave_exp o_wave_done o_wave_backward o_way_size o_way_log o_way_wordBits o_way_limit o_way_radix o_way_order o_way_near o_way_seed o_way_stages o_past_cells_13 o_wave_halved o_wave_im o_wave_re o_wave_wasIm o_wave_wasRe)) rfl (fun H locs hP hD hS => ?_)
          refine W.eq (g2 := F0 m 57 ls []) rfl ?_
          refine lv_iconst (v := (0 : Int32)) hx hb dX9_louder_57 (by decide) ?_
          refine lv_istore_n (lv' := [(2, .int (0 : Int32)), (0, .ref h_o), (1, .int p1)]) hx hb dX9_louder_58 rfl hl (by decide) rfl (fun ls hl => ?_)
          exact j59 FU o_past_next_11 o_past_held_12 o_past_cells_13 o_wave_im o_wave_re o_wave_wasIm o_wave_wasRe p1 (0 : Int32) H locs ls hf hP hD hS (lv_sub hl [1, 2, 0] rfl)
        · have hf := it_t c_10 hf
          refine lv_iconst (v := (0 : Int32)) hx hb dX9_louder_44 (by decide) ?_
          cases hf
          exact hret _ _ _ _ dX9_louder_45 rfl hP hD hS
def wX9_isDoneForward (cI cJ cZ : ClassId) (h_o h_o_wave h_o_way h_o_past h_o_notes h_o_ring h_o_turns h_o_beater h_o_reader h_o_dice h_o_trialWay h_o_trial h_o_otherTrial h_o_sumsRe h_o_sumsIm h_o_tally h_o_image h_o_tape h_o_wave_re h_o_wave_im h_o_wave_wasRe h_o_wave_wasIm h_o_wave_halved h_o_way_shifts : Nat) (o_imageKept : Int32) (o_taped : Int32) (o_wave_exp : Int32) (o_wave_done : Int32) (o_wave_backward : Int32) (o_way_size : Int32) (o_way_log : Int32) (o_way_wordBits : Int32) (o_way_limit : Int32) (o_way_radix : Int32) (o_way_order : Int32) (o_way_near : Int32) (o_way_seed : Int32) (o_way_stages : Int32) : va_W := [(h_o, .inr (9, [.ref h_o_way, .ref h_o_wave, .ref h_o_past, .ref h_o_notes, .ref h_o_ring, .ref h_o_turns, .ref h_o_beater, .ref h_o_reader, .ref h_o_dice, .ref h_o_trialWay, .ref h_o_trial, .ref h_o_otherTrial, .ref h_o_sumsRe, .ref h_o_sumsIm, .ref h_o_tally, .ref h_o_image, .int o_imageKept, .ref h_o_tape, .int o_taped])), (h_o_wave, .inr (7, [.ref h_o_wave_re, .ref h_o_wave_im, .ref h_o_wave_wasRe, .ref h_o_wave_wasIm, .ref h_o_wave_halved, .int o_wave_exp, .int o_wave_done, .int o_wave_backward])), (h_o_way, .inr (8, [.int o_way_size, .int o_way_log, .int o_way_wordBits, .int o_way_limit, .int o_way_radix, .int o_way_order, .int o_way_near, .int o_way_seed, .int o_way_stages, .ref h_o_way_shifts]))]
def fX9_isDoneForward (o_wave_done : Int32) (o_wave_backward : Int32) (o_way_stages : Int32) : Option (Int32) :=
  if o_wave_backward = 0 then (
    if o_wave_done < o_way_stages then (
      some (0 : Int32)
    ) else (
      some (1 : Int32)
    )
  ) else (
    some (0 : Int32)
  )
set_option maxHeartbeats 4000000 in
set_option maxRecDepth 100000 in
theorem tX9_isDoneForward (l : Launch) (G : va_G) (cI cJ cZ : ClassId) (sz : Nat) (h_o h_o_wave h_o_way h_o_past h_o_notes h_o_ring h_o_turns h_o_beater h_o_reader h_o_dice h_o_trialWay h_o_trial h_o_otherTrial h_o_sumsRe h_o_sumsIm h_o_tally h_o_image h_o_tape h_o_wave_re h_o_wave_im h_o_wave_wasRe h_o_wave_wasIm h_o_wave_halved h_o_way_shifts : Nat) (o_imageKept : Int32) (o_taped : Int32) (o_wave_exp : Int32) (o_wave_done : Int32) (o_wave_backward : Int32) (o_way_size : Int32) (o_way_log : Int32) (o_way_wordBits : Int32) (o_way_limit : Int32) (o_way_radix : Int32) (o_way_order : Int32) (o_way_near : Int32) (o_way_seed : Int32) (o_way_stages : Int32) (r : Int32) (hf : fX9_isDoneForward o_wave_done o_wave_backward o_way_stages = some r) : Met l yX9_isDoneForward (Cond.code yX9_isDoneForward cX9_isDoneForward 1 (some .boolean) :: BIG) ({ frames := 0, cells := 0, slots := 0, locals := 0 } : Room) (cP G (TY3 cI cJ cZ) [.ref h_o] sz (wX9_isDoneForward cI cJ cZ h_o h_o_wave h_o_way h_o_past h_o_notes h_o_ring h_o_turns h_o_beater h_o_reader h_o_dice h_o_trialWay h_o_trial h_o_otherTrial h_o_sumsRe h_o_sumsIm h_o_tally h_o_image h_o_tape h_o_wave_re h_o_wave_im h_o_wave_wasRe h_o_wave_wasIm h_o_wave_halved h_o_way_shifts o_imageKept o_taped o_wave_exp o_wave_done o_wave_backward o_way_size o_way_log o_way_wordBits o_way_limit o_way_radix o_way_order o_way_near o_way_seed o_way_stages)) (cQ G (TY3 cI cJ cZ) sz (wX9_isDoneForward cI cJ cZ h_o h_o_wave h_o_way h_o_past h_o_notes h_o_ring h_o_turns h_o_beater h_o_reader h_o_dice h_o_trialWay h_o_trial h_o_otherTrial h_o_sumsRe h_o_sumsIm h_o_tally h_o_image h_o_tape h_o_wave_re h_o_wave_im h_o_wave_wasRe h_o_wave_wasIm h_o_wave_halved h_o_way_shifts o_imageKept o_taped o_wave_exp o_wave_done o_wave_backward o_way_size o_way_log o_way_wordBits o_way_limit o_way_radix o_way_order o_way_near o_way_seed o_way_stages) (wX9_isDoneForward cI cJ cZ h_o h_o_wave h_o_way h_o_past h_o_notes h_o_ring h_o_turns h_o_beater h_o_reader h_o_dice h_o_trialWay h_o_trial h_o_otherTrial h_o_sumsRe h_o_sumsIm h_o_tally h_o_image h_o_tape h_o_wave_re h_o_wave_im h_o_wave_wasRe h_o_wave_wasIm h_o_wave_halved h_o_way_shifts o_imageKept o_taped o_wave_exp o_wave_done o_wave_backward o_way_size o_way_log o_way_wordBits o_way_limit o_way_radix o_way_order o_way_near o_way_seed o_way_stages) (some (.int r))) 0 0 (va_A (wX9_isDoneForward cI cJ cZ h_o h_o_wave h_o_way h_o_past h_o_notes h_o_ring h_o_turns h_o_beater h_o_reader h_o_dice h_o_trialWay h_o_trial h_o_otherTrial h_o_sumsRe h_o_sumsIm h_o_tally h_o_image h_o_tape h_o_wave_re h_o_wave_im h_o_wave_wasRe h_o_wave_wasIm h_o_wave_halved h_o_way_shifts o_imageKept o_taped o_wave_exp o_wave_done o_wave_backward o_way_size o_way_log o_way_wordBits o_way_limit o_way_radix o_way_order o_way_near o_way_seed o_way_stages) sz) := by
  refine met_z (cc := cX9_isDoneForward) (maxL := 1) (plainFor_of_name (by decide)) (Nat.le_of_ble_eq_true rfl) (fun p e s m below meth c A ls Q hx hb hml hts hown hK hP hD hS hA hl hret => ?_)
  have hown : s.vm.findClass RX9 = some m.cls := hown
  have hl : lv_has ls 1 [(0, .ref h_o)] := hl
  unfold fX9_isDoneForward at hf
  obtain ⟨H, eH⟩ : ∃ H, H = s.heap := ⟨_, rfl⟩
  obtain ⟨locs, elocs⟩ : ∃ z : List Loc, z = [] := ⟨_, rfl⟩
  have hP : va_P G vwCl (wX9_isDoneForward cI cJ cZ h_o h_o_wave h_o_way h_o_past h_o_notes h_o_ring h_o_turns h_o_beater h_o_reader h_o_dice h_o_trialWay h_o_trial h_o_otherTrial h_o_sumsRe h_o_sumsIm h_o_tally h_o_image h_o_tape h_o_wave_re h_o_wave_im h_o_wave_wasRe h_o_wave_wasIm h_o_wave_halved h_o_way_shifts o_imageKept o_taped o_wave_exp o_wave_done o_wave_backward o_way_size o_way_log o_way_wordBits o_way_limit o_way_radix o_way_order o_way_near o_way_seed o_way_stages) H := by rw [eH]; exact hP
  have hS : va_S A s.heap H locs := by rw [eH, elocs]; exact hS
  suffices hgo : W p l e ({ frames := 0, cells := 0, slots := 0, locals := 0 } : Room) s m ([.ref h_o] : List Value).toArray below meth c H locs 0 0 Q (F0 m 0 ls []) by rw [eH, elocs] at hgo; exact hgo
  clear eH elocs
  refine lv_aload_n hx hb dX9_isDoneForward_0 rfl (lv_at hl 0 rfl) ?_
  refine rd (ci := 9) (C := RX9) (T := TX9) (N := 19) hx hb hts inX9 hown hK hP 0 1 rfl rfl (by decide) (hts _ q_fX9_19) rfl dX9_isDoneForward_1 ?_
  refine rd (ci := 7) (C := RX7) (T := TX7) (N := 8) hx hb hts inX7 hown hK hP 1 7 rfl rfl (by decide) (hts _ q_fX9_241) rfl dX9_isDoneForward_4 ?_
  refine lv_if_ne (tgt := 31) hx hb dX9_isDoneForward_7 (by decide) (fun c_1 => ?_) (fun c_1 => ?_)
  · have hf := it_f c_1 hf
    refine lv_iconst (v := (0 : Int32)) hx hb dX9_isDoneForward_31 (by decide) ?_
    cases hf
    exact hret _ _ _ _ dX9_isDoneForward_32 rfl hP hD hS
  · have hf := it_t c_1 hf
    refine lv_aload_n hx hb dX9_isDoneForward_10 rfl (lv_at hl 0 rfl) ?_
    refine rd (ci := 9) (C := RX9) (T := TX9) (N := 19) hx hb hts inX9 hown hK hP 0 1 rfl rfl (by decide) (hts _ q_fX9_19) rfl dX9_isDoneForward_11 ?_
    refine rd (ci := 7) (C := RX7) (T := TX7) (N := 8) hx hb hts inX7 hown hK hP 1 6 rfl rfl (by decide) (hts _ q_fX9_206) rfl dX9_isDoneForward_14 ?_
    refine lv_aload_n hx hb dX9_isDoneForward_17 rfl (lv_at hl 0 rfl) ?_
    refine rd (ci := 9) (C := RX9) (T := TX9) (N := 19) hx hb hts inX9 hown hK hP 0 0 rfl rfl (by decide) (hts _ q_fX9_10) rfl dX9_isDoneForward_18 ?_
    refine rd (ci := 8) (C := RX8) (T := TX8) (N := 10) hx hb hts inX8 hown hK hP 2 8 rfl rfl (by decide) (hts _ q_fX9_196) rfl dX9_isDoneForward_21 ?_
    refine lv_icmp_lt (tgt := 31) hx hb dX9_isDoneForward_24 (by decide) (fun c_2 => ?_) (fun c_2 => ?_)
    · have hf := it_t c_2 hf
      refine lv_iconst (v := (0 : Int32)) hx hb dX9_isDoneForward_31 (by decide) ?_
      cases hf
      exact hret _ _ _ _ dX9_isDoneForward_32 rfl hP hD hS
    · have hf := it_f c_2 hf
      refine lv_iconst (v := (1 : Int32)) hx hb dX9_isDoneForward_27 (by decide) ?_
      refine lv_goto (tgt := 32) hx hb dX9_isDoneForward_28 (by decide) ?_
      cases hf
      exact hret _ _ _ _ dX9_isDoneForward_32 rfl hP hD hS
def wX9_beat (cI cJ cZ : ClassId) (h_o h_o_beater h_o_past h_o_turns h_o_wave h_o_way h_o_beater_spareIm h_o_beater_spareRe h_o_beater_wingIm h_o_beater_wingRe h_o_past_cells h_o_turns_cos h_o_turns_sin h_o_wave_halved h_o_wave_im h_o_wave_re h_o_wave_wasIm h_o_wave_wasRe h_o_way_shifts h_o_notes h_o_ring h_o_reader h_o_dice h_o_trialWay h_o_trial h_o_otherTrial h_o_sumsRe h_o_sumsIm h_o_tally h_o_image h_o_tape : Nat) (o_imageKept : Int32) (o_taped : Int32) (o_past_next : Int32) (o_past_held : Int32) (o_wave_exp : Int32) (o_wave_done : Int32) (o_wave_backward : Int32) (o_way_size : Int32) (o_way_log : Int32) (o_way_wordBits : Int32) (o_way_limit : Int32) (o_way_radix : Int32) (o_way_order : Int32) (o_way_near : Int32) (o_way_seed : Int32) (o_way_stages : Int32) (o_beater_spareIm : Nat → Int32) (o_beater_spareRe : Nat → Int32) (o_beater_wingIm : Nat → Int32) (o_beater_wingRe : Nat → Int32) (o_past_cells : Nat → Int32) (o_turns_cos : Nat → Int32) (o_turns_sin : Nat → Int32) (o_wave_halved : Nat → Int32) (o_wave_im : Nat → Int32) (o_wave_re : Nat → Int32) (o_wave_wasIm : Nat → Int32) (o_wave_wasRe : Nat → Int32) (o_way_shifts : Nat → Int32) : va_W := [(h_o, .inr (9, [.ref h_o_way, .ref h_o_wave, .ref h_o_past, .ref h_o_notes, .ref h_o_ring, .ref h_o_turns, .ref h_o_beater, .ref h_o_reader, .ref h_o_dice, .ref h_o_trialWay, .ref h_o_trial, .ref h_o_otherTrial, .ref h_o_sumsRe, .ref h_o_sumsIm, .ref h_o_tally, .ref h_o_image, .int o_imageKept, .ref h_o_tape, .int o_taped])), (h_o_beater, .inr (0, [.ref h_o_turns, .ref h_o_beater_spareRe, .ref h_o_beater_spareIm, .ref h_o_beater_wingRe, .ref h_o_beater_wingIm])), (h_o_past, .inr (3, [.ref h_o_past_cells, .int o_past_next, .int o_past_held])), (h_o_turns, .inr (6, [.ref h_o_turns_cos, .ref h_o_turns_sin])), (h_o_wave, .inr (7, [.ref h_o_wave_re, .ref h_o_wave_im, .ref h_o_wave_wasRe, .ref h_o_wave_wasIm, .ref h_o_wave_halved, .int o_wave_exp, .int o_wave_done, .int o_wave_backward])), (h_o_way, .inr (8, [.int o_way_size, .int o_way_log, .int o_way_wordBits, .int o_way_limit, .int o_way_radix, .int o_way_order, .int o_way_near, .int o_way_seed, .int o_way_stages, .ref h_o_way_shifts])), (h_o_beater_spareIm, .inl (cI, 32, .inl o_beater_spareIm)), (h_o_beater_spareRe, .inl (cI, 32, .inl o_beater_spareRe)), (h_o_beater_wingIm, .inl (cI, 4, .inl o_beater_wingIm)), (h_o_beater_wingRe, .inl (cI, 4, .inl o_beater_wingRe)), (h_o_past_cells, .inl (cI, 2720, .inl o_past_cells)), (h_o_turns_cos, .inl (cI, 32, .inl o_turns_cos)), (h_o_turns_sin, .inl (cI, 32, .inl o_turns_sin)), (h_o_wave_halved, .inl (cI, 5, .inl o_wave_halved)), (h_o_wave_im, .inl (cI, 32, .inl o_wave_im)), (h_o_wave_re, .inl (cI, 32, .inl o_wave_re)), (h_o_wave_wasIm, .inl (cI, 32, .inl o_wave_wasIm)), (h_o_wave_wasRe, .inl (cI, 32, .inl o_wave_wasRe)), (h_o_way_shifts, .inl (cI, 5, .inl o_way_shifts))]
def fX9_beat (o_past_next : Int32) (o_past_held : Int32) (o_wave_exp : Int32) (o_wave_done : Int32) (o_wave_backward : Int32) (o_way_size : Int32) (o_way_log : Int32) (o_way_limit : Int32) (o_way_order : Int32) (o_way_near : Int32) (o_way_stages : Int32) (o_beater_spareIm : Nat → Int32) (o_beater_spareRe : Nat → Int32) (o_beater_wingIm : Nat → Int32) (o_beater_wingRe : Nat → Int32) (o_past_cells : Nat → Int32) (o_turns_cos : Nat → Int32) (o_turns_sin : Nat → Int32) (o_wave_halved : Nat → Int32) (o_wave_im : Nat → Int32) (o_wave_re : Nat → Int32) (o_wave_wasIm : Nat → Int32) (o_wave_wasRe : Nat → Int32) (o_way_shifts : Nat → Int32) : Option (Int32 × Int32 × Int32 × Int32 × Int32 × (Nat → Int32) × (Nat → Int32) × (Nat → Int32) × (Nat → Int32) × (Nat → Int32) × (Nat → Int32) × (Nat → Int32) × (Nat → Int32)) :=
  if o_wave_done < o_way_stages then (
    bd3 (fX3_remember o_past_next o_past_held o_wave_exp o_wave_done o_wave_backward o_wave_halved o_wave_im o_wave_re o_wave_wasIm o_wave_wasRe o_past_cells) (fun o_past_next_2 o_past_held_3 o_past_cells_4 =>
    bd10 (fX0_doStage o_wave_exp o_wave_done o_wave_backward o_way_size o_way_log o_way_limit o_way_order o_way_near o_way_stages o_wave_halved o_wave_im o_wave_re o_way_shifts o_beater_spareIm o_beater_spareRe o_beater_wingIm o_beater_wingRe o_turns_cos o_turns_sin (1 : Int32)) (fun r_6 o_wave_exp_7 o_wave_done_8 o_wave_halved_9 o_wave_im_10 o_wave_re_11 o_beater_spareIm_12 o_beater_spareRe_13 o_beater_wingIm_14 o_beater_wingRe_15 =>
    some (r_6, o_past_next_2, o_past_held_3, o_wave_exp_7, o_wave_done_8, o_beater_spareIm_12, o_beater_spareRe_13, o_beater_wingIm_14, o_beater_wingRe_15, o_past_cells_4, o_wave_halved_9, o_wave_im_10, o_wave_re_11)))
  ) else (
    some ((-2 : Int32), o_past_next, o_past_held, o_wave_exp, o_wave_done, o_beater_spareIm, o_beater_spareRe, o_beater_wingIm, o_beater_wingRe, o_past_cells, o_wave_halved, o_wave_im, o_wave_re)
  )
set_option maxHeartbeats 4000000 in
set_option maxRecDepth 100000 in
theorem tX9_beat (l : Launch) (G : va_G) (cI cJ cZ : ClassId) (sz : Nat) (h_o h_o_beater h_o_past h_o_turns h_o_wave h_o_way h_o_beater_spareIm h_o_beater_spareRe h_o_beater_wingIm h_o_beater_wingRe h_o_past_cells h_o_turns_cos h_o_turns_sin h_o_wave_halved h_o_wave_im h_o_wave_re h_o_wave_wasIm h_o_wave_wasRe h_o_way_shifts h_o_notes h_o_ring h_o_reader h_o_dice h_o_trialWay h_o_trial h_o_otherTrial h_o_sumsRe h_o_sumsIm h_o_tally h_o_image h_o_tape : Nat) (o_imageKept : Int32) (o_taped : Int32) (o_past_next : Int32) (o_past_held : Int32) (o_wave_exp : Int32) (o_wave_done : Int32) (o_wave_backward : Int32) (o_way_size : Int32) (o_way_log : Int32) (o_way_wordBits : Int32) (o_way_limit : Int32) (o_way_radix : Int32) (o_way_order : Int32) (o_way_near : Int32) (o_way_seed : Int32) (o_way_stages : Int32) (o_beater_spareIm : Nat → Int32) (o_beater_spareRe : Nat → Int32) (o_beater_wingIm : Nat → Int32) (o_beater_wingRe : Nat → Int32) (o_past_cells : Nat → Int32) (o_turns_cos : Nat → Int32) (o_turns_sin : Nat → Int32) (o_wave_halved : Nat → Int32) (o_wave_im : Nat → Int32) (o_wave_re : Nat → Int32) (o_wave_wasIm : Nat → Int32) (o_wave_wasRe : Nat → Int32) (o_way_shifts : Nat → Int32) (r : Int32) (out_o_past_next : Int32) (out_o_past_held : Int32) (out_o_wave_exp : Int32) (out_o_wave_done : Int32) (out_o_beater_spareIm : Nat → Int32) (out_o_beater_spareRe : Nat → Int32) (out_o_beater_wingIm : Nat → Int32) (out_o_beater_wingRe : Nat → Int32) (out_o_past_cells : Nat → Int32) (out_o_wave_halved : Nat → Int32) (out_o_wave_im : Nat → Int32) (out_o_wave_re : Nat → Int32) (hf : fX9_beat o_past_next o_past_held o_wave_exp o_wave_done o_wave_backward o_way_size o_way_log o_way_limit o_way_order o_way_near o_way_stages o_beater_spareIm o_beater_spareRe o_beater_wingIm o_beater_wingRe o_past_cells o_turns_cos o_turns_sin o_wave_halved o_wave_im o_wave_re o_wave_wasIm o_wave_wasRe o_way_shifts = some (r, out_o_past_next, out_o_past_held, out_o_wave_exp, out_o_wave_done, out_o_beater_spareIm, out_o_beater_spareRe, out_o_beater_wingIm, out_o_beater_wingRe, out_o_past_cells, out_o_wave_halved, out_o_wave_im, out_o_wave_re)) : Met l yX9_beat (Cond.code yX9_beat cX9_beat 1 (some .int) :: BIG) ({ frames := 5, cells := 0, slots := 0, locals := 140 } : Room) (cP G (TY3 cI cJ cZ) [.ref h_o] sz (wX9_beat cI cJ cZ h_o h_o_beater h_o_past h_o_turns h_o_wave h_o_way h_o_beater_spareIm h_o_beater_spareRe h_o_beater_wingIm h_o_beater_wingRe h_o_past_cells h_o_turns_cos h_o_turns_sin h_o_wave_halved h_o_wave_im h_o_wave_re h_o_wave_wasIm h_o_wave_wasRe h_o_way_shifts h_o_notes h_o_ring h_o_reader h_o_dice h_o_trialWay h_o_trial h_o_otherTrial h_o_sumsRe h_o_sumsIm h_o_tally h_o_image h_o_tape o_imageKept o_taped o_past_next o_past_held o_wave_exp o_wave_done o_wave_backward o_way_size o_way_log o_way_wordBits o_way_limit o_way_radix o_way_order o_way_near o_way_seed o_way_stages o_beater_spareIm o_beater_spareRe o_beater_wingIm o_beater_wingRe o_past_cells o_turns_cos o_turns_sin o_wave_halved o_wave_im o_wave_re o_wave_wasIm o_wave_wasRe o_way_shifts)) (cQ G (TY3 cI cJ cZ) sz (wX9_beat cI cJ cZ h_o h_o_beater h_o_past h_o_turns h_o_wave h_o_way h_o_beater_spareIm h_o_beater_spareRe h_o_beater_wingIm h_o_beater_wingRe h_o_past_cells h_o_turns_cos h_o_turns_sin h_o_wave_halved h_o_wave_im h_o_wave_re h_o_wave_wasIm h_o_wave_wasRe h_o_way_shifts h_o_notes h_o_ring h_o_reader h_o_dice h_o_trialWay h_o_trial h_o_otherTrial h_o_sumsRe h_o_sumsIm h_o_tally h_o_image h_o_tape o_imageKept o_taped o_past_next o_past_held o_wave_exp o_wave_done o_wave_backward o_way_size o_way_log o_way_wordBits o_way_limit o_way_radix o_way_order o_way_near o_way_seed o_way_stages o_beater_spareIm o_beater_spareRe o_beater_wingIm o_beater_wingRe o_past_cells o_turns_cos o_turns_sin o_wave_halved o_wave_im o_wave_re o_wave_wasIm o_wave_wasRe o_way_shifts) (wX9_beat cI cJ cZ h_o h_o_beater h_o_past h_o_turns h_o_wave h_o_way h_o_beater_spareIm h_o_beater_spareRe h_o_beater_wingIm h_o_beater_wingRe h_o_past_cells h_o_turns_cos h_o_turns_sin h_o_wave_halved h_o_wave_im h_o_wave_re h_o_wave_wasIm h_o_wave_wasRe h_o_way_shifts h_o_notes h_o_ring h_o_reader h_o_dice h_o_trialWay h_o_trial h_o_otherTrial h_o_sumsRe h_o_sumsIm h_o_tally h_o_image h_o_tape o_imageKept o_taped out_o_past_next out_o_past_held out_o_wave_exp out_o_wave_done o_wave_backward o_way_size o_way_log o_way_wordBits o_way_limit o_way_radix o_way_order o_way_near o_way_seed o_way_stages out_o_beater_spareIm out_o_beater_spareRe out_o_beater_wingIm out_o_beater_wingRe out_o_past_cells o_turns_cos o_turns_sin out_o_wave_halved out_o_wave_im out_o_wave_re o_wave_wasIm o_wave_wasRe o_way_shifts) (some (.int r))) 0 0 (va_A (wX9_beat cI cJ cZ h_o h_o_beater h_o_past h_o_turns h_o_wave h_o_way h_o_beater_spareIm h_o_beater_spareRe h_o_beater_wingIm h_o_beater_wingRe h_o_past_cells h_o_turns_cos h_o_turns_sin h_o_wave_halved h_o_wave_im h_o_wave_re h_o_wave_wasIm h_o_wave_wasRe h_o_way_shifts h_o_notes h_o_ring h_o_reader h_o_dice h_o_trialWay h_o_trial h_o_otherTrial h_o_sumsRe h_o_sumsIm h_o_tally h_o_image h_o_tape o_imageKept o_taped o_past_next o_past_held o_wave_exp o_wave_done o_wave_backward o_way_size o_way_log o_way_wordBits o_way_limit o_way_radix o_way_order o_way_near o_way_seed o_way_stages o_beater_spareIm o_beater_spareRe o_beater_wingIm o_beater_wingRe o_past_cells o_turns_cos o_turns_sin o_wave_halved o_wave_im o_wave_re o_wave_wasIm o_wave_wasRe o_way_shifts) sz) := by
  refine met_i (cc := cX9_beat) (maxL := 1) (plainFor_of_name (by decide)) (Nat.le_of_ble_eq_true rfl) (fun p e s m below meth c A ls Q hx hb hml hts hown hK hP hD hS hA hl hret => ?_)
  have hown : s.vm.findClass RX9 = some m.cls := hown
  have hl : lv_has ls 1 [(0, .ref h_o)] := hl
  unfold fX9_beat at hf
  obtain ⟨H, eH⟩ : ∃ H, H = s.heap := ⟨_, rfl⟩
  obtain ⟨locs, elocs⟩ : ∃ z : List Loc, z = [] := ⟨_, rfl⟩
  have hP : va_P G vwCl (wX9_beat cI cJ cZ h_o h_o_beater h_o_past h_o_turns h_o_wave h_o_way h_o_beater_spareIm h_o_beater_spareRe h_o_beater_wingIm h_o_beater_wingRe h_o_past_cells h_o_turns_cos h_o_turns_sin h_o_wave_halved h_o_wave_im h_o_wave_re h_o_wave_wasIm h_o_wave_wasRe h_o_way_shifts h_o_notes h_o_ring h_o_reader h_o_dice h_o_trialWay h_o_trial h_o_otherTrial h_o_sumsRe h_o_sumsIm h_o_tally h_o_image h_o_tape o_imageKept o_taped o_past_next o_past_held o_wave_exp o_wave_done o_wave_backward o_way_size o_way_log o_way_wordBits o_way_limit o_way_radix o_way_order o_way_near o_way_seed o_way_stages o_beater_spareIm o_beater_spareRe o_beater_wingIm o_beater_wingRe o_past_cells o_turns_cos o_turns_sin o_wave_halved o_wave_im o_wave_re o_wave_wasIm o_wave_wasRe o_way_shifts) H := by rw [eH]; exact hP
  have hS : va_S A s.heap H locs := by rw [eH, elocs]; exact hS
  suffices hgo : W p l e ({ frames := 5, cells := 0, slots := 0, locals := 140 } : Room) s m ([.ref h_o] : List Value).toArray below meth c H locs 0 0 Q (F0 m 0 ls []) by rw [eH, elocs] at hgo; exact hgo
  clear eH elocs
  refine lv_aload_n hx hb dX9_beat_0 rfl (lv_at hl 0 rfl) ?_
  refine rd (ci := 9) (C := RX9) (T := TX9) (N := 19) hx hb hts inX9 hown hK hP 0 1 rfl rfl (by decide) (hts _ q_fX9_19) rfl dX9_beat_1 ?_
  refine rd (ci := 7) (C := RX7) (T := TX7) (N := 8) hx hb hts inX7 hown hK hP 4 6 rfl rfl (by decide) (hts _ q_fX9_206) rfl dX9_beat_4 ?_
  refine lv_aload_n hx hb dX9_beat_7 rfl (lv_at hl 0 rfl) ?_
  refine rd (ci := 9) (C := RX9) (T := TX9) (N := 19) hx hb hts inX9 hown hK hP 0 0 rfl rfl (by decide) (hts _ q_fX9_10) rfl dX9_beat_8 ?_
  refine rd (ci := 8) (C := RX8) (T := TX8) (N := 10) hx hb hts inX8 hown hK hP 5 8 rfl rfl (by decide) (hts _ q_fX9_196) rfl dX9_beat_11 ?_
  refine lv_icmp_lt (tgt := 20) hx hb dX9_beat_14 (by decide) (fun c_1 => ?_) (fun c_1 => ?_)
  · have hf := it_t c_1 hf
    refine lv_aload_n hx hb dX9_beat_20 rfl (lv_at hl 0 rfl) ?_
    refine rd (ci := 9) (C := RX9) (T := TX9) (N := 19) hx hb hts inX9 hown hK hP 0 2 rfl rfl (by decide) (hts _ q_fX9_26) rfl dX9_beat_21 ?_
    refine lv_aload_n hx hb dX9_beat_24 rfl (lv_at hl 0 rfl) ?_
    refine rd (ci := 9) (C := RX9) (T := TX9) (N := 19) hx hb hts inX9 hown hK hP 0 1 rfl rfl (by decide) (hts _ q_fX9_19) rfl dX9_beat_25 ?_
    obtain ⟨o_past_next_2, o_past_held_3, o_past_cells_4, e_5, hf⟩ := bd3_x hf
    refine call_v [.ref h_o_wave] [] ⟨hx, hb, hml, hown, hts⟩ hK hP hD hS hA hl.1 (tX3_remember l G cI cJ cZ H.size h_o_past h_o_wave h_o_wave_halved h_o_wave_im h_o_wave_re h_o_wave_wasIm h_o_wave_wasRe h_o_past_cells o_past_next o_past_held o_wave_exp o_wave_done o_wave_backward o_wave_halved o_wave_im o_wave_re o_wave_wasIm o_wave_wasRe o_past_cells o_past_next_2 o_past_held_3 o_past_cells_4 e_5) (cwV 1 hts (gv q_mX9_265 q_i_yX3_remember q_s_yX3_remember q_n_RX3 q_k_yX3_remember) rfl rfl rfl (by decide +kernel) ⟨by decide, by decide⟩) rfl rfl (Nat.le_of_ble_eq_true rfl) dX9_beat_28 ⟨Nat.zero_le _, Nat.zero_le _⟩ (ci := 3) rfl 0 rfl [2, 4, 13, 14, 15, 16, 17, 10] [0, 1, 3, 5, 6, 7, 8, 9, 11, 12, 18] [0, 1, 11, 2, 12, 3, 4, 5, 6, 7, 18, 8, 9, 13, 14, 15, 16, 17, 10] rfl rfl (ws2 := (wX9_beat cI cJ cZ h_o h_o_beater h_o_past h_o_turns h_o_wave h_o_way h_o_beater_spareIm h_o_beater_spareRe h_o_beater_wingIm h_o_beater_wingRe h_o_past_cells h_o_turns_cos h_o_turns_sin h_o_wave_halved h_o_wave_im h_o_wave_re h_o_wave_wasIm h_o_wave_wasRe h_o_way_shifts h_o_notes h_o_ring h_o_reader h_o_dice h_o_trialWay h_o_trial h_o_otherTrial h_o_sumsRe h_o_sumsIm h_o_tally h_o_image h_o_tape o_imageKept o_taped o_past_next_2 o_past_held_3 o_wave_exp o_wave_done o_wave_backward o_way_size o_way_log o_way_wordBits o_way_limit o_way_radix o_way_order o_way_near o_way_seed o_way_stages o_beater_spareIm o_beater_spareRe o_beater_wingIm o_beater_wingRe o_past_cells_4 o_turns_cos o_turns_sin o_wave_halved o_wave_im o_wave_re o_wave_wasIm o_wave_wasRe o_way_shifts)) rfl (fun H locs hP hD hS => ?_)
    refine W.eq (g2 := F0 m 31 ls []) rfl ?_
    refine lv_aload_n hx hb dX9_beat_31 rfl (lv_at hl 0 rfl) ?_
    refine rd (ci := 9) (C := RX9) (T := TX9) (N := 19) hx hb hts inX9 hown hK hP 0 6 rfl rfl (by decide) (hts _ q_fX9_56) rfl dX9_beat_32 ?_
    refine lv_aload_n hx hb dX9_beat_35 rfl (lv_at hl 0 rfl) ?_
    refine rd (ci := 9) (C := RX9) (T := TX9) (N := 19) hx hb hts inX9 hown hK hP 0 1 rfl rfl (by decide) (hts _ q_fX9_19) rfl dX9_beat_36 ?_
    refine lv_aload_n hx hb dX9_beat_39 rfl (lv_at hl 0 rfl) ?_
    refine rd (ci := 9) (C := RX9) (T := TX9) (N := 19) hx hb hts inX9 hown hK hP 0 0 rfl rfl (by decide) (hts _ q_fX9_10) rfl dX9_beat_40 ?_
    refine lv_iconst (v := (1 : Int32)) hx hb dX9_beat_43 (by decide) ?_
    obtain ⟨r_6, o_wave_exp_7, o_wave_done_8, o_wave_halved_9, o_wave_im_10, o_wave_re_11, o_beater_spareIm_12, o_beater_spareRe_13, o_beater_wingIm_14, o_beater_wingRe_15, e_16, hf⟩ := bd10_x hf
    refine call_v [.ref h_o_wave, .ref h_o_way, .int (1 : Int32)] [] ⟨hx, hb, hml, hown, hts⟩ hK hP hD hS hA hl.1 (tX0_doStage l G cI cJ cZ H.size h_o_beater h_o_wave h_o_way h_o_wave_halved h_o_wave_im h_o_wave_re h_o_way_shifts h_o_beater_spareIm h_o_beater_spareRe h_o_turns h_o_beater_wingIm h_o_beater_wingRe h_o_turns_cos h_o_turns_sin h_o_wave_wasRe h_o_wave_wasIm o_wave_exp o_wave_done o_wave_backward o_way_size o_way_log o_way_wordBits o_way_limit o_way_radix o_way_order o_way_near o_way_seed o_way_stages o_wave_halved o_wave_im o_wave_re o_way_shifts o_beater_spareIm o_beater_spareRe o_beater_wingIm o_beater_wingRe o_turns_cos o_turns_sin (1 : Int32) r_6 o_wave_exp_7 o_wave_done_8 o_wave_halved_9 o_wave_im_10 o_wave_re_11 o_beater_spareIm_12 o_beater_spareRe_13 o_beater_wingIm_14 o_beater_wingRe_15 e_16) (cwV 3 hts (gv q_mX9_278 q_i_yX0_doStage q_s_yX0_doStage q_n_RX0 q_k_yX0_doStage) rfl rfl rfl (by decide +kernel) ⟨by decide, by decide⟩) rfl rfl (Nat.le_of_ble_eq_true rfl) dX9_beat_44 ⟨Nat.zero_le _, Nat.zero_le _⟩ (ci := 0) rfl 0 rfl [1, 4, 5, 13, 14, 15, 18, 6, 7, 3, 8, 9, 11, 12] [0, 2, 10, 16, 17] [0, 5, 1, 14, 6, 7, 12, 13, 15, 16, 2, 17, 18, 8, 9, 10, 3, 4, 11] rfl rfl (ws2 := (wX9_beat cI cJ cZ h_o h_o_beater h_o_past h_o_turns h_o_wave h_o_way h_o_beater_spareIm h_o_beater_spareRe h_o_beater_wingIm h_o_beater_wingRe h_o_past_cells h_o_turns_cos h_o_turns_sin h_o_wave_halved h_o_wave_im h_o_wave_re h_o_wave_wasIm h_o_wave_wasRe h_o_way_shifts h_o_notes h_o_ring h_o_reader h_o_dice h_o_trialWay h_o_trial h_o_otherTrial h_o_sumsRe h_o_sumsIm h_o_tally h_o_image h_o_tape o_imageKept o_taped o_past_next_2 o_past_held_3 o_wave_exp_7 o_wave_done_8 o_wave_backward o_way_size o_way_log o_way_wordBits o_way_limit o_way_radix o_way_order o_way_near o_way_seed o_way_stages o_beater_spareIm_12 o_beater_spareRe_13 o_beater_wingIm_14 o_beater_wingRe_15 o_past_cells_4 o_turns_cos o_turns_sin o_wave_halved_9 o_wave_im_10 o_wave_re_11 o_wave_wasIm o_wave_wasRe o_way_shifts)) rfl (fun H locs hP hD hS => ?_)
    refine W.eq (g2 := F0 m 47 ls [.int r_6]) rfl ?_
    cases hf
    exact hret _ _ _ _ dX9_beat_47 hP hD hS
  · have hf := it_f c_1 hf
    refine lv_bipush (v := (-2 : Int32)) hx hb dX9_beat_17 (by decide) ?_
    cases hf
    exact hret _ _ _ _ dX9_beat_19 hP hD hS
def wX9_beatAll (cI cJ cZ : ClassId) (h_o h_o_beater h_o_past h_o_turns h_o_wave h_o_way h_o_beater_spareIm h_o_beater_spareRe h_o_beater_wingIm h_o_beater_wingRe h_o_turns_cos h_o_turns_sin h_o_wave_halved h_o_wave_im h_o_wave_re h_o_way_shifts h_o_notes h_o_ring h_o_reader h_o_dice h_o_trialWay h_o_trial h_o_otherTrial h_o_sumsRe h_o_sumsIm h_o_tally h_o_image h_o_tape h_o_past_cells h_o_wave_wasRe h_o_wave_wasIm : Nat) (o_imageKept : Int32) (o_taped : Int32) (o_past_next : Int32) (o_past_held : Int32) (o_wave_exp : Int32) (o_wave_done : Int32) (o_wave_backward : Int32) (o_way_size : Int32) (o_way_log : Int32) (o_way_wordBits : Int32) (o_way_limit : Int32) (o_way_radix : Int32) (o_way_order : Int32) (o_way_near : Int32) (o_way_seed : Int32) (o_way_stages : Int32) (o_beater_spareIm : Nat → Int32) (o_beater_spareRe : Nat → Int32) (o_beater_wingIm : Nat → Int32) (o_beater_wingRe : Nat → Int32) (o_turns_cos : Nat → Int32) (o_turns_sin : Nat → Int32) (o_wave_halved : Nat → Int32) (o_wave_im : Nat → Int32) (o_wave_re : Nat → Int32) (o_way_shifts : Nat → Int32) : va_W := [(h_o, .inr (9, [.ref h_o_way, .ref h_o_wave, .ref h_o_past, .ref h_o_notes, .ref h_o_ring, .ref h_o_turns, .ref h_o_beater, .ref h_o_reader, .ref h_o_dice, .ref h_o_trialWay, .ref h_o_trial, .ref h_o_otherTrial, .ref h_o_sumsRe, .ref h_o_sumsIm, .ref h_o_tally, .ref h_o_image, .int o_imageKept, .ref h_o_tape, .int o_taped])), (h_o_beater, .inr (0, [.ref h_o_turns, .ref h_o_beater_spareRe, .ref h_o_beater_spareIm, .ref h_o_beater_wingRe, .ref h_o_beater_wingIm])), (h_o_past, .inr (3, [.ref h_o_past_cells, .int o_past_next, .int o_past_held])), (h_o_turns, .inr (6, [.ref h_o_turns_cos, .ref h_o_turns_sin])), (h_o_wave, .inr (7, [.ref h_o_wave_re, .ref h_o_wave_im, .ref h_o_wave_wasRe, .ref h_o_wave_wasIm, .ref h_o_wave_halved, .int o_wave_exp, .int o_wave_done, .int o_wave_backward])), (h_o_way, .inr (8, [.int o_way_size, .int o_way_log, .int o_way_wordBits, .int o_way_limit, .int o_way_radix, .int o_way_order, .int o_way_near, .int o_way_seed, .int o_way_stages, .ref h_o_way_shifts])), (h_o_beater_spareIm, .inl (cI, 32, .inl o_beater_spareIm)), (h_o_beater_spareRe, .inl (cI, 32, .inl o_beater_spareRe)), (h_o_beater_wingIm, .inl (cI, 4, .inl o_beater_wingIm)), (h_o_beater_wingRe, .inl (cI, 4, .inl o_beater_wingRe)), (h_o_turns_cos, .inl (cI, 32, .inl o_turns_cos)), (h_o_turns_sin, .inl (cI, 32, .inl o_turns_sin)), (h_o_wave_halved, .inl (cI, 5, .inl o_wave_halved)), (h_o_wave_im, .inl (cI, 32, .inl o_wave_im)), (h_o_wave_re, .inl (cI, 32, .inl o_wave_re)), (h_o_way_shifts, .inl (cI, 5, .inl o_way_shifts))]
def fX9_beatAll (o_past_held : Int32) (o_wave_exp : Int32) (o_wave_done : Int32) (o_wave_backward : Int32) (o_way_size : Int32) (o_way_log : Int32) (o_way_limit : Int32) (o_way_order : Int32) (o_way_near : Int32) (o_way_stages : Int32) (o_beater_spareIm : Nat → Int32) (o_beater_spareRe : Nat → Int32) (o_beater_wingIm : Nat → Int32) (o_beater_wingRe : Nat → Int32) (o_turns_cos : Nat → Int32) (o_turns_sin : Nat → Int32) (o_wave_halved : Nat → Int32) (o_wave_im : Nat → Int32) (o_wave_re : Nat → Int32) (o_way_shifts : Nat → Int32) : Option (Int32 × Int32 × Int32 × Int32 × (Nat → Int32) × (Nat → Int32) × (Nat → Int32) × (Nat → Int32) × (Nat → Int32) × (Nat → Int32) × (Nat → Int32)) :=
  bd10 (fX0_doStages o_wave_exp o_wave_done o_wave_backward o_way_size o_way_log o_way_limit o_way_order o_way_near o_way_stages o_wave_halved o_wave_im o_wave_re o_way_shifts o_beater_spareIm o_beater_spareRe o_beater_wingIm o_beater_wingRe o_turns_cos o_turns_sin (5 : Int32) (1 : Int32)) (fun r_1 o_wave_exp_2 o_wave_done_3 o_wave_halved_4 o_wave_im_5 o_wave_re_6 o_beater_spareIm_7 o_beater_spareRe_8 o_beater_wingIm_9 o_beater_wingRe_10 =>
  bd1 (fX3_forgetAll o_past_held) (fun o_past_held_12 =>
  some (o_wave_exp_2, o_past_held_12, o_wave_exp_2, o_wave_done_3, o_beater_spareIm_7, o_beater_spareRe_8, o_beater_wingIm_9, o_beater_wingRe_10, o_wave_halved_4, o_wave_im_5, o_wave_re_6)))
set_option maxHeartbeats 4000000 in
set_option maxRecDepth 100000 in
theorem tX9_beatAll (l : Launch) (G : va_G) (cI cJ cZ : ClassId) (sz : Nat) (h_o h_o_beater h_o_past h_o_turns h_o_wave h_o_way h_o_beater_spareIm h_o_beater_spareRe h_o_beater_wingIm h_o_beater_wingRe h_o_turns_cos h_o_turns_sin h_o_wave_halved h_o_wave_im h_o_wave_re h_o_way_shifts h_o_notes h_o_ring h_o_reader h_o_dice h_o_trialWay h_o_trial h_o_otherTrial h_o_sumsRe h_o_sumsIm h_o_tally h_o_image h_o_tape h_o_past_cells h_o_wave_wasRe h_o_wave_wasIm : Nat) (o_imageKept : Int32) (o_taped : Int32) (o_past_next : Int32) (o_past_held : Int32) (o_wave_exp : Int32) (o_wave_done : Int32) (o_wave_backward : Int32) (o_way_size : Int32) (o_way_log : Int32) (o_way_wordBits : Int32) (o_way_limit : Int32) (o_way_radix : Int32) (o_way_order : Int32) (o_way_near : Int32) (o_way_seed : Int32) (o_way_stages : Int32) (o_beater_spareIm : Nat → Int32) (o_beater_spareRe : Nat → Int32) (o_beater_wingIm : Nat → Int32) (o_beater_wingRe : Nat → Int32) (o_turns_cos : Nat → Int32) (o_turns_sin : Nat → Int32) (o_wave_halved : Nat → Int32) (o_wave_im : Nat → Int32) (o_wave_re : Nat → Int32) (o_way_shifts : Nat → Int32) (r : Int32) (out_o_past_held : Int32) (out_o_wave_exp : Int32) (out_o_wave_done : Int32) (out_o_beater_spareIm : Nat → Int32) (out_o_beater_spareRe : Nat → Int32) (out_o_beater_wingIm : Nat → Int32) (out_o_beater_wingRe : Nat → Int32) (out_o_wave_halved : Nat → Int32) (out_o_wave_im : Nat → Int32) (out_o_wave_re : Nat → Int32) (hf : fX9_beatAll o_past_held o_wave_exp o_wave_done o_wave_backward o_way_size o_way_log o_way_limit o_way_order o_way_near o_way_stages o_beater_spareIm o_beater_spareRe o_beater_wingIm o_beater_wingRe o_turns_cos o_turns_sin o_wave_halved o_wave_im o_wave_re o_way_shifts = some (r, out_o_past_held, out_o_wave_exp, out_o_wave_done, out_o_beater_spareIm, out_o_beater_spareRe, out_o_beater_wingIm, out_o_beater_wingRe, out_o_wave_halved, out_o_wave_im, out_o_wave_re)) : Met l yX9_beatAll (Cond.code yX9_beatAll cX9_beatAll 1 (some .int) :: BIG) ({ frames := 6, cells := 0, slots := 0, locals := 166 } : Room) (cP G (TY3 cI cJ cZ) [.ref h_o] sz (wX9_beatAll cI cJ cZ h_o h_o_beater h_o_past h_o_turns h_o_wave h_o_way h_o_beater_spareIm h_o_beater_spareRe h_o_beater_wingIm h_o_beater_wingRe h_o_turns_cos h_o_turns_sin h_o_wave_halved h_o_wave_im h_o_wave_re h_o_way_shifts h_o_notes h_o_ring h_o_reader h_o_dice h_o_trialWay h_o_trial h_o_otherTrial h_o_sumsRe h_o_sumsIm h_o_tally h_o_image h_o_tape h_o_past_cells h_o_wave_wasRe h_o_wave_wasIm o_imageKept o_taped o_past_next o_past_held o_wave_exp o_wave_done o_wave_backward o_way_size o_way_log o_way_wordBits o_way_limit o_way_radix o_way_order o_way_near o_way_seed o_way_stages o_beater_spareIm o_beater_spareRe o_beater_wingIm o_beater_wingRe o_turns_cos o_turns_sin o_wave_halved o_wave_im o_wave_re o_way_shifts)) (cQ G (TY3 cI cJ cZ) sz (wX9_beatAll cI cJ cZ h_o h_o_beater h_o_past h_o_turns h_o_wave h_o_way h_o_beater_spareIm h_o_beater_spareRe h_o_beater_wingIm h_o_beater_wingRe h_o_turns_cos h_o_turns_sin h_o_wave_halved h_o_wave_im h_o_wave_re h_o_way_shifts h_o_notes h_o_ring h_o_reader h_o_dice h_o_trialWay h_o_trial h_o_otherTrial h_o_sumsRe h_o_sumsIm h_o_tally h_o_image h_o_tape h_o_past_cells h_o_wave_wasRe h_o_wave_wasIm o_imageKept o_taped o_past_next o_past_held o_wave_exp o_wave_done o_wave_backward o_way_size o_way_log o_way_wordBits o_way_limit o_way_radix o_way_order o_way_near o_way_seed o_way_stages o_beater_spareIm o_beater_spareRe o_beater_wingIm o_beater_wingRe o_turns_cos o_turns_sin o_wave_halved o_wave_im o_wave_re o_way_shifts) (wX9_beatAll cI cJ cZ h_o h_o_beater h_o_past h_o_turns h_o_wave h_o_way h_o_beater_spareIm h_o_beater_spareRe h_o_beater_wingIm h_o_beater_wingRe h_o_turns_cos h_o_turns_sin h_o_wave_halved h_o_wave_im h_o_wave_re h_o_way_shifts h_o_notes h_o_ring h_o_reader h_o_dice h_o_trialWay h_o_trial h_o_otherTrial h_o_sumsRe h_o_sumsIm h_o_tally h_o_image h_o_tape h_o_past_cells h_o_wave_wasRe h_o_wave_wasIm o_imageKept o_taped o_past_next out_o_past_held out_o_wave_exp out_o_wave_done o_wave_backward o_way_size o_way_log o_way_wordBits o_way_limit o_way_radix o_way_order o_way_near o_way_seed o_way_stages out_o_beater_spareIm out_o_beater_spareRe out_o_beater_wingIm out_o_beater_wingRe o_turns_cos o_turns_sin out_o_wave_halved out_o_wave_im out_o_wave_re o_way_shifts) (some (.int r))) 0 0 (va_A (wX9_beatAll cI cJ cZ h_o h_o_beater h_o_past h_o_turns h_o_wave h_o_way h_o_beater_spareIm h_o_beater_spareRe h_o_beater_wingIm h_o_beater_wingRe h_o_turns_cos h_o_turns_sin h_o_wave_halved h_o_wave_im h_o_wave_re h_o_way_shifts h_o_notes h_o_ring h_o_reader h_o_dice h_o_trialWay h_o_trial h_o_otherTrial h_o_sumsRe h_o_sumsIm h_o_tally h_o_image h_o_tape h_o_past_cells h_o_wave_wasRe h_o_wave_wasIm o_imageKept o_taped o_past_next o_past_held o_wave_exp o_wave_done o_wave_backward o_way_size o_way_log o_way_wordBits o_way_limit o_way_radix o_way_order o_way_near o_way_seed o_way_stages o_beater_spareIm o_beater_spareRe o_beater_wingIm o_beater_wingRe o_turns_cos o_turns_sin o_wave_halved o_wave_im o_wave_re o_way_shifts) sz) := by
  refine met_i (cc := cX9_beatAll) (maxL := 1) (plainFor_of_name (by decide)) (Nat.le_of_ble_eq_true rfl) (fun p e s m below meth c A ls Q hx hb hml hts hown hK hP hD hS hA hl hret => ?_)
  have hown : s.vm.findClass RX9 = some m.cls := hown
  have hl : lv_has ls 1 [(0, .ref h_o)] := hl
  unfold fX9_beatAll at hf
  obtain ⟨H, eH⟩ : ∃ H, H = s.heap := ⟨_, rfl⟩
  obtain ⟨locs, elocs⟩ : ∃ z : List Loc, z = [] := ⟨_, rfl⟩
  have hP : va_P G vwCl (wX9_beatAll cI cJ cZ h_o h_o_beater h_o_past h_o_turns h_o_wave h_o_way h_o_beater_spareIm h_o_beater_spareRe h_o_beater_wingIm h_o_beater_wingRe h_o_turns_cos h_o_turns_sin h_o_wave_halved h_o_wave_im h_o_wave_re h_o_way_shifts h_o_notes h_o_ring h_o_reader h_o_dice h_o_trialWay h_o_trial h_o_otherTrial h_o_sumsRe h_o_sumsIm h_o_tally h_o_image h_o_tape h_o_past_cells h_o_wave_wasRe h_o_wave_wasIm o_imageKept o_taped o_past_next o_past_held o_wave_exp o_wave_done o_wave_backward o_way_size o_way_log o_way_wordBits o_way_limit o_way_radix o_way_order o_way_near o_way_seed o_way_stages o_beater_spareIm o_beater_spareRe o_beater_wingIm o_beater_wingRe o_turns_cos o_turns_sin o_wave_halved o_wave_im o_wave_re o_way_shifts) H := by rw [eH]; exact hP
  have hS : va_S A s.heap H locs := by rw [eH, elocs]; exact hS
  suffices hgo : W p l e ({ frames := 6, cells := 0, slots := 0, locals := 166 } : Room) s m ([.ref h_o] : List Value).toArray below meth c H locs 0 0 Q (F0 m 0 ls []) by rw [eH, elocs] at hgo; exact hgo
  clear eH elocs
  refine lv_aload_n hx hb dX9_beatAll_0 rfl (lv_at hl 0 rfl) ?_
  refine rd (ci := 9) (C := RX9) (T := TX9) (N := 19) hx hb hts inX9 hown hK hP 0 6 rfl rfl (by decide) (hts _ q_fX9_56) rfl dX9_beatAll_1 ?_
  refine lv_aload_n hx hb dX9_beatAll_4 rfl (lv_at hl 0 rfl) ?_
  refine rd (ci := 9) (C := RX9) (T := TX9) (N := 19) hx hb hts inX9 hown hK hP 0 1 rfl rfl (by decide) (hts _ q_fX9_19) rfl dX9_beatAll_5 ?_
  refine lv_aload_n hx hb dX9_beatAll_8 rfl (lv_at hl 0 rfl) ?_
  refine rd (ci := 9) (C := RX9) (T := TX9) (N := 19) hx hb hts inX9 hown hK hP 0 0 rfl rfl (by decide) (hts _ q_fX9_10) rfl dX9_beatAll_9 ?_
  refine lv_iconst (v := (5 : Int32)) hx hb dX9_beatAll_12 (by decide) ?_
  refine lv_iconst (v := (1 : Int32)) hx hb dX9_beatAll_13 (by decide) ?_
  obtain ⟨r_1, o_wave_exp_2, o_wave_done_3, o_wave_halved_4, o_wave_im_5, o_wave_re_6, o_beater_spareIm_7, o_beater_spareRe_8, o_beater_wingIm_9, o_beater_wingRe_10, e_11, hf⟩ := bd10_x hf
  refine call_v [.ref h_o_wave, .ref h_o_way, .int (5 : Int32), .int (1 : Int32)] [] ⟨hx, hb, hml, hown, hts⟩ hK hP hD hS hA hl.1 (tX0_doStages l G cI cJ cZ H.size h_o_beater h_o_wave h_o_way h_o_wave_halved h_o_wave_im h_o_wave_re h_o_way_shifts h_o_beater_spareIm h_o_beater_spareRe h_o_turns h_o_beater_wingIm h_o_beater_wingRe h_o_turns_cos h_o_turns_sin h_o_wave_wasRe h_o_wave_wasIm o_wave_exp o_wave_done o_wave_backward o_way_size o_way_log o_way_wordBits o_way_limit o_way_radix o_way_order o_way_near o_way_seed o_way_stages o_wave_halved o_wave_im o_wave_re o_way_shifts o_beater_spareIm o_beater_spareRe o_beater_wingIm o_beater_wingRe o_turns_cos o_turns_sin (5 : Int32) (1 : Int32) r_1 o_wave_exp_2 o_wave_done_3 o_wave_halved_4 o_wave_im_5 o_wave_re_6 o_beater_spareIm_7 o_beater_spareRe_8 o_beater_wingIm_9 o_beater_wingRe_10 e_11) (cwV 4 hts (gv q_mX9_282 q_i_yX0_doStages q_s_yX0_doStages q_n_RX0 q_k_yX0_doStages) rfl rfl rfl (by decide +kernel) ⟨by decide, by decide⟩) rfl rfl (Nat.le_of_ble_eq_true rfl) dX9_beatAll_14 ⟨Nat.zero_le _, Nat.zero_le _⟩ (ci := 0) rfl 0 rfl [1, 4, 5, 12, 13, 14, 15, 6, 7, 3, 8, 9, 10, 11] [0, 2] [0, 2, 1, 11, 3, 4, 9, 10, 12, 13, 14, 15, 5, 6, 7, 8] rfl rfl (ws2 := (wX9_beatAll cI cJ cZ h_o h_o_beater h_o_past h_o_turns h_o_wave h_o_way h_o_beater_spareIm h_o_beater_spareRe h_o_beater_wingIm h_o_beater_wingRe h_o_turns_cos h_o_turns_sin h_o_wave_halved h_o_wave_im h_o_wave_re h_o_way_shifts h_o_notes h_o_ring h_o_reader h_o_dice h_o_trialWay h_o_trial h_o_otherTrial h_o_sumsRe h_o_sumsIm h_o_tally h_o_image h_o_tape h_o_past_cells h_o_wave_wasRe h_o_wave_wasIm o_imageKept o_taped o_past_next o_past_held o_wave_exp_2 o_wave_done_3 o_wave_backward o_way_size o_way_log o_way_wordBits o_way_limit o_way_radix o_way_order o_way_near o_way_seed o_way_stages o_beater_spareIm_7 o_beater_spareRe_8 o_beater_wingIm_9 o_beater_wingRe_10 o_turns_cos o_turns_sin o_wave_halved_4 o_wave_im_5 o_wave_re_6 o_way_shifts)) rfl (fun H locs hP hD hS => ?_)
  refine W.eq (g2 := F0 m 17 ls [.int r_1]) rfl ?_
  refine lv_pop hx hb dX9_beatAll_17 rfl ?_
  refine lv_aload_n hx hb dX9_beatAll_18 rfl (lv_at hl 0 rfl) ?_
  refine rd (ci := 9) (C := RX9) (T := TX9) (N := 19) hx hb hts inX9 hown hK hP 0 2 rfl rfl (by decide) (hts _ q_fX9_26) rfl dX9_beatAll_19 ?_
  obtain ⟨o_past_held_12, e_13, hf⟩ := bd1_x hf
  refine call_v [] [] ⟨hx, hb, hml, hown, hts⟩ hK hP hD hS hA hl.1 (tX3_forgetAll l G cI cJ cZ H.size h_o_past h_o_past_cells o_past_next o_past_held o_past_held_12 e_13) (cwV 0 hts (gv q_mX9_152 q_i_yX3_forgetAll q_s_yX3_forgetAll q_n_RX3 q_k_yX3_forgetAll) rfl rfl rfl (by decide +kernel) ⟨by decide, by decide⟩) rfl rfl (Nat.le_of_ble_eq_true rfl) dX9_beatAll_22 ⟨Nat.zero_le _, Nat.zero_le _⟩ (ci := 3) rfl 0 rfl [2] [0, 1, 3, 4, 5, 6, 7, 8, 9, 10, 11, 12, 13, 14, 15] [0, 1, 15, 2, 3, 4, 5, 6, 7, 8, 9, 10, 11, 12, 13, 14] rfl rfl (ws2 := (wX9_beatAll cI cJ cZ h_o h_o_beater h_o_past h_o_turns h_o_wave h_o_way h_o_beater_spareIm h_o_beater_spareRe h_o_beater_wingIm h_o_beater_wingRe h_o_turns_cos h_o_turns_sin h_o_wave_halved h_o_wave_im h_o_wave_re h_o_way_shifts h_o_notes h_o_ring h_o_reader h_o_dice h_o_trialWay h_o_trial h_o_otherTrial h_o_sumsRe h_o_sumsIm h_o_tally h_o_image h_o_tape h_o_past_cells h_o_wave_wasRe h_o_wave_wasIm o_imageKept o_taped o_past_next o_past_held_12 o_wave_exp_2 o_wave_done_3 o_wave_backward o_way_size o_way_log o_way_wordBits o_way_limit o_way_radix o_way_order o_way_near o_way_seed o_way_stages o_beater_spareIm_7 o_beater_spareRe_8 o_beater_wingIm_9 o_beater_wingRe_10 o_turns_cos o_turns_sin o_wave_halved_4 o_wave_im_5 o_wave_re_6 o_way_shifts)) rfl (fun H locs hP hD hS => ?_)
  refine W.eq (g2 := F0 m 25 ls []) rfl ?_
  refine lv_aload_n hx hb dX9_beatAll_25 rfl (lv_at hl 0 rfl) ?_
  refine rd (ci := 9) (C := RX9) (T := TX9) (N := 19) hx hb hts inX9 hown hK hP 0 1 rfl rfl (by decide) (hts _ q_fX9_19) rfl dX9_beatAll_26 ?_
  refine rd (ci := 7) (C := RX7) (T := TX7) (N := 8) hx hb hts inX7 hown hK hP 4 5 rfl rfl (by decide) (hts _ q_fX9_244) rfl dX9_beatAll_29 ?_
  cases hf
  exact hret _ _ _ _ dX9_beatAll_32 hP hD hS
def wX9_turnBack (cI cJ cZ : ClassId) (h_o h_o_past h_o_wave h_o_way h_o_past_cells h_o_wave_halved h_o_wave_im h_o_wave_re h_o_wave_wasIm h_o_wave_wasRe h_o_notes h_o_ring h_o_turns h_o_beater h_o_reader h_o_dice h_o_trialWay h_o_trial h_o_otherTrial h_o_sumsRe h_o_sumsIm h_o_tally h_o_image h_o_tape h_o_way_shifts : Nat) (o_imageKept : Int32) (o_taped : Int32) (o_past_next : Int32) (o_past_held : Int32) (o_wave_exp : Int32) (o_wave_done : Int32) (o_wave_backward : Int32) (o_way_size : Int32) (o_way_log : Int32) (o_way_wordBits : Int32) (o_way_limit : Int32) (o_way_radix : Int32) (o_way_order : Int32) (o_way_near : Int32) (o_way_seed : Int32) (o_way_stages : Int32) (o_past_cells : Nat → Int32) (o_wave_halved : Nat → Int32) (o_wave_im : Nat → Int32) (o_wave_re : Nat → Int32) (o_wave_wasIm : Nat → Int32) (o_wave_wasRe : Nat → Int32) : va_W := [(h_o, .inr (9, [.ref h_o_way, .ref h_o_wave, .ref h_o_past, .ref h_o_notes, .ref h_o_ring, .ref h_o_turns, .ref h_o_beater, .ref h_o_reader, .ref h_o_dice, .ref h_o_trialWay, .ref h_o_trial, .ref h_o_otherTrial, .ref h_o_sumsRe, .ref h_o_sumsIm, .ref h_o_tally, .ref h_o_image, .int o_imageKept, .ref h_o_tape, .int o_taped])), (h_o_past, .inr (3, [.ref h_o_past_cells, .int o_past_next, .int o_past_held])), (h_o_wave, .inr (7, [.ref h_o_wave_re, .ref h_o_wave_im, .ref h_o_wave_wasRe, .ref h_o_wave_wasIm, .ref h_o_wave_halved, .int o_wave_exp, .int o_wave_done, .int o_wave_backward])), (h_o_way, .inr (8, [.int o_way_size, .int o_way_log, .int o_way_wordBits, .int o_way_limit, .int o_way_radix, .int o_way_order, .int o_way_near, .int o_way_seed, .int o_way_stages, .ref h_o_way_shifts])), (h_o_past_cells, .inl (cI, 2720, .inl o_past_cells)), (h_o_wave_halved, .inl (cI, 5, .inl o_wave_halved)), (h_o_wave_im, .inl (cI, 32, .inl o_wave_im)), (h_o_wave_re, .inl (cI, 32, .inl o_wave_re)), (h_o_wave_wasIm, .inl (cI, 32, .inl o_wave_wasIm)), (h_o_wave_wasRe, .inl (cI, 32, .inl o_wave_wasRe))]
def fX9_turnBack (o_past_next : Int32) (o_past_held : Int32) (o_wave_exp : Int32) (o_wave_done : Int32) (o_wave_backward : Int32) (o_way_size : Int32) (o_way_stages : Int32) (o_past_cells : Nat → Int32) (o_wave_halved : Nat → Int32) (o_wave_im : Nat → Int32) (o_wave_re : Nat → Int32) (o_wave_wasIm : Nat → Int32) (o_wave_wasRe : Nat → Int32) : Option (Int32 × Int32 × Int32 × Int32 × Int32 × (Nat → Int32) × (Nat → Int32)) :=
  bd1 (fX9_isDoneForward o_wave_done o_wave_backward o_way_stages) (fun r_1 =>
  if r_1 = 0 then (
    some ((0 : Int32), o_past_next, o_past_held, o_wave_done, o_wave_backward, o_past_cells, o_wave_im)
  ) else (
    bd3 (fX3_remember o_past_next o_past_held o_wave_exp o_wave_done o_wave_backward o_wave_halved o_wave_im o_wave_re o_wave_wasIm o_wave_wasRe o_past_cells) (fun o_past_next_4 o_past_held_5 o_past_cells_6 =>
    bd3 (fX7_goBack o_wave_done o_wave_backward o_wave_im o_way_size) (fun o_wave_done_8 o_wave_backward_9 o_wave_im_10 =>
    some ((1 : Int32), o_past_next_4, o_past_held_5, o_wave_done_8, o_wave_backward_9, o_past_cells_6, o_wave_im_10)))
  ))
set_option maxHeartbeats 4000000 in
set_option maxRecDepth 100000 in
theorem tX9_turnBack (l : Launch) (G : va_G) (cI cJ cZ : ClassId) (sz : Nat) (h_o h_o_past h_o_wave h_o_way h_o_past_cells h_o_wave_halved h_o_wave_im h_o_wave_re h_o_wave_wasIm h_o_wave_wasRe h_o_notes h_o_ring h_o_turns h_o_beater h_o_reader h_o_dice h_o_trialWay h_o_trial h_o_otherTrial h_o_sumsRe h_o_sumsIm h_o_tally h_o_image h_o_tape h_o_way_shifts : Nat) (o_imageKept : Int32) (o_taped : Int32) (o_past_next : Int32) (o_past_held : Int32) (o_wave_exp : Int32) (o_wave_done : Int32) (o_wave_backward : Int32) (o_way_size : Int32) (o_way_log : Int32) (o_way_wordBits : Int32) (o_way_limit : Int32) (o_way_radix : Int32) (o_way_order : Int32) (o_way_near : Int32) (o_way_seed : Int32) (o_way_stages : Int32) (o_past_cells : Nat → Int32) (o_wave_halved : Nat → Int32) (o_wave_im : Nat → Int32) (o_wave_re : Nat → Int32) (o_wave_wasIm : Nat → Int32) (o_wave_wasRe : Nat → Int32) (r : Int32) (out_o_past_next : Int32) (out_o_past_held : Int32) (out_o_wave_done : Int32) (out_o_wave_backward : Int32) (out_o_past_cells : Nat → Int32) (out_o_wave_im : Nat → Int32) (hf : fX9_turnBack o_past_next o_past_held o_wave_exp o_wave_done o_wave_backward o_way_size o_way_stages o_past_cells o_wave_halved o_wave_im o_wave_re o_wave_wasIm o_wave_wasRe = some (r, out_o_past_next, out_o_past_held, out_o_wave_done, out_o_wave_backward, out_o_past_cells, out_o_wave_im)) : Met l yX9_turnBack (Cond.code yX9_turnBack cX9_turnBack 1 (some .boolean) :: BIG) ({ frames := 3, cells := 0, slots := 0, locals := 62 } : Room) (cP G (TY3 cI cJ cZ) [.ref h_o] sz (wX9_turnBack cI cJ cZ h_o h_o_past h_o_wave h_o_way h_o_past_cells h_o_wave_halved h_o_wave_im h_o_wave_re h_o_wave_wasIm h_o_wave_wasRe h_o_notes h_o_ring h_o_turns h_o_beater h_o_reader h_o_dice h_o_trialWay h_o_trial h_o_otherTrial h_o_sumsRe h_o_sumsIm h_o_tally h_o_image h_o_tape h_o_way_shifts o_imageKept o_taped o_past_next o_past_held o_wave_exp o_wave_done o_wave_backward o_way_size o_way_log o_way_wordBits o_way_limit o_way_radix o_way_order o_way_near o_way_seed o_way_stages o_past_cells o_wave_halved o_wave_im o_wave_re o_wave_wasIm o_wave_wasRe)) (cQ G (TY3 cI cJ cZ) sz (wX9_turnBack cI cJ cZ h_o h_o_past h_o_wave h_o_way h_o_past_cells h_o_wave_halved h_o_wave_im h_o_wave_re h_o_wave_wasIm h_o_wave_wasRe h_o_notes h_o_ring h_o_turns h_o_beater h_o_reader h_o_dice h_o_trialWay h_o_trial h_o_otherTrial h_o_sumsRe h_o_sumsIm h_o_tally h_o_image h_o_tape h_o_way_shifts o_imageKept o_taped o_past_next o_past_held o_wave_exp o_wave_done o_wave_backward o_way_size o_way_log o_way_wordBits o_way_limit o_way_radix o_way_order o_way_near o_way_seed o_way_stages o_past_cells o_wave_halved o_wave_im o_wave_re o_wave_wasIm o_wave_wasRe) (wX9_turnBack cI cJ cZ h_o h_o_past h_o_wave h_o_way h_o_past_cells h_o_wave_halved h_o_wave_im h_o_wave_re h_o_wave_wasIm h_o_wave_wasRe h_o_notes h_o_ring h_o_turns h_o_beater h_o_reader h_o_dice h_o_trialWay h_o_trial h_o_otherTrial h_o_sumsRe h_o_sumsIm h_o_tally h_o_image h_o_tape h_o_way_shifts o_imageKept o_taped out_o_past_next out_o_past_held o_wave_exp out_o_wave_done out_o_wave_backward o_way_size o_way_log o_way_wordBits o_way_limit o_way_radix o_way_order o_way_near o_way_seed o_way_stages out_o_past_cells o_wave_halved out_o_wave_im o_wave_re o_wave_wasIm o_wave_wasRe) (some (.int r))) 0 0 (va_A (wX9_turnBack cI cJ cZ h_o h_o_past h_o_wave h_o_way h_o_past_cells h_o_wave_halved h_o_wave_im h_o_wave_re h_o_wave_wasIm h_o_wave_wasRe h_o_notes h_o_ring h_o_turns h_o_beater h_o_reader h_o_dice h_o_trialWay h_o_trial h_o_otherTrial h_o_sumsRe h_o_sumsIm h_o_tally h_o_image h_o_tape h_o_way_shifts o_imageKept o_taped o_past_next o_past_held o_wave_exp o_wave_done o_wave_backward o_way_size o_way_log o_way_wordBits o_way_limit o_way_radix o_way_order o_way_near o_way_seed o_way_stages o_past_cells o_wave_halved o_wave_im o_wave_re o_wave_wasIm o_wave_wasRe) sz) := by
  refine met_z (cc := cX9_turnBack) (maxL := 1) (plainFor_of_name (by decide)) (Nat.le_of_ble_eq_true rfl) (fun p e s m below meth c A ls Q hx hb hml hts hown hK hP hD hS hA hl hret => ?_)
  have hown : s.vm.findClass RX9 = some m.cls := hown
  have hl : lv_has ls 1 [(0, .ref h_o)] := hl
  unfold fX9_turnBack at hf
  obtain ⟨H, eH⟩ : ∃ H, H = s.heap := ⟨_, rfl⟩
  obtain ⟨locs, elocs⟩ : ∃ z : List Loc, z = [] := ⟨_, rfl⟩
  have hP : va_P G vwCl (wX9_turnBack cI cJ cZ h_o h_o_past h_o_wave h_o_way h_o_past_cells h_o_wave_halved h_o_wave_im h_o_wave_re h_o_wave_wasIm h_o_wave_wasRe h_o_notes h_o_ring h_o_turns h_o_beater h_o_reader h_o_dice h_o_trialWay h_o_trial h_o_otherTrial h_o_sumsRe h_o_sumsIm h_o_tally h_o_image h_o_tape h_o_way_shifts o_imageKept o_taped o_past_next o_past_held o_wave_exp o_wave_done o_wave_backward o_way_size o_way_log o_way_wordBits o_way_limit o_way_radix o_way_order o_way_near o_way_seed o_way_stages o_past_cells o_wave_halved o_wave_im o_wave_re o_wave_wasIm o_wave_wasRe) H := by rw [eH]; exact hP
  have hS : va_S A s.heap H locs := by rw [eH, elocs]; exact hS
  suffices hgo : W p l e ({ frames := 3, cells := 0, slots := 0, locals := 62 } : Room) s m ([.ref h_o] : List Value).toArray below meth c H locs 0 0 Q (F0 m 0 ls []) by rw [eH, elocs] at hgo; exact hgo
  clear eH elocs
  refine lv_aload_n hx hb dX9_turnBack_0 rfl (lv_at hl 0 rfl) ?_
  obtain ⟨r_1, e_2, hf⟩ := bd1_x hf
  refine call_v [] [] ⟨hx, hb, hml, hown, hts⟩ hK hP hD hS hA hl.1 (tX9_isDoneForward l G cI cJ cZ H.size h_o h_o_wave h_o_way h_o_past h_o_notes h_o_ring h_o_turns h_o_beater h_o_reader h_o_dice h_o_trialWay h_o_trial h_o_otherTrial h_o_sumsRe h_o_sumsIm h_o_tally h_o_image h_o_tape h_o_wave_re h_o_wave_im h_o_wave_wasRe h_o_wave_wasIm h_o_wave_halved h_o_way_shifts o_imageKept o_taped o_wave_exp o_wave_done o_wave_backward o_way_size o_way_log o_way_wordBits o_way_limit o_way_radix o_way_order o_way_near o_way_seed o_way_stages r_1 e_2) (cwV 0 hts (gv q_mX9_286 q_i_yX9_isDoneForward q_s_yX9_isDoneForward q_n_RX9 q_k_yX9_isDoneForward) rfl rfl rfl (by decide +kernel) ⟨by decide, by decide⟩) rfl rfl (Nat.le_of_ble_eq_true rfl) dX9_turnBack_1 ⟨Nat.zero_le _, Nat.zero_le _⟩ (ci := 9) rfl 0 rfl [0, 2, 3] [1, 4, 5, 6, 7, 8, 9] [7, 0, 8, 9, 1, 2, 3, 4, 5, 6] rfl rfl (ws2 := (wX9_turnBack cI cJ cZ h_o h_o_past h_o_wave h_o_way h_o_past_cells h_o_wave_halved h_o_wave_im h_o_wave_re h_o_wave_wasIm h_o_wave_wasRe h_o_notes h_o_ring h_o_turns h_o_beater h_o_reader h_o_dice h_o_trialWay h_o_trial h_o_otherTrial h_o_sumsRe h_o_sumsIm h_o_tally h_o_image h_o_tape h_o_way_shifts o_imageKept o_taped o_past_next o_past_held o_wave_exp o_wave_done o_wave_backward o_way_size o_way_log o_way_wordBits o_way_limit o_way_radix o_way_order o_way_near o_way_seed o_way_stages o_past_cells o_wave_halved o_wave_im o_wave_re o_wave_wasIm o_wave_wasRe)) rfl (fun H locs hP hD hS => ?_)
  refine W.eq (g2 := F0 m 4 ls [.int r_1]) rfl ?_
  refine lv_if_ne (tgt := 9) hx hb dX9_turnBack_4 (by decide) (fun c_3 => ?_) (fun c_3 => ?_)
  · have hf := it_f c_3 hf
    refine lv_aload_n hx hb dX9_turnBack_9 rfl (lv_at hl 0 rfl) ?_
    refine rd (ci := 9) (C := RX9) (T := TX9) (N := 19) hx hb hts inX9 hown hK hP 0 2 rfl rfl (by decide) (hts _ q_fX9_26) rfl dX9_turnBack_10 ?_
    refine lv_aload_n hx hb dX9_turnBack_13 rfl (lv_at hl 0 rfl) ?_
    refine rd (ci := 9) (C := RX9) (T := TX9) (N := 19) hx hb hts inX9 hown hK hP 0 1 rfl rfl (by decide) (hts _ q_fX9_19) rfl dX9_turnBack_14 ?_
    obtain ⟨o_past_next_4, o_past_held_5, o_past_cells_6, e_7, hf⟩ := bd3_x hf
    refine call_v [.ref h_o_wave] [] ⟨hx, hb, hml, hown, hts⟩ hK hP hD hS hA hl.1 (tX3_remember l G cI cJ cZ H.size h_o_past h_o_wave h_o_wave_halved h_o_wave_im h_o_wave_re h_o_wave_wasIm h_o_wave_wasRe h_o_past_cells o_past_next o_past_held o_wave_exp o_wave_done o_wave_backward o_wave_halved o_wave_im o_wave_re o_wave_wasIm o_wave_wasRe o_past_cells o_past_next_4 o_past_held_5 o_past_cells_6 e_7) (cwV 1 hts (gv q_mX9_265 q_i_yX3_remember q_s_yX3_remember q_n_RX3 q_k_yX3_remember) rfl rfl rfl (by decide +kernel) ⟨by decide, by decide⟩) rfl rfl (Nat.le_of_ble_eq_true rfl) dX9_turnBack_17 ⟨Nat.zero_le _, Nat.zero_le _⟩ (ci := 3) rfl 0 rfl [1, 2, 5, 6, 7, 8, 9, 4] [0, 3] [0, 2, 3, 1, 9, 4, 5, 6, 7, 8] rfl rfl (ws2 := (wX9_turnBack cI cJ cZ h_o h_o_past h_o_wave h_o_way h_o_past_cells h_o_wave_halved h_o_wave_im h_o_wave_re h_o_wave_wasIm h_o_wave_wasRe h_o_notes h_o_ring h_o_turns h_o_beater h_o_reader h_o_dice h_o_trialWay h_o_trial h_o_otherTrial h_o_sumsRe h_o_sumsIm h_o_tally h_o_image h_o_tape h_o_way_shifts o_imageKept o_taped o_past_next_4 o_past_held_5 o_wave_exp o_wave_done o_wave_backward o_way_size o_way_log o_way_wordBits o_way_limit o_way_radix o_way_order o_way_near o_way_seed o_way_stages o_past_cells_6 o_wave_halved o_wave_im o_wave_re o_wave_wasIm o_wave_wasRe)) rfl (fun H locs hP hD hS => ?_)
    refine W.eq (g2 := F0 m 20 ls []) rfl ?_
    refine lv_aload_n hx hb dX9_turnBack_20 rfl (lv_at hl 0 rfl) ?_
    refine rd (ci := 9) (C := RX9) (T := TX9) (N := 19) hx hb hts inX9 hown hK hP 0 1 rfl rfl (by decide) (hts _ q_fX9_19) rfl dX9_turnBack_21 ?_
    refine lv_aload_n hx hb dX9_turnBack_24 rfl (lv_at hl 0 rfl) ?_
    refine rd (ci := 9) (C := RX9) (T := TX9) (N := 19) hx hb hts inX9 hown hK hP 0 0 rfl rfl (by decide) (hts _ q_fX9_10) rfl dX9_turnBack_25 ?_
    refine rd (ci := 8) (C := RX8) (T := TX8) (N := 10) hx hb hts inX8 hown hK hP 3 0 rfl rfl (by decide) (hts _ q_fX9_115) rfl dX9_turnBack_28 ?_
    obtain ⟨o_wave_done_8, o_wave_backward_9, o_wave_im_10, e_11, hf⟩ := bd3_x hf
    refine call_v [.int o_way_size] [] ⟨hx, hb, hml, hown, hts⟩ hK hP hD hS hA hl.1 (tX7_goBack l G cI cJ cZ H.size h_o_wave h_o_wave_im h_o_wave_re h_o_wave_wasRe h_o_wave_wasIm h_o_wave_halved o_wave_exp o_wave_done o_wave_backward o_wave_im o_way_size o_wave_done_8 o_wave_backward_9 o_wave_im_10 e_11) (cwV 1 hts (gv q_mX9_289 q_i_yX7_goBack q_s_yX7_goBack q_n_RX7 q_k_yX7_goBack) rfl rfl rfl (by decide +kernel) ⟨by decide, by decide⟩) rfl rfl (Nat.le_of_ble_eq_true rfl) dX9_turnBack_31 ⟨Nat.zero_le _, Nat.zero_le _⟩ (ci := 7) rfl 0 rfl [2, 6] [0, 1, 3, 4, 5, 7, 8, 9] [0, 1, 8, 2, 3, 4, 9, 5, 6, 7] rfl rfl (ws2 := (wX9_turnBack cI cJ cZ h_o h_o_past h_o_wave h_o_way h_o_past_cells h_o_wave_halved h_o_wave_im h_o_wave_re h_o_wave_wasIm h_o_wave_wasRe h_o_notes h_o_ring h_o_turns h_o_beater h_o_reader h_o_dice h_o_trialWay h_o_trial h_o_otherTrial h_o_sumsRe h_o_sumsIm h_o_tally h_o_image h_o_tape h_o_way_shifts o_imageKept o_taped o_past_next_4 o_past_held_5 o_wave_exp o_wave_done_8 o_wave_backward_9 o_way_size o_way_log o_way_wordBits o_way_limit o_way_radix o_way_order o_way_near o_way_seed o_way_stages o_past_cells_6 o_wave_halved o_wave_im_10 o_wave_re o_wave_wasIm o_wave_wasRe)) rfl (fun H locs hP hD hS => ?_)
    refine W.eq (g2 := F0 m 34 ls []) rfl ?_
    refine lv_iconst (v := (1 : Int32)) hx hb dX9_turnBack_34 (by decide) ?_
    cases hf
    exact hret _ _ _ _ dX9_turnBack_35 rfl hP hD hS
  · have hf := it_t c_3 hf
    refine lv_iconst (v := (0 : Int32)) hx hb dX9_turnBack_7 (by decide) ?_
    cases hf
    exact hret _ _ _ _ dX9_turnBack_8 rfl hP hD hS
def wX9_ahead (cI cJ cZ : ClassId) (h_o h_o_beater h_o_trial h_o_turns h_o_wave h_o_way h_o_beater_spareIm h_o_beater_spareRe h_o_beater_wingIm h_o_beater_wingRe h_o_trial_halved h_o_trial_im h_o_trial_re h_o_turns_cos h_o_turns_sin h_o_wave_im h_o_wave_re h_o_way_shifts h_o_past h_o_notes h_o_ring h_o_reader h_o_dice h_o_trialWay h_o_otherTrial h_o_sumsRe h_o_sumsIm h_o_tally h_o_image h_o_tape h_o_trial_wasRe h_o_trial_wasIm h_o_wave_wasRe h_o_wave_wasIm h_o_wave_halved : Nat) (o_imageKept : Int32) (o_taped : Int32) (o_trial_exp : Int32) (o_trial_done : Int32) (o_trial_backward : Int32) (o_wave_exp : Int32) (o_wave_done : Int32) (o_wave_backward : Int32) (o_way_size : Int32) (o_way_log : Int32) (o_way_wordBits : Int32) (o_way_limit : Int32) (o_way_radix : Int32) (o_way_order : Int32) (o_way_near : Int32) (o_way_seed : Int32) (o_way_stages : Int32) (o_beater_spareIm : Nat → Int32) (o_beater_spareRe : Nat → Int32) (o_beater_wingIm : Nat → Int32) (o_beater_wingRe : Nat → Int32) (o_trial_halved : Nat → Int32) (o_trial_im : Nat → Int32) (o_trial_re : Nat → Int32) (o_turns_cos : Nat → Int32) (o_turns_sin : Nat → Int32) (o_wave_im : Nat → Int32) (o_wave_re : Nat → Int32) (o_way_shifts : Nat → Int32) : va_W := [(h_o, .inr (9, [.ref h_o_way, .ref h_o_wave, .ref h_o_past, .ref h_o_notes, .ref h_o_ring, .ref h_o_turns, .ref h_o_beater, .ref h_o_reader, .ref h_o_dice, .ref h_o_trialWay, .ref h_o_trial, .ref h_o_otherTrial, .ref h_o_sumsRe, .ref h_o_sumsIm, .ref h_o_tally, .ref h_o_image, .int o_imageKept, .ref h_o_tape, .int o_taped])), (h_o_beater, .inr (0, [.ref h_o_turns, .ref h_o_beater_spareRe, .ref h_o_beater_spareIm, .ref h_o_beater_wingRe, .ref h_o_beater_wingIm])), (h_o_trial, .inr (7, [.ref h_o_trial_re, .ref h_o_trial_im, .ref h_o_trial_wasRe, .ref h_o_trial_wasIm, .ref h_o_trial_halved, .int o_trial_exp, .int o_trial_done, .int o_trial_backward])), (h_o_turns, .inr (6, [.ref h_o_turns_cos, .ref h_o_turns_sin])), (h_o_wave, .inr (7, [.ref h_o_wave_re, .ref h_o_wave_im, .ref h_o_wave_wasRe, .ref h_o_wave_wasIm, .ref h_o_wave_halved, .int o_wave_exp, .int o_wave_done, .int o_wave_backward])), (h_o_way, .inr (8, [.int o_way_size, .int o_way_log, .int o_way_wordBits, .int o_way_limit, .int o_way_radix, .int o_way_order, .int o_way_near, .int o_way_seed, .int o_way_stages, .ref h_o_way_shifts])), (h_o_beater_spareIm, .inl (cI, 32, .inl o_beater_spareIm)), (h_o_beater_spareRe, .inl (cI, 32, .inl o_beater_spareRe)), (h_o_beater_wingIm, .inl (cI, 4, .inl o_beater_wingIm)), (h_o_beater_wingRe, .inl (cI, 4, .inl o_beater_wingRe)), (h_o_trial_halved, .inl (cI, 5, .inl o_trial_halved)), (h_o_trial_im, .inl (cI, 32, .inl o_trial_im)), (h_o_trial_re, .inl (cI, 32, .inl o_trial_re)), (h_o_turns_cos, .inl (cI, 32, .inl o_turns_cos)), (h_o_turns_sin, .inl (cI, 32, .inl o_turns_sin)), (h_o_wave_im, .inl (cI, 32, .inl o_wave_im)), (h_o_wave_re, .inl (cI, 32, .inl o_wave_re)), (h_o_way_shifts, .inl (cI, 5, .inl o_way_shifts))]
def fX9_ahead (o_trial_exp : Int32) (o_trial_done : Int32) (o_trial_backward : Int32) (o_wave_exp : Int32) (o_wave_done : Int32) (o_wave_backward : Int32) (o_way_size : Int32) (o_way_log : Int32) (o_way_limit : Int32) (o_way_order : Int32) (o_way_near : Int32) (o_way_stages : Int32) (o_beater_spareIm : Nat → Int32) (o_beater_spareRe : Nat → Int32) (o_beater_wingIm : Nat → Int32) (o_beater_wingRe : Nat → Int32) (o_trial_halved : Nat → Int32) (o_trial_im : Nat → Int32) (o_trial_re : Nat → Int32) (o_turns_cos : Nat → Int32) (o_turns_sin : Nat → Int32) (o_wave_im : Nat → Int32) (o_wave_re : Nat → Int32) (o_way_shifts : Nat → Int32) (p1 : Int32) (p2 : Int32) : Option (Int32 × Int32 × Int32 × Int32 × (Nat → Int32) × (Nat → Int32) × (Nat → Int32) × (Nat → Int32) × (Nat → Int32) × (Nat → Int32) × (Nat → Int32)) :=
  if p1 < 0 then (
    some ((-1 : Int32), o_trial_exp, o_trial_done, o_trial_backward, o_beater_spareIm, o_beater_spareRe, o_beater_wingIm, o_beater_wingRe, o_trial_halved, o_trial_im, o_trial_re)
  ) else (
    if (5 : Int32) < p1 then (
      some ((-1 : Int32), o_trial_exp, o_trial_done, o_trial_backward, o_beater_spareIm, o_beater_spareRe, o_beater_wingIm, o_beater_wingRe, o_trial_halved, o_trial_im, o_trial_re)
    ) else (
      if p2 < 0 then (
        some ((-1 : Int32), o_trial_exp, o_trial_done, o_trial_backward, o_beater_spareIm, o_beater_spareRe, o_beater_wingIm, o_beater_wingRe, o_trial_halved, o_trial_im, o_trial_re)
      ) else (
        if p2 ≤ (2 : Int32) then (
          bd5 (fX7_goOnFrom o_trial_exp o_trial_done o_trial_backward o_wave_exp o_wave_done o_wave_backward o_wave_im o_wave_re o_trial_im o_trial_re) (fun o_trial_exp_5 o_trial_done_6 o_trial_backward_7 o_trial_im_8 o_trial_re_9 =>
          bd10 (fX0_doStages o_trial_exp_5 o_trial_done_6 o_trial_backward_7 o_way_size o_way_log o_way_limit o_way_order o_way_near o_way_stages o_trial_halved o_trial_im_8 o_trial_re_9 o_way_shifts o_beater_spareIm o_beater_spareRe o_beater_wingIm o_beater_wingRe o_turns_cos o_turns_sin p1 (1 : Int32)) (fun r_11 o_trial_exp_12 o_trial_done_13 o_trial_halved_14 o_trial_im_15 o_trial_re_16 o_beater_spareIm_17 o_beater_spareRe_18 o_beater_wingIm_19 o_beater_wingRe_20 =>
          if p2 = 0 then (
            some (o_trial_exp_12, o_trial_exp_12, o_trial_done_13, o_trial_backward_7, o_beater_spareIm_17, o_beater_spareRe_18, o_beater_wingIm_19, o_beater_wingRe_20, o_trial_halved_14, o_trial_im_15, o_trial_re_16)
          ) else (
            if p2 = (1 : Int32) then (
              bd1 (fX7_greatest o_trial_im_15 o_trial_re_16 (0 : Int32) o_way_size) (fun r_24 =>
              some (r_24, o_trial_exp_12, o_trial_done_13, o_trial_backward_7, o_beater_spareIm_17, o_beater_spareRe_18, o_beater_wingIm_19, o_beater_wingRe_20, o_trial_halved_14, o_trial_im_15, o_trial_re_16))
            ) else (
              some (r_11, o_trial_exp_12, o_trial_done_13, o_trial_backward_7, o_beater_spareIm_17, o_beater_spareRe_18, o_beater_wingIm_19, o_beater_wingRe_20, o_trial_halved_14, o_trial_im_15, o_trial_re_16)
            )
          )))
        ) else (
          some ((-1 : Int32), o_trial_exp, o_trial_done, o_trial_backward, o_beater_spareIm, o_beater_spareRe, o_beater_wingIm, o_beater_wingRe, o_trial_halved, o_trial_im, o_trial_re)
        )
      )
    )
  )
set_option maxHeartbeats 4000000 in
set_option maxRecDepth 100000 in
theorem tX9_ahead (l : Launch) (G : va_G) (cI cJ cZ : ClassId) (sz : Nat) (h_o h_o_beater h_o_trial h_o_turns h_o_wave h_o_way h_o_beater_spareIm h_o_beater_spareRe h_o_beater_wingIm h_o_beater_wingRe h_o_trial_halved h_o_trial_im h_o_trial_re h_o_turns_cos h_o_turns_sin h_o_wave_im h_o_wave_re h_o_way_shifts h_o_past h_o_notes h_o_ring h_o_reader h_o_dice h_o_trialWay h_o_otherTrial h_o_sumsRe h_o_sumsIm h_o_tally h_o_image h_o_tape h_o_trial_wasRe h_o_trial_wasIm h_o_wave_wasRe h_o_wave_wasIm h_o_wave_halved : Nat) (o_imageKept : Int32) (o_taped : Int32) (o_trial_exp : Int32) (o_trial_done : Int32) (o_trial_backward : Int32) (o_wave_exp : Int32) (o_wave_done : Int32) (o_wave_backward : Int32) (o_way_size : Int32) (o_way_log : Int32) (o_way_wordBits : Int32) (o_way_limit : Int32) (o_way_radix : Int32) (o_way_order : Int32) (o_way_near : Int32) (o_way_seed : Int32) (o_way_stages : Int32) (o_beater_spareIm : Nat → Int32) (o_beater_spareRe : Nat → Int32) (o_beater_wingIm : Nat → Int32) (o_beater_wingRe : Nat → Int32) (o_trial_halved : Nat → Int32) (o_trial_im : Nat → Int32) (o_trial_re : Nat → Int32) (o_turns_cos : Nat → Int32) (o_turns_sin : Nat → Int32) (o_wave_im : Nat → Int32) (o_wave_re : Nat → Int32) (o_way_shifts : Nat → Int32) (p1 : Int32) (p2 : Int32) (r : Int32) (out_o_trial_exp : Int32) (out_o_trial_done : Int32) (out_o_trial_backward : Int32) (out_o_beater_spareIm : Nat → Int32) (out_o_beater_spareRe : Nat → Int32) (out_o_beater_wingIm : Nat → Int32) (out_o_beater_wingRe : Nat → Int32) (out_o_trial_halved : Nat → Int32) (out_o_trial_im : Nat → Int32) (out_o_trial_re : Nat → Int32) (hf : fX9_ahead o_trial_exp o_trial_done o_trial_backward o_wave_exp o_wave_done o_wave_backward o_way_size o_way_log o_way_limit o_way_order o_way_near o_way_stages o_beater_spareIm o_beater_spareRe o_beater_wingIm o_beater_wingRe o_trial_halved o_trial_im o_trial_re o_turns_cos o_turns_sin o_wave_im o_wave_re o_way_shifts p1 p2 = some (r, out_o_trial_exp, out_o_trial_done, out_o_trial_backward, out_o_beater_spareIm, out_o_beater_spareRe, out_o_beater_wingIm, out_o_beater_wingRe, out_o_trial_halved, out_o_trial_im, out_o_trial_re)) : Met l yX9_ahead (Cond.code yX9_ahead cX9_ahead 4 (some .int) :: BIG) ({ frames := 6, cells := 0, slots := 0, locals := 166 } : Room) (cP G (TY3 cI cJ cZ) [.ref h_o, .int p1, .int p2] sz (wX9_ahead cI cJ cZ h_o h_o_beater h_o_trial h_o_turns h_o_wave h_o_way h_o_beater_spareIm h_o_beater_spareRe h_o_beater_wingIm h_o_beater_wingRe h_o_trial_halved h_o_trial_im h_o_trial_re h_o_turns_cos h_o_turns_sin h_o_wave_im h_o_wave_re h_o_way_shifts h_o_past h_o_notes h_o_ring h_o_reader h_o_dice h_o_trialWay h_o_otherTrial h_o_sumsRe h_o_sumsIm h_o_tally h_o_image h_o_tape h_o_trial_wasRe h_o_trial_wasIm h_o_wave_wasRe h_o_wave_wasIm h_o_wave_halved o_imageKept o_taped o_trial_exp o_trial_done o_trial_backward o_wave_exp o_wave_done o_wave_backward o_way_size o_way_log o_way_wordBits o_way_limit o_way_radix o_way_order o_way_near o_way_seed o_way_stages o_beater_spareIm o_beater_spareRe o_beater_wingIm o_beater_wingRe o_trial_halved o_trial_im o_trial_re o_turns_cos o_turns_sin o_wave_im o_wave_re o_way_shifts)) (cQ G (TY3 cI cJ cZ) sz (wX9_ahead cI cJ cZ h_o h_o_beater h_o_trial h_o_turns h_o_wave h_o_way h_o_beater_spareIm h_o_beater_spareRe h_o_beater_wingIm h_o_beater_wingRe h_o_trial_halved h_o_trial_im h_o_trial_re h_o_turns_cos h_o_turns_sin h_o_wave_im h_o_wave_re h_o_way_shifts h_o_past h_o_notes h_o_ring h_o_reader h_o_dice h_o_trialWay h_o_otherTrial h_o_sumsRe h_o_sumsIm h_o_tally h_o_image h_o_tape h_o_trial_wasRe h_o_trial_wasIm h_o_wave_wasRe h_o_wave_wasIm h_o_wave_halved o_imageKept o_taped o_trial_exp o_trial_done o_trial_backward o_wave_exp o_wave_done o_wave_backward o_way_size o_way_log o_way_wordBits o_way_limit o_way_radix o_way_order o_way_near o_way_seed o_way_stages o_beater_spareIm o_beater_spareRe o_beater_wingIm o_beater_wingRe o_trial_halved o_trial_im o_trial_re o_turns_cos o_turns_sin o_wave_im o_wave_re o_way_shifts) (wX9_ahead cI cJ cZ h_o h_o_beater h_o_trial h_o_turns h_o_wave h_o_way h_o_beater_spareIm h_o_beater_spareRe h_o_beater_wingIm h_o_beater_wingRe h_o_trial_halved h_o_trial_im h_o_trial_re h_o_turns_cos h_o_turns_sin h_o_wave_im h_o_wave_re h_o_way_shifts h_o_past h_o_notes h_o_ring h_o_reader h_o_dice h_o_trialWay h_o_otherTrial h_o_sumsRe h_o_sumsIm h_o_tally h_o_image h_o_tape h_o_trial_wasRe h_o_trial_wasIm h_o_wave_wasRe h_o_wave_wasIm h_o_wave_halved o_imageKept o_taped out_o_trial_exp out_o_trial_done out_o_trial_backward o_wave_exp o_wave_done o_wave_backward o_way_size o_way_log o_way_wordBits o_way_limit o_way_radix o_way_order o_way_near o_way_seed o_way_stages out_o_beater_spareIm out_o_beater_spareRe out_o_beater_wingIm out_o_beater_wingRe out_o_trial_halved out_o_trial_im out_o_trial_re o_turns_cos o_turns_sin o_wave_im o_wave_re o_way_shifts) (some (.int r))) 0 0 (va_A (wX9_ahead cI cJ cZ h_o h_o_beater h_o_trial h_o_turns h_o_wave h_o_way h_o_beater_spareIm h_o_beater_spareRe h_o_beater_wingIm h_o_beater_wingRe h_o_trial_halved h_o_trial_im h_o_trial_re h_o_turns_cos h_o_turns_sin h_o_wave_im h_o_wave_re h_o_way_shifts h_o_past h_o_notes h_o_ring h_o_reader h_o_dice h_o_trialWay h_o_otherTrial h_o_sumsRe h_o_sumsIm h_o_tally h_o_image h_o_tape h_o_trial_wasRe h_o_trial_wasIm h_o_wave_wasRe h_o_wave_wasIm h_o_wave_halved o_imageKept o_taped o_trial_exp o_trial_done o_trial_backward o_wave_exp o_wave_done o_wave_backward o_way_size o_way_log o_way_wordBits o_way_limit o_way_radix o_way_order o_way_near o_way_seed o_way_stages o_beater_spareIm o_beater_spareRe o_beater_wingIm o_beater_wingRe o_trial_halved o_trial_im o_trial_re o_turns_cos o_turns_sin o_wave_im o_wave_re o_way_shifts) sz) := by
  refine met_i (cc := cX9_ahead) (maxL := 4) (plainFor_of_name (by decide)) (Nat.le_of_ble_eq_true rfl) (fun p e s m below meth c A ls Q hx hb hml hts hown hK hP hD hS hA hl hret => ?_)
  have hown : s.vm.findClass RX9 = some m.cls := hown
  have hl : lv_has ls 4 [(0, .ref h_o), (1, .int p1), (2, .int p2)] := hl
  unfold fX9_ahead at hf
  obtain ⟨H, eH⟩ : ∃ H, H = s.heap := ⟨_, rfl⟩
  obtain ⟨locs, elocs⟩ : ∃ z : List Loc, z = [] := ⟨_, rfl⟩
  have hP : va_P G vwCl (wX9_ahead cI cJ cZ h_o h_o_beater h_o_trial h_o_turns h_o_wave h_o_way h_o_beater_spareIm h_o_beater_spareRe h_o_beater_wingIm h_o_beater_wingRe h_o_trial_halved h_o_trial_im h_o_trial_re h_o_turns_cos h_o_turns_sin h_o_wave_im h_o_wave_re h_o_way_shifts h_o_past h_o_notes h_o_ring h_o_reader h_o_dice h_o_trialWay h_o_otherTrial h_o_sumsRe h_o_sumsIm h_o_tally h_o_image h_o_tape h_o_trial_wasRe h_o_trial_wasIm h_o_wave_wasRe h_o_wave_wasIm h_o_wave_halved o_imageKept o_taped o_trial_exp o_trial_done o_trial_backward o_wave_exp o_wave_done o_wave_backward o_way_size o_way_log o_way_wordBits o_way_limit o_way_radix o_way_order o_way_near o_way_seed o_way_stages o_beater_spareIm o_beater_spareRe o_beater_wingIm o_beater_wingRe o_trial_halved o_trial_im o_trial_re o_turns_cos o_turns_sin o_wave_im o_wave_re o_way_shifts) H := by rw [eH]; exact hP
  have hS : va_S A s.heap H locs := by rw [eH, elocs]; exact hS
  suffices hgo : W p l e ({ frames := 6, cells := 0, slots := 0, locals := 166 } : Room) s m ([.ref h_o, .int p1, .int p2] : List Value).toArray below meth c H locs 0 0 Q (F0 m 0 ls []) by rw [eH, elocs] at hgo; exact hgo
  clear eH elocs
  refine lv_iload_n hx hb dX9_ahead_0 rfl (lv_at hl 1 rfl) ?_
  refine lv_if_lt (tgt := 18) hx hb dX9_ahead_1 (by decide) (fun c_1 => ?_) (fun c_1 => ?_)
  · have hf := it_t c_1 hf
    refine lv_iconst (v := (-1 : Int32)) hx hb dX9_ahead_18 (by decide) ?_
    cases hf
    exact hret _ _ _ _ dX9_ahead_19 hP hD hS
  · have hf := it_f c_1 hf
    refine lv_iload_n hx hb dX9_ahead_4 rfl (lv_at hl 1 rfl) ?_
    refine lv_iconst (v := (5 : Int32)) hx hb dX9_ahead_5 (by decide) ?_
    refine lv_icmp_gt (tgt := 18) hx hb dX9_ahead_6 (by decide) (fun c_2 => ?_) (fun c_2 => ?_)
    · have hf := it_t c_2 hf
      refine lv_iconst (v := (-1 : Int32)) hx hb dX9_ahead_18 (by decide) ?_
      cases hf
      exact hret _ _ _ _ dX9_ahead_19 hP hD hS
    · have hf := it_f c_2 hf
      refine lv_iload_n hx hb dX9_ahead_9 rfl (lv_at hl 2 rfl) ?_
      refine lv_if_lt (tgt := 18) hx hb dX9_ahead_10 (by decide) (fun c_3 => ?_) (fun c_3 => ?_)
      · have hf := it_t c_3 hf
        refine lv_iconst (v := (-1 : Int32)) hx hb dX9_ahead_18 (by decide) ?_
        cases hf
        exact hret _ _ _ _ dX9_ahead_19 hP hD hS
      · have hf := it_f c_3 hf
        refine lv_iload_n hx hb dX9_ahead_13 rfl (lv_at hl 2 rfl) ?_
        refine lv_iconst (v := (2 : Int32)) hx hb dX9_ahead_14 (by decide) ?_
        refine lv_icmp_le (tgt := 20) hx hb dX9_ahead_15 (by decide) (fun c_4 => ?_) (fun c_4 => ?_)
        · have hf := it_t c_4 hf
          refine lv_aload_n hx hb dX9_ahead_20 rfl (lv_at hl 0 rfl) ?_
          refine rd (ci := 9) (C := RX9) (T := TX9) (N := 19) hx hb hts inX9 hown hK hP 0 10 rfl rfl (by decide) (hts _ q_fX9_77) rfl dX9_ahead_21 ?_
          refine lv_aload_n hx hb dX9_ahead_24 rfl (lv_at hl 0 rfl) ?_
          refine rd (ci := 9) (C := RX9) (T := TX9) (N := 19) hx hb hts inX9 hown hK hP 0 1 rfl rfl (by decide) (hts _ q_fX9_19) rfl dX9_ahead_25 ?_
          obtain ⟨o_trial_exp_5, o_trial_done_6, o_trial_backward_7, o_trial_im_8, o_trial_re_9, e_10, hf⟩ := bd5_x hf
          refine call_v [.ref h_o_wave] [] ⟨hx, hb, hml, hown, hts⟩ hK hP hD hS hA hl.1 (tX7_goOnFrom l G cI cJ cZ H.size h_o_trial h_o_wave h_o_wave_im h_o_wave_re h_o_trial_im h_o_trial_re h_o_trial_wasRe h_o_trial_wasIm h_o_trial_halved h_o_wave_wasRe h_o_wave_wasIm h_o_wave_halved o_trial_exp o_trial_done o_trial_backward o_wave_exp o_wave_done o_wave_backward o_wave_im o_wave_re o_trial_im o_trial_re o_trial_exp_5 o_trial_done_6 o_trial_backward_7 o_trial_im_8 o_trial_re_9 e_10) (cwV 1 hts (gv q_mX9_292 q_i_yX7_goOnFrom q_s_yX7_goOnFrom q_n_RX7 q_k_yX7_goOnFrom) rfl rfl rfl (by decide +kernel) ⟨by decide, by decide⟩) rfl rfl (Nat.le_of_ble_eq_true rfl) dX9_ahead_28 ⟨Nat.zero_le _, Nat.zero_le _⟩ (ci := 7) rfl 0 rfl [2, 4, 15, 16, 11, 12] [0, 1, 3, 5, 6, 7, 8, 9, 10, 13, 14, 17] [0, 1, 12, 2, 13, 3, 4, 5, 6, 7, 8, 16, 17, 9, 10, 14, 15, 11] rfl rfl (ws2 := (wX9_ahead cI cJ cZ h_o h_o_beater h_o_trial h_o_turns h_o_wave h_o_way h_o_beater_spareIm h_o_beater_spareRe h_o_beater_wingIm h_o_beater_wingRe h_o_trial_halved h_o_trial_im h_o_trial_re h_o_turns_cos h_o_turns_sin h_o_wave_im h_o_wave_re h_o_way_shifts h_o_past h_o_notes h_o_ring h_o_reader h_o_dice h_o_trialWay h_o_otherTrial h_o_sumsRe h_o_sumsIm h_o_tally h_o_image h_o_tape h_o_trial_wasRe h_o_trial_wasIm h_o_wave_wasRe h_o_wave_wasIm h_o_wave_halved o_imageKept o_taped o_trial_exp_5 o_trial_done_6 o_trial_backward_7 o_wave_exp o_wave_done o_wave_backward o_way_size o_way_log o_way_wordBits o_way_limit o_way_radix o_way_order o_way_near o_way_seed o_way_stages o_beater_spareIm o_beater_spareRe o_beater_wingIm o_beater_wingRe o_trial_halved o_trial_im_8 o_trial_re_9 o_turns_cos o_turns_sin o_wave_im o_wave_re o_way_shifts)) rfl (fun H locs hP hD hS => ?_)
          refine W.eq (g2 := F0 m 31 ls []) rfl ?_
          refine lv_aload_n hx hb dX9_ahead_31 rfl (lv_at hl 0 rfl) ?_
          refine rd (ci := 9) (C := RX9) (T := TX9) (N := 19) hx hb hts inX9 hown hK hP 0 6 rfl rfl (by decide) (hts _ q_fX9_56) rfl dX9_ahead_32 ?_
          refine lv_aload_n hx hb dX9_ahead_35 rfl (lv_at hl 0 rfl) ?_
          refine rd (ci := 9) (C := RX9) (T := TX9) (N := 19) hx hb hts inX9 hown hK hP 0 10 rfl rfl (by decide) (hts _ q_fX9_77) rfl dX9_ahead_36 ?_
          refine lv_aload_n hx hb dX9_ahead_39 rfl (lv_at hl 0 rfl) ?_
          refine rd (ci := 9) (C := RX9) (T := TX9) (N := 19) hx hb hts inX9 hown hK hP 0 0 rfl rfl (by decide) (hts _ q_fX9_10) rfl dX9_ahead_40 ?_
          refine lv_iload_n hx hb dX9_ahead_43 rfl (lv_at hl 1 rfl) ?_
          refine lv_iconst (v := (1 : Int32)) hx hb dX9_ahead_44 (by decide) ?_
          obtain ⟨r_11, o_trial_exp_12, o_trial_done_13, o_trial_halved_14, o_trial_im_15, o_trial_re_16, o_beater_spareIm_17, o_beater_spareRe_18, o_beater_wingIm_19, o_beater_wingRe_20, e_21, hf⟩ := bd10_x hf
          refine call_v [.ref h_o_trial, .ref h_o_way, .int p1, .int (1 : Int32)] [] ⟨hx, hb, hml, hown, hts⟩ hK hP hD hS hA hl.1 (tX0_doStages l G cI cJ cZ H.size h_o_beater h_o_trial h_o_way h_o_trial_halved h_o_trial_im h_o_trial_re h_o_way_shifts h_o_beater_spareIm h_o_beater_spareRe h_o_turns h_o_beater_wingIm h_o_beater_wingRe h_o_turns_cos h_o_turns_sin h_o_trial_wasRe h_o_trial_wasIm o_trial_exp_5 o_trial_done_6 o_trial_backward_7 o_way_size o_way_log o_way_wordBits o_way_limit o_way_radix o_way_order o_way_near o_way_seed o_way_stages o_trial_halved o_trial_im_8 o_trial_re_9 o_way_shifts o_beater_spareIm o_beater_spareRe o_beater_wingIm o_beater_wingRe o_turns_cos o_turns_sin p1 (1 : Int32) r_11 o_trial_exp_12 o_trial_done_13 o_trial_halved_14 o_trial_im_15 o_trial_re_16 o_beater_spareIm_17 o_beater_spareRe_18 o_beater_wingIm_19 o_beater_wingRe_20 e_21) (cwV 4 hts (gv q_mX9_282 q_i_yX0_doStages q_s_yX0_doStages q_n_RX0 q_k_yX0_doStages) rfl rfl rfl (by decide +kernel) ⟨by decide, by decide⟩) rfl rfl (Nat.le_of_ble_eq_true rfl) dX9_ahead_45 ⟨Nat.zero_le _, Nat.zero_le _⟩ (ci := 0) rfl 0 rfl [1, 2, 5, 10, 11, 12, 17, 6, 7, 3, 8, 9, 13, 14] [0, 4, 15, 16] [0, 4, 5, 13, 1, 6, 11, 12, 14, 15, 7, 8, 9, 16, 17, 2, 3, 10] rfl rfl (ws2 := (wX9_ahead cI cJ cZ h_o h_o_beater h_o_trial h_o_turns h_o_wave h_o_way h_o_beater_spareIm h_o_beater_spareRe h_o_beater_wingIm h_o_beater_wingRe h_o_trial_halved h_o_trial_im h_o_trial_re h_o_turns_cos h_o_turns_sin h_o_wave_im h_o_wave_re h_o_way_shifts h_o_past h_o_notes h_o_ring h_o_reader h_o_dice h_o_trialWay h_o_otherTrial h_o_sumsRe h_o_sumsIm h_o_tally h_o_image h_o_tape h_o_trial_wasRe h_o_trial_wasIm h_o_wave_wasRe h_o_wave_wasIm h_o_wave_halved o_imageKept o_taped o_trial_exp_12 o_trial_done_13 o_trial_backward_7 o_wave_exp o_wave_done o_wave_backward o_way_size o_way_log o_way_wordBits o_way_limit o_way_radix o_way_order o_way_near o_way_seed o_way_stages o_beater_spareIm_17 o_beater_spareRe_18 o_beater_wingIm_19 o_beater_wingRe_20 o_trial_halved_14 o_trial_im_15 o_trial_re_16 o_turns_cos o_turns_sin o_wave_im o_wave_re o_way_shifts)) rfl (fun H locs hP hD hS => ?_)
          refine W.eq (g2 := F0 m 48 ls [.int r_11]) rfl ?_
          refine lv_istore_n (lv' := [(3, .int r_11), (0, .ref h_o), (1, .int p1), (2, .int p2)]) hx hb dX9_ahead_48 rfl hl (by decide) rfl (fun ls hl => ?_)
          refine lv_iload_n hx hb dX9_ahead_49 rfl (lv_at hl 3 rfl) ?_
          refine lv_if_ne (tgt := 61) hx hb dX9_ahead_50 (by decide) (fun c_22 => ?_) (fun c_22 => ?_)
          · have hf := it_f c_22 hf
            refine lv_iload_n hx hb dX9_ahead_61 rfl (lv_at hl 3 rfl) ?_
            refine lv_iconst (v := (1 : Int32)) hx hb dX9_ahead_62 (by decide) ?_
            refine lv_icmp_ne (tgt := 84) hx hb dX9_ahead_63 (by decide) (fun c_23 => ?_) (fun c_23 => ?_)
            · have hf := it_f c_23 hf
              refine lv_iload_n hx hb dX9_ahead_84 rfl (lv_at hl 0 rfl) ?_
              cases hf
              exact hret _ _ _ _ dX9_ahead_85 hP hD hS
            · have hf := it_t c_23 hf
              refine lv_aload_n hx hb dX9_ahead_66 rfl (lv_at hl 1 rfl) ?_
              refine rd (ci := 9) (C := RX9) (T := TX9) (N := 19) hx hb hts inX9 hown hK hP 0 10 rfl rfl (by decide) (hts _ q_fX9_77) rfl dX9_ahead_67 ?_
              refine lv_iconst (v := (0 : Int32)) hx hb dX9_ahead_70 (by decide) ?_
              refine lv_aload_n hx hb dX9_ahead_71 rfl (lv_at hl 1 rfl) ?_
              refine rd (ci := 9) (C := RX9) (T := TX9) (N := 19) hx hb hts inX9 hown hK hP 0 0 rfl rfl (by decide) (hts _ q_fX9_10) rfl dX9_ahead_72 ?_
              refine rd (ci := 8) (C := RX8) (T := TX8) (N := 10) hx hb hts inX8 hown hK hP 5 0 rfl rfl (by decide) (hts _ q_fX9_115) rfl dX9_ahead_75 ?_
              obtain ⟨r_24, e_25, hf⟩ := bd1_x hf
              refine call_v [.int (0 : Int32), .int o_way_size] [] ⟨hx, hb, hml, hown, hts⟩ hK hP hD hS hA hl.1 (tX7_greatest l G cI cJ cZ H.size h_o_trial h_o_trial_im h_o_trial_re h_o_trial_wasRe h_o_trial_wasIm h_o_trial_halved o_trial_exp_12 o_trial_done_13 o_trial_backward_7 o_trial_im_15 o_trial_re_16 (0 : Int32) o_way_size r_24 e_25) (cwV 2 hts (gv q_mX9_212 q_i_yX7_greatest q_s_yX7_greatest q_n_RX7 q_k_yX7_greatest) rfl rfl rfl (by decide +kernel) ⟨by decide, by decide⟩) rfl rfl (Nat.le_of_ble_eq_true rfl) dX9_ahead_78 ⟨Nat.zero_le _, Nat.zero_le _⟩ (ci := 7) rfl 0 rfl [2, 11, 12] [0, 1, 3, 4, 5, 6, 7, 8, 9, 10, 13, 14, 15, 16, 17] [0, 1, 15, 2, 3, 4, 5, 6, 7, 8, 9, 16, 17, 10, 11, 12, 13, 14] rfl rfl (ws2 := (wX9_ahead cI cJ cZ h_o h_o_beater h_o_trial h_o_turns h_o_wave h_o_way h_o_beater_spareIm h_o_beater_spareRe h_o_beater_wingIm h_o_beater_wingRe h_o_trial_halved h_o_trial_im h_o_trial_re h_o_turns_cos h_o_turns_sin h_o_wave_im h_o_wave_re h_o_way_shifts h_o_past h_o_notes h_o_ring h_o_reader h_o_dice h_o_trialWay h_o_otherTrial h_o_sumsRe h_o_sumsIm h_o_tally h_o_image h_o_tape h_o_trial_wasRe h_o_trial_wasIm h_o_wave_wasRe h_o_wave_wasIm h_o_wave_halved o_imageKept o_taped o_trial_exp_12 o_trial_done_13 o_trial_backward_7 o_wave_exp o_wave_done o_wave_backward o_way_size o_way_log o_way_wordBits o_way_limit o_way_radix o_way_order o_way_near o_way_seed o_way_stages o_beater_spareIm_17 o_beater_spareRe_18 o_beater_wingIm_19 o_beater_wingRe_20 o_trial_halved_14 o_trial_im_15 o_trial_re_16 o_turns_cos o_turns_sin o_wave_im o_wave_re o_way_shifts)) rfl (fun H locs hP hD hS => ?_)
              refine W.eq (g2 := F0 m 81 ls [.int r_24]) rfl ?_
              refine lv_goto (tgt := 85) hx hb dX9_ahead_81 (by decide) ?_
              cases hf
              exact hret _ _ _ _ dX9_ahead_85 hP hD hS
          · have hf := it_t c_22 hf
            refine lv_aload_n hx hb dX9_ahead_53 rfl (lv_at hl 1 rfl) ?_
            refine rd (ci := 9) (C := RX9) (T := TX9) (N := 19) hx hb hts inX9 hown hK hP 0 10 rfl rfl (by decide) (hts _ q_fX9_77) rfl dX9_ahead_54 ?_
            refine rd (ci := 7) (C := RX7) (T := TX7) (N := 8) hx hb hts inX7 hown hK hP 2 5 rfl rfl (by decide) (hts _ q_fX9_244) rfl dX9_ahead_57 ?_
            cases hf
            exact hret _ _ _ _ dX9_ahead_60 hP hD hS
        · have hf := it_f c_4 hf
          refine lv_iconst (v := (-1 : Int32)) hx hb dX9_ahead_18 (by decide) ?_
          cases hf
          exact hret _ _ _ _ dX9_ahead_19 hP hD hS
def wX9_expWithBits (cI cJ cZ : ClassId) (h_o h_o_beater h_o_trial h_o_trialWay h_o_turns h_o_wave h_o_way h_o_beater_spareIm h_o_beater_spareRe h_o_beater_wingIm h_o_beater_wingRe h_o_trial_halved h_o_trial_im h_o_trial_re h_o_trialWay_shifts h_o_turns_cos h_o_turns_sin h_o_wave_wasIm h_o_wave_wasRe h_o_past h_o_notes h_o_ring h_o_reader h_o_dice h_o_otherTrial h_o_sumsRe h_o_sumsIm h_o_tally h_o_image h_o_tape h_o_trial_wasRe h_o_trial_wasIm h_o_wave_re h_o_wave_im h_o_wave_halved h_o_way_shifts : Nat) (o_imageKept : Int32) (o_taped : Int32) (o_trial_exp : Int32) (o_trial_done : Int32) (o_trial_backward : Int32) (o_trialWay_size : Int32) (o_trialWay_log : Int32) (o_trialWay_wordBits : Int32) (o_trialWay_limit : Int32) (o_trialWay_radix : Int32) (o_trialWay_order : Int32) (o_trialWay_near : Int32) (o_trialWay_seed : Int32) (o_trialWay_stages : Int32) (o_wave_exp : Int32) (o_wave_done : Int32) (o_wave_backward : Int32) (o_way_size : Int32) (o_way_log : Int32) (o_way_wordBits : Int32) (o_way_limit : Int32) (o_way_radix : Int32) (o_way_order : Int32) (o_way_near : Int32) (o_way_seed : Int32) (o_way_stages : Int32) (o_beater_spareIm : Nat → Int32) (o_beater_spareRe : Nat → Int32) (o_beater_wingIm : Nat → Int32) (o_beater_wingRe : Nat → Int32) (o_trial_halved : Nat → Int32) (o_trial_im : Nat → Int32) (o_trial_re : Nat → Int32) (o_trialWay_shifts : Nat → Int32) (o_turns_cos : Nat → Int32) (o_turns_sin : Nat → Int32) (o_wave_wasIm : Nat → Int32) (o_wave_wasRe : Nat → Int32) : va_W := [(h_o, .inr (9, [.ref h_o_way, .ref h_o_wave, .ref h_o_past, .ref h_o_notes, .ref h_o_ring, .ref h_o_turns, .ref h_o_beater, .ref h_o_reader, .ref h_o_dice, .ref h_o_trialWay, .ref h_o_trial, .ref h_o_otherTrial, .ref h_o_sumsRe, .ref h_o_sumsIm, .ref h_o_tally, .ref h_o_image, .int o_imageKept, .ref h_o_tape, .int o_taped])), (h_o_beater, .inr (0, [.ref h_o_turns, .ref h_o_beater_spareRe, .ref h_o_beater_spareIm, .ref h_o_beater_wingRe, .ref h_o_beater_wingIm])), (h_o_trial, .inr (7, [.ref h_o_trial_re, .ref h_o_trial_im, .ref h_o_trial_wasRe, .ref h_o_trial_wasIm, .ref h_o_trial_halved, .int o_trial_exp, .int o_trial_done, .int o_trial_backward])), (h_o_trialWay, .inr (8, [.int o_trialWay_size, .int o_trialWay_log, .int o_trialWay_wordBits, .int o_trialWay_limit, .int o_trialWay_radix, .int o_trialWay_order, .int o_trialWay_near, .int o_trialWay_seed, .int o_trialWay_stages, .ref h_o_trialWay_shifts])), (h_o_turns, .inr (6, [.ref h_o_turns_cos, .ref h_o_turns_sin])), (h_o_wave, .inr (7, [.ref h_o_wave_re, .ref h_o_wave_im, .ref h_o_wave_wasRe, .ref h_o_wave_wasIm, .ref h_o_wave_halved, .int o_wave_exp, .int o_wave_done, .int o_wave_backward])), (h_o_way, .inr (8, [.int o_way_size, .int o_way_log, .int o_way_wordBits, .int o_way_limit, .int o_way_radix, .int o_way_order, .int o_way_near, .int o_way_seed, .int o_way_stages, .ref h_o_way_shifts])), (h_o_beater_spareIm, .inl (cI, 32, .inl o_beater_spareIm)), (h_o_beater_spareRe, .inl (cI, 32, .inl o_beater_spareRe)), (h_o_beater_wingIm, .inl (cI, 4, .inl o_beater_wingIm)), (h_o_beater_wingRe, .inl (cI, 4, .inl o_beater_wingRe)), (h_o_trial_halved, .inl (cI, 5, .inl o_trial_halved)), (h_o_trial_im, .inl (cI, 32, .inl o_trial_im)), (h_o_trial_re, .inl (cI, 32, .inl o_trial_re)), (h_o_trialWay_shifts, .inl (cI, 5, .inl o_trialWay_shifts)), (h_o_turns_cos, .inl (cI, 32, .inl o_turns_cos)), (h_o_turns_sin, .inl (cI, 32, .inl o_turns_sin)), (h_o_wave_wasIm, .inl (cI, 32, .inl o_wave_wasIm)), (h_o_wave_wasRe, .inl (cI, 32, .inl o_wave_wasRe))]
def fX9_expWithBits (o_trial_exp : Int32) (o_trial_done : Int32) (o_trial_backward : Int32) (o_trialWay_size : Int32) (o_trialWay_log : Int32) (o_trialWay_wordBits : Int32) (o_trialWay_limit : Int32) (o_trialWay_radix : Int32) (o_trialWay_order : Int32) (o_trialWay_near : Int32) (o_trialWay_seed : Int32) (o_trialWay_stages : Int32) (o_way_size : Int32) (o_way_log : Int32) (o_way_wordBits : Int32) (o_way_radix : Int32) (o_way_order : Int32) (o_way_near : Int32) (o_way_seed : Int32) (o_beater_spareIm : Nat → Int32) (o_beater_spareRe : Nat → Int32) (o_beater_wingIm : Nat → Int32) (o_beater_wingRe : Nat → Int32) (o_trial_halved : Nat → Int32) (o_trial_im : Nat → Int32) (o_trial_re : Nat → Int32) (o_trialWay_shifts : Nat → Int32) (o_turns_cos : Nat → Int32) (o_turns_sin : Nat → Int32) (o_wave_wasIm : Nat → Int32) (o_wave_wasRe : Nat → Int32) (p1 : Int32) : Option (Int32 × Int32 × Int32 × Int32 × Int32 × Int32 × Int32 × Int32 × Int32 × Int32 × Int32 × Int32 × Int32 × (Nat → Int32) × (Nat → Int32) × (Nat → Int32) × (Nat → Int32) × (Nat → Int32) × (Nat → Int32) × (Nat → Int32) × (Nat → Int32)) :=
  bd10 (fX8_copyFrom o_trialWay_size o_trialWay_log o_trialWay_wordBits o_trialWay_limit o_trialWay_radix o_trialWay_order o_trialWay_near o_trialWay_seed o_trialWay_stages o_way_size o_way_log o_way_wordBits o_way_radix o_way_order o_way_near o_way_seed o_trialWay_shifts) (fun o_trialWay_size_1 o_trialWay_log_2 o_trialWay_wordBits_3 o_trialWay_limit_4 o_trialWay_radix_5 o_trialWay_order_6 o_trialWay_near_7 o_trialWay_seed_8 o_trialWay_stages_9 o_trialWay_shifts_10 =>
  bd2 (fX8_takeBits o_trialWay_wordBits_3 o_trialWay_limit_4 p1) (fun o_trialWay_wordBits_12 o_trialWay_limit_13 =>
  bd5 (fX7_restartFrom o_trial_exp o_trial_done o_trial_backward o_wave_wasIm o_wave_wasRe o_trial_im o_trial_re) (fun o_trial_exp_15 o_trial_done_16 o_trial_backward_17 o_trial_im_18 o_trial_re_19 =>
  bd10 (fX0_doStages o_trial_exp_15 o_trial_done_16 o_trial_backward_17 o_trialWay_size_1 o_trialWay_log_2 o_trialWay_limit_13 o_trialWay_order_6 o_trialWay_near_7 o_trialWay_stages_9 o_trial_halved o_trial_im_18 o_trial_re_19 o_trialWay_shifts_10 o_beater_spareIm o_beater_spareRe o_beater_wingIm o_beater_wingRe o_turns_cos o_turns_sin (5 : Int32) (1 : Int32)) (fun r_21 o_trial_exp_22 o_trial_done_23 o_trial_halved_24 o_trial_im_25 o_trial_re_26 o_beater_spareIm_27 o_beater_spareRe_28 o_beater_wingIm_29 o_beater_wingRe_30 =>
  some (r_21, o_trial_exp_22, o_trial_done_23, o_trial_backward_17, o_trialWay_size_1, o_trialWay_log_2, o_trialWay_wordBits_12, o_trialWay_limit_13, o_trialWay_radix_5, o_trialWay_order_6, o_trialWay_near_7, o_trialWay_seed_8, o_trialWay_stages_9, o_beater_spareIm_27, o_beater_spareRe_28, o_beater_wingIm_29, o_beater_wingRe_30, o_trial_halved_24, o_trial_im_25, o_trial_re_26, o_trialWay_shifts_10)))))
set_option maxHeartbeats 4000000 in
set_option maxRecDepth 100000 in
theorem tX9_expWithBits (l : Launch) (G : va_G) (cI cJ cZ : ClassId) (sz : Nat) (h_o h_o_beater h_o_trial h_o_trialWay h_o_turns h_o_wave h_o_way h_o_beater_spareIm h_o_beater_spareRe h_o_beater_wingIm h_o_beater_wingRe h_o_trial_halved h_o_trial_im h_o_trial_re h_o_trialWay_shifts h_o_turns_cos h_o_turns_sin h_o_wave_wasIm h_o_wave_wasRe h_o_past h_o_notes h_o_ring h_o_reader h_o_dice h_o_otherTrial h_o_sumsRe h_o_sumsIm h_o_tally h_o_image h_o_tape h_o_trial_wasRe h_o_trial_wasIm h_o_wave_re h_o_wave_im h_o_wave_halved h_o_way_shifts : Nat) (o_imageKept : Int32) (o_taped : Int32) (o_trial_exp : Int32) (o_trial_done : Int32) (o_trial_backward : Int32) (o_trialWay_size : Int32) (o_trialWay_log : Int32) (o_trialWay_wordBits : Int32) (o_trialWay_limit : Int32) (o_trialWay_radix : Int32) (o_trialWay_order : Int32) (o_trialWay_near : Int32) (o_trialWay_seed : Int32) (o_trialWay_stages : Int32) (o_wave_exp : Int32) (o_wave_done : Int32) (o_wave_backward : Int32) (o_way_size : Int32) (o_way_log : Int32) (o_way_wordBits : Int32) (o_way_limit : Int32) (o_way_radix : Int32) (o_way_order : Int32) (o_way_near : Int32) (o_way_seed : Int32) (o_way_stages : Int32) (o_beater_spareIm : Nat → Int32) (o_beater_spareRe : Nat → Int32) (o_beater_wingIm : Nat → Int32) (o_beater_wingRe : Nat → Int32) (o_trial_halved : Nat → Int32) (o_trial_im : Nat → Int32) (o_trial_re : Nat → Int32) (o_trialWay_shifts : Nat → Int32) (o_turns_cos : Nat → Int32) (o_turns_sin : Nat → Int32) (o_wave_wasIm : Nat → Int32) (o_wave_wasRe : Nat → Int32) (p1 : Int32) (r : Int32) (out_o_trial_exp : Int32) (out_o_trial_done : Int32) (out_o_trial_backward : Int32) (out_o_trialWay_size : Int32) (out_o_trialWay_log : Int32) (out_o_trialWay_wordBits : Int32) (out_o_trialWay_limit : Int32) (out_o_trialWay_radix : Int32) (out_o_trialWay_order : Int32) (out_o_trialWay_near : Int32) (out_o_trialWay_seed : Int32) (out_o_trialWay_stages : Int32) (out_o_beater_spareIm : Nat → Int32) (out_o_beater_spareRe : Nat → Int32) (out_o_beater_wingIm : Nat → Int32) (out_o_beater_wingRe : Nat → Int32) (out_o_trial_halved : Nat → Int32) (out_o_trial_im : Nat → Int32) (out_o_trial_re : Nat → Int32) (out_o_trialWay_shifts : Nat → Int32) (hf : fX9_expWithBits o_trial_exp o_trial_done o_trial_backward o_trialWay_size o_trialWay_log o_trialWay_wordBits o_trialWay_limit o_trialWay_radix o_trialWay_order o_trialWay_near o_trialWay_seed o_trialWay_stages o_way_size o_way_log o_way_wordBits o_way_radix o_way_order o_way_near o_way_seed o_beater_spareIm o_beater_spareRe o_beater_wingIm o_beater_wingRe o_trial_halved o_trial_im o_trial_re o_trialWay_shifts o_turns_cos o_turns_sin o_wave_wasIm o_wave_wasRe p1 = some (r, out_o_trial_exp, out_o_trial_done, out_o_trial_backward, out_o_trialWay_size, out_o_trialWay_log, out_o_trialWay_wordBits, out_o_trialWay_limit, out_o_trialWay_radix, out_o_trialWay_order, out_o_trialWay_near, out_o_trialWay_seed, out_o_trialWay_stages, out_o_beater_spareIm, out_o_beater_spareRe, out_o_beater_wingIm, out_o_beater_wingRe, out_o_trial_halved, out_o_trial_im, out_o_trial_re, out_o_trialWay_shifts)) : Met l yX9_expWithBits (Cond.code yX9_expWithBits cX9_expWithBits 2 (some .int) :: BIG) ({ frames := 6, cells := 0, slots := 0, locals := 166 } : Room) (cP G (TY3 cI cJ cZ) [.ref h_o, .int p1] sz (wX9_expWithBits cI cJ cZ h_o h_o_beater h_o_trial h_o_trialWay h_o_turns h_o_wave h_o_way h_o_beater_spareIm h_o_beater_spareRe h_o_beater_wingIm h_o_beater_wingRe h_o_trial_halved h_o_trial_im h_o_trial_re h_o_trialWay_shifts h_o_turns_cos h_o_turns_sin h_o_wave_wasIm h_o_wave_wasRe h_o_past h_o_notes h_o_ring h_o_reader h_o_dice h_o_otherTrial h_o_sumsRe h_o_sumsIm h_o_tally h_o_image h_o_tape h_o_trial_wasRe h_o_trial_wasIm h_o_wave_re h_o_wave_im h_o_wave_halved h_o_way_shifts o_imageKept o_taped o_trial_exp o_trial_done o_trial_backward o_trialWay_size o_trialWay_log o_trialWay_wordBits o_trialWay_limit o_trialWay_radix o_trialWay_order o_trialWay_near o_trialWay_seed o_trialWay_stages o_wave_exp o_wave_done o_wave_backward o_way_size o_way_log o_way_wordBits o_way_limit o_way_radix o_way_order o_way_near o_way_seed o_way_stages o_beater_spareIm o_beater_spareRe o_beater_wingIm o_beater_wingRe o_trial_halved o_trial_im o_trial_re o_trialWay_shifts o_turns_cos o_turns_sin o_wave_wasIm o_wave_wasRe)) (cQ G (TY3 cI cJ cZ) sz (wX9_expWithBits cI cJ cZ h_o h_o_beater h_o_trial h_o_trialWay h_o_turns h_o_wave h_o_way h_o_beater_spareIm h_o_beater_spareRe h_o_beater_wingIm h_o_beater_wingRe h_o_trial_halved h_o_trial_im h_o_trial_re h_o_trialWay_shifts h_o_turns_cos h_o_turns_sin h_o_wave_wasIm h_o_wave_wasRe h_o_past h_o_notes h_o_ring h_o_reader h_o_dice h_o_otherTrial h_o_sumsRe h_o_sumsIm h_o_tally h_o_image h_o_tape h_o_trial_wasRe h_o_trial_wasIm h_o_wave_re h_o_wave_im h_o_wave_halved h_o_way_shifts o_imageKept o_taped o_trial_exp o_trial_done o_trial_backward o_trialWay_size o_trialWay_log o_trialWay_wordBits o_trialWay_limit o_trialWay_radix o_trialWay_order o_trialWay_near o_trialWay_seed o_trialWay_stages o_wave_exp o_wave_done o_wave_backward o_way_size o_way_log o_way_wordBits o_way_limit o_way_radix o_way_order o_way_near o_way_seed o_way_stages o_beater_spareIm o_beater_spareRe o_beater_wingIm o_beater_wingRe o_trial_halved o_trial_im o_trial_re o_trialWay_shifts o_turns_cos o_turns_sin o_wave_wasIm o_wave_wasRe) (wX9_expWithBits cI cJ cZ h_o h_o_beater h_o_trial h_o_trialWay h_o_turns h_o_wave h_o_way h_o_beater_spareIm h_o_beater_spareRe h_o_beater_wingIm h_o_beater_wingRe h_o_trial_halved h_o_trial_im h_o_trial_re h_o_trialWay_shifts h_o_turns_cos h_o_turns_sin h_o_wave_wasIm h_o_wave_wasRe h_o_past h_o_notes h_o_ring h_o_reader h_o_dice h_o_otherTrial h_o_sumsRe h_o_sumsIm h_o_tally h_o_image h_o_tape h_o_trial_wasRe h_o_trial_wasIm h_o_wave_re h_o_wave_im h_o_wave_halved h_o_way_shifts o_imageKept o_taped out_o_trial_exp out_o_trial_done out_o_trial_backward out_o_trialWay_size out_o_trialWay_log out_o_trialWay_wordBits out_o_trialWay_limit out_o_trialWay_radix out_o_trialWay_order out_o_trialWay_near out_o_trialWay_seed out_o_trialWay_stages o_wave_exp o_wave_done o_wave_backward o_way_size o_way_log o_way_wordBits o_way_limit o_way_radix o_way_order o_way_near o_way_seed o_way_stages out_o_beater_spareIm out_o_beater_spareRe out_o_beater_wingIm out_o_beater_wingRe out_o_trial_halved out_o_trial_im out_o_trial_re out_o_trialWay_shifts o_turns_cos o_turns_sin o_wave_wasIm o_wave_wasRe) (some (.int r))) 0 0 (va_A (wX9_expWithBits cI cJ cZ h_o h_o_beater h_o_trial h_o_trialWay h_o_turns h_o_wave h_o_way h_o_beater_spareIm h_o_beater_spareRe h_o_beater_wingIm h_o_beater_wingRe h_o_trial_halved h_o_trial_im h_o_trial_re h_o_trialWay_shifts h_o_turns_cos h_o_turns_sin h_o_wave_wasIm h_o_wave_wasRe h_o_past h_o_notes h_o_ring h_o_reader h_o_dice h_o_otherTrial h_o_sumsRe h_o_sumsIm h_o_tally h_o_image h_o_tape h_o_trial_wasRe h_o_trial_wasIm h_o_wave_re h_o_wave_im h_o_wave_halved h_o_way_shifts o_imageKept o_taped o_trial_exp o_trial_done o_trial_backward o_trialWay_size o_trialWay_log o_trialWay_wordBits o_trialWay_limit o_trialWay_radix o_trialWay_order o_trialWay_near o_trialWay_seed o_trialWay_stages o_wave_exp o_wave_done o_wave_backward o_way_size o_way_log o_way_wordBits o_way_limit o_way_radix o_way_order o_way_near o_way_seed o_way_stages o_beater_spareIm o_beater_spareRe o_beater_wingIm o_beater_wingRe o_trial_halved o_trial_im o_trial_re o_trialWay_shifts o_turns_cos o_turns_sin o_wave_wasIm o_wave_wasRe) sz) := by
  refine met_i (cc := cX9_expWithBits) (maxL := 2) (plainFor_of_name (by decide)) (Nat.le_of_ble_eq_true rfl) (fun p e s m below meth c A ls Q hx hb hml hts hown hK hP hD hS hA hl hret => ?_)
  have hown : s.vm.findClass RX9 = some m.cls := hown
  have hl : lv_has ls 2 [(0, .ref h_o), (1, .int p1)] := hl
  unfold fX9_expWithBits at hf
  obtain ⟨H, eH⟩ : ∃ H, H = s.heap := ⟨_, rfl⟩
  obtain ⟨locs, elocs⟩ : ∃ z : List Loc, z = [] := ⟨_, rfl⟩
  have hP : va_P G vwCl (wX9_expWithBits cI cJ cZ h_o h_o_beater h_o_trial h_o_trialWay h_o_turns h_o_wave h_o_way h_o_beater_spareIm h_o_beater_spareRe h_o_beater_wingIm h_o_beater_wingRe h_o_trial_halved h_o_trial_im h_o_trial_re h_o_trialWay_shifts h_o_turns_cos h_o_turns_sin h_o_wave_wasIm h_o_wave_wasRe h_o_past h_o_notes h_o_ring h_o_reader h_o_dice h_o_otherTrial h_o_sumsRe h_o_sumsIm h_o_tally h_o_image h_o_tape h_o_trial_wasRe h_o_trial_wasIm h_o_wave_re h_o_wave_im h_o_wave_halved h_o_way_shifts o_imageKept o_taped o_trial_exp o_trial_done o_trial_backward o_trialWay_size o_trialWay_log o_trialWay_wordBits o_trialWay_limit o_trialWay_radix o_trialWay_order o_trialWay_near o_trialWay_seed o_trialWay_stages o_wave_exp o_wave_done o_wave_backward o_way_size o_way_log o_way_wordBits o_way_limit o_way_radix o_way_order o_way_near o_way_seed o_way_stages o_beater_spareIm o_beater_spareRe o_beater_wingIm o_beater_wingRe o_trial_halved o_trial_im o_trial_re o_trialWay_shifts o_turns_cos o_turns_sin o_wave_wasIm o_wave_wasRe) H := by rw [eH]; exact hP
  have hS : va_S A s.heap H locs := by rw [eH, elocs]; exact hS
  suffices hgo : W p l e ({ frames := 6, cells := 0, slots := 0, locals := 166 } : Room) s m ([.ref h_o, .int p1] : List Value).toArray below meth c H locs 0 0 Q (F0 m 0 ls []) by rw [eH, elocs] at hgo; exact hgo
  clear eH elocs
  refine lv_aload_n hx hb dX9_expWithBits_0 rfl (lv_at hl 0 rfl) ?_
  refine rd (ci := 9) (C := RX9) (T := TX9) (N := 19) hx hb hts inX9 hown hK hP 0 9 rfl rfl (by decide) (hts _ q_fX9_74) rfl dX9_expWithBits_1 ?_
  refine lv_aload_n hx hb dX9_expWithBits_4 rfl (lv_at hl 0 rfl) ?_
  refine rd (ci := 9) (C := RX9) (T := TX9) (N := 19) hx hb hts inX9 hown hK hP 0 0 rfl rfl (by decide) (hts _ q_fX9_10) rfl dX9_expWithBits_5 ?_
  obtain ⟨o_trialWay_size_1, o_trialWay_log_2, o_trialWay_wordBits_3, o_trialWay_limit_4, o_trialWay_radix_5, o_trialWay_order_6, o_trialWay_near_7, o_trialWay_seed_8, o_trialWay_stages_9, o_trialWay_shifts_10, e_11, hf⟩ := bd10_x hf
  refine call_v [.ref h_o_way] [] ⟨hx, hb, hml, hown, hts⟩ hK hP hD hS hA hl.1 (tX8_copyFrom l G cI cJ cZ H.size h_o_trialWay h_o_way h_o_trialWay_shifts h_o_way_shifts o_trialWay_size o_trialWay_log o_trialWay_wordBits o_trialWay_limit o_trialWay_radix o_trialWay_order o_trialWay_near o_trialWay_seed o_trialWay_stages o_way_size o_way_log o_way_wordBits o_way_limit o_way_radix o_way_order o_way_near o_way_seed o_way_stages o_trialWay_shifts o_trialWay_size_1 o_trialWay_log_2 o_trialWay_wordBits_3 o_trialWay_limit_4 o_trialWay_radix_5 o_trialWay_order_6 o_trialWay_near_7 o_trialWay_seed_8 o_trialWay_stages_9 o_trialWay_shifts_10 e_11) (cwV 1 hts (gv q_mX9_132 q_i_yX8_copyFrom q_s_yX8_copyFrom q_n_RX8 q_k_yX8_copyFrom) rfl rfl rfl (by decide +kernel) ⟨by decide, by decide⟩) rfl rfl (Nat.le_of_ble_eq_true rfl) dX9_expWithBits_8 ⟨Nat.zero_le _, Nat.zero_le _⟩ (ci := 8) rfl 0 rfl [3, 6, 14] [0, 1, 2, 4, 5, 7, 8, 9, 10, 11, 12, 13, 15, 16, 17, 18] [0, 1, 2, 16, 3, 4, 17, 5, 6, 7, 8, 9, 10, 11, 18, 12, 13, 14, 15] rfl rfl (ws2 := (wX9_expWithBits cI cJ cZ h_o h_o_beater h_o_trial h_o_trialWay h_o_turns h_o_wave h_o_way h_o_beater_spareIm h_o_beater_spareRe h_o_beater_wingIm h_o_beater_wingRe h_o_trial_halved h_o_trial_im h_o_trial_re h_o_trialWay_shifts h_o_turns_cos h_o_turns_sin h_o_wave_wasIm h_o_wave_wasRe h_o_past h_o_notes h_o_ring h_o_reader h_o_dice h_o_otherTrial h_o_sumsRe h_o_sumsIm h_o_tally h_o_image h_o_tape h_o_trial_wasRe h_o_trial_wasIm h_o_wave_re h_o_wave_im h_o_wave_halved h_o_way_shifts o_imageKept o_taped o_trial_exp o_trial_done o_trial_backward o_trialWay_size_1 o_trialWay_log_2 o_trialWay_wordBits_3 o_trialWay_limit_4 o_trialWay_radix_5 o_trialWay_order_6 o_trialWay_near_7 o_trialWay_seed_8 o_trialWay_stages_9 o_wave_exp o_wave_done o_wave_backward o_way_size o_way_log o_way_wordBits o_way_limit o_way_radix o_way_order o_way_near o_way_seed o_way_stages o_beater_spareIm o_beater_spareRe o_beater_wingIm o_beater_wingRe o_trial_halved o_trial_im o_trial_re o_trialWay_shifts_10 o_turns_cos o_turns_sin o_wave_wasIm o_wave_wasRe)) rfl (fun H locs hP hD hS => ?_)
  refine W.eq (g2 := F0 m 11 ls []) rfl ?_
  refine lv_aload_n hx hb dX9_expWithBits_11 rfl (lv_at hl 0 rfl) ?_
  refine rd (ci := 9) (C := RX9) (T := TX9) (N := 19) hx hb hts inX9 hown hK hP 0 9 rfl rfl (by decide) (hts _ q_fX9_74) rfl dX9_expWithBits_12 ?_
  refine lv_iload_n hx hb dX9_expWithBits_15 rfl (lv_at hl 1 rfl) ?_
  obtain ⟨o_trialWay_wordBits_12, o_trialWay_limit_13, e_14, hf⟩ := bd2_x hf
  refine call_v [.int p1] [] ⟨hx, hb, hml, hown, hts⟩ hK hP hD hS hA hl.1 (tX8_takeBits l G cI cJ cZ H.size h_o_trialWay h_o_trialWay_shifts o_trialWay_size_1 o_trialWay_log_2 o_trialWay_wordBits_3 o_trialWay_limit_4 o_trialWay_radix_5 o_trialWay_order_6 o_trialWay_near_7 o_trialWay_seed_8 o_trialWay_stages_9 p1 o_trialWay_wordBits_12 o_trialWay_limit_13 e_14) (cwV 1 hts (gv q_mX9_295 q_i_yX8_takeBits q_s_yX8_takeBits q_n_RX8 q_k_yX8_takeBits) rfl rfl rfl (by decide +kernel) ⟨by decide, by decide⟩) rfl rfl (Nat.le_of_ble_eq_true rfl) dX9_expWithBits_16 ⟨Nat.zero_le _, Nat.zero_le _⟩ (ci := 8) rfl 0 rfl [3] [0, 1, 2, 4, 5, 6, 7, 8, 9, 10, 11, 12, 13, 14, 15, 16, 17, 18] [0, 1, 2, 18, 3, 4, 5, 6, 7, 8, 9, 10, 11, 12, 13, 14, 15, 16, 17] rfl rfl (ws2 := (wX9_expWithBits cI cJ cZ h_o h_o_beater h_o_trial h_o_trialWay h_o_turns h_o_wave h_o_way h_o_beater_spareIm h_o_beater_spareRe h_o_beater_wingIm h_o_beater_wingRe h_o_trial_halved h_o_trial_im h_o_trial_re h_o_trialWay_shifts h_o_turns_cos h_o_turns_sin h_o_wave_wasIm h_o_wave_wasRe h_o_past h_o_notes h_o_ring h_o_reader h_o_dice h_o_otherTrial h_o_sumsRe h_o_sumsIm h_o_tally h_o_image h_o_tape h_o_trial_wasRe h_o_trial_wasIm h_o_wave_re h_o_wave_im h_o_wave_halved h_o_way_shifts o_imageKept o_taped o_trial_exp o_trial_done o_trial_backward o_trialWay_size_1 o_trialWay_log_2 o_trialWay_wordBits_12 o_trialWay_limit_13 o_trialWay_radix_5 o_trialWay_order_6 o_trialWay_near_7 o_trialWay_seed_8 o_trialWay_stages_9 o_wave_exp o_wave_done o_wave_backward o_way_size o_way_log o_way_wordBits o_way_limit o_way_radix o_way_order o_way_near o_way_seed o_way_stages o_beater_spareIm o_beater_spareRe o_beater_wingIm o_beater_wingRe o_trial_halved o_trial_im o_trial_re o_trialWay_shifts_10 o_turns_cos o_turns_sin o_wave_wasIm o_wave_wasRe)) rfl (fun H locs hP hD hS => ?_)
  refine W.eq (g2 := F0 m 19 ls []) rfl ?_
  refine lv_aload_n hx hb dX9_expWithBits_19 rfl (lv_at hl 0 rfl) ?_
  refine rd (ci := 9) (C := RX9) (T := TX9) (N := 19) hx hb hts inX9 hown hK hP 0 10 rfl rfl (by decide) (hts _ q_fX9_77) rfl dX9_expWithBits_20 ?_
  refine lv_aload_n hx hb dX9_expWithBits_23 rfl (lv_at hl 0 rfl) ?_
  refine rd (ci := 9) (C := RX9) (T := TX9) (N := 19) hx hb hts inX9 hown hK hP 0 1 rfl rfl (by decide) (hts _ q_fX9_19) rfl dX9_expWithBits_24 ?_
  obtain ⟨o_trial_exp_15, o_trial_done_16, o_trial_backward_17, o_trial_im_18, o_trial_re_19, e_20, hf⟩ := bd5_x hf
  refine call_v [.ref h_o_wave] [] ⟨hx, hb, hml, hown, hts⟩ hK hP hD hS hA hl.1 (tX7_restartFrom l G cI cJ cZ H.size h_o_trial h_o_wave h_o_wave_wasIm h_o_wave_wasRe h_o_trial_im h_o_trial_re h_o_trial_wasRe h_o_trial_wasIm h_o_trial_halved h_o_wave_re h_o_wave_im h_o_wave_halved o_trial_exp o_trial_done o_trial_backward o_wave_exp o_wave_done o_wave_backward o_wave_wasIm o_wave_wasRe o_trial_im o_trial_re o_trial_exp_15 o_trial_done_16 o_trial_backward_17 o_trial_im_18 o_trial_re_19 e_20) (cwV 1 hts (gv q_mX9_298 q_i_yX7_restartFrom q_s_yX7_restartFrom q_n_RX7 q_k_yX7_restartFrom) rfl rfl rfl (by decide +kernel) ⟨by decide, by decide⟩) rfl rfl (Nat.le_of_ble_eq_true rfl) dX9_expWithBits_27 ⟨Nat.zero_le _, Nat.zero_le _⟩ (ci := 7) rfl 0 rfl [2, 5, 17, 18, 12, 13] [0, 1, 3, 4, 6, 7, 8, 9, 10, 11, 14, 15, 16] [0, 1, 13, 2, 3, 14, 4, 5, 6, 7, 8, 9, 17, 18, 10, 11, 12, 15, 16] rfl rfl (ws2 := (wX9_expWithBits cI cJ cZ h_o h_o_beater h_o_trial h_o_trialWay h_o_turns h_o_wave h_o_way h_o_beater_spareIm h_o_beater_spareRe h_o_beater_wingIm h_o_beater_wingRe h_o_trial_halved h_o_trial_im h_o_trial_re h_o_trialWay_shifts h_o_turns_cos h_o_turns_sin h_o_wave_wasIm h_o_wave_wasRe h_o_past h_o_notes h_o_ring h_o_reader h_o_dice h_o_otherTrial h_o_sumsRe h_o_sumsIm h_o_tally h_o_image h_o_tape h_o_trial_wasRe h_o_trial_wasIm h_o_wave_re h_o_wave_im h_o_wave_halved h_o_way_shifts o_imageKept o_taped o_trial_exp_15 o_trial_done_16 o_trial_backward_17 o_trialWay_size_1 o_trialWay_log_2 o_trialWay_wordBits_12 o_trialWay_limit_13 o_trialWay_radix_5 o_trialWay_order_6 o_trialWay_near_7 o_trialWay_seed_8 o_trialWay_stages_9 o_wave_exp o_wave_done o_wave_backward o_way_size o_way_log o_way_wordBits o_way_limit o_way_radix o_way_order o_way_near o_way_seed o_way_stages o_beater_spareIm o_beater_spareRe o_beater_wingIm o_beater_wingRe o_trial_halved o_trial_im_18 o_trial_re_19 o_trialWay_shifts_10 o_turns_cos o_turns_sin o_wave_wasIm o_wave_wasRe)) rfl (fun H locs hP hD hS => ?_)
  refine W.eq (g2 := F0 m 30 ls []) rfl ?_
  refine lv_aload_n hx hb dX9_expWithBits_30 rfl (lv_at hl 0 rfl) ?_
  refine rd (ci := 9) (C := RX9) (T := TX9) (N := 19) hx hb hts inX9 hown hK hP 0 6 rfl rfl (by decide) (hts _ q_fX9_56) rfl dX9_expWithBits_31 ?_
  refine lv_aload_n hx hb dX9_expWithBits_34 rfl (lv_at hl 0 rfl) ?_
  refine rd (ci := 9) (C := RX9) (T := TX9) (N := 19) hx hb hts inX9 hown hK hP 0 10 rfl rfl (by decide) (hts _ q_fX9_77) rfl dX9_expWithBits_35 ?_
  refine lv_aload_n hx hb dX9_expWithBits_38 rfl (lv_at hl 0 rfl) ?_
  refine rd (ci := 9) (C := RX9) (T := TX9) (N := 19) hx hb hts inX9 hown hK hP 0 9 rfl rfl (by decide) (hts _ q_fX9_74) rfl dX9_expWithBits_39 ?_
  refine lv_iconst (v := (5 : Int32)) hx hb dX9_expWithBits_42 (by decide) ?_
  refine lv_iconst (v := (1 : Int32)) hx hb dX9_expWithBits_43 (by decide) ?_
  obtain ⟨r_21, o_trial_exp_22, o_trial_done_23, o_trial_halved_24, o_trial_im_25, o_trial_re_26, o_beater_spareIm_27, o_beater_spareRe_28, o_beater_wingIm_29, o_beater_wingRe_30, e_31, hf⟩ := bd10_x hf
  refine call_v [.ref h_o_trial, .ref h_o_trialWay, .int (5 : Int32), .int (1 : Int32)] [] ⟨hx, hb, hml, hown, hts⟩ hK hP hD hS hA hl.1 (tX0_doStages l G cI cJ cZ H.size h_o_beater h_o_trial h_o_trialWay h_o_trial_halved h_o_trial_im h_o_trial_re h_o_trialWay_shifts h_o_beater_spareIm h_o_beater_spareRe h_o_turns h_o_beater_wingIm h_o_beater_wingRe h_o_turns_cos h_o_turns_sin h_o_trial_wasRe h_o_trial_wasIm o_trial_exp_15 o_trial_done_16 o_trial_backward_17 o_trialWay_size_1 o_trialWay_log_2 o_trialWay_wordBits_12 o_trialWay_limit_13 o_trialWay_radix_5 o_trialWay_order_6 o_trialWay_near_7 o_trialWay_seed_8 o_trialWay_stages_9 o_trial_halved o_trial_im_18 o_trial_re_19 o_trialWay_shifts_10 o_beater_spareIm o_beater_spareRe o_beater_wingIm o_beater_wingRe o_turns_cos o_turns_sin (5 : Int32) (1 : Int32) r_21 o_trial_exp_22 o_trial_done_23 o_trial_halved_24 o_trial_im_25 o_trial_re_26 o_beater_spareIm_27 o_beater_spareRe_28 o_beater_wingIm_29 o_beater_wingRe_30 e_31) (cwV 4 hts (gv q_mX9_282 q_i_yX0_doStages q_s_yX0_doStages q_n_RX0 q_k_yX0_doStages) rfl rfl rfl (by decide +kernel) ⟨by decide, by decide⟩) rfl rfl (Nat.le_of_ble_eq_true rfl) dX9_expWithBits_44 ⟨Nat.zero_le _, Nat.zero_le _⟩ (ci := 0) rfl 0 rfl [1, 2, 3, 11, 12, 13, 14, 7, 8, 4, 9, 10, 15, 16] [0, 5, 6, 17, 18] [0, 5, 6, 7, 14, 1, 2, 12, 13, 15, 16, 8, 9, 10, 11, 17, 18, 3, 4] rfl rfl (ws2 := (wX9_expWithBits cI cJ cZ h_o h_o_beater h_o_trial h_o_trialWay h_o_turns h_o_wave h_o_way h_o_beater_spareIm h_o_beater_spareRe h_o_beater_wingIm h_o_beater_wingRe h_o_trial_halved h_o_trial_im h_o_trial_re h_o_trialWay_shifts h_o_turns_cos h_o_turns_sin h_o_wave_wasIm h_o_wave_wasRe h_o_past h_o_notes h_o_ring h_o_reader h_o_dice h_o_otherTrial h_o_sumsRe h_o_sumsIm h_o_tally h_o_image h_o_tape h_o_trial_wasRe h_o_trial_wasIm h_o_wave_re h_o_wave_im h_o_wave_halved h_o_way_shifts o_imageKept o_taped o_trial_exp_22 o_trial_done_23 o_trial_backward_17 o_trialWay_size_1 o_trialWay_log_2 o_trialWay_wordBits_12 o_trialWay_limit_13 o_trialWay_radix_5 o_trialWay_order_6 o_trialWay_near_7 o_trialWay_seed_8 o_trialWay_stages_9 o_wave_exp o_wave_done o_wave_backward o_way_size o_way_log o_way_wordBits o_way_limit o_way_radix o_way_order o_way_near o_way_seed o_way_stages o_beater_spareIm_27 o_beater_spareRe_28 o_beater_wingIm_29 o_beater_wingRe_30 o_trial_halved_24 o_trial_im_25 o_trial_re_26 o_trialWay_shifts_10 o_turns_cos o_turns_sin o_wave_wasIm o_wave_wasRe)) rfl (fun H locs hP hD hS => ?_)
  refine W.eq (g2 := F0 m 47 ls [.int r_21]) rfl ?_
  cases hf
  exact hret _ _ _ _ dX9_expWithBits_47 hP hD hS
def wX9_bits (cI cJ cZ : ClassId) (h_o h_o_beater h_o_trial h_o_trialWay h_o_turns h_o_wave h_o_way h_o_beater_spareIm h_o_beater_spareRe h_o_beater_wingIm h_o_beater_wingRe h_o_trial_halved h_o_trial_im h_o_trial_re h_o_trialWay_shifts h_o_turns_cos h_o_turns_sin h_o_wave_wasIm h_o_wave_wasRe h_o_past h_o_notes h_o_ring h_o_reader h_o_dice h_o_otherTrial h_o_sumsRe h_o_sumsIm h_o_tally h_o_image h_o_tape h_o_trial_wasRe h_o_trial_wasIm h_o_wave_re h_o_wave_im h_o_wave_halved h_o_way_shifts : Nat) (o_imageKept : Int32) (o_taped : Int32) (o_trial_exp : Int32) (o_trial_done : Int32) (o_trial_backward : Int32) (o_trialWay_size : Int32) (o_trialWay_log : Int32) (o_trialWay_wordBits : Int32) (o_trialWay_limit : Int32) (o_trialWay_radix : Int32) (o_trialWay_order : Int32) (o_trialWay_near : Int32) (o_trialWay_seed : Int32) (o_trialWay_stages : Int32) (o_wave_exp : Int32) (o_wave_done : Int32) (o_wave_backward : Int32) (o_way_size : Int32) (o_way_log : Int32) (o_way_wordBits : Int32) (o_way_limit : Int32) (o_way_radix : Int32) (o_way_order : Int32) (o_way_near : Int32) (o_way_seed : Int32) (o_way_stages : Int32) (o_beater_spareIm : Nat → Int32) (o_beater_spareRe : Nat → Int32) (o_beater_wingIm : Nat → Int32) (o_beater_wingRe : Nat → Int32) (o_trial_halved : Nat → Int32) (o_trial_im : Nat → Int32) (o_trial_re : Nat → Int32) (o_trialWay_shifts : Nat → Int32) (o_turns_cos : Nat → Int32) (o_turns_sin : Nat → Int32) (o_wave_wasIm : Nat → Int32) (o_wave_wasRe : Nat → Int32) : va_W := [(h_o, .inr (9, [.ref h_o_way, .ref h_o_wave, .ref h_o_past, .ref h_o_notes, .ref h_o_ring, .ref h_o_turns, .ref h_o_beater, .ref h_o_reader, .ref h_o_dice, .ref h_o_trialWay, .ref h_o_trial, .ref h_o_otherTrial, .ref h_o_sumsRe, .ref h_o_sumsIm, .ref h_o_tally, .ref h_o_image, .int o_imageKept, .ref h_o_tape, .int o_taped])), (h_o_beater, .inr (0, [.ref h_o_turns, .ref h_o_beater_spareRe, .ref h_o_beater_spareIm, .ref h_o_beater_wingRe, .ref h_o_beater_wingIm])), (h_o_trial, .inr (7, [.ref h_o_trial_re, .ref h_o_trial_im, .ref h_o_trial_wasRe, .ref h_o_trial_wasIm, .ref h_o_trial_halved, .int o_trial_exp, .int o_trial_done, .int o_trial_backward])), (h_o_trialWay, .inr (8, [.int o_trialWay_size, .int o_trialWay_log, .int o_trialWay_wordBits, .int o_trialWay_limit, .int o_trialWay_radix, .int o_trialWay_order, .int o_trialWay_near, .int o_trialWay_seed, .int o_trialWay_stages, .ref h_o_trialWay_shifts])), (h_o_turns, .inr (6, [.ref h_o_turns_cos, .ref h_o_turns_sin])), (h_o_wave, .inr (7, [.ref h_o_wave_re, .ref h_o_wave_im, .ref h_o_wave_wasRe, .ref h_o_wave_wasIm, .ref h_o_wave_halved, .int o_wave_exp, .int o_wave_done, .int o_wave_backward])), (h_o_way, .inr (8, [.int o_way_size, .int o_way_log, .int o_way_wordBits, .int o_way_limit, .int o_way_radix, .int o_way_order, .int o_way_near, .int o_way_seed, .int o_way_stages, .ref h_o_way_shifts])), (h_o_beater_spareIm, .inl (cI, 32, .inl o_beater_spareIm)), (h_o_beater_spareRe, .inl (cI, 32, .inl o_beater_spareRe)), (h_o_beater_wingIm, .inl (cI, 4, .inl o_beater_wingIm)), (h_o_beater_wingRe, .inl (cI, 4, .inl o_beater_wingRe)), (h_o_trial_halved, .inl (cI, 5, .inl o_trial_halved)), (h_o_trial_im, .inl (cI, 32, .inl o_trial_im)), (h_o_trial_re, .inl (cI, 32, .inl o_trial_re)), (h_o_trialWay_shifts, .inl (cI, 5, .inl o_trialWay_shifts)), (h_o_turns_cos, .inl (cI, 32, .inl o_turns_cos)), (h_o_turns_sin, .inl (cI, 32, .inl o_turns_sin)), (h_o_wave_wasIm, .inl (cI, 32, .inl o_wave_wasIm)), (h_o_wave_wasRe, .inl (cI, 32, .inl o_wave_wasRe))]
def fX9_bits_3 (o_way_size : Int32) (o_way_log : Int32) (o_way_wordBits : Int32) (o_way_radix : Int32) (o_way_order : Int32) (o_way_near : Int32) (o_way_seed : Int32) (o_turns_cos : Nat → Int32) (o_turns_sin : Nat → Int32) (o_wave_wasIm : Nat → Int32) (o_wave_wasRe : Nat → Int32) : Nat → Int32 → Int32 → Int32 → Int32 → Int32 → Int32 → Int32 → Int32 → Int32 → Int32 → Int32 → Int32 → (Nat → Int32) → (Nat → Int32) → (Nat → Int32) → (Nat → Int32) → (Nat → Int32) → (Nat → Int32) → (Nat → Int32) → (Nat → Int32) → Int32 → Option (Int32 × Int32 × Int32 × Int32 × Int32 × Int32 × Int32 × Int32 × Int32 × Int32 × Int32 × Int32 × Int32 × (Nat → Int32) × (Nat → Int32) × (Nat → Int32) × (Nat → Int32) × (Nat → Int32) × (Nat → Int32) × (Nat → Int32) × (Nat → Int32))
  | 0, _, _, _, _, _, _, _, _, _, _, _, _, _, _, _, _, _, _, _, _, _ => none
  | n + 1, o_trial_exp, o_trial_done, o_trial_backward, o_trialWay_size, o_trialWay_log, o_trialWay_wordBits, o_trialWay_limit, o_trialWay_radix, o_trialWay_order, o_trialWay_near, o_trialWay_seed, o_trialWay_stages, o_beater_spareIm, o_beater_spareRe, o_beater_wingIm, o_beater_wingRe, o_trial_halved, o_trial_im, o_trial_re, o_trialWay_shifts, v1 =>
    if (16 : Int32) < v1 then (
      some ((-2 : Int32), o_trial_exp, o_trial_done, o_trial_backward, o_trialWay_size, o_trialWay_log, o_trialWay_wordBits, o_trialWay_limit, o_trialWay_radix, o_trialWay_order, o_trialWay_near, o_trialWay_seed, o_trialWay_stages, o_beater_spareIm, o_beater_spareRe, o_beater_wingIm, o_beater_wingRe, o_trial_halved, o_trial_im, o_trial_re, o_trialWay_shifts)
    ) else (
      bd21 (fX9_expWithBits o_trial_exp o_trial_done o_trial_backward o_trialWay_size o_trialWay_log o_trialWay_wordBits o_trialWay_limit o_trialWay_radix o_trialWay_order o_trialWay_near o_trialWay_seed o_trialWay_stages o_way_size o_way_log o_way_wordBits o_way_radix o_way_order o_way_near o_way_seed o_beater_spareIm o_beater_spareRe o_beater_wingIm o_beater_wingRe o_trial_halved o_trial_im o_trial_re o_trialWay_shifts o_turns_cos o_turns_sin o_wave_wasIm o_wave_wasRe v1) (fun r_2 o_trial_exp_3 o_trial_done_4 o_trial_backward_5 o_trialWay_size_6 o_trialWay_log_7 o_trialWay_wordBits_8 o_trialWay_limit_9 o_trialWay_radix_10 o_trialWay_order_11 o_trialWay_near_12 o_trialWay_seed_13 o_trialWay_stages_14 o_beater_spareIm_15 o_beater_spareRe_16 o_beater_wingIm_17 o_beater_wingRe_18 o_trial_halved_19 o_trial_im_20 o_trial_re_21 o_trialWay_shifts_22 =>
      if r_2 = 0 then (
        some (v1, o_trial_exp_3, o_trial_done_4, o_trial_backward_5, o_trialWay_size_6, o_trialWay_log_7, o_trialWay_wordBits_8, o_trialWay_limit_9, o_trialWay_radix_10, o_trialWay_order_11, o_trialWay_near_12, o_trialWay_seed_13, o_trialWay_stages_14, o_beater_spareIm_15, o_beater_spareRe_16, o_beater_wingIm_17, o_beater_wingRe_18, o_trial_halved_19, o_trial_im_20, o_trial_re_21, o_trialWay_shifts_22)
      ) else (
        nm (v1 + (1 : Int32)) (fun v1_25 =>
        fX9_bits_3 o_way_size o_way_log o_way_wordBits o_way_radix o_way_order o_way_near o_way_seed o_turns_cos o_turns_sin o_wave_wasIm o_wave_wasRe n o_trial_exp_3 o_trial_done_4 o_trial_backward_5 o_trialWay_size_6 o_trialWay_log_7 o_trialWay_wordBits_8 o_trialWay_limit_9 o_trialWay_radix_10 o_trialWay_order_11 o_trialWay_near_12 o_trialWay_seed_13 o_trialWay_stages_14 o_beater_spareIm_15 o_beater_spareRe_16 o_beater_wingIm_17 o_beater_wingRe_18 o_trial_halved_19 o_trial_im_20 o_trial_re_21 o_trialWay_shifts_22 v1_25)
      ))
    )
def fX9_bits (o_trial_exp : Int32) (o_trial_done : Int32) (o_trial_backward : Int32) (o_trialWay_size : Int32) (o_trialWay_log : Int32) (o_trialWay_wordBits : Int32) (o_trialWay_limit : Int32) (o_trialWay_radix : Int32) (o_trialWay_order : Int32) (o_trialWay_near : Int32) (o_trialWay_seed : Int32) (o_trialWay_stages : Int32) (o_way_size : Int32) (o_way_log : Int32) (o_way_wordBits : Int32) (o_way_radix : Int32) (o_way_order : Int32) (o_way_near : Int32) (o_way_seed : Int32) (o_beater_spareIm : Nat → Int32) (o_beater_spareRe : Nat → Int32) (o_beater_wingIm : Nat → Int32) (o_beater_wingRe : Nat → Int32) (o_trial_halved : Nat → Int32) (o_trial_im : Nat → Int32) (o_trial_re : Nat → Int32) (o_trialWay_shifts : Nat → Int32) (o_turns_cos : Nat → Int32) (o_turns_sin : Nat → Int32) (o_wave_wasIm : Nat → Int32) (o_wave_wasRe : Nat → Int32) : Option (Int32 × Int32 × Int32 × Int32 × Int32 × Int32 × Int32 × Int32 × Int32 × Int32 × Int32 × Int32 × Int32 × (Nat → Int32) × (Nat → Int32) × (Nat → Int32) × (Nat → Int32) × (Nat → Int32) × (Nat → Int32) × (Nat → Int32) × (Nat → Int32)) :=
  fX9_bits_3 o_way_size o_way_log o_way_wordBits o_way_radix o_way_order o_way_near o_way_seed o_turns_cos o_turns_sin o_wave_wasIm o_wave_wasRe FU o_trial_exp o_trial_done o_trial_backward o_trialWay_size o_trialWay_log o_trialWay_wordBits o_trialWay_limit o_trialWay_radix o_trialWay_order o_trialWay_near o_trialWay_seed o_trialWay_stages o_beater_spareIm o_beater_spareRe o_beater_wingIm o_beater_wingRe o_trial_halved o_trial_im o_trial_re o_trialWay_shifts (8 : Int32)
set_option maxHeartbeats 4000000 in
set_option maxRecDepth 100000 in
theorem tX9_bits (l : Launch) (G : va_G) (cI cJ cZ : ClassId) (sz : Nat) (h_o h_o_beater h_o_trial h_o_trialWay h_o_turns h_o_wave h_o_way h_o_beater_spareIm h_o_beater_spareRe h_o_beater_wingIm h_o_beater_wingRe h_o_trial_halved h_o_trial_im h_o_trial_re h_o_trialWay_shifts h_o_turns_cos h_o_turns_sin h_o_wave_wasIm h_o_wave_wasRe h_o_past h_o_notes h_o_ring h_o_reader h_o_dice h_o_otherTrial h_o_sumsRe h_o_sumsIm h_o_tally h_o_image h_o_tape h_o_trial_wasRe h_o_trial_wasIm h_o_wave_re h_o_wave_im h_o_wave_halved h_o_way_shifts : Nat) (o_imageKept : Int32) (o_taped : Int32) (o_trial_exp : Int32) (o_trial_done : Int32) (o_trial_backward : Int32) (o_trialWay_size : Int32) (o_trialWay_log : Int32) (o_trialWay_wordBits : Int32) (o_trialWay_limit : Int32) (o_trialWay_radix : Int32) (o_trialWay_order : Int32) (o_trialWay_near : Int32) (o_trialWay_seed : Int32) (o_trialWay_stages : Int32) (o_wave_exp : Int32) (o_wave_done : Int32) (o_wave_backward : Int32) (o_way_size : Int32) (o_way_log : Int32) (o_way_wordBits : Int32) (o_way_limit : Int32) (o_way_radix : Int32) (o_way_order : Int32) (o_way_near : Int32) (o_way_seed : Int32) (o_way_stages : Int32) (o_beater_spareIm : Nat → Int32) (o_beater_spareRe : Nat → Int32) (o_beater_wingIm : Nat → Int32) (o_beater_wingRe : Nat → Int32) (o_trial_halved : Nat → Int32) (o_trial_im : Nat → Int32) (o_trial_re : Nat → Int32) (o_trialWay_shifts : Nat → Int32) (o_turns_cos : Nat → Int32) (o_turns_sin : Nat → Int32) (o_wave_wasIm : Nat → Int32) (o_wave_wasRe : Nat → Int32) (r : Int32) (out_o_trial_exp : Int32) (out_o_trial_done : Int32) (out_o_trial_backward : Int32) (out_o_trialWay_size : Int32) (out_o_trialWay_log : Int32) (out_o_trialWay_wordBits : Int32) (out_o_trialWay_limit : Int32) (out_o_trialWay_radix : Int32) (out_o_trialWay_order : Int32) (out_o_trialWay_near : Int32) (out_o_trialWay_seed : Int32) (out_o_trialWay_stages : Int32) (out_o_beater_spareIm : Nat → Int32) (out_o_beater_spareRe : Nat → Int32) (out_o_beater_wingIm : Nat → Int32) (out_o_beater_wingRe : Nat → Int32) (out_o_trial_halved : Nat → Int32) (out_o_trial_im : Nat → Int32) (out_o_trial_re : Nat → Int32) (out_o_trialWay_shifts : Nat → Int32) (hf : fX9_bits o_trial_exp o_trial_done o_trial_backward o_trialWay_size o_trialWay_log o_trialWay_wordBits o_trialWay_limit o_trialWay_radix o_trialWay_order o_trialWay_near o_trialWay_seed o_trialWay_stages o_way_size o_way_log o_way_wordBits o_way_radix o_way_order o_way_near o_way_seed o_beater_spareIm o_beater_spareRe o_beater_wingIm o_beater_wingRe o_trial_halved o_trial_im o_trial_re o_trialWay_shifts o_turns_cos o_turns_sin o_wave_wasIm o_wave_wasRe = some (r, out_o_trial_exp, out_o_trial_done, out_o_trial_backward, out_o_trialWay_size, out_o_trialWay_log, out_o_trialWay_wordBits, out_o_trialWay_limit, out_o_trialWay_radix, out_o_trialWay_order, out_o_trialWay_near, out_o_trialWay_seed, out_o_trialWay_stages, out_o_beater_spareIm, out_o_beater_spareRe, out_o_beater_wingIm, out_o_beater_wingRe, out_o_trial_halved, out_o_trial_im, out_o_trial_re, out_o_trialWay_shifts)) : Met l yX9_bits (Cond.code yX9_bits cX9_bits 2 (some .int) :: BIG) ({ frames := 7, cells := 0, slots := 0, locals := 187 } : Room) (cP G (TY3 cI cJ cZ) [.ref h_o] sz (wX9_bits cI cJ cZ h_o h_o_beater h_o_trial h_o_trialWay h_o_turns h_o_wave h_o_way h_o_beater_spareIm h_o_beater_spareRe h_o_beater_wingIm h_o_beater_wingRe h_o_trial_halved h_o_trial_im h_o_trial_re h_o_trialWay_shifts h_o_turns_cos h_o_turns_sin h_o_wave_wasIm h_o_wave_wasRe h_o_past h_o_notes h_o_ring h_o_reader h_o_dice h_o_otherTrial h_o_sumsRe h_o_sumsIm h_o_tally h_o_image h_o_tape h_o_trial_wasRe h_o_trial_wasIm h_o_wave_re h_o_wave_im h_o_wave_halved h_o_way_shifts o_imageKept o_taped o_trial_exp o_trial_done o_trial_backward o_trialWay_size o_trialWay_log o_trialWay_wordBits o_trialWay_limit o_trialWay_radix o_trialWay_order o_trialWay_near o_trialWay_seed o_trialWay_stages o_wave_exp o_wave_done o_wave_backward o_way_size o_way_log o_way_wordBits o_way_limit o_way_radix o_way_order o_way_near o_way_seed o_way_stages o_beater_spareIm o_beater_spareRe o_beater_wingIm o_beater_wingRe o_trial_halved o_trial_im o_trial_re o_trialWay_shifts o_turns_cos o_turns_sin o_wave_wasIm o_wave_wasRe)) (cQ G (TY3 cI cJ cZ) sz (wX9_bits cI cJ cZ h_o h_o_beater h_o_trial h_o_trialWay h_o_turns h_o_wave h_o_way h_o_beater_spareIm h_o_beater_spareRe h_o_beater_wingIm h_o_beater_wingRe h_o_trial_halved h_o_trial_im h_o_trial_re h_o_trialWay_shifts h_o_turns_cos h_o_turns_sin h_o_wave_wasIm h_o_wave_wasRe h_o_past h_o_notes h_o_ring h_o_reader h_o_dice h_o_otherTrial h_o_sumsRe h_o_sumsIm h_o_tally h_o_image h_o_tape h_o_trial_wasRe h_o_trial_wasIm h_o_wave_re h_o_wave_im h_o_wave_halved h_o_way_shifts o_imageKept o_taped o_trial_exp o_trial_done o_trial_backward o_trialWay_size o_trialWay_log o_trialWay_wordBits o_trialWay_limit o_trialWay_radix o_trialWay_order o_trialWay_near o_trialWay_seed o_trialWay_stages o_wave_exp o_wave_done o_wave_backward o_way_size o_way_log o_way_wordBits o_way_limit o_way_radix o_way_order o_way_near o_way_seed o_way_stages o_beater_spareIm o_beater_spareRe o_beater_wingIm o_beater_wingRe o_trial_halved o_trial_im o_trial_re o_trialWay_shifts o_turns_cos o_turns_sin o_wave_wasIm o_wave_wasRe) (wX9_bits cI cJ cZ h_o h_o_beater h_o_trial h_o_trialWay h_o_turns h_o_wave h_o_way h_o_beater_spareIm h_o_beater_spareRe h_o_beater_wingIm h_o_beater_wingRe h_o_trial_halved h_o_trial_im h_o_trial_re h_o_trialWay_shifts h_o_turns_cos h_o_turns_sin h_o_wave_wasIm h_o_wave_wasRe h_o_past h_o_notes h_o_ring h_o_reader h_o_dice h_o_otherTrial h_o_sumsRe h_o_sumsIm h_o_tally h_o_image h_o_tape h_o_trial_wasRe h_o_trial_wasIm h_o_wave_re h_o_wave_im h_o_wave_halved h_o_way_shifts o_imageKept o_taped out_o_trial_exp out_o_trial_done out_o_trial_backward out_o_trialWay_size out_o_trialWay_log out_o_trialWay_wordBits out_o_trialWay_limit out_o_trialWay_radix out_o_trialWay_order out_o_trialWay_near out_o_trialWay_seed out_o_trialWay_stages o_wave_exp o_wave_done o_wave_backward o_way_size o_way_log o_way_wordBits o_way_limit o_way_radix o_way_order o_way_near o_way_seed o_way_stages out_o_beater_spareIm out_o_beater_spareRe out_o_beater_wingIm out_o_beater_wingRe out_o_trial_halved out_o_trial_im out_o_trial_re out_o_trialWay_shifts o_turns_cos o_turns_sin o_wave_wasIm o_wave_wasRe) (some (.int r))) 0 0 (va_A (wX9_bits cI cJ cZ h_o h_o_beater h_o_trial h_o_trialWay h_o_turns h_o_wave h_o_way h_o_beater_spareIm h_o_beater_spareRe h_o_beater_wingIm h_o_beater_wingRe h_o_trial_halved h_o_trial_im h_o_trial_re h_o_trialWay_shifts h_o_turns_cos h_o_turns_sin h_o_wave_wasIm h_o_wave_wasRe h_o_past h_o_notes h_o_ring h_o_reader h_o_dice h_o_otherTrial h_o_sumsRe h_o_sumsIm h_o_tally h_o_image h_o_tape h_o_trial_wasRe h_o_trial_wasIm h_o_wave_re h_o_wave_im h_o_wave_halved h_o_way_shifts o_imageKept o_taped o_trial_exp o_trial_done o_trial_backward o_trialWay_size o_trialWay_log o_trialWay_wordBits o_trialWay_limit o_trialWay_radix o_trialWay_order o_trialWay_near o_trialWay_seed o_trialWay_stages o_wave_exp o_wave_done o_wave_backward o_way_size o_way_log o_way_wordBits o_way_limit o_way_radix o_way_order o_way_near o_way_seed o_way_stages o_beater_spareIm o_beater_spareRe o_beater_wingIm o_beater_wingRe o_trial_halved o_trial_im o_trial_re o_trialWay_shifts o_turns_cos o_turns_sin o_wave_wasIm o_wave_wasRe) sz) := by
  refine met_i (cc := cX9_bits) (maxL := 2) (plainFor_of_name (by decide)) (Nat.le_of_ble_eq_true rfl) (fun p e s m below meth c A ls Q hx hb hml hts hown hK hP hD hS hA hl hret => ?_)
  have hown : s.vm.findClass RX9 = some m.cls := hown
  have hl : lv_has ls 2 [(0, .ref h_o)] := hl
  have j3 : ∀ (n : Nat) (o_trial_exp : Int32) (o_trial_done : Int32) (o_trial_backward : Int32) (o_trialWay_size : Int32) (o_trialWay_log : Int32) (o_trialWay_wordBits : Int32) (o_trialWay_limit : Int32) (o_trialWay_radix : Int32) (o_trialWay_order : Int32) (o_trialWay_near : Int32) (o_trialWay_seed : Int32) (o_trialWay_stages : Int32) (o_beater_spareIm : Nat → Int32) (o_beater_spareRe : Nat → Int32) (o_beater_wingIm : Nat → Int32) (o_beater_wingRe : Nat → Int32) (o_trial_halved : Nat → Int32) (o_trial_im : Nat → Int32) (o_trial_re : Nat → Int32) (o_trialWay_shifts : Nat → Int32) (v1 : Int32) (H : Heap) (locs : List Loc) (ls : Array Slot), fX9_bits_3 o_way_size o_way_log o_way_wordBits o_way_radix o_way_order o_way_near o_way_seed o_turns_cos o_turns_sin o_wave_wasIm o_wave_wasRe n o_trial_exp o_trial_done o_trial_backward o_trialWay_size o_trialWay_log o_trialWay_wordBits o_trialWay_limit o_trialWay_radix o_trialWay_order o_trialWay_near o_trialWay_seed o_trialWay_stages o_beater_spareIm o_beater_spareRe o_beater_wingIm o_beater_wingRe o_trial_halved o_trial_im o_trial_re o_trialWay_shifts v1 = some (r, out_o_trial_exp, out_o_trial_done, out_o_trial_backward, out_o_trialWay_size, out_o_trialWay_log, out_o_trialWay_wordBits, out_o_trialWay_limit, out_o_trialWay_radix, out_o_trialWay_order, out_o_trialWay_near, out_o_trialWay_seed, out_o_trialWay_stages, out_o_beater_spareIm, out_o_beater_spareRe, out_o_beater_wingIm, out_o_beater_wingRe, out_o_trial_halved, out_o_trial_im, out_o_trial_re, out_o_trialWay_shifts) → va_P G vwCl (wX9_bits cI cJ cZ h_o h_o_beater h_o_trial h_o_trialWay h_o_turns h_o_wave h_o_way h_o_beater_spareIm h_o_beater_spareRe h_o_beater_wingIm h_o_beater_wingRe h_o_trial_halved h_o_trial_im h_o_trial_re h_o_trialWay_shifts h_o_turns_cos h_o_turns_sin h_o_wave_wasIm h_o_wave_wasRe h_o_past h_o_notes h_o_ring h_o_reader h_o_dice h_o_otherTrial h_o_sumsRe h_o_sumsIm h_o_tally h_o_image h_o_tape h_o_trial_wasRe h_o_trial_wasIm h_o_wave_re h_o_wave_im h_o_wave_halved h_o_way_shifts o_imageKept o_taped o_trial_exp o_trial_done o_trial_backward o_trialWay_size o_trialWay_log o_trialWay_wordBits o_trialWay_limit o_trialWay_radix o_trialWay_order o_trialWay_near o_trialWay_seed o_trialWay_stages o_wave_exp o_wave_done o_wave_backward o_way_size o_way_log o_way_wordBits o_way_limit o_way_radix o_way_order o_way_near o_way_seed o_way_stages o_beater_spareIm o_beater_spareRe o_beater_wingIm o_beater_wingRe o_trial_halved o_trial_im o_trial_re o_trialWay_shifts o_turns_cos o_turns_sin o_wave_wasIm o_wave_wasRe) H → va_D A (wX9_bits cI cJ cZ h_o h_o_beater h_o_trial h_o_trialWay h_o_turns h_o_wave h_o_way h_o_beater_spareIm h_o_beater_spareRe h_o_beater_wingIm h_o_beater_wingRe h_o_trial_halved h_o_trial_im h_o_trial_re h_o_trialWay_shifts h_o_turns_cos h_o_turns_sin h_o_wave_wasIm h_o_wave_wasRe h_o_past h_o_notes h_o_ring h_o_reader h_o_dice h_o_otherTrial h_o_sumsRe h_o_sumsIm h_o_tally h_o_image h_o_tape h_o_trial_wasRe h_o_trial_wasIm h_o_wave_re h_o_wave_im h_o_wave_halved h_o_way_shifts o_imageKept o_taped o_trial_exp o_trial_done o_trial_backward o_trialWay_size o_trialWay_log o_trialWay_wordBits o_trialWay_limit o_trialWay_radix o_trialWay_order o_trialWay_near o_trialWay_seed o_trialWay_stages o_wave_exp o_wave_done o_wave_backward o_way_size o_way_log o_way_wordBits o_way_limit o_way_radix o_way_order o_way_near o_way_seed o_way_stages o_beater_spareIm o_beater_spareRe o_beater_wingIm o_beater_wingRe o_trial_halved o_trial_im o_trial_re o_trialWay_shifts o_turns_cos o_turns_sin o_wave_wasIm o_wave_wasRe) → va_S A s.heap H locs → lv_has ls 2 [(0, .ref h_o), (1, .int v1)] → W p l e ({ frames := 7, cells := 0, slots := 0, locals := 187 } : Room) s m ([.ref h_o] : List Value).toArray below meth c H locs 0 0 Q (F0 m 3 ls []) := by
    intro n
    induction n with
    | zero =>
      intro o_trial_exp o_trial_done o_trial_backward o_trialWay_size o_trialWay_log o_trialWay_wordBits o_trialWay_limit o_trialWay_radix o_trialWay_order o_trialWay_near o_trialWay_seed o_trialWay_stages o_beater_spareIm o_beater_spareRe o_beater_wingIm o_beater_wingRe o_trial_halved o_trial_im o_trial_re o_trialWay_shifts v1 H locs ls hf
      have hf : (none : Option (Int32 × Int32 × Int32 × Int32 × Int32 × Int32 × Int32 × Int32 × Int32 × Int32 × Int32 × Int32 × Int32 × (Nat → Int32) × (Nat → Int32) × (Nat → Int32) × (Nat → Int32) × (Nat → Int32) × (Nat → Int32) × (Nat → Int32) × (Nat → Int32))) = some (r, out_o_trial_exp, out_o_trial_done, out_o_trial_backward, out_o_trialWay_size, out_o_trialWay_log, out_o_trialWay_wordBits, out_o_trialWay_limit, out_o_trialWay_radix, out_o_trialWay_order, out_o_trialWay_near, out_o_trialWay_seed, out_o_trialWay_stages, out_o_beater_spareIm, out_o_beater_spareRe, out_o_beater_wingIm, out_o_beater_wingRe, out_o_trial_halved, out_o_trial_im, out_o_trial_re, out_o_trialWay_shifts) := hf
      cases hf
    | succ n ih =>
      intro o_trial_exp o_trial_done o_trial_backward o_trialWay_size o_trialWay_log o_trialWay_wordBits o_trialWay_limit o_trialWay_radix o_trialWay_order o_trialWay_near o_trialWay_seed o_trialWay_stages o_beater_spareIm o_beater_spareRe o_beater_wingIm o_beater_wingRe o_trial_halved o_trial_im o_trial_re o_trialWay_shifts v1 H locs ls hf hP hD hS hl
      rw [fX9_bits_3.eq_2] at hf
      refine lv_iload_n hx hb dX9_bits_3 rfl (lv_at hl 1 rfl) ?_
      refine lv_bipush (v := (16 : Int32)) hx hb dX9_bits_4 (by decide) ?_
      refine lv_icmp_gt (tgt := 25) hx hb dX9_bits_6 (by decide) (fun c_1 => ?_) (fun c_1 => ?_)
      · have hf := it_t c_1 hf
        refine lv_bipush (v := (-2 : Int32)) hx hb dX9_bits_25 (by decide) ?_
        cases hf
        exact hret _ _ _ _ dX9_bits_27 hP hD hS
      · have hf := it_f c_1 hf
        refine lv_aload_n hx hb dX9_bits_9 rfl (lv_at hl 0 rfl) ?_
        refine lv_iload_n hx hb dX9_bits_10 rfl (lv_at hl 1 rfl) ?_
        obtain ⟨r_2, o_trial_exp_3, o_trial_done_4, o_trial_backward_5, o_trialWay_size_6, o_trialWay_log_7, o_trialWay_wordBits_8, o_trialWay_limit_9, o_trialWay_radix_10, o_trialWay_order_11, o_trialWay_near_12, o_trialWay_seed_13, o_trialWay_stages_14, o_beater_spareIm_15, o_beater_spareRe_16, o_beater_wingIm_17, o_beater_wingRe_18, o_trial_halved_19, o_trial_im_20, o_trial_re_21, o_trialWay_shifts_22, e_23, hf⟩ := bd21_x hf
        refine call_v [.int v1] [] ⟨hx, hb, hml, hown, hts⟩ hK hP hD hS hA hl.1 (tX9_expWithBits l G cI cJ cZ H.size h_o h_o_beater h_o_trial h_o_trialWay h_o_turns h_o_wave h_o_way h_o_beater_spareIm h_o_beater_spareRe h_o_beater_wingIm h_o_beater_wingRe h_o_trial_halved h_o_trial_im h_o_trial_re h_o_trialWay_shifts h_o_turns_cos h_o_turns_sin h_o_wave_wasIm h_o_wave_wasRe h_o_past h_o_notes h_o_ring h_o_reader h_o_dice h_o_otherTrial h_o_sumsRe h_o_sumsIm h_o_tally h_o_image h_o_tape h_o_trial_wasRe h_o_trial_wasIm h_o_wave_re h_o_wave_im h_o_wave_halved h_o_way_shifts o_imageKept o_taped o_trial_exp o_trial_done o_trial_backward o_trialWay_size o_trialWay_log o_trialWay_wordBits o_trialWay_limit o_trialWay_radix o_trialWay_order o_trialWay_near o_trialWay_seed o_trialWay_stages o_wave_exp o_wave_done o_wave_backward o_way_size o_way_log o_way_wordBits o_way_limit o_way_radix o_way_order o_way_near o_way_seed o_way_stages o_beater_spareIm o_beater_spareRe o_beater_wingIm o_beater_wingRe o_trial_halved o_trial_im o_trial_re o_trialWay_shifts o_turns_cos o_turns_sin o_wave_wasIm o_wave_wasRe v1 r_2 o_trial_exp_3 o_trial_done_4 o_trial_backward_5 o_trialWay_size_6 o_trialWay_log_7 o_trialWay_wordBits_8 o_trialWay_limit_9 o_trialWay_radix_10 o_trialWay_order_11 o_trialWay_near_12 o_trialWay_seed_13 o_trialWay_stages_14 o_beater_spareIm_15 o_beater_spareRe_16 o_beater_wingIm_17 o_beater_wingRe_18 o_trial_halved_19 o_trial_im_20 o_trial_re_21 o_trialWay_shifts_22 e_23) (cwV 1 hts (gv q_mX9_301 q_i_yX9_expWithBits q_s_yX9_expWithBits q_n_RX9 q_k_yX9_expWithBits) rfl rfl rfl (by decide +kernel) ⟨by decide, by decide⟩) rfl rfl (Nat.le_of_ble_eq_true rfl) dX9_bits_11 ⟨Nat.zero_le _, Nat.zero_le _⟩ (ci := 9) rfl 0 rfl [0, 1, 2, 3, 4, 5, 6, 7, 8, 9, 10, 11, 12, 13, 14, 15, 16, 17, 18] [] [0, 1, 2, 3, 4, 5, 6, 7, 8, 9, 10, 11, 12, 13, 14, 15, 16, 17, 18] rfl rfl (ws2 := (wX9_bits cI cJ cZ h_o h_o_beater h_o_trial h_o_trialWay h_o_turns h_o_wave h_o_way h_o_beater_spareIm h_o_beater_spareRe h_o_beater_wingIm h_o_beater_wingRe h_o_trial_halved h_o_trial_im h_o_trial_re h_o_trialWay_shifts h_o_turns_cos h_o_turns_sin h_o_wave_wasIm h_o_wave_wasRe h_o_past h_o_notes h_o_ring h_o_reader h_o_dice h_o_otherTrial h_o_sumsRe h_o_sumsIm h_o_tally h_o_image h_o_tape h_o_trial_wasRe h_o_trial_wasIm h_o_wave_re h_o_wave_im h_o_wave_halved h_o_way_shifts o_imageKept o_taped o_trial_exp_3 o_trial_done_4 o_trial_backward_5 o_trialWay_size_6 o_trialWay_log_7 o_trialWay_wordBits_8 o_trialWay_limit_9 o_trialWay_radix_10 o_trialWay_order_11 o_trialWay_near_12 o_trialWay_seed_13 o_trialWay_stages_14 o_wave_exp o_wave_done o_wave_backward o_way_size o_way_log o_way_wordBits o_way_limit o_way_radix o_way_order o_way_near o_way_seed o_way_stages o_beater_spareIm_15 o_beater_spareRe_16 o_beater_wingIm_17 o_beater_wingRe_18 o_trial_halved_19 o_trial_im_20 o_trial_re_21 o_trialWay_shifts_22 o_turns_cos o_turns_sin o_wave_wasIm o_wave_wasRe)) rfl (fun H locs hP hD hS => ?_)
        refine W.eq (g2 := F0 m 14 ls [.int r_2]) rfl ?_
        refine lv_if_ne (tgt := 19) hx hb dX9_bits_14 (by decide) (fun c_24 => ?_) (fun c_24 => ?_)
        · have hf := it_f c_24 hf
          obtain ⟨v1_25, ev1_25⟩ : ∃ y : Int32, y = v1 + (1 : Int32) := ⟨_, rfl⟩
          have hf := nm_x ev1_25 hf
          refine lv_iinc (v := v1_25) (lv' := [(1, .int v1_25), (0, .ref h_o)]) hx hb dX9_bits_19 hl (k := 1) rfl (by rw [ev1_25]; rfl) (by decide) rfl (fun ls hl => ?_)
          refine lv_goto (tgt := 3) hx hb dX9_bits_22 (by decide) ?_
          exact ih o_trial_exp_3 o_trial_done_4 o_trial_backward_5 o_trialWay_size_6 o_trialWay_log_7 o_trialWay_wordBits_8 o_trialWay_limit_9 o_trialWay_radix_10 o_trialWay_order_11 o_trialWay_near_12 o_trialWay_seed_13 o_trialWay_stages_14 o_beater_spareIm_15 o_beater_spareRe_16 o_beater_wingIm_17 o_beater_wingRe_18 o_trial_halved_19 o_trial_im_20 o_trial_re_21 o_trialWay_shifts_22 v1_25 H locs ls hf hP hD hS (lv_sub hl [1, 0] rfl)
        · have hf := it_t c_24 hf
          refine lv_iload_n hx hb dX9_bits_17 rfl (lv_at hl 1 rfl) ?_
          cases hf
          exact hret _ _ _ _ dX9_bits_18 hP hD hS
  unfold fX9_bits at hf
  obtain ⟨H, eH⟩ : ∃ H, H = s.heap := ⟨_, rfl⟩
  obtain ⟨locs, elocs⟩ : ∃ z : List Loc, z = [] := ⟨_, rfl⟩
  have hP : va_P G vwCl (wX9_bits cI cJ cZ h_o h_o_beater h_o_trial h_o_trialWay h_o_turns h_o_wave h_o_way h_o_beater_spareIm h_o_beater_spareRe h_o_beater_wingIm h_o_beater_wingRe h_o_trial_halved h_o_trial_im h_o_trial_re h_o_trialWay_shifts h_o_turns_cos h_o_turns_sin h_o_wave_wasIm h_o_wave_wasRe h_o_past h_o_notes h_o_ring h_o_reader h_o_dice h_o_otherTrial h_o_sumsRe h_o_sumsIm h_o_tally h_o_image h_o_tape h_o_trial_wasRe h_o_trial_wasIm h_o_wave_re h_o_wave_im h_o_wave_halved h_o_way_shifts o_imageKept o_taped o_trial_exp o_trial_done o_trial_backward o_trialWay_size o_trialWay_log o_trialWay_wordBits o_trialWay_limit o_trialWay_radix o_trialWay_order o_trialWay_near o_trialWay_seed o_trialWay_stages o_wave_exp o_wave_done o_wave_backward o_way_size o_way_log o_way_wordBits o_way_limit o_way_radix o_way_order o_way_near o_way_seed o_way_stages o_beater_spareIm o_beater_spareRe o_beater_wingIm o_beater_wingRe o_trial_halved o_trial_im o_trial_re o_trialWay_shifts o_turns_cos o_turns_sin o_wave_wasIm o_wave_wasRe) H := by rw [eH]; exact hP
  have hS : va_S A s.heap H locs := by rw [eH, elocs]; exact hS
  suffices hgo : W p l e ({ frames := 7, cells := 0, slots := 0, locals := 187 } : Room) s m ([.ref h_o] : List Value).toArray below meth c H locs 0 0 Q (F0 m 0 ls []) by rw [eH, elocs] at hgo; exact hgo
  clear eH elocs
  refine lv_bipush (v := (8 : Int32)) hx hb dX9_bits_0 (by decide) ?_
  refine lv_istore_n (lv' := [(1, .int (8 : Int32)), (0, .ref h_o)]) hx hb dX9_bits_2 rfl hl (by decide) rfl (fun ls hl => ?_)
  exact j3 FU o_trial_exp o_trial_done o_trial_backward o_trialWay_size o_trialWay_log o_trialWay_wordBits o_trialWay_limit o_trialWay_radix o_trialWay_order o_trialWay_near o_trialWay_seed o_trialWay_stages o_beater_spareIm o_beater_spareRe o_beater_wingIm o_beater_wingRe o_trial_halved o_trial_im o_trial_re o_trialWay_shifts (8 : Int32) H locs ls hf hP hD hS (lv_sub hl [1, 0] rfl)
def wX9_sweep (cI cJ cZ : ClassId) (h_o h_o_beater h_o_trial h_o_trialWay h_o_turns h_o_wave h_o_way h_o_beater_spareIm h_o_beater_spareRe h_o_beater_wingIm h_o_beater_wingRe h_o_trial_halved h_o_trial_im h_o_trial_re h_o_trialWay_shifts h_o_turns_cos h_o_turns_sin h_o_wave_wasIm h_o_wave_wasRe h_o_past h_o_notes h_o_ring h_o_reader h_o_dice h_o_otherTrial h_o_sumsRe h_o_sumsIm h_o_tally h_o_image h_o_tape h_o_trial_wasRe h_o_trial_wasIm h_o_wave_re h_o_wave_im h_o_wave_halved h_o_way_shifts : Nat) (o_imageKept : Int32) (o_taped : Int32) (o_trial_exp : Int32) (o_trial_done : Int32) (o_trial_backward : Int32) (o_trialWay_size : Int32) (o_trialWay_log : Int32) (o_trialWay_wordBits : Int32) (o_trialWay_limit : Int32) (o_trialWay_radix : Int32) (o_trialWay_order : Int32) (o_trialWay_near : Int32) (o_trialWay_seed : Int32) (o_trialWay_stages : Int32) (o_wave_exp : Int32) (o_wave_done : Int32) (o_wave_backward : Int32) (o_way_size : Int32) (o_way_log : Int32) (o_way_wordBits : Int32) (o_way_limit : Int32) (o_way_radix : Int32) (o_way_order : Int32) (o_way_near : Int32) (o_way_seed : Int32) (o_way_stages : Int32) (o_beater_spareIm : Nat → Int32) (o_beater_spareRe : Nat → Int32) (o_beater_wingIm : Nat → Int32) (o_beater_wingRe : Nat → Int32) (o_trial_halved : Nat → Int32) (o_trial_im : Nat → Int32) (o_trial_re : Nat → Int32) (o_trialWay_shifts : Nat → Int32) (o_turns_cos : Nat → Int32) (o_turns_sin : Nat → Int32) (o_wave_wasIm : Nat → Int32) (o_wave_wasRe : Nat → Int32) : va_W := [(h_o, .inr (9, [.ref h_o_way, .ref h_o_wave, .ref h_o_past, .ref h_o_notes, .ref h_o_ring, .ref h_o_turns, .ref h_o_beater, .ref h_o_reader, .ref h_o_dice, .ref h_o_trialWay, .ref h_o_trial, .ref h_o_otherTrial, .ref h_o_sumsRe, .ref h_o_sumsIm, .ref h_o_tally, .ref h_o_image, .int o_imageKept, .ref h_o_tape, .int o_taped])), (h_o_beater, .inr (0, [.ref h_o_turns, .ref h_o_beater_spareRe, .ref h_o_beater_spareIm, .ref h_o_beater_wingRe, .ref h_o_beater_wingIm])), (h_o_trial, .inr (7, [.ref h_o_trial_re, .ref h_o_trial_im, .ref h_o_trial_wasRe, .ref h_o_trial_wasIm, .ref h_o_trial_halved, .int o_trial_exp, .int o_trial_done, .int o_trial_backward])), (h_o_trialWay, .inr (8, [.int o_trialWay_size, .int o_trialWay_log, .int o_trialWay_wordBits, .int o_trialWay_limit, .int o_trialWay_radix, .int o_trialWay_order, .int o_trialWay_near, .int o_trialWay_seed, .int o_trialWay_stages, .ref h_o_trialWay_shifts])), (h_o_turns, .inr (6, [.ref h_o_turns_cos, .ref h_o_turns_sin])), (h_o_wave, .inr (7, [.ref h_o_wave_re, .ref h_o_wave_im, .ref h_o_wave_wasRe, .ref h_o_wave_wasIm, .ref h_o_wave_halved, .int o_wave_exp, .int o_wave_done, .int o_wave_backward])), (h_o_way, .inr (8, [.int o_way_size, .int o_way_log, .int o_way_wordBits, .int o_way_limit, .int o_way_radix, .int o_way_order, .int o_way_near, .int o_way_seed, .int o_way_stages, .ref h_o_way_shifts])), (h_o_beater_spareIm, .inl (cI, 32, .inl o_beater_spareIm)), (h_o_beater_spareRe, .inl (cI, 32, .inl o_beater_spareRe)), (h_o_beater_wingIm, .inl (cI, 4, .inl o_beater_wingIm)), (h_o_beater_wingRe, .inl (cI, 4, .inl o_beater_wingRe)), (h_o_trial_halved, .inl (cI, 5, .inl o_trial_halved)), (h_o_trial_im, .inl (cI, 32, .inl o_trial_im)), (h_o_trial_re, .inl (cI, 32, .inl o_trial_re)), (h_o_trialWay_shifts, .inl (cI, 5, .inl o_trialWay_shifts)), (h_o_turns_cos, .inl (cI, 32, .inl o_turns_cos)), (h_o_turns_sin, .inl (cI, 32, .inl o_turns_sin)), (h_o_wave_wasIm, .inl (cI, 32, .inl o_wave_wasIm)), (h_o_wave_wasRe, .inl (cI, 32, .inl o_wave_wasRe))]
def fX9_sweep (o_trial_exp : Int32) (o_trial_done : Int32) (o_trial_backward : Int32) (o_trialWay_size : Int32) (o_trialWay_log : Int32) (o_trialWay_wordBits : Int32) (o_trialWay_limit : Int32) (o_trialWay_radix : Int32) (o_trialWay_order : Int32) (o_trialWay_near : Int32) (o_trialWay_seed : Int32) (o_trialWay_stages : Int32) (o_way_size : Int32) (o_way_log : Int32) (o_way_wordBits : Int32) (o_way_radix : Int32) (o_way_order : Int32) (o_way_near : Int32) (o_way_seed : Int32) (o_beater_spareIm : Nat → Int32) (o_beater_spareRe : Nat → Int32) (o_beater_wingIm : Nat → Int32) (o_beater_wingRe : Nat → Int32) (o_trial_halved : Nat → Int32) (o_trial_im : Nat → Int32) (o_trial_re : Nat → Int32) (o_trialWay_shifts : Nat → Int32) (o_turns_cos : Nat → Int32) (o_turns_sin : Nat → Int32) (o_wave_wasIm : Nat → Int32) (o_wave_wasRe : Nat → Int32) (p1 : Int32) : Option (Int32 × Int32 × Int32 × Int32 × Int32 × Int32 × Int32 × Int32 × Int32 × Int32 × Int32 × Int32 × Int32 × (Nat → Int32) × (Nat → Int32) × (Nat → Int32) × (Nat → Int32) × (Nat → Int32) × (Nat → Int32) × (Nat → Int32) × (Nat → Int32)) :=
  if p1 < (8 : Int32) then (
    some ((-1 : Int32), o_trial_exp, o_trial_done, o_trial_backward, o_trialWay_size, o_trialWay_log, o_trialWay_wordBits, o_trialWay_limit, o_trialWay_radix, o_trialWay_order, o_trialWay_near, o_trialWay_seed, o_trialWay_stages, o_beater_spareIm, o_beater_spareRe, o_beater_wingIm, o_beater_wingRe, o_trial_halved, o_trial_im, o_trial_re, o_trialWay_shifts)
  ) else (
    if p1 ≤ (16 : Int32) then (
      bd21 (fX9_expWithBits o_trial_exp o_trial_done o_trial_backward o_trialWay_size o_trialWay_log o_trialWay_wordBits o_trialWay_limit o_trialWay_radix o_trialWay_order o_trialWay_near o_trialWay_seed o_trialWay_stages o_way_size o_way_log o_way_wordBits o_way_radix o_way_order o_way_near o_way_seed o_beater_spareIm o_beater_spareRe o_beater_wingIm o_beater_wingRe o_trial_halved o_trial_im o_trial_re o_trialWay_shifts o_turns_cos o_turns_sin o_wave_wasIm o_wave_wasRe p1) (fun r_3 o_trial_exp_4 o_trial_done_5 o_trial_backward_6 o_trialWay_size_7 o_trialWay_log_8 o_trialWay_wordBits_9 o_trialWay_limit_10 o_trialWay_radix_11 o_trialWay_order_12 o_trialWay_near_13 o_trialWay_seed_14 o_trialWay_stages_15 o_beater_spareIm_16 o_beater_spareRe_17 o_beater_wingIm_18 o_beater_wingRe_19 o_trial_halved_20 o_trial_im_21 o_trial_re_22 o_trialWay_shifts_23 =>
      some (r_3, o_trial_exp_4, o_trial_done_5, o_trial_backward_6, o_trialWay_size_7, o_trialWay_log_8, o_trialWay_wordBits_9, o_trialWay_limit_10, o_trialWay_radix_11, o_trialWay_order_12, o_trialWay_near_13, o_trialWay_seed_14, o_trialWay_stages_15, o_beater_spareIm_16, o_beater_spareRe_17, o_beater_wingIm_18, o_beater_wingRe_19, o_trial_halved_20, o_trial_im_21, o_trial_re_22, o_trialWay_shifts_23))
    ) else (
      some ((-1 : Int32), o_trial_exp, o_trial_done, o_trial_backward, o_trialWay_size, o_trialWay_log, o_trialWay_wordBits, o_trialWay_limit, o_trialWay_radix, o_trialWay_order, o_trialWay_near, o_trialWay_seed, o_trialWay_stages, o_beater_spareIm, o_beater_spareRe, o_beater_wingIm, o_beater_wingRe, o_trial_halved, o_trial_im, o_trial_re, o_trialWay_shifts)
    )
  )
set_option maxHeartbeats 4000000 in
set_option maxRecDepth 100000 in
theorem tX9_sweep (l : Launch) (G : va_G) (cI cJ cZ : ClassId) (sz : Nat) (h_o h_o_beater h_o_trial h_o_trialWay h_o_turns h_o_wave h_o_way h_o_beater_spareIm h_o_beater_spareRe h_o_beater_wingIm h_o_beater_wingRe h_o_trial_halved h_o_trial_im h_o_trial_re h_o_trialWay_shifts h_o_turns_cos h_o_turns_sin h_o_wave_wasIm h_o_wave_wasRe h_o_past h_o_notes h_o_ring h_o_reader h_o_dice h_o_otherTrial h_o_sumsRe h_o_sumsIm h_o_tally h_o_image h_o_tape h_o_trial_wasRe h_o_trial_wasIm h_o_wave_re h_o_wave_im h_o_wave_halved h_o_way_shifts : Nat) (o_imageKept : Int32) (o_taped : Int32) (o_trial_exp : Int32) (o_trial_done : Int32) (o_trial_backward : Int32) (o_trialWay_size : Int32) (o_trialWay_log : Int32) (o_trialWay_wordBits : Int32) (o_trialWay_limit : Int32) (o_trialWay_radix : Int32) (o_trialWay_order : Int32) (o_trialWay_near : Int32) (o_trialWay_seed : Int32) (o_trialWay_stages : Int32) (o_wave_exp : Int32) (o_wave_done : Int32) (o_wave_backward : Int32) (o_way_size : Int32) (o_way_log : Int32) (o_way_wordBits : Int32) (o_way_limit : Int32) (o_way_radix : Int32) (o_way_order : Int32) (o_way_near : Int32) (o_way_seed : Int32) (o_way_stages : Int32) (o_beater_spareIm : Nat → Int32) (o_beater_spareRe : Nat → Int32) (o_beater_wingIm : Nat → Int32) (o_beater_wingRe : Nat → Int32) (o_trial_halved : Nat → Int32) (o_trial_im : Nat → Int32) (o_trial_re : Nat → Int32) (o_trialWay_shifts : Nat → Int32) (o_turns_cos : Nat → Int32) (o_turns_sin : Nat → Int32) (o_wave_wasIm : Nat → Int32) (o_wave_wasRe : Nat → Int32) (p1 : Int32) (r : Int32) (out_o_trial_exp : Int32) (out_o_trial_done : Int32) (out_o_trial_backward : Int32) (out_o_trialWay_size : Int32) (out_o_trialWay_log : Int32) (out_o_trialWay_wordBits : Int32) (out_o_trialWay_limit : Int32) (out_o_trialWay_radix : Int32) (out_o_trialWay_order : Int32) (out_o_trialWay_near : Int32) (out_o_trialWay_seed : Int32) (out_o_trialWay_stages : Int32) (out_o_beater_spareIm : Nat → Int32) (out_o_beater_spareRe : Nat → Int32) (out_o_beater_wingIm : Nat → Int32) (out_o_beater_wingRe : Nat → Int32) (out_o_trial_halved : Nat → Int32) (out_o_trial_im : Nat → Int32) (out_o_trial_re : Nat → Int32) (out_o_trialWay_shifts : Nat → Int32) (hf : fX9_sweep o_trial_exp o_trial_done o_trial_backward o_trialWay_size o_trialWay_log o_trialWay_wordBits o_trialWay_limit o_trialWay_radix o_trialWay_order o_trialWay_near o_trialWay_seed o_trialWay_stages o_way_size o_way_log o_way_wordBits o_way_radix o_way_order o_way_near o_way_seed o_beater_spareIm o_beater_spareRe o_beater_wingIm o_beater_wingRe o_trial_halved o_trial_im o_trial_re o_trialWay_shifts o_turns_cos o_turns_sin o_wave_wasIm o_wave_wasRe p1 = some (r, out_o_trial_exp, out_o_trial_done, out_o_trial_backward, out_o_trialWay_size, out_o_trialWay_log, out_o_trialWay_wordBits, out_o_trialWay_limit, out_o_trialWay_radix, out_o_trialWay_order, out_o_trialWay_near, out_o_trialWay_seed, out_o_trialWay_stages, out_o_beater_spareIm, out_o_beater_spareRe, out_o_beater_wingIm, out_o_beater_wingRe, out_o_trial_halved, out_o_trial_im, out_o_trial_re, out_o_trialWay_shifts)) : Met l yX9_sweep (Cond.code yX9_sweep cX9_sweep 2 (some .int) :: BIG) ({ frames := 7, cells := 0, slots := 0, locals := 187 } : Room) (cP G (TY3 cI cJ cZ) [.ref h_o, .int p1] sz (wX9_sweep cI cJ cZ h_o h_o_beater h_o_trial h_o_trialWay h_o_turns h_o_wave h_o_way h_o_beater_spareIm h_o_beater_spareRe h_o_beater_wingIm h_o_beater_wingRe h_o_trial_halved h_o_trial_im h_o_trial_re h_o_trialWay_shifts h_o_turns_cos h_o_turns_sin h_o_wave_wasIm h_o_wave_wasRe h_o_past h_o_notes h_o_ring h_o_reader h_o_dice h_o_otherTrial h_o_sumsRe h_o_sumsIm h_o_tally h_o_image h_o_tape h_o_trial_wasRe h_o_trial_wasIm h_o_wave_re h_o_wave_im h_o_wave_halved h_o_way_shifts o_imageKept o_taped o_trial_exp o_trial_done o_trial_backward o_trialWay_size o_trialWay_log o_trialWay_wordBits o_trialWay_limit o_trialWay_radix o_trialWay_order o_trialWay_near o_trialWay_seed o_trialWay_stages o_wave_exp o_wave_done o_wave_backward o_way_size o_way_log o_way_wordBits o_way_limit o_way_radix o_way_order o_way_near o_way_seed o_way_stages o_beater_spareIm o_beater_spareRe o_beater_wingIm o_beater_wingRe o_trial_halved o_trial_im o_trial_re o_trialWay_shifts o_turns_cos o_turns_sin o_wave_wasIm o_wave_wasRe)) (cQ G (TY3 cI cJ cZ) sz (wX9_sweep cI cJ cZ h_o h_o_beater h_o_trial h_o_trialWay h_o_turns h_o_wave h_o_way h_o_beater_spareIm h_o_beater_spareRe h_o_beater_wingIm h_o_beater_wingRe h_o_trial_halved h_o_trial_im h_o_trial_re h_o_trialWay_shifts h_o_turns_cos h_o_turns_sin h_o_wave_wasIm h_o_wave_wasRe h_o_past h_o_notes h_o_ring h_o_reader h_o_dice h_o_otherTrial h_o_sumsRe h_o_sumsIm h_o_tally h_o_image h_o_tape h_o_trial_wasRe h_o_trial_wasIm h_o_wave_re h_o_wave_im h_o_wave_halved h_o_way_shifts o_imageKept o_taped o_trial_exp o_trial_done o_trial_backward o_trialWay_size o_trialWay_log o_trialWay_wordBits o_trialWay_limit o_trialWay_radix o_trialWay_order o_trialWay_near o_trialWay_seed o_trialWay_stages o_wave_exp o_wave_done o_wave_backward o_way_size o_way_log o_way_wordBits o_way_limit o_way_radix o_way_order o_way_near o_way_seed o_way_stages o_beater_spareIm o_beater_spareRe o_beater_wingIm o_beater_wingRe o_trial_halved o_trial_im o_trial_re o_trialWay_shifts o_turns_cos o_turns_sin o_wave_wasIm o_wave_wasRe) (wX9_sweep cI cJ cZ h_o h_o_beater h_o_trial h_o_trialWay h_o_turns h_o_wave h_o_way h_o_beater_spareIm h_o_beater_spareRe h_o_beater_wingIm h_o_beater_wingRe h_o_trial_halved h_o_trial_im h_o_trial_re h_o_trialWay_shifts h_o_turns_cos h_o_turns_sin h_o_wave_wasIm h_o_wave_wasRe h_o_past h_o_notes h_o_ring h_o_reader h_o_dice h_o_otherTrial h_o_sumsRe h_o_sumsIm h_o_tally h_o_image h_o_tape h_o_trial_wasRe h_o_trial_wasIm h_o_wave_re h_o_wave_im h_o_wave_halved h_o_way_shifts o_imageKept o_taped out_o_trial_exp out_o_trial_done out_o_trial_backward out_o_trialWay_size out_o_trialWay_log out_o_trialWay_wordBits out_o_trialWay_limit out_o_trialWay_radix out_o_trialWay_order out_o_trialWay_near out_o_trialWay_seed out_o_trialWay_stages o_wave_exp o_wave_done o_wave_backward o_way_size o_way_log o_way_wordBits o_way_limit o_way_radix o_way_order o_way_near o_way_seed o_way_stages out_o_beater_spareIm out_o_beater_spareRe out_o_beater_wingIm out_o_beater_wingRe out_o_trial_halved out_o_trial_im out_o_trial_re out_o_trialWay_shifts o_turns_cos o_turns_sin o_wave_wasIm o_wave_wasRe) (some (.int r))) 0 0 (va_A (wX9_sweep cI cJ cZ h_o h_o_beater h_o_trial h_o_trialWay h_o_turns h_o_wave h_o_way h_o_beater_spareIm h_o_beater_spareRe h_o_beater_wingIm h_o_beater_wingRe h_o_trial_halved h_o_trial_im h_o_trial_re h_o_trialWay_shifts h_o_turns_cos h_o_turns_sin h_o_wave_wasIm h_o_wave_wasRe h_o_past h_o_notes h_o_ring h_o_reader h_o_dice h_o_otherTrial h_o_sumsRe h_o_sumsIm h_o_tally h_o_image h_o_tape h_o_trial_wasRe h_o_trial_wasIm h_o_wave_re h_o_wave_im h_o_wave_halved h_o_way_shifts o_imageKept o_taped o_trial_exp o_trial_done o_trial_backward o_trialWay_size o_trialWay_log o_trialWay_wordBits o_trialWay_limit o_trialWay_radix o_trialWay_order o_trialWay_near o_trialWay_seed o_trialWay_stages o_wave_exp o_wave_done o_wave_backward o_way_size o_way_log o_way_wordBits o_way_limit o_way_radix o_way_order o_way_near o_way_seed o_way_stages o_beater_spareIm o_beater_spareRe o_beater_wingIm o_beater_wingRe o_trial_halved o_trial_im o_trial_re o_trialWay_shifts o_turns_cos o_turns_sin o_wave_wasIm o_wave_wasRe) sz) := by
  refine met_i (cc := cX9_sweep) (maxL := 2) (plainFor_of_name (by decide)) (Nat.le_of_ble_eq_true rfl) (fun p e s m below meth c A ls Q hx hb hml hts hown hK hP hD hS hA hl hret => ?_)
  have hown : s.vm.findClass RX9 = some m.cls := hown
  have hl : lv_has ls 2 [(0, .ref h_o), (1, .int p1)] := hl
  unfold fX9_sweep at hf
  obtain ⟨H, eH⟩ : ∃ H, H = s.heap := ⟨_, rfl⟩
  obtain ⟨locs, elocs⟩ : ∃ z : List Loc, z = [] := ⟨_, rfl⟩
  have hP : va_P G vwCl (wX9_sweep cI cJ cZ h_o h_o_beater h_o_trial h_o_trialWay h_o_turns h_o_wave h_o_way h_o_beater_spareIm h_o_beater_spareRe h_o_beater_wingIm h_o_beater_wingRe h_o_trial_halved h_o_trial_im h_o_trial_re h_o_trialWay_shifts h_o_turns_cos h_o_turns_sin h_o_wave_wasIm h_o_wave_wasRe h_o_past h_o_notes h_o_ring h_o_reader h_o_dice h_o_otherTrial h_o_sumsRe h_o_sumsIm h_o_tally h_o_image h_o_tape h_o_trial_wasRe h_o_trial_wasIm h_o_wave_re h_o_wave_im h_o_wave_halved h_o_way_shifts o_imageKept o_taped o_trial_exp o_trial_done o_trial_backward o_trialWay_size o_trialWay_log o_trialWay_wordBits o_trialWay_limit o_trialWay_radix o_trialWay_order o_trialWay_near o_trialWay_seed o_trialWay_stages o_wave_exp o_wave_done o_wave_backward o_way_size o_way_log o_way_wordBits o_way_limit o_way_radix o_way_order o_way_near o_way_seed o_way_stages o_beater_spareIm o_beater_spareRe o_beater_wingIm o_beater_wingRe o_trial_halved o_trial_im o_trial_re o_trialWay_shifts o_turns_cos o_turns_sin o_wave_wasIm o_wave_wasRe) H := by rw [eH]; exact hP
  have hS : va_S A s.heap H locs := by rw [eH, elocs]; exact hS
  suffices hgo : W p l e ({ frames := 7, cells := 0, slots := 0, locals := 187 } : Room) s m ([.ref h_o, .int p1] : List Value).toArray below meth c H locs 0 0 Q (F0 m 0 ls []) by rw [eH, elocs] at hgo; exact hgo
  clear eH elocs
  refine lv_iload_n hx hb dX9_sweep_0 rfl (lv_at hl 1 rfl) ?_
  refine lv_bipush (v := (8 : Int32)) hx hb dX9_sweep_1 (by decide) ?_
  refine lv_icmp_lt (tgt := 12) hx hb dX9_sweep_3 (by decide) (fun c_1 => ?_) (fun c_1 => ?_)
  · have hf := it_t c_1 hf
    refine lv_iconst (v := (-1 : Int32)) hx hb dX9_sweep_12 (by decide) ?_
    refine lv_goto (tgt := 21) hx hb dX9_sweep_13 (by decide) ?_
    cases hf
    exact hret _ _ _ _ dX9_sweep_21 hP hD hS
  · have hf := it_f c_1 hf
    refine lv_iload_n hx hb dX9_sweep_6 rfl (lv_at hl 1 rfl) ?_
    refine lv_bipush (v := (16 : Int32)) hx hb dX9_sweep_7 (by decide) ?_
    refine lv_icmp_le (tgt := 16) hx hb dX9_sweep_9 (by decide) (fun c_2 => ?_) (fun c_2 => ?_)
    · have hf := it_t c_2 hf
      refine lv_aload_n hx hb dX9_sweep_16 rfl (lv_at hl 0 rfl) ?_
      refine lv_iload_n hx hb dX9_sweep_17 rfl (lv_at hl 1 rfl) ?_
      obtain ⟨r_3, o_trial_exp_4, o_trial_done_5, o_trial_backward_6, o_trialWay_size_7, o_trialWay_log_8, o_trialWay_wordBits_9, o_trialWay_limit_10, o_trialWay_radix_11, o_trialWay_order_12, o_trialWay_near_13, o_trialWay_seed_14, o_trialWay_stages_15, o_beater_spareIm_16, o_beater_spareRe_17, o_beater_wingIm_18, o_beater_wingRe_19, o_trial_halved_20, o_trial_im_21, o_trial_re_22, o_trialWay_shifts_23, e_24, hf⟩ := bd21_x hf
      refine call_v [.int p1] [] ⟨hx, hb, hml, hown, hts⟩ hK hP hD hS hA hl.1 (tX9_expWithBits l G cI cJ cZ H.size h_o h_o_beater h_o_trial h_o_trialWay h_o_turns h_o_wave h_o_way h_o_beater_spareIm h_o_beater_spareRe h_o_beater_wingIm h_o_beater_wingRe h_o_trial_halved h_o_trial_im h_o_trial_re h_o_trialWay_shifts h_o_turns_cos h_o_turns_sin h_o_wave_wasIm h_o_wave_wasRe h_o_past h_o_notes h_o_ring h_o_reader h_o_dice h_o_otherTrial h_o_sumsRe h_o_sumsIm h_o_tally h_o_image h_o_tape h_o_trial_wasRe h_o_trial_wasIm h_o_wave_re h_o_wave_im h_o_wave_halved h_o_way_shifts o_imageKept o_taped o_trial_exp o_trial_done o_trial_backward o_trialWay_size o_trialWay_log o_trialWay_wordBits o_trialWay_limit o_trialWay_radix o_trialWay_order o_trialWay_near o_trialWay_seed o_trialWay_stages o_wave_exp o_wave_done o_wave_backward o_way_size o_way_log o_way_wordBits o_way_limit o_way_radix o_way_order o_way_near o_way_seed o_way_stages o_beater_spareIm o_beater_spareRe o_beater_wingIm o_beater_wingRe o_trial_halved o_trial_im o_trial_re o_trialWay_shifts o_turns_cos o_turns_sin o_wave_wasIm o_wave_wasRe p1 r_3 o_trial_exp_4 o_trial_done_5 o_trial_backward_6 o_trialWay_size_7 o_trialWay_log_8 o_trialWay_wordBits_9 o_trialWay_limit_10 o_trialWay_radix_11 o_trialWay_order_12 o_trialWay_near_13 o_trialWay_seed_14 o_trialWay_stages_15 o_beater_spareIm_16 o_beater_spareRe_17 o_beater_wingIm_18 o_beater_wingRe_19 o_trial_halved_20 o_trial_im_21 o_trial_re_22 o_trialWay_shifts_23 e_24) (cwV 1 hts (gv q_mX9_301 q_i_yX9_expWithBits q_s_yX9_expWithBits q_n_RX9 q_k_yX9_expWithBits) rfl rfl rfl (by decide +kernel) ⟨by decide, by decide⟩) rfl rfl (Nat.le_of_ble_eq_true rfl) dX9_sweep_18 ⟨Nat.zero_le _, Nat.zero_le _⟩ (ci := 9) rfl 0 rfl [0, 1, 2, 3, 4, 5, 6, 7, 8, 9, 10, 11, 12, 13, 14, 15, 16, 17, 18] [] [0, 1, 2, 3, 4, 5, 6, 7, 8, 9, 10, 11, 12, 13, 14, 15, 16, 17, 18] rfl rfl (ws2 := (wX9_sweep cI cJ cZ h_o h_o_beater h_o_trial h_o_trialWay h_o_turns h_o_wave h_o_way h_o_beater_spareIm h_o_beater_spareRe h_o_beater_wingIm h_o_beater_wingRe h_o_trial_halved h_o_trial_im h_o_trial_re h_o_trialWay_shifts h_o_turns_cos h_o_turns_sin h_o_wave_wasIm h_o_wave_wasRe h_o_past h_o_notes h_o_ring h_o_reader h_o_dice h_o_otherTrial h_o_sumsRe h_o_sumsIm h_o_tally h_o_image h_o_tape h_o_trial_wasRe h_o_trial_wasIm h_o_wave_re h_o_wave_im h_o_wave_halved h_o_way_shifts o_imageKept o_taped o_trial_exp_4 o_trial_done_5 o_trial_backward_6 o_trialWay_size_7 o_trialWay_log_8 o_trialWay_wordBits_9 o_trialWay_limit_10 o_trialWay_radix_11 o_trialWay_order_12 o_trialWay_near_13 o_trialWay_seed_14 o_trialWay_stages_15 o_wave_exp o_wave_done o_wave_backward o_way_size o_way_log o_way_wordBits o_way_limit o_way_radix o_way_order o_way_near o_way_seed o_way_stages o_beater_spareIm_16 o_beater_spareRe_17 o_beater_wingIm_18 o_beater_wingRe_19 o_trial_halved_20 o_trial_im_21 o_trial_re_22 o_trialWay_shifts_23 o_turns_cos o_turns_sin o_wave_wasIm o_wave_wasRe)) rfl (fun H locs hP hD hS => ?_)
      refine W.eq (g2 := F0 m 21 ls [.int r_3]) rfl ?_
      cases hf
      exact hret _ _ _ _ dX9_sweep_21 hP hD hS
    · have hf := it_f c_2 hf
      refine lv_iconst (v := (-1 : Int32)) hx hb dX9_sweep_12 (by decide) ?_
      refine lv_goto (tgt := 21) hx hb dX9_sweep_13 (by decide) ?_
      cases hf
      exact hret _ _ _ _ dX9_sweep_21 hP hD hS
