def wX4_begin (cI cJ cZ : ClassId) (h_o h_o_im h_o_re h_o_way h_o_way_shifts : Nat) (o_fault : Int32) (o_faultPlace : Int32) (o_toldWords : Int32) (o_toldRe : Int32) (o_toldIm : Int32) (o_length : Int32) (o_place : Int32) (o_kind : Int32) (o_start : Int32) (o_number : Int32) (o_im : Nat → Int32) (o_re : Nat → Int32) (o_way_size : Int32) (o_way_log : Int32) (o_way_wordBits : Int32) (o_way_limit : Int32) (o_way_radix : Int32) (o_way_order : Int32) (o_way_near : Int32) (o_way_seed : Int32) (o_way_stages : Int32) (o_way_shifts : Nat → Int32) : va_W := [(h_o, .inr (4, [.ref h_o_way, .ref h_o_re, .ref h_o_im, .int o_fault, .int o_faultPlace, .int o_toldWords, .int o_toldRe, .int o_toldIm, .int o_length, .int o_place, .int o_kind, .int o_start, .int o_number])), (h_o_im, .inl (cI, 32, .inl o_im)), (h_o_re, .inl (cI, 32, .inl o_re)), (h_o_way, .inr (8, [.int o_way_size, .int o_way_log, .int o_way_wordBits, .int o_way_limit, .int o_way_radix, .int o_way_order, .int o_way_near, .int o_way_seed, .int o_way_stages, .ref h_o_way_shifts])), (h_o_way_shifts, .inl (cI, 5, .inl o_way_shifts))]
def fX4_begin_35 (o_fault : Int32) (o_faultPlace : Int32) (o_toldWords : Int32) (o_toldRe : Int32) (o_toldIm : Int32) (o_length : Int32) (o_place : Int32) (o_im : Nat → Int32) (o_re : Nat → Int32) (o_way_size : Int32) (o_way_log : Int32) (o_way_wordBits : Int32) (o_way_limit : Int32) (o_way_radix : Int32) (o_way_order : Int32) (o_way_near : Int32) (o_way_seed : Int32) (o_way_stages : Int32) (o_way_shifts : Nat → Int32) (v1 : Int32) : Option (Int32 × Int32 × Int32 × Int32 × Int32 × Int32 × Int32 × (Nat → Int32) × (Nat → Int32) × Int32 × Int32 × Int32 × Int32 × Int32 × Int32 × Int32 × Int32 × Int32 × (Nat → Int32)) :=
  some ((0 : Int32), (-1 : Int32), (0 : Int32), (0 : Int32), (0 : Int32), v1, (0 : Int32), o_im, o_re, o_way_size, o_way_log, o_way_wordBits, o_way_limit, o_way_radix, o_way_order, o_way_near, o_way_seed, o_way_stages, o_way_shifts)
def fX4_begin_9 : Nat → Int32 → Int32 → Int32 → Int32 → Int32 → Int32 → Int32 → (Nat → Int32) → (Nat → Int32) → Int32 → Int32 → Int32 → Int32 → Int32 → Int32 → Int32 → Int32 → Int32 → (Nat → Int32) → Int32 → Int32 → Option (Int32 × Int32 × Int32 × Int32 × Int32 × Int32 × Int32 × (Nat → Int32) × (Nat → Int32) × Int32 × Int32 × Int32 × Int32 × Int32 × Int32 × Int32 × Int32 × Int32 × (Nat → Int32))
  | 0, _, _, _, _, _, _, _, _, _, _, _, _, _, _, _, _, _, _, _, _, _ => none
  | n + 1, o_fault, o_faultPlace, o_toldWords, o_toldRe, o_toldIm, o_length, o_place, o_im, o_re, o_way_size, o_way_log, o_way_wordBits, o_way_limit, o_way_radix, o_way_order, o_way_near, o_way_seed, o_way_stages, o_way_shifts, v1, v2 =>
    if (32 : Int32) ≤ v2 then (
      fX4_begin_35 o_fault o_faultPlace o_toldWords o_toldRe o_toldIm o_length o_place o_im o_re o_way_size o_way_log o_way_wordBits o_way_limit o_way_radix o_way_order o_way_near o_way_seed o_way_stages o_way_shifts v1
    ) else (
      gd (inb v2 32) (
      nm (upd o_re (Int32.toNatClampNeg v2) (0 : Int32)) (fun o_re_14 =>
      gd (inb v2 32) (
      nm (upd o_im (Int32.toNatClampNeg v2) (0 : Int32)) (fun o_im_16 =>
      nm (v2 + (1 : Int32)) (fun v2_17 =>
      fX4_begin_9 n o_fault o_faultPlace o_toldWords o_toldRe o_toldIm o_length o_place o_im_16 o_re_14 o_way_size o_way_log o_way_wordBits o_way_limit o_way_radix o_way_order o_way_near o_way_seed o_way_stages o_way_shifts v1 v2_17)))))
    )
def fX4_begin (o_fault : Int32) (o_faultPlace : Int32) (o_toldWords : Int32) (o_toldRe : Int32) (o_toldIm : Int32) (o_length : Int32) (o_place : Int32) (o_im : Nat → Int32) (o_re : Nat → Int32) (o_way_size : Int32) (o_way_log : Int32) (o_way_wordBits : Int32) (o_way_limit : Int32) (o_way_radix : Int32) (o_way_order : Int32) (o_way_near : Int32) (o_way_seed : Int32) (o_way_stages : Int32) (o_way_shifts : Nat → Int32) (p1 : Int32) : Option (Int32 × Int32 × Int32 × Int32 × Int32 × Int32 × Int32 × (Nat → Int32) × (Nat → Int32) × Int32 × Int32 × Int32 × Int32 × Int32 × Int32 × Int32 × Int32 × Int32 × (Nat → Int32)) :=
  bd10 (fX8_takeDefaults o_way_size o_way_log o_way_wordBits o_way_limit o_way_radix o_way_order o_way_near o_way_seed o_way_stages o_way_shifts) (fun o_way_size_1 o_way_log_2 o_way_wordBits_3 o_way_limit_4 o_way_radix_5 o_way_order_6 o_way_near_7 o_way_seed_8 o_way_stages_9 o_way_shifts_10 =>
  fX4_begin_9 FU o_fault o_faultPlace o_toldWords o_toldRe o_toldIm o_length o_place o_im o_re o_way_size_1 o_way_log_2 o_way_wordBits_3 o_way_limit_4 o_way_radix_5 o_way_order_6 o_way_near_7 o_way_seed_8 o_way_stages_9 o_way_shifts_10 p1 (0 : Int32))
set_option maxHeartbeats 4000000 in
set_option maxRecDepth 100000 in
theorem tX4_begin (l : Launch) (G : va_G) (cI cJ cZ : ClassId) (sz : Nat) (h_o h_o_im h_o_re h_o_way h_o_way_shifts : Nat) (o_fault : Int32) (o_faultPlace : Int32) (o_toldWords : Int32) (o_toldRe : Int32) (o_toldIm : Int32) (o_length : Int32) (o_place : Int32) (o_kind : Int32) (o_start : Int32) (o_number : Int32) (o_im : Nat → Int32) (o_re : Nat → Int32) (o_way_size : Int32) (o_way_log : Int32) (o_way_wordBits : Int32) (o_way_limit : Int32) (o_way_radix : Int32) (o_way_order : Int32) (o_way_near : Int32) (o_way_seed : Int32) (o_way_stages : Int32) (o_way_shifts : Nat → Int32) (p1 : Int32) (out_o_fault : Int32) (out_o_faultPlace : Int32) (out_o_toldWords : Int32) (out_o_toldRe : Int32) (out_o_toldIm : Int32) (out_o_length : Int32) (out_o_place : Int32) (out_o_im : Nat → Int32) (out_o_re : Nat → Int32) (out_o_way_size : Int32) (out_o_way_log : Int32) (out_o_way_wordBits : Int32) (out_o_way_limit : Int32) (out_o_way_radix : Int32) (out_o_way_order : Int32) (out_o_way_near : Int32) (out_o_way_seed : Int32) (out_o_way_stages : Int32) (out_o_way_shifts : Nat → Int32) (hf : fX4_begin o_fault o_faultPlace o_toldWords o_toldRe o_toldIm o_length o_place o_im o_re o_way_size o_way_log o_way_wordBits o_way_limit o_way_radix o_way_order o_way_near o_way_seed o_way_stages o_way_shifts p1 = some (out_o_fault, out_o_faultPlace, out_o_toldWords, out_o_toldRe, out_o_toldIm, out_o_length, out_o_place, out_o_im, out_o_re, out_o_way_size, out_o_way_log, out_o_way_wordBits, out_o_way_limit, out_o_way_radix, out_o_way_order, out_o_way_near, out_o_way_seed, out_o_way_stages, out_o_way_shifts)) : Met l yX4_begin (Cond.code yX4_begin cX4_begin 3 none :: BIG) ({ frames := 3, cells := 0, slots := 0, locals := 66 } : Room) (cP G (TY3 cI cJ cZ) [.ref h_o, .int p1] sz (wX4_begin cI cJ cZ h_o h_o_im h_o_re h_o_way h_o_way_shifts o_fault o_faultPlace o_toldWords o_toldRe o_toldIm o_length o_place o_kind o_start o_number o_im o_re o_way_size o_way_log o_way_wordBits o_way_limit o_way_radix o_way_order o_way_near o_way_seed o_way_stages o_way_shifts)) (cQ G (TY3 cI cJ cZ) sz (wX4_begin cI cJ cZ h_o h_o_im h_o_re h_o_way h_o_way_shifts o_fault o_faultPlace o_toldWords o_toldRe o_toldIm o_length o_place o_kind o_start o_number o_im o_re o_way_size o_way_log o_way_wordBits o_way_limit o_way_radix o_way_order o_way_near o_way_seed o_way_stages o_way_shifts) (wX4_begin cI cJ cZ h_o h_o_im h_o_re h_o_way h_o_way_shifts out_o_fault out_o_faultPlace out_o_toldWords out_o_toldRe out_o_toldIm out_o_length out_o_place o_kind o_start o_number out_o_im out_o_re out_o_way_size out_o_way_log out_o_way_wordBits out_o_way_limit out_o_way_radix out_o_way_order out_o_way_near out_o_way_seed out_o_way_stages out_o_way_shifts) none) 0 0 (va_A (wX4_begin cI cJ cZ h_o h_o_im h_o_re h_o_way h_o_way_shifts o_fault o_faultPlace o_toldWords o_toldRe o_toldIm o_length o_place o_kind o_start o_number o_im o_re o_way_size o_way_log o_way_wordBits o_way_limit o_way_radix o_way_order o_way_near o_way_seed o_way_stages o_way_shifts) sz) := by
  refine met_v (cc := cX4_begin) (maxL := 3) (plainFor_of_name (by decide)) (Nat.le_of_ble_eq_true rfl) (fun p e s m below meth c A ls Q hx hb hml hts hown hK hP hD hS hA hl hret => ?_)
  have hown : s.vm.findClass RX4 = some m.cls := hown
  have hl : lv_has ls 3 [(0, .ref h_o), (1, .int p1)] := hl
  have j35 : ∀ (o_fault : Int32) (o_faultPlace : Int32) (o_toldWords : Int32) (o_toldRe : Int32) (o_toldIm : Int32) (o_length : Int32) (o_place : Int32) (o_im : Nat → Int32) (o_re : Nat → Int32) (o_way_size : Int32) (o_way_log : Int32) (o_way_wordBits : Int32) (o_way_limit : Int32) (o_way_radix : Int32) (o_way_order : Int32) (o_way_near : Int32) (o_way_seed : Int32) (o_way_stages : Int32) (o_way_shifts : Nat → Int32) (v1 : Int32) (H : Heap) (locs : List Loc) (ls : Array Slot), fX4_begin_35 o_fault o_faultPlace o_toldWords o_toldRe o_toldIm o_length o_place o_im o_re o_way_size o_way_log o_way_wordBits o_way_limit o_way_radix o_way_order o_way_near o_way_seed o_way_stages o_way_shifts v1 = some (out_o_fault, out_o_faultPlace, out_o_toldWords, out_o_toldRe, out_o_toldIm, out_o_length, out_o_place, out_o_im, out_o_re, out_o_way_size, out_o_way_log, out_o_way_wordBits, out_o_way_limit, out_o_way_radix, out_o_way_order, out_o_way_near, out_o_way_seed, out_o_way_stages, out_o_way_shifts) → va_P G vwCl (wX4_begin cI cJ cZ h_o h_o_im h_o_re h_o_way h_o_way_shifts o_fault o_faultPlace o_toldWords o_toldRe o_toldIm o_length o_place o_kind o_start o_number o_im o_re o_way_size o_way_log o_way_wordBits o_way_limit o_way_radix o_way_order o_way_near o_way_seed o_way_stages o_way_shifts) H → va_D A (wX4_begin cI cJ cZ h_o h_o_im h_o_re h_o_way h_o_way_shifts o_fault o_faultPlace o_toldWords o_toldRe o_toldIm o_length o_place o_kind o_start o_number o_im o_re o_way_size o_way_log o_way_wordBits o_way_limit o_way_radix o_way_order o_way_near o_way_seed o_way_stages o_way_shifts) → va_S A s.heap H locs → lv_has ls 3 [(0, .ref h_o), (1, .int v1)] → W p l e ({ frames := 3, cells := 0, slots := 0, locals := 66 } : Room) s m ([.ref h_o, .int p1] : List Value).toArray below meth c H locs 0 0 Q (F0 m 35 ls []) := by
    intro o_fault o_faultPlace o_toldWords o_toldRe o_toldIm o_length o_place o_im o_re o_way_size o_way_log o_way_wordBits o_way_limit o_way_radix o_way_order o_way_near o_way_seed o_way_stages o_way_shifts v1 H locs ls hf hP hD hS hl
    unfold fX4_begin_35 at hf
    refine lv_aload_n hx hb dX4_begin_35 rfl (lv_at hl 0 rfl) ?_
    refine lv_iconst (v := (0 : Int32)) hx hb dX4_begin_36 (by decide) ?_
    refine wr (ci := 4) (C := RX4) (T := TX4) (N := 13) hx hb hts inX4 tyX4 tyX4_ok nmX4 hown hK hP hD hS 0 3 rfl rfl (by decide) (hts _ q_fX4_25) rfl rfl rfl (Nat.le_of_ble_eq_true rfl) dX4_begin_37 (ws2 := (wX4_begin cI cJ cZ h_o h_o_im h_o_re h_o_way h_o_way_shifts (0 : Int32) o_faultPlace o_toldWords o_toldRe o_toldIm o_length o_place o_kind o_start o_number o_im o_re o_way_size o_way_log o_way_wordBits o_way_limit o_way_radix o_way_order o_way_near o_way_seed o_way_stages o_way_shifts)) rfl (fun H locs hP hD hS => ?_)
    refine lv_aload_n hx hb dX4_begin_40 rfl (lv_at hl 0 rfl) ?_
    refine lv_iconst (v := (-1 : Int32)) hx hb dX4_begin_41 (by decide) ?_
    refine wr (ci := 4) (C := RX4) (T := TX4) (N := 13) hx hb hts inX4 tyX4 tyX4_ok nmX4 hown hK hP hD hS 0 4 rfl rfl (by decide) (hts _ q_fX4_29) rfl rfl rfl (Nat.le_of_ble_eq_true rfl) dX4_begin_42 (ws2 := (wX4_begin cI cJ cZ h_o h_o_im h_o_re h_o_way h_o_way_shifts (0 : Int32) (-1 : Int32) o_toldWords o_toldRe o_toldIm o_length o_place o_kind o_start o_number o_im o_re o_way_size o_way_log o_way_wordBits o_way_limit o_way_radix o_way_order o_way_near o_way_seed o_way_stages o_way_shifts)) rfl (fun H locs hP hD hS => ?_)
    refine lv_aload_n hx hb dX4_begin_45 rfl (lv_at hl 0 rfl) ?_
    refine lv_iconst (v := (0 : Int32)) hx hb dX4_begin_46 (by decide) ?_
    refine wr (ci := 4) (C := RX4) (T := TX4) (N := 13) hx hb hts inX4 tyX4 tyX4_ok nmX4 hown hK hP hD hS 0 5 rfl rfl (by decide) (hts _ q_fX4_50) rfl rfl rfl (Nat.le_of_ble_eq_true rfl) dX4_begin_47 (ws2 := (wX4_begin cI cJ cZ h_o h_o_im h_o_re h_o_way h_o_way_shifts (0 : Int32) (-1 : Int32) (0 : Int32) o_toldRe o_toldIm o_length o_place o_kind o_start o_number o_im o_re o_way_size o_way_log o_way_wordBits o_way_limit o_way_radix o_way_order o_way_near o_way_seed o_way_stages o_way_shifts)) rfl (fun H locs hP hD hS => ?_)
    refine lv_aload_n hx hb dX4_begin_50 rfl (lv_at hl 0 rfl) ?_
    refine lv_iconst (v := (0 : Int32)) hx hb dX4_begin_51 (by decide) ?_
    refine wr (ci := 4) (C := RX4) (T := TX4) (N := 13) hx hb hts inX4 tyX4 tyX4_ok nmX4 hown hK hP hD hS 0 6 rfl rfl (by decide) (hts _ q_fX4_53) rfl rfl rfl (Nat.le_of_ble_eq_true rfl) dX4_begin_52 (ws2 := (wX4_begin cI cJ cZ h_o h_o_im h_o_re h_o_way h_o_way_shifts (0 : Int32) (-1 : Int32) (0 : Int32) (0 : Int32) o_toldIm o_length o_place o_kind o_start o_number o_im o_re o_way_size o_way_log o_way_wordBits o_way_limit o_way_radix o_way_order o_way_near o_way_seed o_way_stages o_way_shifts)) rfl (fun H locs hP hD hS => ?_)
    refine lv_aload_n hx hb dX4_begin_55 rfl (lv_at hl 0 rfl) ?_
    refine lv_iconst (v := (0 : Int32)) hx hb dX4_begin_56 (by decide) ?_
    refine wr (ci := 4) (C := RX4) (T := TX4) (N := 13) hx hb hts inX4 tyX4 tyX4_ok nmX4 hown hK hP hD hS 0 7 rfl rfl (by decide) (hts _ q_fX4_56) rfl rfl rfl (Nat.le_of_ble_eq_true rfl) dX4_begin_57 (ws2 := (wX4_begin cI cJ cZ h_o h_o_im h_o_re h_o_way h_o_way_shifts (0 : Int32) (-1 : Int32) (0 : Int32) (0 : Int32) (0 : Int32) o_length o_place o_kind o_start o_number o_im o_re o_way_size o_way_log o_way_wordBits o_way_limit o_way_radix o_way_order o_way_near o_way_seed o_way_stages o_way_shifts)) rfl (fun H locs hP hD hS => ?_)
    refine lv_aload_n hx hb dX4_begin_60 rfl (lv_at hl 0 rfl) ?_
    refine lv_iload_n hx hb dX4_begin_61 rfl (lv_at hl 1 rfl) ?_
    refine wr (ci := 4) (C := RX4) (T := TX4) (N := 13) hx hb hts inX4 tyX4 tyX4_ok nmX4 hown hK hP hD hS 0 8 rfl rfl (by decide) (hts _ q_fX4_59) rfl rfl rfl (Nat.le_of_ble_eq_true rfl) dX4_begin_62 (ws2 := (wX4_begin cI cJ cZ h_o h_o_im h_o_re h_o_way h_o_way_shifts (0 : Int32) (-1 : Int32) (0 : Int32) (0 : Int32) (0 : Int32) v1 o_place o_kind o_start o_number o_im o_re o_way_size o_way_log o_way_wordBits o_way_limit o_way_radix o_way_order o_way_near o_way_seed o_way_stages o_way_shifts)) rfl (fun H locs hP hD hS => ?_)
    refine lv_aload_n hx hb dX4_begin_65 rfl (lv_at hl 0 rfl) ?_
    refine lv_iconst (v := (0 : Int32)) hx hb dX4_begin_66 (by decide) ?_
    refine wr (ci := 4) (C := RX4) (T := TX4) (N := 13) hx hb hts inX4 tyX4 tyX4_ok nmX4 hown hK hP hD hS 0 9 rfl rfl (by decide) (hts _ q_fX4_62) rfl rfl rfl (Nat.le_of_ble_eq_true rfl) dX4_begin_67 (ws2 := (wX4_begin cI cJ cZ h_o h_o_im h_o_re h_o_way h_o_way_shifts (0 : Int32) (-1 : Int32) (0 : Int32) (0 : Int32) (0 : Int32) v1 (0 : Int32) o_kind o_start o_number o_im o_re o_way_size o_way_log o_way_wordBits o_way_limit o_way_radix o_way_order o_way_near o_way_seed o_way_stages o_way_shifts)) rfl (fun H locs hP hD hS => ?_)
    cases hf
    exact hret _ _ _ _ dX4_begin_70 hP hD hS
  have j9 : ∀ (n : Nat) (o_fault : Int32) (o_faultPlace : Int32) (o_toldWords : Int32) (o_toldRe : Int32) (o_toldIm : Int32) (o_length : Int32) (o_place : Int32) (o_im : Nat → Int32) (o_re : Nat → Int32) (o_way_size : Int32) (o_way_log : Int32) (o_way_wordBits : Int32) (o_way_limit : Int32) (o_way_radix : Int32) (o_way_order : Int32) (o_way_near : Int32) (o_way_seed : Int32) (o_way_stages : Int32) (o_way_shifts : Nat → Int32) (v1 : Int32) (v2 : Int32) (H : Heap) (locs : List Loc) (ls : Array Slot), fX4_begin_9 n o_fault o_faultPlace o_toldWords o_toldRe o_toldIm o_length o_place o_im o_re o_way_size o_way_log o_way_wordBits o_way_limit o_way_radix o_way_order o_way_near o_way_seed o_way_stages o_way_shifts v1 v2 = some (out_o_fault, out_o_faultPlace, out_o_toldWords, out_o_toldRe, out_o_toldIm, out_o_length, out_o_place, out_o_im, out_o_re, out_o_way_size, out_o_way_log, out_o_way_wordBits, out_o_way_limit, out_o_way_radix, out_o_way_order, out_o_way_near, out_o_way_seed, out_o_way_stages, out_o_way_shifts) → va_P G vwCl (wX4_begin cI cJ cZ h_o h_o_im h_o_re h_o_way h_o_way_shifts o_fault o_faultPlace o_toldWords o_toldRe o_toldIm o_length o_place o_kind o_start o_number o_im o_re o_way_size o_way_log o_way_wordBits o_way_limit o_way_radix o_way_order o_way_near o_way_seed o_way_stages o_way_shifts) H → va_D A (wX4_begin cI cJ cZ h_o h_o_im h_o_re h_o_way h_o_way_shifts o_fault o_faultPlace o_toldWords o_toldRe o_toldIm o_length o_place o_kind o_start o_number o_im o_re o_way_size o_way_log o_way_wordBits o_way_limit o_way_radix o_way_order o_way_near o_way_seed o_way_stages o_way_shifts) → va_S A s.heap H locs → lv_has ls 3 [(0, .ref h_o), (1, .int v1), (2, .int v2)] → W p l e ({ frames := 3, cells := 0, slots := 0, locals := 66 } : Room) s m ([.ref h_o, .int p1] : List Value).toArray below meth c H locs 0 0 Q (F0 m 9 ls []) := by
    intro n
    induction n with
    | zero =>
      intro o_fault o_faultPlace o_toldWords o_toldRe o_toldIm o_length o_place o_im o_re o_way_size o_way_log o_way_wordBits o_way_limit o_way_radix o_way_order o_way_near o_way_seed o_way_stages o_way_shifts v1 v2 H locs ls hf
      have hf : (none : Option (Int32 × Int32 × Int32 × Int32 × Int32 × Int32 × Int32 × (Nat → Int32) × (Nat → Int32) × Int32 × Int32 × Int32 × Int32 × Int32 × Int32 × Int32 × Int32 × Int32 × (Nat → Int32))) = some (out_o_fault, out_o_faultPlace, out_o_toldWords, out_o_toldRe, out_o_toldIm, out_o_length, out_o_place, out_o_im, out_o_re, out_o_way_size, out_o_way_log, out_o_way_wordBits, out_o_way_limit, out_o_way_radix, out_o_way_order, out_o_way_near, out_o_way_seed, out_o_way_stages, out_o_way_shifts) := hf
      cases hf
    | succ n ih =>
      intro o_fault o_faultPlace o_toldWords o_toldRe o_toldIm o_length o_place o_im o_re o_way_size o_way_log o_way_wordBits o_way_limit o_way_radix o_way_order o_way_near o_way_seed o_way_stages o_way_shifts v1 v2 H locs ls hf hP hD hS hl
      rw [fX4_begin_9.eq_2] at hf
      refine lv_iload_n hx hb dX4_begin_9 rfl (lv_at hl 2 rfl) ?_
      refine lv_bipush (v := (32 : Int32)) hx hb dX4_begin_10 (by decide) ?_
      refine lv_icmp_ge (tgt := 35) hx hb dX4_begin_12 (by decide) (fun c_12 => ?_) (fun c_12 => ?_)
      · have hf := it_t c_12 hf
        exact j35 o_fault o_faultPlace o_toldWords o_toldRe o_toldIm o_length o_place o_im o_re o_way_size o_way_log o_way_wordBits o_way_limit o_way_radix o_way_order o_way_near o_way_seed o_way_stages o_way_shifts v1 H locs ls hf hP hD hS (lv_sub hl [0, 1] rfl)
      · have hf := it_f c_12 hf
        refine lv_aload_n hx hb dX4_begin_15 rfl (lv_at hl 0 rfl) ?_
        refine rd (ci := 4) (C := RX4) (T := TX4) (N := 13) hx hb hts inX4 hown hK hP 0 1 rfl rfl (by decide) (hts _ q_fX4_18) rfl dX4_begin_16 ?_
        refine lv_iload_n hx hb dX4_begin_19 rfl (lv_at hl 2 rfl) ?_
        refine lv_iconst (v := (0 : Int32)) hx hb dX4_begin_20 (by decide) ?_
        obtain ⟨g_13, hf⟩ := gd_x hf
        obtain ⟨o_re_14, eo_re_14⟩ : ∃ y : Nat → Int32, y = upd o_re (Int32.toNatClampNeg v2) (0 : Int32) := ⟨_, rfl⟩
        have hf := nm_x eo_re_14 hf
        refine ist hx hb hK hP hD hS 2 0 rfl rfl (inb_x g_13) dX4_begin_21 eo_re_14 (ws2 := (wX4_begin cI cJ cZ h_o h_o_im h_o_re h_o_way h_o_way_shifts o_fault o_faultPlace o_toldWords o_toldRe o_toldIm o_length o_place o_kind o_start o_number o_im o_re_14 o_way_size o_way_log o_way_wordBits o_way_limit o_way_radix o_way_order o_way_near o_way_seed o_way_stages o_way_shifts)) rfl (fun H locs hP hD hS => ?_)
        refine lv_aload_n hx hb dX4_begin_22 rfl (lv_at hl 0 rfl) ?_
        refine rd (ci := 4) (C := RX4) (T := TX4) (N := 13) hx hb hts inX4 hown hK hP 0 2 rfl rfl (by decide) (hts _ q_fX4_22) rfl dX4_begin_23 ?_
        refine lv_iload_n hx hb dX4_begin_26 rfl (lv_at hl 2 rfl) ?_
        refine lv_iconst (v := (0 : Int32)) hx hb dX4_begin_27 (by decide) ?_
        obtain ⟨g_15, hf⟩ := gd_x hf
        obtain ⟨o_im_16, eo_im_16⟩ : ∃ y : Nat → Int32, y = upd o_im (Int32.toNatClampNeg v2) (0 : Int32) := ⟨_, rfl⟩
        have hf := nm_x eo_im_16 hf
        refine ist hx hb hK hP hD hS 1 0 rfl rfl (inb_x g_15) dX4_begin_28 eo_im_16 (ws2 := (wX4_begin cI cJ cZ h_o h_o_im h_o_re h_o_way h_o_way_shifts o_fault o_faultPlace o_toldWords o_toldRe o_toldIm o_length o_place o_kind o_start o_number o_im_16 o_re_14 o_way_size o_way_log o_way_wordBits o_way_limit o_way_radix o_way_order o_way_near o_way_seed o_way_stages o_way_shifts)) rfl (fun H locs hP hD hS => ?_)
        obtain ⟨v2_17, ev2_17⟩ : ∃ y : Int32, y = v2 + (1 : Int32) := ⟨_, rfl⟩
        have hf := nm_x ev2_17 hf
        refine lv_iinc (v := v2_17) (lv' := [(2, .int v2_17), (0, .ref h_o), (1, .int v1)]) hx hb dX4_begin_29 hl (k := 2) rfl (by rw [ev2_17]; rfl) (by decide) rfl (fun ls hl => ?_)
        refine lv_goto (tgt := 9) hx hb dX4_begin_32 (by decide) ?_
        exact ih o_fault o_faultPlace o_toldWords o_toldRe o_toldIm o_length o_place o_im_16 o_re_14 o_way_size o_way_log o_way_wordBits o_way_limit o_way_radix o_way_order o_way_near o_way_seed o_way_stages o_way_shifts v1 v2_17 H locs ls hf hP hD hS (lv_sub hl [1, 2, 0] rfl)
  unfold fX4_begin at hf
  obtain ⟨H, eH⟩ : ∃ H, H = s.heap := ⟨_, rfl⟩
  obtain ⟨locs, elocs⟩ : ∃ z : List Loc, z = [] := ⟨_, rfl⟩
  have hP : va_P G vwCl (wX4_begin cI cJ cZ h_o h_o_im h_o_re h_o_way h_o_way_shifts o_fault o_faultPlace o_toldWords o_toldRe o_toldIm o_length o_place o_kind o_start o_number o_im o_re o_way_size o_way_log o_way_wordBits o_way_limit o_way_radix o_way_order o_way_near o_way_seed o_way_stages o_way_shifts) H := by rw [eH]; exact hP
  have hS : va_S A s.heap H locs := by rw [eH, elocs]; exact hS
  suffices hgo : W p l e ({ frames := 3, cells := 0, slots := 0, locals := 66 } : Room) s m ([.ref h_o, .int p1] : List Value).toArray below meth c H locs 0 0 Q (F0 m 0 ls []) by rw [eH, elocs] at hgo; exact hgo
  clear eH elocs
  refine lv_aload_n hx hb dX4_begin_0 rfl (lv_at hl 0 rfl) ?_
  refine rd (ci := 4) (C := RX4) (T := TX4) (N := 13) hx hb hts inX4 hown hK hP 0 0 rfl rfl (by decide) (hts _ q_fX4_12) rfl dX4_begin_1 ?_
  obtain ⟨o_way_size_1, o_way_log_2, o_way_wordBits_3, o_way_limit_4, o_way_radix_5, o_way_order_6, o_way_near_7, o_way_seed_8, o_way_stages_9, o_way_shifts_10, e_11, hf⟩ := bd10_x hf
  refine call_v [] [] ⟨hx, hb, hml, hown, hts⟩ hK hP hD hS hA hl.1 (tX8_takeDefaults l G cI cJ cZ H.size h_o_way h_o_way_shifts o_way_size o_way_log o_way_wordBits o_way_limit o_way_radix o_way_order o_way_near o_way_seed o_way_stages o_way_shifts o_way_size_1 o_way_log_2 o_way_wordBits_3 o_way_limit_4 o_way_radix_5 o_way_order_6 o_way_near_7 o_way_seed_8 o_way_stages_9 o_way_shifts_10 e_11) (cwV 0 hts (gv q_mX4_47 q_i_yX8_takeDefaults q_s_yX8_takeDefaults q_n_RX8 q_k_yX8_takeDefaults) rfl rfl rfl (by decide +kernel) ⟨by decide, by decide⟩) rfl rfl (Nat.le_of_ble_eq_true rfl) dX4_begin_4 ⟨Nat.zero_le _, Nat.zero_le _⟩ (ci := 8) rfl 0 rfl [3, 4] [0, 1, 2] [0, 1, 2, 3, 4] rfl rfl (ws2 := (wX4_begin cI cJ cZ h_o h_o_im h_o_re h_o_way h_o_way_shifts o_fault o_faultPlace o_toldWords o_toldRe o_toldIm o_length o_place o_kind o_start o_number o_im o_re o_way_size_1 o_way_log_2 o_way_wordBits_3 o_way_limit_4 o_way_radix_5 o_way_order_6 o_way_near_7 o_way_seed_8 o_way_stages_9 o_way_shifts_10)) rfl (fun H locs hP hD hS => ?_)
  refine W.eq (g2 := F0 m 7 ls []) rfl ?_
  refine lv_iconst (v := (0 : Int32)) hx hb dX4_begin_7 (by decide) ?_
  refine lv_istore_n (lv' := [(2, .int (0 : Int32)), (0, .ref h_o), (1, .int p1)]) hx hb dX4_begin_8 rfl hl (by decide) rfl (fun ls hl => ?_)
  exact j9 FU o_fault o_faultPlace o_toldWords o_toldRe o_toldIm o_length o_place o_im o_re o_way_size_1 o_way_log_2 o_way_wordBits_3 o_way_limit_4 o_way_radix_5 o_way_order_6 o_way_near_7 o_way_seed_8 o_way_stages_9 o_way_shifts_10 p1 (0 : Int32) H locs ls hf hP hD hS (lv_sub hl [1, 2, 0] rfl)
def wX4_failAtToken (cI cJ cZ : ClassId) (h_o h_o_way h_o_re h_o_im : Nat) (o_fault : Int32) (o_faultPlace : Int32) (o_toldWords : Int32) (o_toldRe : Int32) (o_toldIm : Int32) (o_length : Int32) (o_place : Int32) (o_kind : Int32) (o_start : Int32) (o_number : Int32) : va_W := [(h_o, .inr (4, [.ref h_o_way, .ref h_o_re, .ref h_o_im, .int o_fault, .int o_faultPlace, .int o_toldWords, .int o_toldRe, .int o_toldIm, .int o_length, .int o_place, .int o_kind, .int o_start, .int o_number]))]
def fX4_failAtToken (o_fault : Int32) (o_faultPlace : Int32) (o_start : Int32) (p1 : Int32) : Option (Int32 × Int32 × Int32) :=
  some ((0 : Int32), p1, o_start)
set_option maxHeartbeats 4000000 in
set_option maxRecDepth 100000 in
theorem tX4_failAtToken (l : Launch) (G : va_G) (cI cJ cZ : ClassId) (sz : Nat) (h_o h_o_way h_o_re h_o_im : Nat) (o_fault : Int32) (o_faultPlace : Int32) (o_toldWords : Int32) (o_toldRe : Int32) (o_toldIm : Int32) (o_length : Int32) (o_place : Int32) (o_kind : Int32) (o_start : Int32) (o_number : Int32) (p1 : Int32) (r : Int32) (out_o_fault : Int32) (out_o_faultPlace : Int32) (hf : fX4_failAtToken o_fault o_faultPlace o_start p1 = some (r, out_o_fault, out_o_faultPlace)) : Met l yX4_failAtToken (Cond.code yX4_failAtToken cX4_failAtToken 2 (some .boolean) :: BIG) ({ frames := 0, cells := 0, slots := 0, locals := 0 } : Room) (cP G (TY3 cI cJ cZ) [.ref h_o, .int p1] sz (wX4_failAtToken cI cJ cZ h_o h_o_way h_o_re h_o_im o_fault o_faultPlace o_toldWords o_toldRe o_toldIm o_length o_place o_kind o_start o_number)) (cQ G (TY3 cI cJ cZ) sz (wX4_failAtToken cI cJ cZ h_o h_o_way h_o_re h_o_im o_fault o_faultPlace o_toldWords o_toldRe o_toldIm o_length o_place o_kind o_start o_number) (wX4_failAtToken cI cJ cZ h_o h_o_way h_o_re h_o_im out_o_fault out_o_faultPlace o_toldWords o_toldRe o_toldIm o_length o_place o_kind o_start o_number) (some (.int r))) 0 0 (va_A (wX4_failAtToken cI cJ cZ h_o h_o_way h_o_re h_o_im o_fault o_faultPlace o_toldWords o_toldRe o_toldIm o_length o_place o_kind o_start o_number) sz) := by
  refine met_z (cc := cX4_failAtToken) (maxL := 2) (plainFor_of_name (by decide)) (Nat.le_of_ble_eq_true rfl) (fun p e s m below meth c A ls Q hx hb hml hts hown hK hP hD hS hA hl hret => ?_)
  have hown : s.vm.findClass RX4 = some m.cls := hown
  have hl : lv_has ls 2 [(0, .ref h_o), (1, .int p1)] := hl
  unfold fX4_failAtToken at hf
  obtain ⟨H, eH⟩ : ∃ H, H = s.heap := ⟨_, rfl⟩
  obtain ⟨locs, elocs⟩ : ∃ z : List Loc, z = [] := ⟨_, rfl⟩
  have hP : va_P G vwCl (wX4_failAtToken cI cJ cZ h_o h_o_way h_o_re h_o_im o_fault o_faultPlace o_toldWords o_toldRe o_toldIm o_length o_place o_kind o_start o_number) H := by rw [eH]; exact hP
  have hS : va_S A s.heap H locs := by rw [eH, elocs]; exact hS
  suffices hgo : W p l e ({ frames := 0, cells := 0, slots := 0, locals := 0 } : Room) s m ([.ref h_o, .int p1] : List Value).toArray below meth c H locs 0 0 Q (F0 m 0 ls []) by rw [eH, elocs] at hgo; exact hgo
  clear eH elocs
  refine lv_aload_n hx hb dX4_failAtToken_0 rfl (lv_at hl 0 rfl) ?_
  refine lv_iload_n hx hb dX4_failAtToken_1 rfl (lv_at hl 1 rfl) ?_
  refine wr (ci := 4) (C := RX4) (T := TX4) (N := 13) hx hb hts inX4 tyX4 tyX4_ok nmX4 hown hK hP hD hS 0 3 rfl rfl (by decide) (hts _ q_fX4_25) rfl rfl rfl (Nat.le_of_ble_eq_true rfl) dX4_failAtToken_2 (ws2 := (wX4_failAtToken cI cJ cZ h_o h_o_way h_o_re h_o_im p1 o_faultPlace o_toldWords o_toldRe o_toldIm o_length o_place o_kind o_start o_number)) rfl (fun H locs hP hD hS => ?_)
  refine lv_aload_n hx hb dX4_failAtToken_5 rfl (lv_at hl 0 rfl) ?_
  refine lv_aload_n hx hb dX4_failAtToken_6 rfl (lv_at hl 0 rfl) ?_
  refine rd (ci := 4) (C := RX4) (T := TX4) (N := 13) hx hb hts inX4 hown hK hP 0 11 rfl rfl (by decide) (hts _ q_fX4_65) rfl dX4_failAtToken_7 ?_
  refine wr (ci := 4) (C := RX4) (T := TX4) (N := 13) hx hb hts inX4 tyX4 tyX4_ok nmX4 hown hK hP hD hS 0 4 rfl rfl (by decide) (hts _ q_fX4_29) rfl rfl rfl (Nat.le_of_ble_eq_true rfl) dX4_failAtToken_10 (ws2 := (wX4_failAtToken cI cJ cZ h_o h_o_way h_o_re h_o_im p1 o_start o_toldWords o_toldRe o_toldIm o_length o_place o_kind o_start o_number)) rfl (fun H locs hP hD hS => ?_)
  refine lv_iconst (v := (0 : Int32)) hx hb dX4_failAtToken_13 (by decide) ?_
  cases hf
  exact hret _ _ _ _ dX4_failAtToken_14 rfl hP hD hS
def wX4_isLetter (cI cJ cZ : ClassId) : va_W := []
def fX4_isLetter (p1 : Int32) : Option (Int32) :=
  if p1 < (97 : Int32) then (
    some (0 : Int32)
  ) else (
    if (122 : Int32) < p1 then (
      some (0 : Int32)
    ) else (
      some (1 : Int32)
    )
  )
set_option maxHeartbeats 4000000 in
set_option maxRecDepth 100000 in
theorem tX4_isLetter (l : Launch) (G : va_G) (cI cJ cZ : ClassId) (sz : Nat) (p1 : Int32) (r : Int32) (hf : fX4_isLetter p1 = some r) : Met l yX4_isLetter (Cond.code yX4_isLetter cX4_isLetter 1 (some .boolean) :: BIG) ({ frames := 0, cells := 0, slots := 0, locals := 0 } : Room) (cP G (TY3 cI cJ cZ) [.int p1] sz (wX4_isLetter cI cJ cZ)) (cQ G (TY3 cI cJ cZ) sz (wX4_isLetter cI cJ cZ) (wX4_isLetter cI cJ cZ) (some (.int r))) 0 0 (va_A (wX4_isLetter cI cJ cZ) sz) := by
  refine met_z (cc := cX4_isLetter) (maxL := 1) (plainFor_of_name (by decide)) (Nat.le_of_ble_eq_true rfl) (fun p e s m below meth c A ls Q hx hb hml hts hown hK hP hD hS hA hl hret => ?_)
  have hown : s.vm.findClass RX4 = some m.cls := hown
  have hl : lv_has ls 1 [(0, .int p1)] := hl
  unfold fX4_isLetter at hf
  obtain ⟨H, eH⟩ : ∃ H, H = s.heap := ⟨_, rfl⟩
  obtain ⟨locs, elocs⟩ : ∃ z : List Loc, z = [] := ⟨_, rfl⟩
  have hP : va_P G vwCl (wX4_isLetter cI cJ cZ) H := by rw [eH]; exact hP
  have hS : va_S A s.heap H locs := by rw [eH, elocs]; exact hS
  suffices hgo : W p l e ({ frames := 0, cells := 0, slots := 0, locals := 0 } : Room) s m ([.int p1] : List Value).toArray below meth c H locs 0 0 Q (F0 m 0 ls []) by rw [eH, elocs] at hgo; exact hgo
  clear eH elocs
  refine lv_iload_n hx hb dX4_isLetter_0 rfl (lv_at hl 0 rfl) ?_
  refine lv_bipush (v := (97 : Int32)) hx hb dX4_isLetter_1 (by decide) ?_
  refine lv_icmp_lt (tgt := 16) hx hb dX4_isLetter_3 (by decide) (fun c_1 => ?_) (fun c_1 => ?_)
  · have hf := it_t c_1 hf
    refine lv_iconst (v := (0 : Int32)) hx hb dX4_isLetter_16 (by decide) ?_
    cases hf
    exact hret _ _ _ _ dX4_isLetter_17 rfl hP hD hS
  · have hf := it_f c_1 hf
    refine lv_iload_n hx hb dX4_isLetter_6 rfl (lv_at hl 0 rfl) ?_
    refine lv_bipush (v := (122 : Int32)) hx hb dX4_isLetter_7 (by decide) ?_
    refine lv_icmp_gt (tgt := 16) hx hb dX4_isLetter_9 (by decide) (fun c_2 => ?_) (fun c_2 => ?_)
    · have hf := it_t c_2 hf
      refine lv_iconst (v := (0 : Int32)) hx hb dX4_isLetter_16 (by decide) ?_
      cases hf
      exact hret _ _ _ _ dX4_isLetter_17 rfl hP hD hS
    · have hf := it_f c_2 hf
      refine lv_iconst (v := (1 : Int32)) hx hb dX4_isLetter_12 (by decide) ?_
      refine lv_goto (tgt := 17) hx hb dX4_isLetter_13 (by decide) ?_
      cases hf
      exact hret _ _ _ _ dX4_isLetter_17 rfl hP hD hS
def wX4_isDigit (cI cJ cZ : ClassId) : va_W := []
def fX4_isDigit (p1 : Int32) : Option (Int32) :=
  if p1 < (48 : Int32) then (
    some (0 : Int32)
  ) else (
    if (57 : Int32) < p1 then (
      some (0 : Int32)
    ) else (
      some (1 : Int32)
    )
  )
set_option maxHeartbeats 4000000 in
set_option maxRecDepth 100000 in
theorem tX4_isDigit (l : Launch) (G : va_G) (cI cJ cZ : ClassId) (sz : Nat) (p1 : Int32) (r : Int32) (hf : fX4_isDigit p1 = some r) : Met l yX4_isDigit (Cond.code yX4_isDigit cX4_isDigit 1 (some .boolean) :: BIG) ({ frames := 0, cells := 0, slots := 0, locals := 0 } : Room) (cP G (TY3 cI cJ cZ) [.int p1] sz (wX4_isDigit cI cJ cZ)) (cQ G (TY3 cI cJ cZ) sz (wX4_isDigit cI cJ cZ) (wX4_isDigit cI cJ cZ) (some (.int r))) 0 0 (va_A (wX4_isDigit cI cJ cZ) sz) := by
  refine met_z (cc := cX4_isDigit) (maxL := 1) (plainFor_of_name (by decide)) (Nat.le_of_ble_eq_true rfl) (fun p e s m below meth c A ls Q hx hb hml hts hown hK hP hD hS hA hl hret => ?_)
  have hown : s.vm.findClass RX4 = some m.cls := hown
  have hl : lv_has ls 1 [(0, .int p1)] := hl
  unfold fX4_isDigit at hf
  obtain ⟨H, eH⟩ : ∃ H, H = s.heap := ⟨_, rfl⟩
  obtain ⟨locs, elocs⟩ : ∃ z : List Loc, z = [] := ⟨_, rfl⟩
  have hP : va_P G vwCl (wX4_isDigit cI cJ cZ) H := by rw [eH]; exact hP
  have hS : va_S A s.heap H locs := by rw [eH, elocs]; exact hS
  suffices hgo : W p l e ({ frames := 0, cells := 0, slots := 0, locals := 0 } : Room) s m ([.int p1] : List Value).toArray below meth c H locs 0 0 Q (F0 m 0 ls []) by rw [eH, elocs] at hgo; exact hgo
  clear eH elocs
  refine lv_iload_n hx hb dX4_isDigit_0 rfl (lv_at hl 0 rfl) ?_
  refine lv_bipush (v := (48 : Int32)) hx hb dX4_isDigit_1 (by decide) ?_
  refine lv_icmp_lt (tgt := 16) hx hb dX4_isDigit_3 (by decide) (fun c_1 => ?_) (fun c_1 => ?_)
  · have hf := it_t c_1 hf
    refine lv_iconst (v := (0 : Int32)) hx hb dX4_isDigit_16 (by decide) ?_
    cases hf
    exact hret _ _ _ _ dX4_isDigit_17 rfl hP hD hS
  · have hf := it_f c_1 hf
    refine lv_iload_n hx hb dX4_isDigit_6 rfl (lv_at hl 0 rfl) ?_
    refine lv_bipush (v := (57 : Int32)) hx hb dX4_isDigit_7 (by decide) ?_
    refine lv_icmp_gt (tgt := 16) hx hb dX4_isDigit_9 (by decide) (fun c_2 => ?_) (fun c_2 => ?_)
    · have hf := it_t c_2 hf
      refine lv_iconst (v := (0 : Int32)) hx hb dX4_isDigit_16 (by decide) ?_
      cases hf
      exact hret _ _ _ _ dX4_isDigit_17 rfl hP hD hS
    · have hf := it_f c_2 hf
      refine lv_iconst (v := (1 : Int32)) hx hb dX4_isDigit_12 (by decide) ?_
      refine lv_goto (tgt := 17) hx hb dX4_isDigit_13 (by decide) ?_
      cases hf
      exact hret _ _ _ _ dX4_isDigit_17 rfl hP hD hS
def wX4_readNumber (cI cJ cZ : ClassId) (h_o h_a1 h_o_way h_o_re h_o_im : Nat) (o_fault : Int32) (o_faultPlace : Int32) (o_toldWords : Int32) (o_toldRe : Int32) (o_toldIm : Int32) (o_length : Int32) (o_place : Int32) (o_kind : Int32) (o_start : Int32) (o_number : Int32) (a1 : Nat → Int32) : va_W := [(h_o, .inr (4, [.ref h_o_way, .ref h_o_re, .ref h_o_im, .int o_fault, .int o_faultPlace, .int o_toldWords, .int o_toldRe, .int o_toldIm, .int o_length, .int o_place, .int o_kind, .int o_start, .int o_number])), (h_a1, .inl (cI, 700, .inl a1))]
def fX4_readNumber_5 (o_length : Int32) (a1 : Nat → Int32) : Nat → Int32 → Int32 → Option (Int32 × Int32)
  | 0, _, _ => none
  | n + 1, o_place, o_number =>
    if o_length ≤ o_place then (
      some (o_place, o_number)
    ) else (
      gd (inb o_place 700) (
      bd1 (fX4_isDigit (a1 (Int32.toNatClampNeg o_place))) (fun r_3 =>
      if r_3 = 0 then (
        some (o_place, o_number)
      ) else (
        gd (inb o_place 700) (
        nm (if (((o_number * (10 : Int32)) + (a1 (Int32.toNatClampNeg o_place))) - (48 : Int32)) < (100000 : Int32) then (((o_number * (10 : Int32)) + (a1 (Int32.toNatClampNeg o_place))) - (48 : Int32)) else (100000 : Int32)) (fun m_7 =>
        nm (o_place + (1 : Int32)) (fun u_8 =>
        fX4_readNumber_5 o_length a1 n u_8 m_7)))
      )))
    )
def fX4_readNumber (o_length : Int32) (o_place : Int32) (o_number : Int32) (a1 : Nat → Int32) : Option (Int32 × Int32) :=
  fX4_readNumber_5 o_length a1 FU o_place (0 : Int32)
set_option maxHeartbeats 4000000 in
set_option maxRecDepth 100000 in
theorem tX4_readNumber (l : Launch) (G : va_G) (cI cJ cZ : ClassId) (sz : Nat) (h_o h_a1 h_o_way h_o_re h_o_im : Nat) (o_fault : Int32) (o_faultPlace : Int32) (o_toldWords : Int32) (o_toldRe : Int32) (o_toldIm : Int32) (o_length : Int32) (o_place : Int32) (o_kind : Int32) (o_start : Int32) (o_number : Int32) (a1 : Nat → Int32) (out_o_place : Int32) (out_o_number : Int32) (hf : fX4_readNumber o_length o_place o_number a1 = some (out_o_place, out_o_number)) : Met l yX4_readNumber (Cond.code yX4_readNumber cX4_readNumber 2 none :: BIG) ({ frames := 1, cells := 0, slots := 0, locals := 20 } : Room) (cP G (TY3 cI cJ cZ) [.ref h_o, .ref h_a1] sz (wX4_readNumber cI cJ cZ h_o h_a1 h_o_way h_o_re h_o_im o_fault o_faultPlace o_toldWords o_toldRe o_toldIm o_length o_place o_kind o_start o_number a1)) (cQ G (TY3 cI cJ cZ) sz (wX4_readNumber cI cJ cZ h_o h_a1 h_o_way h_o_re h_o_im o_fault o_faultPlace o_toldWords o_toldRe o_toldIm o_length o_place o_kind o_start o_number a1) (wX4_readNumber cI cJ cZ h_o h_a1 h_o_way h_o_re h_o_im o_fault o_faultPlace o_toldWords o_toldRe o_toldIm o_length out_o_place o_kind o_start out_o_number a1) none) 0 0 (va_A (wX4_readNumber cI cJ cZ h_o h_a1 h_o_way h_o_re h_o_im o_fault o_faultPlace o_toldWords o_toldRe o_toldIm o_length o_place o_kind o_start o_number a1) sz) := by
  refine met_v (cc := cX4_readNumber) (maxL := 2) (plainFor_of_name (by decide)) (Nat.le_of_ble_eq_true rfl) (fun p e s m below meth c A ls Q hx hb hml hts hown hK hP hD hS hA hl hret => ?_)
  have hown : s.vm.findClass RX4 = some m.cls := hown
  have hl : lv_has ls 2 [(0, .ref h_o), (1, .ref h_a1)] := hl
  have j5 : ∀ (n : Nat) (o_place : Int32) (o_number : Int32) (H : Heap) (locs : List Loc) (ls : Array Slot), fX4_readNumber_5 o_length a1 n o_place o_number = some (out_o_place, out_o_number) → va_P G vwCl (wX4_readNumber cI cJ cZ h_o h_a1 h_o_way h_o_re h_o_im o_fault o_faultPlace o_toldWords o_toldRe o_toldIm o_length o_place o_kind o_start o_number a1) H → va_D A (wX4_readNumber cI cJ cZ h_o h_a1 h_o_way h_o_re h_o_im o_fault o_faultPlace o_toldWords o_toldRe o_toldIm o_length o_place o_kind o_start o_number a1) → va_S A s.heap H locs → lv_has ls 2 [(0, .ref h_o), (1, .ref h_a1)] → W p l e ({ frames := 1, cells := 0, slots := 0, locals := 20 } : Room) s m ([.ref h_o, .ref h_a1] : List Value).toArray below meth c H locs 0 0 Q (F0 m 5 ls []) := by
    intro n
    induction n with
    | zero =>
      intro o_place o_number H locs ls hf
      have hf : (none : Option (Int32 × Int32)) = some (out_o_place, out_o_number) := hf
      cases hf
    | succ n ih =>
      intro o_place o_number H locs ls hf hP hD hS hl
      rw [fX4_readNumber_5.eq_2] at hf
      refine lv_aload_n hx hb dX4_readNumber_5 rfl (lv_at hl 0 rfl) ?_
      refine rd (ci := 4) (C := RX4) (T := TX4) (N := 13) hx hb hts inX4 hown hK hP 0 9 rfl rfl (by decide) (hts _ q_fX4_62) rfl dX4_readNumber_6 ?_
      refine lv_aload_n hx hb dX4_readNumber_9 rfl (lv_at hl 0 rfl) ?_
      refine rd (ci := 4) (C := RX4) (T := TX4) (N := 13) hx hb hts inX4 hown hK hP 0 8 rfl rfl (by decide) (hts _ q_fX4_59) rfl dX4_readNumber_10 ?_
      refine lv_icmp_ge (tgt := 67) hx hb dX4_readNumber_13 (by decide) (fun c_1 => ?_) (fun c_1 => ?_)
      · have hf := it_t c_1 hf
        cases hf
        exact hret _ _ _ _ dX4_readNumber_67 hP hD hS
      · have hf := it_f c_1 hf
        refine lv_aload_n hx hb dX4_readNumber_16 rfl (lv_at hl 1 rfl) ?_
        refine lv_aload_n hx hb dX4_readNumber_17 rfl (lv_at hl 0 rfl) ?_
        refine rd (ci := 4) (C := RX4) (T := TX4) (N := 13) hx hb hts inX4 hown hK hP 0 9 rfl rfl (by decide) (hts _ q_fX4_62) rfl dX4_readNumber_18 ?_
        obtain ⟨g_2, hf⟩ := gd_x hf
        refine va_iald hx hb hK hP 1 0 rfl rfl (inb_x g_2) dX4_readNumber_21 ?_
        obtain ⟨r_3, e_4, hf⟩ := bd1_x hf
        refine call_s [.int (a1 (Int32.toNatClampNeg o_place))] [] ⟨hx, hb, hml, hown, hts⟩ hK hP hD hS hA hl.1 (tX4_isDigit l G cI cJ cZ H.size (a1 (Int32.toNatClampNeg o_place)) r_3 e_4) (va_cwS 1 hts (gs q_mX4_124 q_s_yX4_isDigit q_n_RX4 q_k_yX4_isDigit) rfl rfl rfl (by decide +kernel) ⟨by decide, by decide⟩) rfl rfl (Nat.le_of_ble_eq_true rfl) dX4_readNumber_22 ⟨Nat.zero_le _, Nat.zero_le _⟩ [] [0, 1] [0, 1] rfl rfl (ws2 := (wX4_readNumber cI cJ cZ h_o h_a1 h_o_way h_o_re h_o_im o_fault o_faultPlace o_toldWords o_toldRe o_toldIm o_length o_place o_kind o_start o_number a1)) rfl (fun H locs hP hD hS => ?_)
        refine W.eq (g2 := F0 m 25 ls [.int r_3]) rfl ?_
        refine lv_if_eq (tgt := 67) hx hb dX4_readNumber_25 (by decide) (fun c_5 => ?_) (fun c_5 => ?_)
        · have hf := it_t c_5 hf
          cases hf
          exact hret _ _ _ _ dX4_readNumber_67 hP hD hS
        · have hf := it_f c_5 hf
          refine lv_aload_n hx hb dX4_readNumber_28 rfl (lv_at hl 0 rfl) ?_
          refine lv_ldc (v := (100000 : Int32)) hx hb hown (hts _ q_cX4_130) dX4_readNumber_29 ?_
          refine lv_aload_n hx hb dX4_readNumber_31 rfl (lv_at hl 0 rfl) ?_
          refine rd (ci := 4) (C := RX4) (T := TX4) (N := 13) hx hb hts inX4 hown hK hP 0 12 rfl rfl (by decide) (hts _ q_fX4_89) rfl dX4_readNumber_32 ?_
          refine lv_bipush (v := (10 : Int32)) hx hb dX4_readNumber_35 (by decide) ?_
          refine lv_imul hx hb dX4_readNumber_37 ?_
          refine lv_aload_n hx hb dX4_readNumber_38 rfl (lv_at hl 1 rfl) ?_
          refine lv_aload_n hx hb dX4_readNumber_39 rfl (lv_at hl 0 rfl) ?_
          refine rd (ci := 4) (C := RX4) (T := TX4) (N := 13) hx hb hts inX4 hown hK hP 0 9 rfl rfl (by decide) (hts _ q_fX4_62) rfl dX4_readNumber_40 ?_
          obtain ⟨g_6, hf⟩ := gd_x hf
          refine va_iald hx hb hK hP 1 0 rfl rfl (inb_x g_6) dX4_readNumber_43 ?_
          refine lv_iadd hx hb dX4_readNumber_44 ?_
          refine lv_bipush (v := (48 : Int32)) hx hb dX4_readNumber_45 (by decide) ?_
          refine lv_isub hx hb dX4_readNumber_47 ?_
          refine va_mmin hx hb (hml.trans hl.1.symm) hown (hts _ q_mX4_131) (hts _ q_s_Lib_Math_min_name) (hts _ q_n_java_lang_Math) (hts _ q_k_Lib_Math_min_name) (by decide) (Nat.le_of_ble_eq_true rfl) (Nat.zero_le _) (Nat.zero_le _) dX4_readNumber_48 ?_
          refine lv_topi (fun m_7 em_7 => ?_)
          have hf := nm_x em_7 hf
          refine wr (ci := 4) (C := RX4) (T := TX4) (N := 13) hx hb hts inX4 tyX4 tyX4_ok nmX4 hown hK hP hD hS 0 12 rfl rfl (by decide) (hts _ q_fX4_89) rfl rfl rfl (Nat.le_of_ble_eq_true rfl) dX4_readNumber_51 (ws2 := (wX4_readNumber cI cJ cZ h_o h_a1 h_o_way h_o_re h_o_im o_fault o_faultPlace o_toldWords o_toldRe o_toldIm o_length o_place o_kind o_start m_7 a1)) rfl (fun H locs hP hD hS => ?_)
          refine lv_aload_n hx hb dX4_readNumber_54 rfl (lv_at hl 0 rfl) ?_
          refine lv_dup hx hb dX4_readNumber_55 rfl ?_
          refine rd (ci := 4) (C := RX4) (T := TX4) (N := 13) hx hb hts inX4 hown hK hP 0 9 rfl rfl (by decide) (hts _ q_fX4_62) rfl dX4_readNumber_56 ?_
          refine lv_iconst (v := (1 : Int32)) hx hb dX4_readNumber_59 (by decide) ?_
          refine lv_iadd hx hb dX4_readNumber_60 ?_
          refine lv_topi (fun u_8 eu_8 => ?_)
          have hf := nm_x eu_8 hf
          refine wr (ci := 4) (C := RX4) (T := TX4) (N := 13) hx hb hts inX4 tyX4 tyX4_ok nmX4 hown hK hP hD hS 0 9 rfl rfl (by decide) (hts _ q_fX4_62) rfl rfl rfl (Nat.le_of_ble_eq_true rfl) dX4_readNumber_61 (ws2 := (wX4_readNumber cI cJ cZ h_o h_a1 h_o_way h_o_re h_o_im o_fault o_faultPlace o_toldWords o_toldRe o_toldIm o_length u_8 o_kind o_start m_7 a1)) rfl (fun H locs hP hD hS => ?_)
          refine lv_goto (tgt := 5) hx hb dX4_readNumber_64 (by decide) ?_
          exact ih u_8 m_7 H locs ls hf hP hD hS (lv_sub hl [0, 1] rfl)
  unfold fX4_readNumber at hf
  obtain ⟨H, eH⟩ : ∃ H, H = s.heap := ⟨_, rfl⟩
  obtain ⟨locs, elocs⟩ : ∃ z : List Loc, z = [] := ⟨_, rfl⟩
  have hP : va_P G vwCl (wX4_readNumber cI cJ cZ h_o h_a1 h_o_way h_o_re h_o_im o_fault o_faultPlace o_toldWords o_toldRe o_toldIm o_length o_place o_kind o_start o_number a1) H := by rw [eH]; exact hP
  have hS : va_S A s.heap H locs := by rw [eH, elocs]; exact hS
  suffices hgo : W p l e ({ frames := 1, cells := 0, slots := 0, locals := 20 } : Room) s m ([.ref h_o, .ref h_a1] : List Value).toArray below meth c H locs 0 0 Q (F0 m 0 ls []) by rw [eH, elocs] at hgo; exact hgo
  clear eH elocs
  refine lv_aload_n hx hb dX4_readNumber_0 rfl (lv_at hl 0 rfl) ?_
  refine lv_iconst (v := (0 : Int32)) hx hb dX4_readNumber_1 (by decide) ?_
  refine wr (ci := 4) (C := RX4) (T := TX4) (N := 13) hx hb hts inX4 tyX4 tyX4_ok nmX4 hown hK hP hD hS 0 12 rfl rfl (by decide) (hts _ q_fX4_89) rfl rfl rfl (Nat.le_of_ble_eq_true rfl) dX4_readNumber_2 (ws2 := (wX4_readNumber cI cJ cZ h_o h_a1 h_o_way h_o_re h_o_im o_fault o_faultPlace o_toldWords o_toldRe o_toldIm o_length o_place o_kind o_start (0 : Int32) a1)) rfl (fun H locs hP hD hS => ?_)
  exact j5 FU o_place (0 : Int32) H locs ls hf hP hD hS (lv_sub hl [0, 1] rfl)
def wX4_nextToken (cI cJ cZ : ClassId) (h_o h_a1 h_o_way h_o_re h_o_im : Nat) (o_fault : Int32) (o_faultPlace : Int32) (o_toldWords : Int32) (o_toldRe : Int32) (o_toldIm : Int32) (o_length : Int32) (o_place : Int32) (o_kind : Int32) (o_start : Int32) (o_number : Int32) (a1 : Nat → Int32) : va_W := [(h_o, .inr (4, [.ref h_o_way, .ref h_o_re, .ref h_o_im, .int o_fault, .int o_faultPlace, .int o_toldWords, .int o_toldRe, .int o_toldIm, .int o_length, .int o_place, .int o_kind, .int o_start, .int o_number])), (h_a1, .inl (cI, 700, .inl a1))]
def fX4_nextToken_168 (o_place : Int32) (o_kind : Int32) (o_start : Int32) (o_number : Int32) (s1 : Int32) : Option (Int32 × Int32 × Int32 × Int32) :=
  nm (o_place + (1 : Int32)) (fun u_27 =>
  some (u_27, s1, o_start, o_number))
def fX4_nextToken_90 (o_length : Int32) (a1 : Nat → Int32) : Nat → Int32 → Int32 → Int32 → Int32 → Option (Int32 × Int32 × Int32 × Int32)
  | 0, _, _, _, _ => none
  | n + 1, o_place, o_kind, o_start, o_number =>
    if o_length ≤ o_place then (
      some (o_place, o_kind, o_start, o_number)
    ) else (
      gd (inb o_place 700) (
      bd1 (fX4_isLetter (a1 (Int32.toNatClampNeg o_place))) (fun r_23 =>
      if r_23 = 0 then (
        some (o_place, o_kind, o_start, o_number)
      ) else (
        nm (o_place + (1 : Int32)) (fun u_26 =>
        fX4_nextToken_90 o_length a1 n u_26 o_kind o_start o_number)
      )))
    )
def fX4_nextToken_46 (o_length : Int32) (a1 : Nat → Int32) (o_place : Int32) (o_kind : Int32) (o_start : Int32) (o_number : Int32) : Option (Int32 × Int32 × Int32 × Int32) :=
  if o_place < o_length then (
    gd (inb o_place 700) (
    bd1 (fX4_isLetter (a1 (Int32.toNatClampNeg o_place))) (fun r_9 =>
    if r_9 = 0 then (
      gd (inb o_place 700) (
      bd1 (fX4_isDigit (a1 (Int32.toNatClampNeg o_place))) (fun r_13 =>
      if r_13 = 0 then (
        gd (inb o_place 700) (
        if (a1 (Int32.toNatClampNeg o_place)) = (59 : Int32) then (
          fX4_nextToken_168 o_place o_kind o_place o_number (3 : Int32)
        ) else (
          fX4_nextToken_168 o_place o_kind o_place o_number (4 : Int32)
        ))
      ) else (
        bd2 (fX4_readNumber o_length o_place o_number a1) (fun o_place_18 o_number_19 =>
        some (o_place_18, (2 : Int32), o_place, o_number_19))
      )))
    ) else (
      fX4_nextToken_90 o_length a1 FU o_place (1 : Int32) o_place o_number
    )))
  ) else (
    some (o_place, (0 : Int32), o_place, o_number)
  )
def fX4_nextToken_33 (o_length : Int32) (a1 : Nat → Int32) (k0 : Int32 → Int32 → Int32 → Int32 → Option (Int32 × Int32 × Int32 × Int32)) (o_place : Int32) (o_kind : Int32) (o_start : Int32) (o_number : Int32) : Option (Int32 × Int32 × Int32 × Int32) :=
  nm (o_place + (1 : Int32)) (fun u_6 =>
  k0 u_6 o_kind o_start o_number)
def fX4_nextToken_0 (o_length : Int32) (a1 : Nat → Int32) : Nat → Int32 → Int32 → Int32 → Int32 → Option (Int32 × Int32 × Int32 × Int32)
  | 0, _, _, _, _ => none
  | n + 1, o_place, o_kind, o_start, o_number =>
    if o_length ≤ o_place then (
      fX4_nextToken_46 o_length a1 o_place o_kind o_start o_number
    ) else (
      gd (inb o_place 700) (
      if (a1 (Int32.toNatClampNeg o_place)) = (10 : Int32) then (
        fX4_nextToken_33 o_length a1 (fX4_nextToken_0 o_length a1 n) o_place o_kind o_start o_number
      ) else (
        gd (inb o_place 700) (
        if (a1 (Int32.toNatClampNeg o_place)) = (32 : Int32) then (
          fX4_nextToken_33 o_length a1 (fX4_nextToken_0 o_length a1 n) o_place o_kind o_start o_number
        ) else (
          fX4_nextToken_46 o_length a1 o_place o_kind o_start o_number
        ))
      ))
    )
def fX4_nextToken (o_length : Int32) (o_place : Int32) (o_kind : Int32) (o_start : Int32) (o_number : Int32) (a1 : Nat → Int32) : Option (Int32 × Int32 × Int32 × Int32) :=
  fX4_nextToken_0 o_length a1 FU o_place o_kind o_start o_number
set_option maxHeartbeats 4000000 in
set_option maxRecDepth 100000 in
theorem tX4_nextToken (l : Launch) (G : va_G) (cI cJ cZ : ClassId) (sz : Nat) (h_o h_a1 h_o_way h_o_re h_o_im : Nat) (o_fault : Int32) (o_faultPlace : Int32) (o_toldWords : Int32) (o_toldRe : Int32) (o_toldIm : Int32) (o_length : Int32) (o_place : Int32) (o_kind : Int32) (o_start : Int32) (o_number : Int32) (a1 : Nat → Int32) (out_o_place : Int32) (out_o_kind : Int32) (out_o_start : Int32) (out_o_number : Int32) (hf : fX4_nextToken o_length o_place o_kind o_start o_number a1 = some (out_o_place, out_o_kind, out_o_start, out_o_number)) : Met l yX4_nextToken (Cond.code yX4_nextToken cX4_nextToken 2 none :: BIG) ({ frames := 2, cells := 0, slots := 0, locals := 41 } : Room) (cP G (TY3 cI cJ cZ) [.ref h_o, .ref h_a1] sz (wX4_nextToken cI cJ cZ h_o h_a1 h_o_way h_o_re h_o_im o_fault o_faultPlace o_toldWords o_toldRe o_toldIm o_length o_place o_kind o_start o_number a1)) (cQ G (TY3 cI cJ cZ) sz (wX4_nextToken cI cJ cZ h_o h_a1 h_o_way h_o_re h_o_im o_fault o_faultPlace o_toldWords o_toldRe o_toldIm o_length o_place o_kind o_start o_number a1) (wX4_nextToken cI cJ cZ h_o h_a1 h_o_way h_o_re h_o_im o_fault o_faultPlace o_toldWords o_toldRe o_toldIm o_length out_o_place out_o_kind out_o_start out_o_number a1) none) 0 0 (va_A (wX4_nextToken cI cJ cZ h_o h_a1 h_o_way h_o_re h_o_im o_fault o_faultPlace o_toldWords o_toldRe o_toldIm o_length o_place o_kind o_start o_number a1) sz) := by
  refine met_v (cc := cX4_nextToken) (maxL := 2) (plainFor_of_name (by decide)) (Nat.le_of_ble_eq_true rfl) (fun p e s m below meth c A ls Q hx hb hml hts hown hK hP hD hS hA hl hret => ?_)
  have hown : s.vm.findClass RX4 = some m.cls := hown
  have hl : lv_has ls 2 [(0, .ref h_o), (1, .ref h_a1)] := hl
  have j168 : ∀ (o_place : Int32) (o_kind : Int32) (o_start : Int32) (o_number : Int32) (s1 : Int32) (H : Heap) (locs : List Loc) (ls : Array Slot), fX4_nextToken_168 o_place o_kind o_start o_number s1 = some (out_o_place, out_o_kind, out_o_start, out_o_number) → va_P G vwCl (wX4_nextToken cI cJ cZ h_o h_a1 h_o_way h_o_re h_o_im o_fault o_faultPlace o_toldWords o_toldRe o_toldIm o_length o_place o_kind o_start o_number a1) H → va_D A (wX4_nextToken cI cJ cZ h_o h_a1 h_o_way h_o_re h_o_im o_fault o_faultPlace o_toldWords o_toldRe o_toldIm o_length o_place o_kind o_start o_number a1) → va_S A s.heap H locs → lv_has ls 2 [(0, .ref h_o)] → W p l e ({ frames := 2, cells := 0, slots := 0, locals := 41 } : Room) s m ([.ref h_o, .ref h_a1] : List Value).toArray below meth c H locs 0 0 Q (F0 m 168 ls [.int s1, .ref h_o]) := by
    intro o_place o_kind o_start o_number s1 H locs ls hf hP hD hS hl
    unfold fX4_nextToken_168 at hf
    refine wr (ci := 4) (C := RX4) (T := TX4) (N := 13) hx hb hts inX4 tyX4 tyX4_ok nmX4 hown hK hP hD hS 0 10 rfl rfl (by decide) (hts _ q_fX4_40) rfl rfl rfl (Nat.le_of_ble_eq_true rfl) dX4_nextToken_168 (ws2 := (wX4_nextToken cI cJ cZ h_o h_a1 h_o_way h_o_re h_o_im o_fault o_faultPlace o_toldWords o_toldRe o_toldIm o_length o_place s1 o_start o_number a1)) rfl (fun H locs hP hD hS => ?_)
    refine lv_aload_n hx hb dX4_nextToken_171 rfl (lv_at hl 0 rfl) ?_
    refine lv_dup hx hb dX4_nextToken_172 rfl ?_
    refine rd (ci := 4) (C := RX4) (T := TX4) (N := 13) hx hb hts inX4 hown hK hP 0 9 rfl rfl (by decide) (hts _ q_fX4_62) rfl dX4_nextToken_173 ?_
    refine lv_iconst (v := (1 : Int32)) hx hb dX4_nextToken_176 (by decide) ?_
    refine lv_iadd hx hb dX4_nextToken_177 ?_
    refine lv_topi (fun u_27 eu_27 => ?_)
    have hf := nm_x eu_27 hf
    refine wr (ci := 4) (C := RX4) (T := TX4) (N := 13) hx hb hts inX4 tyX4 tyX4_ok nmX4 hown hK hP hD hS 0 9 rfl rfl (by decide) (hts _ q_fX4_62) rfl rfl rfl (Nat.le_of_ble_eq_true rfl) dX4_nextToken_178 (ws2 := (wX4_nextToken cI cJ cZ h_o h_a1 h_o_way h_o_re h_o_im o_fault o_faultPlace o_toldWords o_toldRe o_toldIm o_length u_27 s1 o_start o_number a1)) rfl (fun H locs hP hD hS => ?_)
    cases hf
    exact hret _ _ _ _ dX4_nextToken_181 hP hD hS
  have j90 : ∀ (n : Nat) (o_place : Int32) (o_kind : Int32) (o_start : Int32) (o_number : Int32) (H : Heap) (locs : List Loc) (ls : Array Slot), fX4_nextToken_90 o_length a1 n o_place o_kind o_start o_number = some (out_o_place, out_o_kind, out_o_start, out_o_number) → va_P G vwCl (wX4_nextToken cI cJ cZ h_o h_a1 h_o_way h_o_re h_o_im o_fault o_faultPlace o_toldWords o_toldRe o_toldIm o_length o_place o_kind o_start o_number a1) H → va_D A (wX4_nextToken cI cJ cZ h_o h_a1 h_o_way h_o_re h_o_im o_fault o_faultPlace o_toldWords o_toldRe o_toldIm o_length o_place o_kind o_start o_number a1) → va_S A s.heap H locs → lv_has ls 2 [(0, .ref h_o), (1, .ref h_a1)] → W p l e ({ frames := 2, cells := 0, slots := 0, locals := 41 } : Room) s m ([.ref h_o, .ref h_a1] : List Value).toArray below meth c H locs 0 0 Q (F0 m 90 ls []) := by
    intro n
    induction n with
    | zero =>
      intro o_place o_kind o_start o_number H locs ls hf
      have hf : (none : Option (Int32 × Int32 × Int32 × Int32)) = some (out_o_place, out_o_kind, out_o_start, out_o_number) := hf
      cases hf
    | succ n ih =>
      intro o_place o_kind o_start o_number H locs ls hf hP hD hS hl
      rw [fX4_nextToken_90.eq_2] at hf
      refine lv_aload_n hx hb dX4_nextToken_90 rfl (lv_at hl 0 rfl) ?_
      refine rd (ci := 4) (C := RX4) (T := TX4) (N := 13) hx hb hts inX4 hown hK hP 0 9 rfl rfl (by decide) (hts _ q_fX4_62) rfl dX4_nextToken_91 ?_
      refine lv_aload_n hx hb dX4_nextToken_94 rfl (lv_at hl 0 rfl) ?_
      refine rd (ci := 4) (C := RX4) (T := TX4) (N := 13) hx hb hts inX4 hown hK hP 0 8 rfl rfl (by decide) (hts _ q_fX4_59) rfl dX4_nextToken_95 ?_
      refine lv_icmp_ge (tgt := 181) hx hb dX4_nextToken_98 (by decide) (fun c_21 => ?_) (fun c_21 => ?_)
      · have hf := it_t c_21 hf
        cases hf
        exact hret _ _ _ _ dX4_nextToken_181 hP hD hS
      · have hf := it_f c_21 hf
        refine lv_aload_n hx hb dX4_nextToken_101 rfl (lv_at hl 1 rfl) ?_
        refine lv_aload_n hx hb dX4_nextToken_102 rfl (lv_at hl 0 rfl) ?_
        refine rd (ci := 4) (C := RX4) (T := TX4) (N := 13) hx hb hts inX4 hown hK hP 0 9 rfl rfl (by decide) (hts _ q_fX4_62) rfl dX4_nextToken_103 ?_
        obtain ⟨g_22, hf⟩ := gd_x hf
        refine va_iald hx hb hK hP 1 0 rfl rfl (inb_x g_22) dX4_nextToken_106 ?_
        obtain ⟨r_23, e_24, hf⟩ := bd1_x hf
        refine call_s [.int (a1 (Int32.toNatClampNeg o_place))] [] ⟨hx, hb, hml, hown, hts⟩ hK hP hD hS hA hl.1 (tX4_isLetter l G cI cJ cZ H.size (a1 (Int32.toNatClampNeg o_place)) r_23 e_24) (va_cwS 1 hts (gs q_mX4_121 q_s_yX4_isLetter q_n_RX4 q_k_yX4_isLetter) rfl rfl rfl (by decide +kernel) ⟨by decide, by decide⟩) rfl rfl (Nat.le_of_ble_eq_true rfl) dX4_nextToken_107 ⟨Nat.zero_le _, Nat.zero_le _⟩ [] [0, 1] [0, 1] rfl rfl (ws2 := (wX4_nextToken cI cJ cZ h_o h_a1 h_o_way h_o_re h_o_im o_fault o_faultPlace o_toldWords o_toldRe o_toldIm o_length o_place o_kind o_start o_number a1)) rfl (fun H locs hP hD hS => ?_)
        refine W.eq (g2 := F0 m 110 ls [.int r_23]) rfl ?_
        refine lv_if_eq (tgt := 181) hx hb dX4_nextToken_110 (by decide) (fun c_25 => ?_) (fun c_25 => ?_)
        · have hf := it_t c_25 hf
          cases hf
          exact hret _ _ _ _ dX4_nextToken_181 hP hD hS
        · have hf := it_f c_25 hf
          refine lv_aload_n hx hb dX4_nextToken_113 rfl (lv_at hl 0 rfl) ?_
          refine lv_dup hx hb dX4_nextToken_114 rfl ?_
          refine rd (ci := 4) (C := RX4) (T := TX4) (N := 13) hx hb hts inX4 hown hK hP 0 9 rfl rfl (by decide) (hts _ q_fX4_62) rfl dX4_nextToken_115 ?_
          refine lv_iconst (v := (1 : Int32)) hx hb dX4_nextToken_118 (by decide) ?_
          refine lv_iadd hx hb dX4_nextToken_119 ?_
          refine lv_topi (fun u_26 eu_26 => ?_)
          have hf := nm_x eu_26 hf
          refine wr (ci := 4) (C := RX4) (T := TX4) (N := 13) hx hb hts inX4 tyX4 tyX4_ok nmX4 hown hK hP hD hS 0 9 rfl rfl (by decide) (hts _ q_fX4_62) rfl rfl rfl (Nat.le_of_ble_eq_true rfl) dX4_nextToken_120 (ws2 := (wX4_nextToken cI cJ cZ h_o h_a1 h_o_way h_o_re h_o_im o_fault o_faultPlace o_toldWords o_toldRe o_toldIm o_length u_26 o_kind o_start o_number a1)) rfl (fun H locs hP hD hS => ?_)
          refine lv_goto (tgt := 90) hx hb dX4_nextToken_123 (by decide) ?_
          exact ih u_26 o_kind o_start o_number H locs ls hf hP hD hS (lv_sub hl [0, 1] rfl)
  have j46 : ∀ (o_place : Int32) (o_kind : Int32) (o_start : Int32) (o_number : Int32) (H : Heap) (locs : List Loc) (ls : Array Slot), fX4_nextToken_46 o_length a1 o_place o_kind o_start o_number = some (out_o_place, out_o_kind, out_o_start, out_o_number) → va_P G vwCl (wX4_nextToken cI cJ cZ h_o h_a1 h_o_way h_o_re h_o_im o_fault o_faultPlace o_toldWords o_toldRe o_toldIm o_length o_place o_kind o_start o_number a1) H → va_D A (wX4_nextToken cI cJ cZ h_o h_a1 h_o_way h_o_re h_o_im o_fault o_faultPlace o_toldWords o_toldRe o_toldIm o_length o_place o_kind o_start o_number a1) → va_S A s.heap H locs → lv_has ls 2 [(0, .ref h_o), (1, .ref h_a1)] → W p l e ({ frames := 2, cells := 0, slots := 0, locals := 41 } : Room) s m ([.ref h_o, .ref h_a1] : List Value).toArray below meth c H locs 0 0 Q (F0 m 46 ls []) := by
    intro o_place o_kind o_start o_number H locs ls hf hP hD hS hl
    unfold fX4_nextToken_46 at hf
    refine lv_aload_n hx hb dX4_nextToken_46 rfl (lv_at hl 0 rfl) ?_
    refine lv_aload_n hx hb dX4_nextToken_47 rfl (lv_at hl 0 rfl) ?_
    refine rd (ci := 4) (C := RX4) (T := TX4) (N := 13) hx hb hts inX4 hown hK hP 0 9 rfl rfl (by decide) (hts _ q_fX4_62) rfl dX4_nextToken_48 ?_
    refine wr (ci := 4) (C := RX4) (T := TX4) (N := 13) hx hb hts inX4 tyX4 tyX4_ok nmX4 hown hK hP hD hS 0 11 rfl rfl (by decide) (hts _ q_fX4_65) rfl rfl rfl (Nat.le_of_ble_eq_true rfl) dX4_nextToken_51 (ws2 := (wX4_nextToken cI cJ cZ h_o h_a1 h_o_way h_o_re h_o_im o_fault o_faultPlace o_toldWords o_toldRe o_toldIm o_length o_place o_kind o_place o_number a1)) rfl (fun H locs hP hD hS => ?_)
    refine lv_aload_n hx hb dX4_nextToken_54 rfl (lv_at hl 0 rfl) ?_
    refine rd (ci := 4) (C := RX4) (T := TX4) (N := 13) hx hb hts inX4 hown hK hP 0 9 rfl rfl (by decide) (hts _ q_fX4_62) rfl dX4_nextToken_55 ?_
    refine lv_aload_n hx hb dX4_nextToken_58 rfl (lv_at hl 0 rfl) ?_
    refine rd (ci := 4) (C := RX4) (T := TX4) (N := 13) hx hb hts inX4 hown hK hP 0 8 rfl rfl (by decide) (hts _ q_fX4_59) rfl dX4_nextToken_59 ?_
    refine lv_icmp_lt (tgt := 73) hx hb dX4_nextToken_62 (by decide) (fun c_7 => ?_) (fun c_7 => ?_)
    · have hf := it_t c_7 hf
      refine lv_aload_n hx hb dX4_nextToken_73 rfl (lv_at hl 1 rfl) ?_
      refine lv_aload_n hx hb dX4_nextToken_74 rfl (lv_at hl 0 rfl) ?_
      refine rd (ci := 4) (C := RX4) (T := TX4) (N := 13) hx hb hts inX4 hown hK hP 0 9 rfl rfl (by decide) (hts _ q_fX4_62) rfl dX4_nextToken_75 ?_
      obtain ⟨g_8, hf⟩ := gd_x hf
      refine va_iald hx hb hK hP 1 0 rfl rfl (inb_x g_8) dX4_nextToken_78 ?_
      obtain ⟨r_9, e_10, hf⟩ := bd1_x hf
      refine call_s [.int (a1 (Int32.toNatClampNeg o_place))] [] ⟨hx, hb, hml, hown, hts⟩ hK hP hD hS hA hl.1 (tX4_isLetter l G cI cJ cZ H.size (a1 (Int32.toNatClampNeg o_place)) r_9 e_10) (va_cwS 1 hts (gs q_mX4_121 q_s_yX4_isLetter q_n_RX4 q_k_yX4_isLetter) rfl rfl rfl (by decide +kernel) ⟨by decide, by decide⟩) rfl rfl (Nat.le_of_ble_eq_true rfl) dX4_nextToken_79 ⟨Nat.zero_le _, Nat.zero_le _⟩ [] [0, 1] [0, 1] rfl rfl (ws2 := (wX4_nextToken cI cJ cZ h_o h_a1 h_o_way h_o_re h_o_im o_fault o_faultPlace o_toldWords o_toldRe o_toldIm o_length o_place o_kind o_place o_number a1)) rfl (fun H locs hP hD hS => ?_)
      refine W.eq (g2 := F0 m 82 ls [.int r_9]) rfl ?_
      refine lv_if_eq (tgt := 126) hx hb dX4_nextToken_82 (by decide) (fun c_11 => ?_) (fun c_11 => ?_)
      · have hf := it_t c_11 hf
        refine lv_aload_n hx hb dX4_nextToken_126 rfl (lv_at hl 1 rfl) ?_
        refine lv_aload_n hx hb dX4_nextToken_127 rfl (lv_at hl 0 rfl) ?_
        refine rd (ci := 4) (C := RX4) (T := TX4) (N := 13) hx hb hts inX4 hown hK hP 0 9 rfl rfl (by decide) (hts _ q_fX4_62) rfl dX4_nextToken_128 ?_
        obtain ⟨g_12, hf⟩ := gd_x hf
        refine va_iald hx hb hK hP 1 0 rfl rfl (inb_x g_12) dX4_nextToken_131 ?_
        obtain ⟨r_13, e_14, hf⟩ := bd1_x hf
        refine call_s [.int (a1 (Int32.toNatClampNeg o_place))] [] ⟨hx, hb, hml, hown, hts⟩ hK hP hD hS hA hl.1 (tX4_isDigit l G cI cJ cZ H.size (a1 (Int32.toNatClampNeg o_place)) r_13 e_14) (va_cwS 1 hts (gs q_mX4_124 q_s_yX4_isDigit q_n_RX4 q_k_yX4_isDigit) rfl rfl rfl (by decide +kernel) ⟨by decide, by decide⟩) rfl rfl (Nat.le_of_ble_eq_true rfl) dX4_nextToken_132 ⟨Nat.zero_le _, Nat.zero_le _⟩ [] [0, 1] [0, 1] rfl rfl (ws2 := (wX4_nextToken cI cJ cZ h_o h_a1 h_o_way h_o_re h_o_im o_fault o_faultPlace o_toldWords o_toldRe o_toldIm o_length o_place o_kind o_place o_number a1)) rfl (fun H locs hP hD hS => ?_)
        refine W.eq (g2 := F0 m 135 ls [.int r_13]) rfl ?_
        refine lv_if_eq (tgt := 151) hx hb dX4_nextToken_135 (by decide) (fun c_15 => ?_) (fun c_15 => ?_)
        · have hf := it_t c_15 hf
          refine lv_aload_n hx hb dX4_nextToken_151 rfl (lv_at hl 0 rfl) ?_
          refine lv_aload_n hx hb dX4_nextToken_152 rfl (lv_at hl 1 rfl) ?_
          refine lv_aload_n hx hb dX4_nextToken_153 rfl (lv_at hl 0 rfl) ?_
          refine rd (ci := 4) (C := RX4) (T := TX4) (N := 13) hx hb hts inX4 hown hK hP 0 9 rfl rfl (by decide) (hts _ q_fX4_62) rfl dX4_nextToken_154 ?_
          obtain ⟨g_16, hf⟩ := gd_x hf
          refine va_iald hx hb hK hP 1 0 rfl rfl (inb_x g_16) dX4_nextToken_157 ?_
          refine lv_bipush (v := (59 : Int32)) hx hb dX4_nextToken_158 (by decide) ?_
          refine lv_icmp_ne (tgt := 167) hx hb dX4_nextToken_160 (by decide) (fun c_17 => ?_) (fun c_17 => ?_)
          · have hf := it_f c_17 hf
            refine lv_iconst (v := (4 : Int32)) hx hb dX4_nextToken_167 (by decide) ?_
            exact j168 o_place o_kind o_place o_number (4 : Int32) H locs ls hf hP hD hS (lv_sub hl [0] rfl)
          · have hf := it_t c_17 hf
            refine lv_iconst (v := (3 : Int32)) hx hb dX4_nextToken_163 (by decide) ?_
            refine lv_goto (tgt := 168) hx hb dX4_nextToken_164 (by decide) ?_
            exact j168 o_place o_kind o_place o_number (3 : Int32) H locs ls hf hP hD hS (lv_sub hl [0] rfl)
        · have hf := it_f c_15 hf
          refine lv_aload_n hx hb dX4_nextToken_138 rfl (lv_at hl 0 rfl) ?_
          refine lv_iconst (v := (2 : Int32)) hx hb dX4_nextToken_139 (by decide) ?_
          refine wr (ci := 4) (C := RX4) (T := TX4) (N := 13) hx hb hts inX4 tyX4 tyX4_ok nmX4 hown hK hP hD hS 0 10 rfl rfl (by decide) (hts _ q_fX4_40) rfl rfl rfl (Nat.le_of_ble_eq_true rfl) dX4_nextToken_140 (ws2 := (wX4_nextToken cI cJ cZ h_o h_a1 h_o_way h_o_re h_o_im o_fault o_faultPlace o_toldWords o_toldRe o_toldIm o_length o_place (2 : Int32) o_place o_number a1)) rfl (fun H locs hP hD hS => ?_)
          refine lv_aload_n hx hb dX4_nextToken_143 rfl (lv_at hl 0 rfl) ?_
          refine lv_aload_n hx hb dX4_nextToken_144 rfl (lv_at hl 1 rfl) ?_
          obtain ⟨o_place_18, o_number_19, e_20, hf⟩ := bd2_x hf
          refine call_v [.ref h_a1] [] ⟨hx, hb, hml, hown, hts⟩ hK hP hD hS hA hl.1 (tX4_readNumber l G cI cJ cZ H.size h_o h_a1 h_o_way h_o_re h_o_im o_fault o_faultPlace o_toldWords o_toldRe o_toldIm o_length o_place (2 : Int32) o_place o_number a1 o_place_18 o_number_19 e_20) (cwV 1 hts (gv q_mX4_127 q_i_yX4_readNumber q_s_yX4_readNumber q_n_RX4 q_k_yX4_readNumber) rfl rfl rfl (by decide +kernel) ⟨by decide, by decide⟩) rfl rfl (Nat.le_of_ble_eq_true rfl) dX4_nextToken_145 ⟨Nat.zero_le _, Nat.zero_le _⟩ (ci := 4) rfl 0 rfl [0, 1] [] [0, 1] rfl rfl (ws2 := (wX4_nextToken cI cJ cZ h_o h_a1 h_o_way h_o_re h_o_im o_fault o_faultPlace o_toldWords o_toldRe o_toldIm o_length o_place_18 (2 : Int32) o_place o_number_19 a1)) rfl (fun H locs hP hD hS => ?_)
          refine W.eq (g2 := F0 m 148 ls []) rfl ?_
          refine lv_goto (tgt := 181) hx hb dX4_nextToken_148 (by decide) ?_
          cases hf
          exact hret _ _ _ _ dX4_nextToken_181 hP hD hS
      · have hf := it_f c_11 hf
        refine lv_aload_n hx hb dX4_nextToken_85 rfl (lv_at hl 0 rfl) ?_
        refine lv_iconst (v := (1 : Int32)) hx hb dX4_nextToken_86 (by decide) ?_
        refine wr (ci := 4) (C := RX4) (T := TX4) (N := 13) hx hb hts inX4 tyX4 tyX4_ok nmX4 hown hK hP hD hS 0 10 rfl rfl (by decide) (hts _ q_fX4_40) rfl rfl rfl (Nat.le_of_ble_eq_true rfl) dX4_nextToken_87 (ws2 := (wX4_nextToken cI cJ cZ h_o h_a1 h_o_way h_o_re h_o_im o_fault o_faultPlace o_toldWords o_toldRe o_toldIm o_length o_place (1 : Int32) o_place o_number a1)) rfl (fun H locs hP hD hS => ?_)
        exact j90 FU o_place (1 : Int32) o_place o_number H locs ls hf hP hD hS (lv_sub hl [0, 1] rfl)
    · have hf := it_f c_7 hf
      refine lv_aload_n hx hb dX4_nextToken_65 rfl (lv_at hl 0 rfl) ?_
      refine lv_iconst (v := (0 : Int32)) hx hb dX4_nextToken_66 (by decide) ?_
      refine wr (ci := 4) (C := RX4) (T := TX4) (N := 13) hx hb hts inX4 tyX4 tyX4_ok nmX4 hown hK hP hD hS 0 10 rfl rfl (by decide) (hts _ q_fX4_40) rfl rfl rfl (Nat.le_of_ble_eq_true rfl) dX4_nextToken_67 (ws2 := (wX4_nextToken cI cJ cZ h_o h_a1 h_o_way h_o_re h_o_im o_fault o_faultPlace o_toldWords o_toldRe o_toldIm o_length o_place (0 : Int32) o_place o_number a1)) rfl (fun H locs hP hD hS => ?_)
      refine lv_goto (tgt := 181) hx hb dX4_nextToken_70 (by decide) ?_
      cases hf
      exact hret _ _ _ _ dX4_nextToken_181 hP hD hS
  have j33 : ∀ (k0 : Int32 → Int32 → Int32 → Int32 → Option (Int32 × Int32 × Int32 × Int32)), (∀ (o_place : Int32) (o_kind : Int32) (o_start : Int32) (o_number : Int32) (H : Heap) (locs : List Loc) (ls : Array Slot), k0 o_place o_kind o_start o_number = some (out_o_place, out_o_kind, out_o_start, out_o_number) → va_P G vwCl (wX4_nextToken cI cJ cZ h_o h_a1 h_o_way h_o_re h_o_im o_fault o_faultPlace o_toldWords o_toldRe o_toldIm o_length o_place o_kind o_start o_number a1) H → va_D A (wX4_nextToken cI cJ cZ h_o h_a1 h_o_way h_o_re h_o_im o_fault o_faultPlace o_toldWords o_toldRe o_toldIm o_length o_place o_kind o_start o_number a1) → va_S A s.heap H locs → lv_has ls 2 [(0, .ref h_o), (1, .ref h_a1)] → W p l e ({ frames := 2, cells := 0, slots := 0, locals := 41 } : Room) s m ([.ref h_o, .ref h_a1] : List Value).toArray below meth c H locs 0 0 Q (F0 m 0 ls [])) → ∀ (o_place : Int32) (o_kind : Int32) (o_start : Int32) (o_number : Int32) (H : Heap) (locs : List Loc) (ls : Array Slot), fX4_nextToken_33 o_length a1 k0 o_place o_kind o_start o_number = some (out_o_place, out_o_kind, out_o_start, out_o_number) → va_P G vwCl (wX4_nextToken cI cJ cZ h_o h_a1 h_o_way h_o_re h_o_im o_fault o_faultPlace o_toldWords o_toldRe o_toldIm o_length o_place o_kind o_start o_number a1) H → va_D A (wX4_nextToken cI cJ cZ h_o h_a1 h_o_way h_o_re h_o_im o_fault o_faultPlace o_toldWords o_toldRe o_toldIm o_length o_place o_kind o_start o_number a1) → va_S A s.heap H locs → lv_has ls 2 [(0, .ref h_o), (1, .ref h_a1)] → W p l e ({ frames := 2, cells := 0, slots := 0, locals := 41 } : Room) s m ([.ref h_o, .ref h_a1] : List Value).toArray below meth c H locs 0 0 Q (F0 m 33 ls []) := by
    intro k0 hk0 o_place o_kind o_start o_number H locs ls hf hP hD hS hl
    unfold fX4_nextToken_33 at hf
    refine lv_aload_n hx hb dX4_nextToken_33 rfl (lv_at hl 0 rfl) ?_
    refine lv_dup hx hb dX4_nextToken_34 rfl ?_
    refine rd (ci := 4) (C := RX4) (T := TX4) (N := 13) hx hb hts inX4 hown hK hP 0 9 rfl rfl (by decide) (hts _ q_fX4_62) rfl dX4_nextToken_35 ?_
    refine lv_iconst (v := (1 : Int32)) hx hb dX4_nextToken_38 (by decide) ?_
    refine lv_iadd hx hb dX4_nextToken_39 ?_
    refine lv_topi (fun u_6 eu_6 => ?_)
    have hf := nm_x eu_6 hf
    refine wr (ci := 4) (C := RX4) (T := TX4) (N := 13) hx hb hts inX4 tyX4 tyX4_ok nmX4 hown hK hP hD hS 0 9 rfl rfl (by decide) (hts _ q_fX4_62) rfl rfl rfl (Nat.le_of_ble_eq_true rfl) dX4_nextToken_40 (ws2 := (wX4_nextToken cI cJ cZ h_o h_a1 h_o_way h_o_re h_o_im o_fault o_faultPlace o_toldWords o_toldRe o_toldIm o_length u_6 o_kind o_start o_number a1)) rfl (fun H locs hP hD hS => ?_)
    refine lv_goto (tgt := 0) hx hb dX4_nextToken_43 (by decide) ?_
    exact hk0 u_6 o_kind o_start o_number H locs ls hf hP hD hS (lv_sub hl [0, 1] rfl)
  have j0 : ∀ (n : Nat) (o_place : Int32) (o_kind : Int32) (o_start : Int32) (o_number : Int32) (H : Heap) (locs : List Loc) (ls : Array Slot), fX4_nextToken_0 o_length a1 n o_place o_kind o_start o_number = some (out_o_place, out_o_kind, out_o_start, out_o_number) → va_P G vwCl (wX4_nextToken cI cJ cZ h_o h_a1 h_o_way h_o_re h_o_im o_fault o_faultPlace o_toldWords o_toldRe o_toldIm o_length o_place o_kind o_start o_number a1) H → va_D A (wX4_nextToken cI cJ cZ h_o h_a1 h_o_way h_o_re h_o_im o_fault o_faultPlace o_toldWords o_toldRe o_toldIm o_length o_place o_kind o_start o_number a1) → va_S A s.heap H locs → lv_has ls 2 [(0, .ref h_o), (1, .ref h_a1)] → W p l e ({ frames := 2, cells := 0, slots := 0, locals := 41 } : Room) s m ([.ref h_o, .ref h_a1] : List Value).toArray below meth c H locs 0 0 Q (F0 m 0 ls []) := by
    intro n
    induction n with
    | zero =>
      intro o_place o_kind o_start o_number H locs ls hf
      have hf : (none : Option (Int32 × Int32 × Int32 × Int32)) = some (out_o_place, out_o_kind, out_o_start, out_o_number) := hf
      cases hf
    | succ n ih =>
      intro o_place o_kind o_start o_number H locs ls hf hP hD hS hl
      rw [fX4_nextToken_0.eq_2] at hf
      refine lv_aload_n hx hb dX4_nextToken_0 rfl (lv_at hl 0 rfl) ?_
      refine rd (ci := 4) (C := RX4) (T := TX4) (N := 13) hx hb hts inX4 hown hK hP 0 9 rfl rfl (by decide) (hts _ q_fX4_62) rfl dX4_nextToken_1 ?_
      refine lv_aload_n hx hb dX4_nextToken_4 rfl (lv_at hl 0 rfl) ?_
      refine rd (ci := 4) (C := RX4) (T := TX4) (N := 13) hx hb hts inX4 hown hK hP 0 8 rfl rfl (by decide) (hts _ q_fX4_59) rfl dX4_nextToken_5 ?_
      refine lv_icmp_ge (tgt := 46) hx hb dX4_nextToken_8 (by decide) (fun c_1 => ?_) (fun c_1 => ?_)
      · have hf := it_t c_1 hf
        exact j46 o_place o_kind o_start o_number H locs ls hf hP hD hS (lv_sub hl [0, 1] rfl)
      · have hf := it_f c_1 hf
        refine lv_aload_n hx hb dX4_nextToken_11 rfl (lv_at hl 1 rfl) ?_
        refine lv_aload_n hx hb dX4_nextToken_12 rfl (lv_at hl 0 rfl) ?_
        refine rd (ci := 4) (C := RX4) (T := TX4) (N := 13) hx hb hts inX4 hown hK hP 0 9 rfl rfl (by decide) (hts _ q_fX4_62) rfl dX4_nextToken_13 ?_
        obtain ⟨g_2, hf⟩ := gd_x hf
        refine va_iald hx hb hK hP 1 0 rfl rfl (inb_x g_2) dX4_nextToken_16 ?_
        refine lv_bipush (v := (10 : Int32)) hx hb dX4_nextToken_17 (by decide) ?_
        refine lv_icmp_eq (tgt := 33) hx hb dX4_nextToken_19 (by decide) (fun c_3 => ?_) (fun c_3 => ?_)
        · have hf := it_t c_3 hf
          exact j33 (fX4_nextToken_0 o_length a1 n) ih o_place o_kind o_start o_number H locs ls hf hP hD hS (lv_sub hl [0, 1] rfl)
        · have hf := it_f c_3 hf
          refine lv_aload_n hx hb dX4_nextToken_22 rfl (lv_at hl 1 rfl) ?_
          refine lv_aload_n hx hb dX4_nextToken_23 rfl (lv_at hl 0 rfl) ?_
          refine rd (ci := 4) (C := RX4) (T := TX4) (N := 13) hx hb hts inX4 hown hK hP 0 9 rfl rfl (by decide) (hts _ q_fX4_62) rfl dX4_nextToken_24 ?_
          obtain ⟨g_4, hf⟩ := gd_x hf
          refine va_iald hx hb hK hP 1 0 rfl rfl (inb_x g_4) dX4_nextToken_27 ?_
          refine lv_bipush (v := (32 : Int32)) hx hb dX4_nextToken_28 (by decide) ?_
          refine lv_icmp_ne (tgt := 46) hx hb dX4_nextToken_30 (by decide) (fun c_5 => ?_) (fun c_5 => ?_)
          · have hf := it_f c_5 hf
            exact j46 o_place o_kind o_start o_number H locs ls hf hP hD hS (lv_sub hl [0, 1] rfl)
          · have hf := it_t c_5 hf
            exact j33 (fX4_nextToken_0 o_length a1 n) ih o_place o_kind o_start o_number H locs ls hf hP hD hS (lv_sub hl [0, 1] rfl)
  unfold fX4_nextToken at hf
  obtain ⟨H, eH⟩ : ∃ H, H = s.heap := ⟨_, rfl⟩
  obtain ⟨locs, elocs⟩ : ∃ z : List Loc, z = [] := ⟨_, rfl⟩
  have hP : va_P G vwCl (wX4_nextToken cI cJ cZ h_o h_a1 h_o_way h_o_re h_o_im o_fault o_faultPlace o_toldWords o_toldRe o_toldIm o_length o_place o_kind o_start o_number a1) H := by rw [eH]; exact hP
  have hS : va_S A s.heap H locs := by rw [eH, elocs]; exact hS
  suffices hgo : W p l e ({ frames := 2, cells := 0, slots := 0, locals := 41 } : Room) s m ([.ref h_o, .ref h_a1] : List Value).toArray below meth c H locs 0 0 Q (F0 m 0 ls []) by rw [eH, elocs] at hgo; exact hgo
  clear eH elocs
  exact j0 FU o_place o_kind o_start o_number H locs ls hf hP hD hS (lv_sub hl [0, 1] rfl)
def wX4_isSetting (cI cJ cZ : ClassId) (h_o h_o_way h_o_re h_o_im : Nat) (o_fault : Int32) (o_faultPlace : Int32) (o_toldWords : Int32) (o_toldRe : Int32) (o_toldIm : Int32) (o_length : Int32) (o_place : Int32) (o_kind : Int32) (o_start : Int32) (o_number : Int32) : va_W := [(h_o, .inr (4, [.ref h_o_way, .ref h_o_re, .ref h_o_im, .int o_fault, .int o_faultPlace, .int o_toldWords, .int o_toldRe, .int o_toldIm, .int o_length, .int o_place, .int o_kind, .int o_start, .int o_number]))]
def fX4_isSetting (o_number : Int32) (p1 : Int32) : Option (Int32) :=
  if p1 = (0 : Int32) then (
    if o_number = (2 : Int32) then (
      some (1 : Int32)
    ) else (
      if o_number = (4 : Int32) then (
        some (1 : Int32)
      ) else (
        if o_number = (8 : Int32) then (
          some (1 : Int32)
        ) else (
          if o_number = (16 : Int32) then (
            some (1 : Int32)
          ) else (
            if o_number = (32 : Int32) then (
              some (1 : Int32)
            ) else (
              some (0 : Int32)
            )
          )
        )
      )
    )
  ) else (
  if p1 = (1 : Int32) then (
    if o_number < (8 : Int32) then (
      some (0 : Int32)
    ) else (
      if (16 : Int32) < o_number then (
        some (0 : Int32)
      ) else (
        some (1 : Int32)
      )
    )
  ) else (
  if p1 = (2 : Int32) then (
    if o_number = (2 : Int32) then (
      some (1 : Int32)
    ) else (
      if o_number = (4 : Int32) then (
        some (1 : Int32)
      ) else (
        some (0 : Int32)
      )
    )
  ) else (
  if p1 = (3 : Int32) then (
    if (1 : Int32) < o_number then (
      some (0 : Int32)
    ) else (
      some (1 : Int32)
    )
  ) else (
  if p1 = (4 : Int32) then (
    if (1 : Int32) < o_number then (
      some (0 : Int32)
    ) else (
      some (1 : Int32)
    )
  ) else (
  if (99999 : Int32) < o_number then (
    some (0 : Int32)
  ) else (
    some (1 : Int32)
  ))))))
set_option maxHeartbeats 4000000 in
set_option maxRecDepth 100000 in
theorem tX4_isSetting (l : Launch) (G : va_G) (cI cJ cZ : ClassId) (sz : Nat) (h_o h_o_way h_o_re h_o_im : Nat) (o_fault : Int32) (o_faultPlace : Int32) (o_toldWords : Int32) (o_toldRe : Int32) (o_toldIm : Int32) (o_length : Int32) (o_place : Int32) (o_kind : Int32) (o_start : Int32) (o_number : Int32) (p1 : Int32) (r : Int32) (hf : fX4_isSetting o_number p1 = some r) : Met l yX4_isSetting (Cond.code yX4_isSetting cX4_isSetting 2 (some .boolean) :: BIG) ({ frames := 0, cells := 0, slots := 0, locals := 0 } : Room) (cP G (TY3 cI cJ cZ) [.ref h_o, .int p1] sz (wX4_isSetting cI cJ cZ h_o h_o_way h_o_re h_o_im o_fault o_faultPlace o_toldWords o_toldRe o_toldIm o_length o_place o_kind o_start o_number)) (cQ G (TY3 cI cJ cZ) sz (wX4_isSetting cI cJ cZ h_o h_o_way h_o_re h_o_im o_fault o_faultPlace o_toldWords o_toldRe o_toldIm o_length o_place o_kind o_start o_number) (wX4_isSetting cI cJ cZ h_o h_o_way h_o_re h_o_im o_fault o_faultPlace o_toldWords o_toldRe o_toldIm o_length o_place o_kind o_start o_number) (some (.int r))) 0 0 (va_A (wX4_isSetting cI cJ cZ h_o h_o_way h_o_re h_o_im o_fault o_faultPlace o_toldWords o_toldRe o_toldIm o_length o_place o_kind o_start o_number) sz) := by
  refine met_z (cc := cX4_isSetting) (maxL := 2) (plainFor_of_name (by decide)) (Nat.le_of_ble_eq_true rfl) (fun p e s m below meth c A ls Q hx hb hml hts hown hK hP hD hS hA hl hret => ?_)
  have hown : s.vm.findClass RX4 = some m.cls := hown
  have hl : lv_has ls 2 [(0, .ref h_o), (1, .int p1)] := hl
  unfold fX4_isSetting at hf
  obtain ⟨H, eH⟩ : ∃ H, H = s.heap := ⟨_, rfl⟩
  obtain ⟨locs, elocs⟩ : ∃ z : List Loc, z = [] := ⟨_, rfl⟩
  have hP : va_P G vwCl (wX4_isSetting cI cJ cZ h_o h_o_way h_o_re h_o_im o_fault o_faultPlace o_toldWords o_toldRe o_toldIm o_length o_place o_kind o_start o_number) H := by rw [eH]; exact hP
  have hS : va_S A s.heap H locs := by rw [eH, elocs]; exact hS
  suffices hgo : W p l e ({ frames := 0, cells := 0, slots := 0, locals := 0 } : Room) s m ([.ref h_o, .int p1] : List Value).toArray below meth c H locs 0 0 Q (F0 m 0 ls []) by rw [eH, elocs] at hgo; exact hgo
  clear eH elocs
  refine lv_iload_n hx hb dX4_isSetting_0 rfl (lv_at hl 1 rfl) ?_
  by_cases c_1 : p1 = (0 : Int32)
  · have hf := it_t c_1 hf
    refine lv_tableIn (tgt := 36) hx hb dX4_isSetting_1 (by rw [c_1]; decide) (by rw [c_1]; decide) (by rw [c_1]; rfl) (by decide) ?_
    refine lv_aload_n hx hb dX4_isSetting_36 rfl (lv_at hl 0 rfl) ?_
    refine rd (ci := 4) (C := RX4) (T := TX4) (N := 13) hx hb hts inX4 hown hK hP 0 12 rfl rfl (by decide) (hts _ q_fX4_89) rfl dX4_isSetting_37 ?_
    refine lv_iconst (v := (2 : Int32)) hx hb dX4_isSetting_40 (by decide) ?_
    refine lv_icmp_eq (tgt := 79) hx hb dX4_isSetting_41 (by decide) (fun c_2 => ?_) (fun c_2 => ?_)
    · have hf := it_t c_2 hf
      refine lv_iconst (v := (1 : Int32)) hx hb dX4_isSetting_79 (by decide) ?_
      refine lv_goto (tgt := 84) hx hb dX4_isSetting_80 (by decide) ?_
      cases hf
      exact hret _ _ _ _ dX4_isSetting_84 rfl hP hD hS
    · have hf := it_f c_2 hf
      refine lv_aload_n hx hb dX4_isSetting_44 rfl (lv_at hl 0 rfl) ?_
      refine rd (ci := 4) (C := RX4) (T := TX4) (N := 13) hx hb hts inX4 hown hK hP 0 12 rfl rfl (by decide) (hts _ q_fX4_89) rfl dX4_isSetting_45 ?_
      refine lv_iconst (v := (4 : Int32)) hx hb dX4_isSetting_48 (by decide) ?_
      refine lv_icmp_eq (tgt := 79) hx hb dX4_isSetting_49 (by decide) (fun c_3 => ?_) (fun c_3 => ?_)
      · have hf := it_t c_3 hf
        refine lv_iconst (v := (1 : Int32)) hx hb dX4_isSetting_79 (by decide) ?_
        refine lv_goto (tgt := 84) hx hb dX4_isSetting_80 (by decide) ?_
        cases hf
        exact hret _ _ _ _ dX4_isSetting_84 rfl hP hD hS
      · have hf := it_f c_3 hf
        refine lv_aload_n hx hb dX4_isSetting_52 rfl (lv_at hl 0 rfl) ?_
        refine rd (ci := 4) (C := RX4) (T := TX4) (N := 13) hx hb hts inX4 hown hK hP 0 12 rfl rfl (by decide) (hts _ q_fX4_89) rfl dX4_isSetting_53 ?_
        refine lv_bipush (v := (8 : Int32)) hx hb dX4_isSetting_56 (by decide) ?_
        refine lv_icmp_eq (tgt := 79) hx hb dX4_isSetting_58 (by decide) (fun c_4 => ?_) (fun c_4 => ?_)
        · have hf := it_t c_4 hf
          refine lv_iconst (v := (1 : Int32)) hx hb dX4_isSetting_79 (by decide) ?_
          refine lv_goto (tgt := 84) hx hb dX4_isSetting_80 (by decide) ?_
          cases hf
          exact hret _ _ _ _ dX4_isSetting_84 rfl hP hD hS
        · have hf := it_f c_4 hf
          refine lv_aload_n hx hb dX4_isSetting_61 rfl (lv_at hl 0 rfl) ?_
          refine rd (ci := 4) (C := RX4) (T := TX4) (N := 13) hx hb hts inX4 hown hK hP 0 12 rfl rfl (by decide) (hts _ q_fX4_89) rfl dX4_isSetting_62 ?_
          refine lv_bipush (v := (16 : Int32)) hx hb dX4_isSetting_65 (by decide) ?_
          refine lv_icmp_eq (tgt := 79) hx hb dX4_isSetting_67 (by decide) (fun c_5 => ?_) (fun c_5 => ?_)
          · have hf := it_t c_5 hf
            refine lv_iconst (v := (1 : Int32)) hx hb dX4_isSetting_79 (by decide) ?_
            refine lv_goto (tgt := 84) hx hb dX4_isSetting_80 (by decide) ?_
            cases hf
            exact hret _ _ _ _ dX4_isSetting_84 rfl hP hD hS
          · have hf := it_f c_5 hf
            refine lv_aload_n hx hb dX4_isSetting_70 rfl (lv_at hl 0 rfl) ?_
            refine rd (ci := 4) (C := RX4) (T := TX4) (N := 13) hx hb hts inX4 hown hK hP 0 12 rfl rfl (by decide) (hts _ q_fX4_89) rfl dX4_isSetting_71 ?_
            refine lv_bipush (v := (32 : Int32)) hx hb dX4_isSetting_74 (by decide) ?_
            refine lv_icmp_ne (tgt := 83) hx hb dX4_isSetting_76 (by decide) (fun c_6 => ?_) (fun c_6 => ?_)
            · have hf := it_f c_6 hf
              refine lv_iconst (v := (0 : Int32)) hx hb dX4_isSetting_83 (by decide) ?_
              cases hf
              exact hret _ _ _ _ dX4_isSetting_84 rfl hP hD hS
            · have hf := it_t c_6 hf
              refine lv_iconst (v := (1 : Int32)) hx hb dX4_isSetting_79 (by decide) ?_
              refine lv_goto (tgt := 84) hx hb dX4_isSetting_80 (by decide) ?_
              cases hf
              exact hret _ _ _ _ dX4_isSetting_84 rfl hP hD hS
  have hf := it_f c_1 hf
  by_cases c_7 : p1 = (1 : Int32)
  · have hf := it_t c_7 hf
    refine lv_tableIn (tgt := 85) hx hb dX4_isSetting_1 (by rw [c_7]; decide) (by rw [c_7]; decide) (by rw [c_7]; rfl) (by decide) ?_
    refine lv_aload_n hx hb dX4_isSetting_85 rfl (lv_at hl 0 rfl) ?_
    refine rd (ci := 4) (C := RX4) (T := TX4) (N := 13) hx hb hts inX4 hown hK hP 0 12 rfl rfl (by decide) (hts _ q_fX4_89) rfl dX4_isSetting_86 ?_
    refine lv_bipush (v := (8 : Int32)) hx hb dX4_isSetting_89 (by decide) ?_
    refine lv_icmp_lt (tgt := 107) hx hb dX4_isSetting_91 (by decide) (fun c_8 => ?_) (fun c_8 => ?_)
    · have hf := it_t c_8 hf
      refine lv_iconst (v := (0 : Int32)) hx hb dX4_isSetting_107 (by decide) ?_
      cases hf
      exact hret _ _ _ _ dX4_isSetting_108 rfl hP hD hS
    · have hf := it_f c_8 hf
      refine lv_aload_n hx hb dX4_isSetting_94 rfl (lv_at hl 0 rfl) ?_
      refine rd (ci := 4) (C := RX4) (T := TX4) (N := 13) hx hb hts inX4 hown hK hP 0 12 rfl rfl (by decide) (hts _ q_fX4_89) rfl dX4_isSetting_95 ?_
      refine lv_bipush (v := (16 : Int32)) hx hb dX4_isSetting_98 (by decide) ?_
      refine lv_icmp_gt (tgt := 107) hx hb dX4_isSetting_100 (by decide) (fun c_9 => ?_) (fun c_9 => ?_)
      · have hf := it_t c_9 hf
        refine lv_iconst (v := (0 : Int32)) hx hb dX4_isSetting_107 (by decide) ?_
        cases hf
        exact hret _ _ _ _ dX4_isSetting_108 rfl hP hD hS
      · have hf := it_f c_9 hf
        refine lv_iconst (v := (1 : Int32)) hx hb dX4_isSetting_103 (by decide) ?_
        refine lv_goto (tgt := 108) hx hb dX4_isSetting_104 (by decide) ?_
        cases hf
        exact hret _ _ _ _ dX4_isSetting_108 rfl hP hD hS
  have hf := it_f c_7 hf
  by_cases c_10 : p1 = (2 : Int32)
  · have hf := it_t c_10 hf
    refine lv_tableIn (tgt := 109) hx hb dX4_isSetting_1 (by rw [c_10]; decide) (by rw [c_10]; decide) (by rw [c_10]; rfl) (by decide) ?_
    refine lv_aload_n hx hb dX4_isSetting_109 rfl (lv_at hl 0 rfl) ?_
    refine rd (ci := 4) (C := RX4) (T := TX4) (N := 13) hx hb hts inX4 hown hK hP 0 12 rfl rfl (by decide) (hts _ q_fX4_89) rfl dX4_isSetting_110 ?_
    refine lv_iconst (v := (2 : Int32)) hx hb dX4_isSetting_113 (by decide) ?_
    refine lv_icmp_eq (tgt := 125) hx hb dX4_isSetting_114 (by decide) (fun c_11 => ?_) (fun c_11 => ?_)
    · have hf := it_t c_11 hf
      refine lv_iconst (v := (1 : Int32)) hx hb dX4_isSetting_125 (by decide) ?_
      refine lv_goto (tgt := 130) hx hb dX4_isSetting_126 (by decide) ?_
      cases hf
      exact hret _ _ _ _ dX4_isSetting_130 rfl hP hD hS
    · have hf := it_f c_11 hf
      refine lv_aload_n hx hb dX4_isSetting_117 rfl (lv_at hl 0 rfl) ?_
      refine rd (ci := 4) (C := RX4) (T := TX4) (N := 13) hx hb hts inX4 hown hK hP 0 12 rfl rfl (by decide) (hts _ q_fX4_89) rfl dX4_isSetting_118 ?_
      refine lv_iconst (v := (4 : Int32)) hx hb dX4_isSetting_121 (by decide) ?_
      refine lv_icmp_ne (tgt := 129) hx hb dX4_isSetting_122 (by decide) (fun c_12 => ?_) (fun c_12 => ?_)
      · have hf := it_f c_12 hf
        refine lv_iconst (v := (0 : Int32)) hx hb dX4_isSetting_129 (by decide) ?_
        cases hf
        exact hret _ _ _ _ dX4_isSetting_130 rfl hP hD hS
      · have hf := it_t c_12 hf
        refine lv_iconst (v := (1 : Int32)) hx hb dX4_isSetting_125 (by decide) ?_
        refine lv_goto (tgt := 130) hx hb dX4_isSetting_126 (by decide) ?_
        cases hf
        exact hret _ _ _ _ dX4_isSetting_130 rfl hP hD hS
  have hf := it_f c_10 hf
  by_cases c_13 : p1 = (3 : Int32)
  · have hf := it_t c_13 hf
    refine lv_tableIn (tgt := 131) hx hb dX4_isSetting_1 (by rw [c_13]; decide) (by rw [c_13]; decide) (by rw [c_13]; rfl) (by decide) ?_
    refine lv_aload_n hx hb dX4_isSetting_131 rfl (lv_at hl 0 rfl) ?_
    refine rd (ci := 4) (C := RX4) (T := TX4) (N := 13) hx hb hts inX4 hown hK hP 0 12 rfl rfl (by decide) (hts _ q_fX4_89) rfl dX4_isSetting_132 ?_
    refine lv_iconst (v := (1 : Int32)) hx hb dX4_isSetting_135 (by decide) ?_
    refine lv_icmp_gt (tgt := 143) hx hb dX4_isSetting_136 (by decide) (fun c_14 => ?_) (fun c_14 => ?_)
    · have hf := it_t c_14 hf
      refine lv_iconst (v := (0 : Int32)) hx hb dX4_isSetting_143 (by decide) ?_
      cases hf
      exact hret _ _ _ _ dX4_isSetting_144 rfl hP hD hS
    · have hf := it_f c_14 hf
      refine lv_iconst (v := (1 : Int32)) hx hb dX4_isSetting_139 (by decide) ?_
      refine lv_goto (tgt := 144) hx hb dX4_isSetting_140 (by decide) ?_
      cases hf
      exact hret _ _ _ _ dX4_isSetting_144 rfl hP hD hS
  have hf := it_f c_13 hf
  by_cases c_15 : p1 = (4 : Int32)
  · have hf := it_t c_15 hf
    refine lv_tableIn (tgt := 131) hx hb dX4_isSetting_1 (by rw [c_15]; decide) (by rw [c_15]; decide) (by rw [c_15]; rfl) (by decide) ?_
    refine lv_aload_n hx hb dX4_isSetting_131 rfl (lv_at hl 0 rfl) ?_
    refine rd (ci := 4) (C := RX4) (T := TX4) (N := 13) hx hb hts inX4 hown hK hP 0 12 rfl rfl (by decide) (hts _ q_fX4_89) rfl dX4_isSetting_132 ?_
    refine lv_iconst (v := (1 : Int32)) hx hb dX4_isSetting_135 (by decide) ?_
    refine lv_icmp_gt (tgt := 143) hx hb dX4_isSetting_136 (by decide) (fun c_16 => ?_) (fun c_16 => ?_)
    · have hf := it_t c_16 hf
      refine lv_iconst (v := (0 : Int32)) hx hb dX4_isSetting_143 (by decide) ?_
      cases hf
      exact hret _ _ _ _ dX4_isSetting_144 rfl hP hD hS
    · have hf := it_f c_16 hf
      refine lv_iconst (v := (1 : Int32)) hx hb dX4_isSetting_139 (by decide) ?_
      refine lv_goto (tgt := 144) hx hb dX4_isSetting_140 (by decide) ?_
      cases hf
      exact hret _ _ _ _ dX4_isSetting_144 rfl hP hD hS
  have hf := it_f c_15 hf
  refine lv_tableOut (tgt := 145) hx hb dX4_isSetting_1 (by have q0 := lv_neT (a := 0) c_1 rfl; have q1 := lv_neT (a := 1) c_7 rfl; have q2 := lv_neT (a := 2) c_10 rfl; have q3 := lv_neT (a := 3) c_13 rfl; have q4 := lv_neT (a := 4) c_15 rfl; omega) (by decide) ?_
  refine lv_aload_n hx hb dX4_isSetting_145 rfl (lv_at hl 0 rfl) ?_
  refine rd (ci := 4) (C := RX4) (T := TX4) (N := 13) hx hb hts inX4 hown hK hP 0 12 rfl rfl (by decide) (hts _ q_fX4_89) rfl dX4_isSetting_146 ?_
  refine lv_ldc (v := (99999 : Int32)) hx hb hown (hts _ q_cX4_92) dX4_isSetting_149 ?_
  refine lv_icmp_gt (tgt := 158) hx hb dX4_isSetting_151 (by decide) (fun c_17 => ?_) (fun c_17 => ?_)
  · have hf := it_t c_17 hf
    refine lv_iconst (v := (0 : Int32)) hx hb dX4_isSetting_158 (by decide) ?_
    cases hf
    exact hret _ _ _ _ dX4_isSetting_159 rfl hP hD hS
  · have hf := it_f c_17 hf
    refine lv_iconst (v := (1 : Int32)) hx hb dX4_isSetting_154 (by decide) ?_
    refine lv_goto (tgt := 159) hx hb dX4_isSetting_155 (by decide) ?_
    cases hf
    exact hret _ _ _ _ dX4_isSetting_159 rfl hP hD hS
def wX4_takeSetting (cI cJ cZ : ClassId) (h_o h_o_way h_o_re h_o_im h_o_way_shifts : Nat) (o_fault : Int32) (o_faultPlace : Int32) (o_toldWords : Int32) (o_toldRe : Int32) (o_toldIm : Int32) (o_length : Int32) (o_place : Int32) (o_kind : Int32) (o_start : Int32) (o_number : Int32) (o_way_size : Int32) (o_way_log : Int32) (o_way_wordBits : Int32) (o_way_limit : Int32) (o_way_radix : Int32) (o_way_order : Int32) (o_way_near : Int32) (o_way_seed : Int32) (o_way_stages : Int32) : va_W := [(h_o, .inr (4, [.ref h_o_way, .ref h_o_re, .ref h_o_im, .int o_fault, .int o_faultPlace, .int o_toldWords, .int o_toldRe, .int o_toldIm, .int o_length, .int o_place, .int o_kind, .int o_start, .int o_number])), (h_o_way, .inr (8, [.int o_way_size, .int o_way_log, .int o_way_wordBits, .int o_way_limit, .int o_way_radix, .int o_way_order, .int o_way_near, .int o_way_seed, .int o_way_stages, .ref h_o_way_shifts]))]
def fX4_takeSetting (o_number : Int32) (o_way_size : Int32) (o_way_log : Int32) (o_way_wordBits : Int32) (o_way_limit : Int32) (o_way_radix : Int32) (o_way_order : Int32) (o_way_near : Int32) (o_way_seed : Int32) (p1 : Int32) : Option (Int32 × Int32 × Int32 × Int32 × Int32 × Int32 × Int32 × Int32) :=
  if p1 = (0 : Int32) then (
    bd2 (fX8_takeSize o_way_size o_way_log o_number) (fun o_way_size_2 o_way_log_3 =>
    some (o_way_size_2, o_way_log_3, o_way_wordBits, o_way_limit, o_way_radix, o_way_order, o_way_near, o_way_seed))
  ) else (
  if p1 = (1 : Int32) then (
    bd2 (fX8_takeBits o_way_wordBits o_way_limit o_number) (fun o_way_wordBits_6 o_way_limit_7 =>
    some (o_way_size, o_way_log, o_way_wordBits_6, o_way_limit_7, o_way_radix, o_way_order, o_way_near, o_way_seed))
  ) else (
  if p1 = (2 : Int32) then (
    some (o_way_size, o_way_log, o_way_wordBits, o_way_limit, o_number, o_way_order, o_way_near, o_way_seed)
  ) else (
  if p1 = (3 : Int32) then (
    some (o_way_size, o_way_log, o_way_wordBits, o_way_limit, o_way_radix, o_number, o_way_near, o_way_seed)
  ) else (
  if p1 = (4 : Int32) then (
    some (o_way_size, o_way_log, o_way_wordBits, o_way_limit, o_way_radix, o_way_order, o_number, o_way_seed)
  ) else (
  some (o_way_size, o_way_log, o_way_wordBits, o_way_limit, o_way_radix, o_way_order, o_way_near, o_number))))))
set_option maxHeartbeats 4000000 in
set_option maxRecDepth 100000 in
theorem tX4_takeSetting (l : Launch) (G : va_G) (cI cJ cZ : ClassId) (sz : Nat) (h_o h_o_way h_o_re h_o_im h_o_way_shifts : Nat) (o_fault : Int32) (o_faultPlace : Int32) (o_toldWords : Int32) (o_toldRe : Int32) (o_toldIm : Int32) (o_length : Int32) (o_place : Int32) (o_kind : Int32) (o_start : Int32) (o_number : Int32) (o_way_size : Int32) (o_way_log : Int32) (o_way_wordBits : Int32) (o_way_limit : Int32) (o_way_radix : Int32) (o_way_order : Int32) (o_way_near : Int32) (o_way_seed : Int32) (o_way_stages : Int32) (p1 : Int32) (out_o_way_size : Int32) (out_o_way_log : Int32) (out_o_way_wordBits : Int32) (out_o_way_limit : Int32) (out_o_way_radix : Int32) (out_o_way_order : Int32) (out_o_way_near : Int32) (out_o_way_seed : Int32) (hf : fX4_takeSetting o_number o_way_size o_way_log o_way_wordBits o_way_limit o_way_radix o_way_order o_way_near o_way_seed p1 = some (out_o_way_size, out_o_way_log, out_o_way_wordBits, out_o_way_limit, out_o_way_radix, out_o_way_order, out_o_way_near, out_o_way_seed)) : Met l yX4_takeSetting (Cond.code yX4_takeSetting cX4_takeSetting 2 none :: BIG) ({ frames := 1, cells := 0, slots := 0, locals := 22 } : Room) (cP G (TY3 cI cJ cZ) [.ref h_o, .int p1] sz (wX4_takeSetting cI cJ cZ h_o h_o_way h_o_re h_o_im h_o_way_shifts o_fault o_faultPlace o_toldWords o_toldRe o_toldIm o_length o_place o_kind o_start o_number o_way_size o_way_log o_way_wordBits o_way_limit o_way_radix o_way_order o_way_near o_way_seed o_way_stages)) (cQ G (TY3 cI cJ cZ) sz (wX4_takeSetting cI cJ cZ h_o h_o_way h_o_re h_o_im h_o_way_shifts o_fault o_faultPlace o_toldWords o_toldRe o_toldIm o_length o_place o_kind o_start o_number o_way_size o_way_log o_way_wordBits o_way_limit o_way_radix o_way_order o_way_near o_way_seed o_way_stages) (wX4_takeSetting cI cJ cZ h_o h_o_way h_o_re h_o_im h_o_way_shifts o_fault o_faultPlace o_toldWords o_toldRe o_toldIm o_length o_place o_kind o_start o_number out_o_way_size out_o_way_log out_o_way_wordBits out_o_way_limit out_o_way_radix out_o_way_order out_o_way_near out_o_way_seed o_way_stages) none) 0 0 (va_A (wX4_takeSetting cI cJ cZ h_o h_o_way h_o_re h_o_im h_o_way_shifts o_fault o_faultPlace o_toldWords o_toldRe o_toldIm o_length o_place o_kind o_start o_number o_way_size o_way_log o_way_wordBits o_way_limit o_way_radix o_way_order o_way_near o_way_seed o_way_stages) sz) := by
  refine met_v (cc := cX4_takeSetting) (maxL := 2) (plainFor_of_name (by decide)) (Nat.le_of_ble_eq_true rfl) (fun p e s m below meth c A ls Q hx hb hml hts hown hK hP hD hS hA hl hret => ?_)
  have hown : s.vm.findClass RX4 = some m.cls := hown
  have hl : lv_has ls 2 [(0, .ref h_o), (1, .int p1)] := hl
  unfold fX4_takeSetting at hf
  obtain ⟨H, eH⟩ : ∃ H, H = s.heap := ⟨_, rfl⟩
  obtain ⟨locs, elocs⟩ : ∃ z : List Loc, z = [] := ⟨_, rfl⟩
  have hP : va_P G vwCl (wX4_takeSetting cI cJ cZ h_o h_o_way h_o_re h_o_im h_o_way_shifts o_fault o_faultPlace o_toldWords o_toldRe o_toldIm o_length o_place o_kind o_start o_number o_way_size o_way_log o_way_wordBits o_way_limit o_way_radix o_way_order o_way_near o_way_seed o_way_stages) H := by rw [eH]; exact hP
  have hS : va_S A s.heap H locs := by rw [eH, elocs]; exact hS
  suffices hgo : W p l e ({ frames := 1, cells := 0, slots := 0, locals := 22 } : Room) s m ([.ref h_o, .int p1] : List Value).toArray below meth c H locs 0 0 Q (F0 m 0 ls []) by rw [eH, elocs] at hgo; exact hgo
  clear eH elocs
  refine lv_iload_n hx hb dX4_takeSetting_0 rfl (lv_at hl 1 rfl) ?_
  by_cases c_1 : p1 = (0 : Int32)
  · have hf := it_t c_1 hf
    refine lv_tableIn (tgt := 36) hx hb dX4_takeSetting_1 (by rw [c_1]; decide) (by rw [c_1]; decide) (by rw [c_1]; rfl) (by decide) ?_
    refine lv_aload_n hx hb dX4_takeSetting_36 rfl (lv_at hl 0 rfl) ?_
    refine rd (ci := 4) (C := RX4) (T := TX4) (N := 13) hx hb hts inX4 hown hK hP 0 0 rfl rfl (by decide) (hts _ q_fX4_12) rfl dX4_takeSetting_37 ?_
    refine lv_aload_n hx hb dX4_takeSetting_40 rfl (lv_at hl 0 rfl) ?_
    refine rd (ci := 4) (C := RX4) (T := TX4) (N := 13) hx hb hts inX4 hown hK hP 0 12 rfl rfl (by decide) (hts _ q_fX4_89) rfl dX4_takeSetting_41 ?_
    obtain ⟨o_way_size_2, o_way_log_3, e_4, hf⟩ := bd2_x hf
    refine call_v [.int o_number] [] ⟨hx, hb, hml, hown, hts⟩ hK hP hD hS hA hl.1 (tX8_takeSize l G cI cJ cZ H.size h_o_way h_o_way_shifts o_way_size o_way_log o_way_wordBits o_way_limit o_way_radix o_way_order o_way_near o_way_seed o_way_stages o_number o_way_size_2 o_way_log_3 e_4) (cwV 1 hts (gv q_mX4_93 q_i_yX8_takeSize q_s_yX8_takeSize q_n_RX8 q_k_yX8_takeSize) rfl rfl rfl (by decide +kernel) ⟨by decide, by decide⟩) rfl rfl (Nat.le_of_ble_eq_true rfl) dX4_takeSetting_44 ⟨Nat.zero_le _, Nat.zero_le _⟩ (ci := 8) rfl 0 rfl [1] [0] [0, 1] rfl rfl (ws2 := (wX4_takeSetting cI cJ cZ h_o h_o_way h_o_re h_o_im h_o_way_shifts o_fault o_faultPlace o_toldWords o_toldRe o_toldIm o_length o_place o_kind o_start o_number o_way_size_2 o_way_log_3 o_way_wordBits o_way_limit o_way_radix o_way_order o_way_near o_way_seed o_way_stages)) rfl (fun H locs hP hD hS => ?_)
    refine W.eq (g2 := F0 m 47 ls []) rfl ?_
    refine lv_goto (tgt := 117) hx hb dX4_takeSetting_47 (by decide) ?_
    cases hf
    exact hret _ _ _ _ dX4_takeSetting_117 hP hD hS
  have hf := it_f c_1 hf
  by_cases c_5 : p1 = (1 : Int32)
  · have hf := it_t c_5 hf
    refine lv_tableIn (tgt := 50) hx hb dX4_takeSetting_1 (by rw [c_5]; decide) (by rw [c_5]; decide) (by rw [c_5]; rfl) (by decide) ?_
    refine lv_aload_n hx hb dX4_takeSetting_50 rfl (lv_at hl 0 rfl) ?_
    refine rd (ci := 4) (C := RX4) (T := TX4) (N := 13) hx hb hts inX4 hown hK hP 0 0 rfl rfl (by decide) (hts _ q_fX4_12) rfl dX4_takeSetting_51 ?_
    refine lv_aload_n hx hb dX4_takeSetting_54 rfl (lv_at hl 0 rfl) ?_
    refine rd (ci := 4) (C := RX4) (T := TX4) (N := 13) hx hb hts inX4 hown hK hP 0 12 rfl rfl (by decide) (hts _ q_fX4_89) rfl dX4_takeSetting_55 ?_
    obtain ⟨o_way_wordBits_6, o_way_limit_7, e_8, hf⟩ := bd2_x hf
    refine call_v [.int o_number] [] ⟨hx, hb, hml, hown, hts⟩ hK hP hD hS hA hl.1 (tX8_takeBits l G cI cJ cZ H.size h_o_way h_o_way_shifts o_way_size o_way_log o_way_wordBits o_way_limit o_way_radix o_way_order o_way_near o_way_seed o_way_stages o_number o_way_wordBits_6 o_way_limit_7 e_8) (cwV 1 hts (gv q_mX4_96 q_i_yX8_takeBits q_s_yX8_takeBits q_n_RX8 q_k_yX8_takeBits) rfl rfl rfl (by decide +kernel) ⟨by decide, by decide⟩) rfl rfl (Nat.le_of_ble_eq_true rfl) dX4_takeSetting_58 ⟨Nat.zero_le _, Nat.zero_le _⟩ (ci := 8) rfl 0 rfl [1] [0] [0, 1] rfl rfl (ws2 := (wX4_takeSetting cI cJ cZ h_o h_o_way h_o_re h_o_im h_o_way_shifts o_fault o_faultPlace o_toldWords o_toldRe o_toldIm o_length o_place o_kind o_start o_number o_way_size o_way_log o_way_wordBits_6 o_way_limit_7 o_way_radix o_way_order o_way_near o_way_seed o_way_stages)) rfl (fun H locs hP hD hS => ?_)
    refine W.eq (g2 := F0 m 61 ls []) rfl ?_
    refine lv_goto (tgt := 117) hx hb dX4_takeSetting_61 (by decide) ?_
    cases hf
    exact hret _ _ _ _ dX4_takeSetting_117 hP hD hS
  have hf := it_f c_5 hf
  by_cases c_9 : p1 = (2 : Int32)
  · have hf := it_t c_9 hf
    refine lv_tableIn (tgt := 64) hx hb dX4_takeSetting_1 (by rw [c_9]; decide) (by rw [c_9]; decide) (by rw [c_9]; rfl) (by decide) ?_
    refine lv_aload_n hx hb dX4_takeSetting_64 rfl (lv_at hl 0 rfl) ?_
    refine rd (ci := 4) (C := RX4) (T := TX4) (N := 13) hx hb hts inX4 hown hK hP 0 0 rfl rfl (by decide) (hts _ q_fX4_12) rfl dX4_takeSetting_65 ?_
    refine lv_aload_n hx hb dX4_takeSetting_68 rfl (lv_at hl 0 rfl) ?_
    refine rd (ci := 4) (C := RX4) (T := TX4) (N := 13) hx hb hts inX4 hown hK hP 0 12 rfl rfl (by decide) (hts _ q_fX4_89) rfl dX4_takeSetting_69 ?_
    refine wr (ci := 8) (C := RX8) (T := TX8) (N := 10) hx hb hts inX8 tyX8 tyX8_ok nmX8 hown hK hP hD hS 1 4 rfl rfl (by decide) (hts _ q_fX4_99) rfl rfl rfl (Nat.le_of_ble_eq_true rfl) dX4_takeSetting_72 (ws2 := (wX4_takeSetting cI cJ cZ h_o h_o_way h_o_re h_o_im h_o_way_shifts o_fault o_faultPlace o_toldWords o_toldRe o_toldIm o_length o_place o_kind o_start o_number o_way_size o_way_log o_way_wordBits o_way_limit o_number o_way_order o_way_near o_way_seed o_way_stages)) rfl (fun H locs hP hD hS => ?_)
    refine lv_goto (tgt := 117) hx hb dX4_takeSetting_75 (by decide) ?_
    cases hf
    exact hret _ _ _ _ dX4_takeSetting_117 hP hD hS
  have hf := it_f c_9 hf
  by_cases c_10 : p1 = (3 : Int32)
  · have hf := it_t c_10 hf
    refine lv_tableIn (tgt := 78) hx hb dX4_takeSetting_1 (by rw [c_10]; decide) (by rw [c_10]; decide) (by rw [c_10]; rfl) (by decide) ?_
    refine lv_aload_n hx hb dX4_takeSetting_78 rfl (lv_at hl 0 rfl) ?_
    refine rd (ci := 4) (C := RX4) (T := TX4) (N := 13) hx hb hts inX4 hown hK hP 0 0 rfl rfl (by decide) (hts _ q_fX4_12) rfl dX4_takeSetting_79 ?_
    refine lv_aload_n hx hb dX4_takeSetting_82 rfl (lv_at hl 0 rfl) ?_
    refine rd (ci := 4) (C := RX4) (T := TX4) (N := 13) hx hb hts inX4 hown hK hP 0 12 rfl rfl (by decide) (hts _ q_fX4_89) rfl dX4_takeSetting_83 ?_
    refine wr (ci := 8) (C := RX8) (T := TX8) (N := 10) hx hb hts inX8 tyX8 tyX8_ok nmX8 hown hK hP hD hS 1 5 rfl rfl (by decide) (hts _ q_fX4_102) rfl rfl rfl (Nat.le_of_ble_eq_true rfl) dX4_takeSetting_86 (ws2 := (wX4_takeSetting cI cJ cZ h_o h_o_way h_o_re h_o_im h_o_way_shifts o_fault o_faultPlace o_toldWords o_toldRe o_toldIm o_length o_place o_kind o_start o_number o_way_size o_way_log o_way_wordBits o_way_limit o_way_radix o_number o_way_near o_way_seed o_way_stages)) rfl (fun H locs hP hD hS => ?_)
    refine lv_goto (tgt := 117) hx hb dX4_takeSetting_89 (by decide) ?_
    cases hf
    exact hret _ _ _ _ dX4_takeSetting_117 hP hD hS
  have hf := it_f c_10 hf
  by_cases c_11 : p1 = (4 : Int32)
  · have hf := it_t c_11 hf
    refine lv_tableIn (tgt := 92) hx hb dX4_takeSetting_1 (by rw [c_11]; decide) (by rw [c_11]; decide) (by rw [c_11]; rfl) (by decide) ?_
    refine lv_aload_n hx hb dX4_takeSetting_92 rfl (lv_at hl 0 rfl) ?_
    refine rd (ci := 4) (C := RX4) (T := TX4) (N := 13) hx hb hts inX4 hown hK hP 0 0 rfl rfl (by decide) (hts _ q_fX4_12) rfl dX4_takeSetting_93 ?_
    refine lv_aload_n hx hb dX4_takeSetting_96 rfl (lv_at hl 0 rfl) ?_
    refine rd (ci := 4) (C := RX4) (T := TX4) (N := 13) hx hb hts inX4 hown hK hP 0 12 rfl rfl (by decide) (hts _ q_fX4_89) rfl dX4_takeSetting_97 ?_
    refine wr (ci := 8) (C := RX8) (T := TX8) (N := 10) hx hb hts inX8 tyX8 tyX8_ok nmX8 hown hK hP hD hS 1 6 rfl rfl (by decide) (hts _ q_fX4_105) rfl rfl rfl (Nat.le_of_ble_eq_true rfl) dX4_takeSetting_100 (ws2 := (wX4_takeSetting cI cJ cZ h_o h_o_way h_o_re h_o_im h_o_way_shifts o_fault o_faultPlace o_toldWords o_toldRe o_toldIm o_length o_place o_kind o_start o_number o_way_size o_way_log o_way_wordBits o_way_limit o_way_radix o_way_order o_number o_way_seed o_way_stages)) rfl (fun H locs hP hD hS => ?_)
    refine lv_goto (tgt := 117) hx hb dX4_takeSetting_103 (by decide) ?_
    cases hf
    exact hret _ _ _ _ dX4_takeSetting_117 hP hD hS
  have hf := it_f c_11 hf
  refine lv_tableOut (tgt := 106) hx hb dX4_takeSetting_1 (by have q0 := lv_neT (a := 0) c_1 rfl; have q1 := lv_neT (a := 1) c_5 rfl; have q2 := lv_neT (a := 2) c_9 rfl; have q3 := lv_neT (a := 3) c_10 rfl; have q4 := lv_neT (a := 4) c_11 rfl; omega) (by decide) ?_
  refine lv_aload_n hx hb dX4_takeSetting_106 rfl (lv_at hl 0 rfl) ?_
  refine rd (ci := 4) (C := RX4) (T := TX4) (N := 13) hx hb hts inX4 hown hK hP 0 0 rfl rfl (by decide) (hts _ q_fX4_12) rfl dX4_takeSetting_107 ?_
  refine lv_aload_n hx hb dX4_takeSetting_110 rfl (lv_at hl 0 rfl) ?_
  refine rd (ci := 4) (C := RX4) (T := TX4) (N := 13) hx hb hts inX4 hown hK hP 0 12 rfl rfl (by decide) (hts _ q_fX4_89) rfl dX4_takeSetting_111 ?_
  refine wr (ci := 8) (C := RX8) (T := TX8) (N := 10) hx hb hts inX8 tyX8 tyX8_ok nmX8 hown hK hP hD hS 1 7 rfl rfl (by decide) (hts _ q_fX4_108) rfl rfl rfl (Nat.le_of_ble_eq_true rfl) dX4_takeSetting_114 (ws2 := (wX4_takeSetting cI cJ cZ h_o h_o_way h_o_re h_o_im h_o_way_shifts o_fault o_faultPlace o_toldWords o_toldRe o_toldIm o_length o_place o_kind o_start o_number o_way_size o_way_log o_way_wordBits o_way_limit o_way_radix o_way_order o_way_near o_number o_way_stages)) rfl (fun H locs hP hD hS => ?_)
  cases hf
  exact hret _ _ _ _ dX4_takeSetting_117 hP hD hS
def wX4_readSetting (cI cJ cZ : ClassId) (h_o h_a1 h_o_way h_o_re h_o_im h_o_way_shifts : Nat) (o_fault : Int32) (o_faultPlace : Int32) (o_toldWords : Int32) (o_toldRe : Int32) (o_toldIm : Int32) (o_length : Int32) (o_place : Int32) (o_kind : Int32) (o_start : Int32) (o_number : Int32) (a1 : Nat → Int32) (o_way_size : Int32) (o_way_log : Int32) (o_way_wordBits : Int32) (o_way_limit : Int32) (o_way_radix : Int32) (o_way_order : Int32) (o_way_near : Int32) (o_way_seed : Int32) (o_way_stages : Int32) : va_W := [(h_o, .inr (4, [.ref h_o_way, .ref h_o_re, .ref h_o_im, .int o_fault, .int o_faultPlace, .int o_toldWords, .int o_toldRe, .int o_toldIm, .int o_length, .int o_place, .int o_kind, .int o_start, .int o_number])), (h_a1, .inl (cI, 700, .inl a1)), (h_o_way, .inr (8, [.int o_way_size, .int o_way_log, .int o_way_wordBits, .int o_way_limit, .int o_way_radix, .int o_way_order, .int o_way_near, .int o_way_seed, .int o_way_stages, .ref h_o_way_shifts]))]
def fX4_readSetting (o_fault : Int32) (o_faultPlace : Int32) (o_toldWords : Int32) (o_length : Int32) (o_place : Int32) (o_kind : Int32) (o_start : Int32) (o_number : Int32) (a1 : Nat → Int32) (o_way_size : Int32) (o_way_log : Int32) (o_way_wordBits : Int32) (o_way_limit : Int32) (o_way_radix : Int32) (o_way_order : Int32) (o_way_near : Int32) (o_way_seed : Int32) (p2 : Int32) : Option (Int32 × Int32 × Int32 × Int32 × Int32 × Int32 × Int32 × Int32 × Int32 × Int32 × Int32 × Int32 × Int32 × Int32 × Int32 × Int32) :=
  if ((o_toldWords >>> (p2 &&& 31)) &&& (1 : Int32)) = (1 : Int32) then (
    bd3 (fX4_failAtToken o_fault o_faultPlace o_start (3 : Int32)) (fun r_31 o_fault_32 o_faultPlace_33 =>
    gd (bl r_31) (
    some (r_31, o_fault_32, o_faultPlace_33, o_toldWords, o_place, o_kind, o_start, o_number, o_way_size, o_way_log, o_way_wordBits, o_way_limit, o_way_radix, o_way_order, o_way_near, o_way_seed)))
  ) else (
    nm (o_toldWords ||| ((1 : Int32) <<< (p2 &&& 31))) (fun u_2 =>
    bd4 (fX4_nextToken o_length o_place o_kind o_start o_number a1) (fun o_place_3 o_kind_4 o_start_5 o_number_6 =>
    if o_kind_4 = (2 : Int32) then (
      bd1 (fX4_isSetting o_number_6 p2) (fun r_9 =>
      if r_9 = 0 then (
        bd3 (fX4_failAtToken o_fault o_faultPlace o_start_5 (2 : Int32)) (fun r_21 o_fault_22 o_faultPlace_23 =>
        gd (bl r_21) (
        some (r_21, o_fault_22, o_faultPlace_23, u_2, o_place_3, o_kind_4, o_start_5, o_number_6, o_way_size, o_way_log, o_way_wordBits, o_way_limit, o_way_radix, o_way_order, o_way_near, o_way_seed)))
      ) else (
        bd8 (fX4_takeSetting o_number_6 o_way_size o_way_log o_way_wordBits o_way_limit o_way_radix o_way_order o_way_near o_way_seed p2) (fun o_way_size_12 o_way_log_13 o_way_wordBits_14 o_way_limit_15 o_way_radix_16 o_way_order_17 o_way_near_18 o_way_seed_19 =>
        some ((1 : Int32), o_fault, o_faultPlace, u_2, o_place_3, o_kind_4, o_start_5, o_number_6, o_way_size_12, o_way_log_13, o_way_wordBits_14, o_way_limit_15, o_way_radix_16, o_way_order_17, o_way_near_18, o_way_seed_19))
      ))
    ) else (
      bd3 (fX4_failAtToken o_fault o_faultPlace o_start_5 (1 : Int32)) (fun r_26 o_fault_27 o_faultPlace_28 =>
      gd (bl r_26) (
      some (r_26, o_fault_27, o_faultPlace_28, u_2, o_place_3, o_kind_4, o_start_5, o_number_6, o_way_size, o_way_log, o_way_wordBits, o_way_limit, o_way_radix, o_way_order, o_way_near, o_way_seed)))
    )))
  )
set_option maxHeartbeats 4000000 in
set_option maxRecDepth 100000 in
theorem tX4_readSetting (l : Launch) (G : va_G) (cI cJ cZ : ClassId) (sz : Nat) (h_o h_a1 h_o_way h_o_re h_o_im h_o_way_shifts : Nat) (o_fault : Int32) (o_faultPlace : Int32) (o_toldWords : Int32) (o_toldRe : Int32) (o_toldIm : Int32) (o_length : Int32) (o_place : Int32) (o_kind : Int32) (o_start : Int32) (o_number : Int32) (a1 : Nat → Int32) (o_way_size : Int32) (o_way_log : Int32) (o_way_wordBits : Int32) (o_way_limit : Int32) (o_way_radix : Int32) (o_way_order : Int32) (o_way_near : Int32) (o_way_seed : Int32) (o_way_stages : Int32) (p2 : Int32) (r : Int32) (out_o_fault : Int32) (out_o_faultPlace : Int32) (out_o_toldWords : Int32) (out_o_place : Int32) (out_o_kind : Int32) (out_o_start : Int32) (out_o_number : Int32) (out_o_way_size : Int32) (out_o_way_log : Int32) (out_o_way_wordBits : Int32) (out_o_way_limit : Int32) (out_o_way_radix : Int32) (out_o_way_order : Int32) (out_o_way_near : Int32) (out_o_way_seed : Int32) (hf : fX4_readSetting o_fault o_faultPlace o_toldWords o_length o_place o_kind o_start o_number a1 o_way_size o_way_log o_way_wordBits o_way_limit o_way_radix o_way_order o_way_near o_way_seed p2 = some (r, out_o_fault, out_o_faultPlace, out_o_toldWords, out_o_place, out_o_kind, out_o_start, out_o_number, out_o_way_size, out_o_way_log, out_o_way_wordBits, out_o_way_limit, out_o_way_radix, out_o_way_order, out_o_way_near, out_o_way_seed)) : Met l yX4_readSetting (Cond.code yX4_readSetting cX4_readSetting 3 (some .boolean) :: BIG) ({ frames := 3, cells := 0, slots := 0, locals := 62 } : Room) (cP G (TY3 cI cJ cZ) [.ref h_o, .ref h_a1, .int p2] sz (wX4_readSetting cI cJ cZ h_o h_a1 h_o_way h_o_re h_o_im h_o_way_shifts o_fault o_faultPlace o_toldWords o_toldRe o_toldIm o_length o_place o_kind o_start o_number a1 o_way_size o_way_log o_way_wordBits o_way_limit o_way_radix o_way_order o_way_near o_way_seed o_way_stages)) (cQ G (TY3 cI cJ cZ) sz (wX4_readSetting cI cJ cZ h_o h_a1 h_o_way h_o_re h_o_im h_o_way_shifts o_fault o_faultPlace o_toldWords o_toldRe o_toldIm o_length o_place o_kind o_start o_number a1 o_way_size o_way_log o_way_wordBits o_way_limit o_way_radix o_way_order o_way_near o_way_seed o_way_stages) (wX4_readSetting cI cJ cZ h_o h_a1 h_o_way h_o_re h_o_im h_o_way_shifts out_o_fault out_o_faultPlace out_o_toldWords o_toldRe o_toldIm o_length out_o_place out_o_kind out_o_start out_o_number a1 out_o_way_size out_o_way_log out_o_way_wordBits out_o_way_limit out_o_way_radix out_o_way_order out_o_way_near out_o_way_seed o_way_stages) (some (.int r))) 0 0 (va_A (wX4_readSetting cI cJ cZ h_o h_a1 h_o_way h_o_re h_o_im h_o_way_shifts o_fault o_faultPlace o_toldWords o_toldRe o_toldIm o_length o_place o_kind o_start o_number a1 o_way_size o_way_log o_way_wordBits o_way_limit o_way_radix o_way_order o_way_near o_way_seed o_way_stages) sz) := by
  refine met_z (cc := cX4_readSetting) (maxL := 3) (plainFor_of_name (by decide)) (Nat.le_of_ble_eq_true rfl) (fun p e s m below meth c A ls Q hx hb hml hts hown hK hP hD hS hA hl hret => ?_)
  have hown : s.vm.findClass RX4 = some m.cls := hown
  have hl : lv_has ls 3 [(0, .ref h_o), (1, .ref h_a1), (2, .int p2)] := hl
  unfold fX4_readSetting at hf
  obtain ⟨H, eH⟩ : ∃ H, H = s.heap := ⟨_, rfl⟩
  obtain ⟨locs, elocs⟩ : ∃ z : List Loc, z = [] := ⟨_, rfl⟩
  have hP : va_P G vwCl (wX4_readSetting cI cJ cZ h_o h_a1 h_o_way h_o_re h_o_im h_o_way_shifts o_fault o_faultPlace o_toldWords o_toldRe o_toldIm o_length o_place o_kind o_start o_number a1 o_way_size o_way_log o_way_wordBits o_way_limit o_way_radix o_way_order o_way_near o_way_seed o_way_stages) H := by rw [eH]; exact hP
  have hS : va_S A s.heap H locs := by rw [eH, elocs]; exact hS
  suffices hgo : W p l e ({ frames := 3, cells := 0, slots := 0, locals := 62 } : Room) s m ([.ref h_o, .ref h_a1, .int p2] : List Value).toArray below meth c H locs 0 0 Q (F0 m 0 ls []) by rw [eH, elocs] at hgo; exact hgo
  clear eH elocs
  refine lv_aload_n hx hb dX4_readSetting_0 rfl (lv_at hl 0 rfl) ?_
  refine rd (ci := 4) (C := RX4) (T := TX4) (N := 13) hx hb hts inX4 hown hK hP 0 5 rfl rfl (by decide) (hts _ q_fX4_50) rfl dX4_readSetting_1 ?_
  refine lv_iload_n hx hb dX4_readSetting_4 rfl (lv_at hl 2 rfl) ?_
  refine lv_ishr hx hb dX4_readSetting_5 ?_
  refine lv_iconst (v := (1 : Int32)) hx hb dX4_readSetting_6 (by decide) ?_
  refine lv_iand hx hb dX4_readSetting_7 ?_
  refine lv_iconst (v := (1 : Int32)) hx hb dX4_readSetting_8 (by decide) ?_
  refine lv_icmp_ne (tgt := 18) hx hb dX4_readSetting_9 (by decide) (fun c_1 => ?_) (fun c_1 => ?_)
  · have hf := it_f c_1 hf
    refine lv_aload_n hx hb dX4_readSetting_18 rfl (lv_at hl 0 rfl) ?_
    refine lv_dup hx hb dX4_readSetting_19 rfl ?_
    refine rd (ci := 4) (C := RX4) (T := TX4) (N := 13) hx hb hts inX4 hown hK hP 0 5 rfl rfl (by decide) (hts _ q_fX4_50) rfl dX4_readSetting_20 ?_
    refine lv_iconst (v := (1 : Int32)) hx hb dX4_readSetting_23 (by decide) ?_
    refine lv_iload_n hx hb dX4_readSetting_24 rfl (lv_at hl 2 rfl) ?_
    refine lv_ishl hx hb dX4_readSetting_25 ?_
    refine lv_ior hx hb dX4_readSetting_26 ?_
    refine lv_topi (fun u_2 eu_2 => ?_)
    have hf := nm_x eu_2 hf
    refine wr (ci := 4) (C := RX4) (T := TX4) (N := 13) hx hb hts inX4 tyX4 tyX4_ok nmX4 hown hK hP hD hS 0 5 rfl rfl (by decide) (hts _ q_fX4_50) rfl rfl rfl (Nat.le_of_ble_eq_true rfl) dX4_readSetting_27 (ws2 := (wX4_readSetting cI cJ cZ h_o h_a1 h_o_way h_o_re h_o_im h_o_way_shifts o_fault o_faultPlace u_2 o_toldRe o_toldIm o_length o_place o_kind o_start o_number a1 o_way_size o_way_log o_way_wordBits o_way_limit o_way_radix o_way_order o_way_near o_way_seed o_way_stages)) rfl (fun H locs hP hD hS => ?_)
    refine lv_aload_n hx hb dX4_readSetting_30 rfl (lv_at hl 0 rfl) ?_
    refine lv_aload_n hx hb dX4_readSetting_31 rfl (lv_at hl 1 rfl) ?_
    obtain ⟨o_place_3, o_kind_4, o_start_5, o_number_6, e_7, hf⟩ := bd4_x hf
    refine call_v [.ref h_a1] [] ⟨hx, hb, hml, hown, hts⟩ hK hP hD hS hA hl.1 (tX4_nextToken l G cI cJ cZ H.size h_o h_a1 h_o_way h_o_re h_o_im o_fault o_faultPlace u_2 o_toldRe o_toldIm o_length o_place o_kind o_start o_number a1 o_place_3 o_kind_4 o_start_5 o_number_6 e_7) (cwV 1 hts (gv q_mX4_36 q_i_yX4_nextToken q_s_yX4_nextToken q_n_RX4 q_k_yX4_nextToken) rfl rfl rfl (by decide +kernel) ⟨by decide, by decide⟩) rfl rfl (Nat.le_of_ble_eq_true rfl) dX4_readSetting_32 ⟨Nat.zero_le _, Nat.zero_le _⟩ (ci := 4) rfl 0 rfl [0, 1] [2] [1, 2, 0] rfl rfl (ws2 := (wX4_readSetting cI cJ cZ h_o h_a1 h_o_way h_o_re h_o_im h_o_way_shifts o_fault o_faultPlace u_2 o_toldRe o_toldIm o_length o_place_3 o_kind_4 o_start_5 o_number_6 a1 o_way_size o_way_log o_way_wordBits o_way_limit o_way_radix o_way_order o_way_near o_way_seed o_way_stages)) rfl (fun H locs hP hD hS => ?_)
    refine W.eq (g2 := F0 m 35 ls []) rfl ?_
    refine lv_aload_n hx hb dX4_readSetting_35 rfl (lv_at hl 0 rfl) ?_
    refine rd (ci := 4) (C := RX4) (T := TX4) (N := 13) hx hb hts inX4 hown hK hP 0 10 rfl rfl (by decide) (hts _ q_fX4_40) rfl dX4_readSetting_36 ?_
    refine lv_iconst (v := (2 : Int32)) hx hb dX4_readSetting_39 (by decide) ?_
    refine lv_icmp_eq (tgt := 49) hx hb dX4_readSetting_40 (by decide) (fun c_8 => ?_) (fun c_8 => ?_)
    · have hf := it_t c_8 hf
      refine lv_aload_n hx hb dX4_readSetting_49 rfl (lv_at hl 0 rfl) ?_
      refine lv_iload_n hx hb dX4_readSetting_50 rfl (lv_at hl 2 rfl) ?_
      obtain ⟨r_9, e_10, hf⟩ := bd1_x hf
      refine call_v [.int p2] [] ⟨hx, hb, hml, hown, hts⟩ hK hP hD hS hA hl.1 (tX4_isSetting l G cI cJ cZ H.size h_o h_o_way h_o_re h_o_im o_fault o_faultPlace u_2 o_toldRe o_toldIm o_length o_place_3 o_kind_4 o_start_5 o_number_6 p2 r_9 e_10) (cwV 1 hts (gv q_mX4_83 q_i_yX4_isSetting q_s_yX4_isSetting q_n_RX4 q_k_yX4_isSetting) rfl rfl rfl (by decide +kernel) ⟨by decide, by decide⟩) rfl rfl (Nat.le_of_ble_eq_true rfl) dX4_readSetting_51 ⟨Nat.zero_le _, Nat.zero_le _⟩ (ci := 4) rfl 0 rfl [0] [1, 2] [2, 0, 1] rfl rfl (ws2 := (wX4_readSetting cI cJ cZ h_o h_a1 h_o_way h_o_re h_o_im h_o_way_shifts o_fault o_faultPlace u_2 o_toldRe o_toldIm o_length o_place_3 o_kind_4 o_start_5 o_number_6 a1 o_way_size o_way_log o_way_wordBits o_way_limit o_way_radix o_way_order o_way_near o_way_seed o_way_stages)) rfl (fun H locs hP hD hS => ?_)
      refine W.eq (g2 := F0 m 54 ls [.int r_9]) rfl ?_
      refine lv_if_ne (tgt := 63) hx hb dX4_readSetting_54 (by decide) (fun c_11 => ?_) (fun c_11 => ?_)
      · have hf := it_f c_11 hf
        refine lv_aload_n hx hb dX4_readSetting_63 rfl (lv_at hl 0 rfl) ?_
        refine lv_iload_n hx hb dX4_readSetting_64 rfl (lv_at hl 2 rfl) ?_
        obtain ⟨o_way_size_12, o_way_log_13, o_way_wordBits_14, o_way_limit_15, o_way_radix_16, o_way_order_17, o_way_near_18, o_way_seed_19, e_20, hf⟩ := bd8_x hf
        refine call_v [.int p2] [] ⟨hx, hb, hml, hown, hts⟩ hK hP hD hS hA hl.1 (tX4_takeSetting l G cI cJ cZ H.size h_o h_o_way h_o_re h_o_im h_o_way_shifts o_fault o_faultPlace u_2 o_toldRe o_toldIm o_length o_place_3 o_kind_4 o_start_5 o_number_6 o_way_size o_way_log o_way_wordBits o_way_limit o_way_radix o_way_order o_way_near o_way_seed o_way_stages p2 o_way_size_12 o_way_log_13 o_way_wordBits_14 o_way_limit_15 o_way_radix_16 o_way_order_17 o_way_near_18 o_way_seed_19 e_20) (cwV 1 hts (gv q_mX4_86 q_i_yX4_takeSetting q_s_yX4_takeSetting q_n_RX4 q_k_yX4_takeSetting) rfl rfl rfl (by decide +kernel) ⟨by decide, by decide⟩) rfl rfl (Nat.le_of_ble_eq_true rfl) dX4_readSetting_65 ⟨Nat.zero_le _, Nat.zero_le _⟩ (ci := 4) rfl 0 rfl [0, 2] [1] [1, 0, 2] rfl rfl (ws2 := (wX4_readSetting cI cJ cZ h_o h_a1 h_o_way h_o_re h_o_im h_o_way_shifts o_fault o_faultPlace u_2 o_toldRe o_toldIm o_length o_place_3 o_kind_4 o_start_5 o_number_6 a1 o_way_size_12 o_way_log_13 o_way_wordBits_14 o_way_limit_15 o_way_radix_16 o_way_order_17 o_way_near_18 o_way_seed_19 o_way_stages)) rfl (fun H locs hP hD hS => ?_)
        refine W.eq (g2 := F0 m 68 ls []) rfl ?_
        refine lv_iconst (v := (1 : Int32)) hx hb dX4_readSetting_68 (by decide) ?_
        cases hf
        exact hret _ _ _ _ dX4_readSetting_69 rfl hP hD hS
      · have hf := it_t c_11 hf
        refine lv_aload_n hx hb dX4_readSetting_57 rfl (lv_at hl 0 rfl) ?_
        refine lv_iconst (v := (2 : Int32)) hx hb dX4_readSetting_58 (by decide) ?_
        obtain ⟨r_21, o_fault_22, o_faultPlace_23, e_24, hf⟩ := bd3_x hf
        refine call_v [.int (2 : Int32)] [] ⟨hx, hb, hml, hown, hts⟩ hK hP hD hS hA hl.1 (tX4_failAtToken l G cI cJ cZ H.size h_o h_o_way h_o_re h_o_im o_fault o_faultPlace u_2 o_toldRe o_toldIm o_length o_place_3 o_kind_4 o_start_5 o_number_6 (2 : Int32) r_21 o_fault_22 o_faultPlace_23 e_24) (cwV 1 hts (gv q_mX4_72 q_i_yX4_failAtToken q_s_yX4_failAtToken q_n_RX4 q_k_yX4_failAtToken) rfl rfl rfl (by decide +kernel) ⟨by decide, by decide⟩) rfl rfl (Nat.le_of_ble_eq_true rfl) dX4_readSetting_59 ⟨Nat.zero_le _, Nat.zero_le _⟩ (ci := 4) rfl 0 rfl [0] [1, 2] [2, 0, 1] rfl rfl (ws2 := (wX4_readSetting cI cJ cZ h_o h_a1 h_o_way h_o_re h_o_im h_o_way_shifts o_fault_22 o_faultPlace_23 u_2 o_toldRe o_toldIm o_length o_place_3 o_kind_4 o_start_5 o_number_6 a1 o_way_size o_way_log o_way_wordBits o_way_limit o_way_radix o_way_order o_way_near o_way_seed o_way_stages)) rfl (fun H locs hP hD hS => ?_)
        refine W.eq (g2 := F0 m 62 ls [.int r_21]) rfl ?_
        obtain ⟨g_25, hf⟩ := gd_x hf
        cases hf
        exact hret _ _ _ _ dX4_readSetting_62 (bl_n g_25) hP hD hS
    · have hf := it_f c_8 hf
      refine lv_aload_n hx hb dX4_readSetting_43 rfl (lv_at hl 0 rfl) ?_
      refine lv_iconst (v := (1 : Int32)) hx hb dX4_readSetting_44 (by decide) ?_
      obtain ⟨r_26, o_fault_27, o_faultPlace_28, e_29, hf⟩ := bd3_x hf
      refine call_v [.int (1 : Int32)] [] ⟨hx, hb, hml, hown, hts⟩ hK hP hD hS hA hl.1 (tX4_failAtToken l G cI cJ cZ H.size h_o h_o_way h_o_re h_o_im o_fault o_faultPlace u_2 o_toldRe o_toldIm o_length o_place_3 o_kind_4 o_start_5 o_number_6 (1 : Int32) r_26 o_fault_27 o_faultPlace_28 e_29) (cwV 1 hts (gv q_mX4_72 q_i_yX4_failAtToken q_s_yX4_failAtToken q_n_RX4 q_k_yX4_failAtToken) rfl rfl rfl (by decide +kernel) ⟨by decide, by decide⟩) rfl rfl (Nat.le_of_ble_eq_true rfl) dX4_readSetting_45 ⟨Nat.zero_le _, Nat.zero_le _⟩ (ci := 4) rfl 0 rfl [0] [1, 2] [2, 0, 1] rfl rfl (ws2 := (wX4_readSetting cI cJ cZ h_o h_a1 h_o_way h_o_re h_o_im h_o_way_shifts o_fault_27 o_faultPlace_28 u_2 o_toldRe o_toldIm o_length o_place_3 o_kind_4 o_start_5 o_number_6 a1 o_way_size o_way_log o_way_wordBits o_way_limit o_way_radix o_way_order o_way_near o_way_seed o_way_stages)) rfl (fun H locs hP hD hS => ?_)
      refine W.eq (g2 := F0 m 48 ls [.int r_26]) rfl ?_
      obtain ⟨g_30, hf⟩ := gd_x hf
      cases hf
      exact hret _ _ _ _ dX4_readSetting_48 (bl_n g_30) hP hD hS
  · have hf := it_t c_1 hf
    refine lv_aload_n hx hb dX4_readSetting_12 rfl (lv_at hl 0 rfl) ?_
    refine lv_iconst (v := (3 : Int32)) hx hb dX4_readSetting_13 (by decide) ?_
    obtain ⟨r_31, o_fault_32, o_faultPlace_33, e_34, hf⟩ := bd3_x hf
    refine call_v [.int (3 : Int32)] [] ⟨hx, hb, hml, hown, hts⟩ hK hP hD hS hA hl.1 (tX4_failAtToken l G cI cJ cZ H.size h_o h_o_way h_o_re h_o_im o_fault o_faultPlace o_toldWords o_toldRe o_toldIm o_length o_place o_kind o_start o_number (3 : Int32) r_31 o_fault_32 o_faultPlace_33 e_34) (cwV 1 hts (gv q_mX4_72 q_i_yX4_failAtToken q_s_yX4_failAtToken q_n_RX4 q_k_yX4_failAtToken) rfl rfl rfl (by decide +kernel) ⟨by decide, by decide⟩) rfl rfl (Nat.le_of_ble_eq_true rfl) dX4_readSetting_14 ⟨Nat.zero_le _, Nat.zero_le _⟩ (ci := 4) rfl 0 rfl [0] [1, 2] [2, 0, 1] rfl rfl (ws2 := (wX4_readSetting cI cJ cZ h_o h_a1 h_o_way h_o_re h_o_im h_o_way_shifts o_fault_32 o_faultPlace_33 o_toldWords o_toldRe o_toldIm o_length o_place o_kind o_start o_number a1 o_way_size o_way_log o_way_wordBits o_way_limit o_way_radix o_way_order o_way_near o_way_seed o_way_stages)) rfl (fun H locs hP hD hS => ?_)
    refine W.eq (g2 := F0 m 17 ls [.int r_31]) rfl ?_
    obtain ⟨g_35, hf⟩ := gd_x hf
    cases hf
    exact hret _ _ _ _ dX4_readSetting_17 (bl_n g_35) hP hD hS
def wX4_takePoint (cI cJ cZ : ClassId) (h_o h_o_im h_o_re h_o_way : Nat) (o_fault : Int32) (o_faultPlace : Int32) (o_toldWords : Int32) (o_toldRe : Int32) (o_toldIm : Int32) (o_length : Int32) (o_place : Int32) (o_kind : Int32) (o_start : Int32) (o_number : Int32) (o_im : Nat → Int32) (o_re : Nat → Int32) : va_W := [(h_o, .inr (4, [.ref h_o_way, .ref h_o_re, .ref h_o_im, .int o_fault, .int o_faultPlace, .int o_toldWords, .int o_toldRe, .int o_toldIm, .int o_length, .int o_place, .int o_kind, .int o_start, .int o_number])), (h_o_im, .inl (cI, 32, .inl o_im)), (h_o_re, .inl (cI, 32, .inl o_re))]
def fX4_takePoint (o_toldRe : Int32) (o_toldIm : Int32) (o_im : Nat → Int32) (o_re : Nat → Int32) (p1 : Int32) (p2 : Int32) (p3 : Int32) : Option (Int32 × Int32 × (Nat → Int32) × (Nat → Int32)) :=
  if p2 = 0 then (
    gd (inb p1 32) (
    nm (upd o_re (Int32.toNatClampNeg p1) p3) (fun o_re_3 =>
    nm (o_toldRe ||| ((1 : Int32) <<< (p1 &&& 31))) (fun u_4 =>
    some (u_4, o_toldIm, o_im, o_re_3))))
  ) else (
    gd (inb p1 32) (
    nm (upd o_im (Int32.toNatClampNeg p1) p3) (fun o_im_6 =>
    nm (o_toldIm ||| ((1 : Int32) <<< (p1 &&& 31))) (fun u_7 =>
    some (o_toldRe, u_7, o_im_6, o_re))))
  )
set_option maxHeartbeats 4000000 in
set_option maxRecDepth 100000 in
theorem tX4_takePoint (l : Launch) (G : va_G) (cI cJ cZ : ClassId) (sz : Nat) (h_o h_o_im h_o_re h_o_way : Nat) (o_fault : Int32) (o_faultPlace : Int32) (o_toldWords : Int32) (o_toldRe : Int32) (o_toldIm : Int32) (o_length : Int32) (o_place : Int32) (o_kind : Int32) (o_start : Int32) (o_number : Int32) (o_im : Nat → Int32) (o_re : Nat → Int32) (p1 : Int32) (p2 : Int32) (p3 : Int32) (out_o_toldRe : Int32) (out_o_toldIm : Int32) (out_o_im : Nat → Int32) (out_o_re : Nat → Int32) (hf : fX4_takePoint o_toldRe o_toldIm o_im o_re p1 p2 p3 = some (out_o_toldRe, out_o_toldIm, out_o_im, out_o_re)) : Met l yX4_takePoint (Cond.code yX4_takePoint cX4_takePoint 4 none :: BIG) ({ frames := 0, cells := 0, slots := 0, locals := 0 } : Room) (cP G (TY3 cI cJ cZ) [.ref h_o, .int p1, .int p2, .int p3] sz (wX4_takePoint cI cJ cZ h_o h_o_im h_o_re h_o_way o_fault o_faultPlace o_toldWords o_toldRe o_toldIm o_length o_place o_kind o_start o_number o_im o_re)) (cQ G (TY3 cI cJ cZ) sz (wX4_takePoint cI cJ cZ h_o h_o_im h_o_re h_o_way o_fault o_faultPlace o_toldWords o_toldRe o_toldIm o_length o_place o_kind o_start o_number o_im o_re) (wX4_takePoint cI cJ cZ h_o h_o_im h_o_re h_o_way o_fault o_faultPlace o_toldWords out_o_toldRe out_o_toldIm o_length o_place o_kind o_start o_number out_o_im out_o_re) none) 0 0 (va_A (wX4_takePoint cI cJ cZ h_o h_o_im h_o_re h_o_way o_fault o_faultPlace o_toldWords o_toldRe o_toldIm o_length o_place o_kind o_start o_number o_im o_re) sz) := by
  refine met_v (cc := cX4_takePoint) (maxL := 4) (plainFor_of_name (by decide)) (Nat.le_of_ble_eq_true rfl) (fun p e s m below meth c A ls Q hx hb hml hts hown hK hP hD hS hA hl hret => ?_)
  have hown : s.vm.findClass RX4 = some m.cls := hown
  have hl : lv_has ls 4 [(0, .ref h_o), (1, .int p1), (2, .int p2), (3, .int p3)] := hl
  unfold fX4_takePoint at hf
  obtain ⟨H, eH⟩ : ∃ H, H = s.heap := ⟨_, rfl⟩
  obtain ⟨locs, elocs⟩ : ∃ z : List Loc, z = [] := ⟨_, rfl⟩
  have hP : va_P G vwCl (wX4_takePoint cI cJ cZ h_o h_o_im h_o_re h_o_way o_fault o_faultPlace o_toldWords o_toldRe o_toldIm o_length o_place o_kind o_start o_number o_im o_re) H := by rw [eH]; exact hP
  have hS : va_S A s.heap H locs := by rw [eH, elocs]; exact hS
  suffices hgo : W p l e ({ frames := 0, cells := 0, slots := 0, locals := 0 } : Room) s m ([.ref h_o, .int p1, .int p2, .int p3] : List Value).toArray below meth c H locs 0 0 Q (F0 m 0 ls []) by rw [eH, elocs] at hgo; exact hgo
  clear eH elocs
  refine lv_iload_n hx hb dX4_takePoint_0 rfl (lv_at hl 2 rfl) ?_
  refine lv_if_eq (tgt := 26) hx hb dX4_takePoint_1 (by decide) (fun c_1 => ?_) (fun c_1 => ?_)
  · have hf := it_t c_1 hf
    refine lv_aload_n hx hb dX4_takePoint_26 rfl (lv_at hl 0 rfl) ?_
    refine rd (ci := 4) (C := RX4) (T := TX4) (N := 13) hx hb hts inX4 hown hK hP 0 1 rfl rfl (by decide) (hts _ q_fX4_18) rfl dX4_takePoint_27 ?_
    refine lv_iload_n hx hb dX4_takePoint_30 rfl (lv_at hl 1 rfl) ?_
    refine lv_iload_n hx hb dX4_takePoint_31 rfl (lv_at hl 3 rfl) ?_
    obtain ⟨g_2, hf⟩ := gd_x hf
    obtain ⟨o_re_3, eo_re_3⟩ : ∃ y : Nat → Int32, y = upd o_re (Int32.toNatClampNeg p1) p3 := ⟨_, rfl⟩
    have hf := nm_x eo_re_3 hf
    refine ist hx hb hK hP hD hS 2 0 rfl rfl (inb_x g_2) dX4_takePoint_32 eo_re_3 (ws2 := (wX4_takePoint cI cJ cZ h_o h_o_im h_o_re h_o_way o_fault o_faultPlace o_toldWords o_toldRe o_toldIm o_length o_place o_kind o_start o_number o_im o_re_3)) rfl (fun H locs hP hD hS => ?_)
    refine lv_aload_n hx hb dX4_takePoint_33 rfl (lv_at hl 0 rfl) ?_
    refine lv_dup hx hb dX4_takePoint_34 rfl ?_
    refine rd (ci := 4) (C := RX4) (T := TX4) (N := 13) hx hb hts inX4 hown hK hP 0 6 rfl rfl (by decide) (hts _ q_fX4_53) rfl dX4_takePoint_35 ?_
    refine lv_iconst (v := (1 : Int32)) hx hb dX4_takePoint_38 (by decide) ?_
    refine lv_iload_n hx hb dX4_takePoint_39 rfl (lv_at hl 1 rfl) ?_
    refine lv_ishl hx hb dX4_takePoint_40 ?_
    refine lv_ior hx hb dX4_takePoint_41 ?_
    refine lv_topi (fun u_4 eu_4 => ?_)
    have hf := nm_x eu_4 hf
    refine wr (ci := 4) (C := RX4) (T := TX4) (N := 13) hx hb hts inX4 tyX4 tyX4_ok nmX4 hown hK hP hD hS 0 6 rfl rfl (by decide) (hts _ q_fX4_53) rfl rfl rfl (Nat.le_of_ble_eq_true rfl) dX4_takePoint_42 (ws2 := (wX4_takePoint cI cJ cZ h_o h_o_im h_o_re h_o_way o_fault o_faultPlace o_toldWords u_4 o_toldIm o_length o_place o_kind o_start o_number o_im o_re_3)) rfl (fun H locs hP hD hS => ?_)
    cases hf
    exact hret _ _ _ _ dX4_takePoint_45 hP hD hS
  · have hf := it_f c_1 hf
    refine lv_aload_n hx hb dX4_takePoint_4 rfl (lv_at hl 0 rfl) ?_
    refine rd (ci := 4) (C := RX4) (T := TX4) (N := 13) hx hb hts inX4 hown hK hP 0 2 rfl rfl (by decide) (hts _ q_fX4_22) rfl dX4_takePoint_5 ?_
    refine lv_iload_n hx hb dX4_takePoint_8 rfl (lv_at hl 1 rfl) ?_
    refine lv_iload_n hx hb dX4_takePoint_9 rfl (lv_at hl 3 rfl) ?_
    obtain ⟨g_5, hf⟩ := gd_x hf
    obtain ⟨o_im_6, eo_im_6⟩ : ∃ y : Nat → Int32, y = upd o_im (Int32.toNatClampNeg p1) p3 := ⟨_, rfl⟩
    have hf := nm_x eo_im_6 hf
    refine ist hx hb hK hP hD hS 1 0 rfl rfl (inb_x g_5) dX4_takePoint_10 eo_im_6 (ws2 := (wX4_takePoint cI cJ cZ h_o h_o_im h_o_re h_o_way o_fault o_faultPlace o_toldWords o_toldRe o_toldIm o_length o_place o_kind o_start o_number o_im_6 o_re)) rfl (fun H locs hP hD hS => ?_)
    refine lv_aload_n hx hb dX4_takePoint_11 rfl (lv_at hl 0 rfl) ?_
    refine lv_dup hx hb dX4_takePoint_12 rfl ?_
    refine rd (ci := 4) (C := RX4) (T := TX4) (N := 13) hx hb hts inX4 hown hK hP 0 7 rfl rfl (by decide) (hts _ q_fX4_56) rfl dX4_takePoint_13 ?_
    refine lv_iconst (v := (1 : Int32)) hx hb dX4_takePoint_16 (by decide) ?_
    refine lv_iload_n hx hb dX4_takePoint_17 rfl (lv_at hl 1 rfl) ?_
    refine lv_ishl hx hb dX4_takePoint_18 ?_
    refine lv_ior hx hb dX4_takePoint_19 ?_
    refine lv_topi (fun u_7 eu_7 => ?_)
    have hf := nm_x eu_7 hf
    refine wr (ci := 4) (C := RX4) (T := TX4) (N := 13) hx hb hts inX4 tyX4 tyX4_ok nmX4 hown hK hP hD hS 0 7 rfl rfl (by decide) (hts _ q_fX4_56) rfl rfl rfl (Nat.le_of_ble_eq_true rfl) dX4_takePoint_20 (ws2 := (wX4_takePoint cI cJ cZ h_o h_o_im h_o_re h_o_way o_fault o_faultPlace o_toldWords o_toldRe u_7 o_length o_place o_kind o_start o_number o_im_6 o_re)) rfl (fun H locs hP hD hS => ?_)
    refine lv_goto (tgt := 45) hx hb dX4_takePoint_23 (by decide) ?_
    cases hf
    exact hret _ _ _ _ dX4_takePoint_45 hP hD hS
def wX4_readPoint (cI cJ cZ : ClassId) (h_o h_a1 h_o_im h_o_re h_o_way h_o_way_shifts : Nat) (o_fault : Int32) (o_faultPlace : Int32) (o_toldWords : Int32) (o_toldRe : Int32) (o_toldIm : Int32) (o_length : Int32) (o_place : Int32) (o_kind : Int32) (o_start : Int32) (o_number : Int32) (a1 : Nat → Int32) (o_im : Nat → Int32) (o_re : Nat → Int32) (o_way_size : Int32) (o_way_log : Int32) (o_way_wordBits : Int32) (o_way_limit : Int32) (o_way_radix : Int32) (o_way_order : Int32) (o_way_near : Int32) (o_way_seed : Int32) (o_way_stages : Int32) : va_W := [(h_o, .inr (4, [.ref h_o_way, .ref h_o_re, .ref h_o_im, .int o_fault, .int o_faultPlace, .int o_toldWords, .int o_toldRe, .int o_toldIm, .int o_length, .int o_place, .int o_kind, .int o_start, .int o_number])), (h_a1, .inl (cI, 700, .inl a1)), (h_o_im, .inl (cI, 32, .inl o_im)), (h_o_re, .inl (cI, 32, .inl o_re)), (h_o_way, .inr (8, [.int o_way_size, .int o_way_log, .int o_way_wordBits, .int o_way_limit, .int o_way_radix, .int o_way_order, .int o_way_near, .int o_way_seed, .int o_way_stages, .ref h_o_way_shifts]))]
def fX4_readPoint_154 (o_fault : Int32) (o_faultPlace : Int32) (o_toldRe : Int32) (o_toldIm : Int32) (o_place : Int32) (o_kind : Int32) (o_start : Int32) (o_number : Int32) (o_im : Nat → Int32) (o_re : Nat → Int32) (s1 : Int32) (s2 : Int32) (s3 : Int32) : Option (Int32 × Int32 × Int32 × Int32 × Int32 × Int32 × Int32 × Int32 × Int32 × (Nat → Int32) × (Nat → Int32)) :=
  bd4 (fX4_takePoint o_toldRe o_toldIm o_im o_re s1 s2 s3) (fun o_toldRe_45 o_toldIm_46 o_im_47 o_re_48 =>
  some ((1 : Int32), o_fault, o_faultPlace, o_toldRe_45, o_toldIm_46, o_place, o_kind, o_start, o_number, o_im_47, o_re_48))
def fX4_readPoint_142 (o_fault : Int32) (o_faultPlace : Int32) (o_toldRe : Int32) (o_toldIm : Int32) (o_place : Int32) (o_kind : Int32) (o_start : Int32) (o_number : Int32) (o_im : Nat → Int32) (o_re : Nat → Int32) (s1 : Int32) (s2 : Int32) : Option (Int32 × Int32 × Int32 × Int32 × Int32 × Int32 × Int32 × Int32 × Int32 × (Nat → Int32) × (Nat → Int32)) :=
  fX4_readPoint_154 o_fault o_faultPlace o_toldRe o_toldIm o_place o_kind o_start o_number o_im o_re s1 s2 (-o_number)
def fX4_readPoint_72 (o_length : Int32) (a1 : Nat → Int32) (o_way_limit : Int32) (o_fault : Int32) (o_faultPlace : Int32) (o_toldRe : Int32) (o_toldIm : Int32) (o_place : Int32) (o_kind : Int32) (o_start : Int32) (o_number : Int32) (o_im : Nat → Int32) (o_re : Nat → Int32) (v2 : Int32) (v3 : Int32) (v4 : Int32) (s0 : Int32) : Option (Int32 × Int32 × Int32 × Int32 × Int32 × Int32 × Int32 × Int32 × Int32 × (Nat → Int32) × (Nat → Int32)) :=
  if ((s0 >>> (v4 &&& 31)) &&& (1 : Int32)) = (1 : Int32) then (
    bd3 (fX4_failAtToken o_fault o_faultPlace o_start (3 : Int32)) (fun r_40 o_fault_41 o_faultPlace_42 =>
    gd (bl r_40) (
    some (r_40, o_fault_41, o_faultPlace_42, o_toldRe, o_toldIm, o_place, o_kind, o_start, o_number, o_im, o_re)))
  ) else (
    bd4 (fX4_nextToken o_length o_place o_kind o_start o_number a1) (fun o_place_21 o_kind_22 o_start_23 o_number_24 =>
    if o_kind_22 = (2 : Int32) then (
      if o_number_24 ≤ o_way_limit then (
        if v2 = (7 : Int32) then (
          fX4_readPoint_142 o_fault o_faultPlace o_toldRe o_toldIm o_place_21 o_kind_22 o_start_23 o_number_24 o_im o_re v4 v3
        ) else (
          if v2 = (9 : Int32) then (
            fX4_readPoint_142 o_fault o_faultPlace o_toldRe o_toldIm o_place_21 o_kind_22 o_start_23 o_number_24 o_im o_re v4 v3
          ) else (
            fX4_readPoint_154 o_fault o_faultPlace o_toldRe o_toldIm o_place_21 o_kind_22 o_start_23 o_number_24 o_im o_re v4 v3 o_number_24
          )
        )
      ) else (
        bd3 (fX4_failAtToken o_fault o_faultPlace o_start_23 (2 : Int32)) (fun r_30 o_fault_31 o_faultPlace_32 =>
        gd (bl r_30) (
        some (r_30, o_fault_31, o_faultPlace_32, o_toldRe, o_toldIm, o_place_21, o_kind_22, o_start_23, o_number_24, o_im, o_re)))
      )
    ) else (
      bd3 (fX4_failAtToken o_fault o_faultPlace o_start_23 (1 : Int32)) (fun r_35 o_fault_36 o_faultPlace_37 =>
      gd (bl r_35) (
      some (r_35, o_fault_36, o_faultPlace_37, o_toldRe, o_toldIm, o_place_21, o_kind_22, o_start_23, o_number_24, o_im, o_re)))
    ))
  )
def fX4_readPoint_11 (o_length : Int32) (a1 : Nat → Int32) (o_way_size : Int32) (o_way_limit : Int32) (o_fault : Int32) (o_faultPlace : Int32) (o_toldRe : Int32) (o_toldIm : Int32) (o_place : Int32) (o_kind : Int32) (o_start : Int32) (o_number : Int32) (o_im : Nat → Int32) (o_re : Nat → Int32) (v2 : Int32) (s0 : Int32) : Option (Int32 × Int32 × Int32 × Int32 × Int32 × Int32 × Int32 × Int32 × Int32 × (Nat → Int32) × (Nat → Int32)) :=
  bd4 (fX4_nextToken o_length o_place o_kind o_start o_number a1) (fun o_place_2 o_kind_3 o_start_4 o_number_5 =>
  if o_kind_3 = (2 : Int32) then (
    if o_number_5 < o_way_size then (
      if s0 = 0 then (
        fX4_readPoint_72 o_length a1 o_way_limit o_fault o_faultPlace o_toldRe o_toldIm o_place_2 o_kind_3 o_start_4 o_number_5 o_im o_re v2 s0 o_number_5 o_toldRe
      ) else (
        fX4_readPoint_72 o_length a1 o_way_limit o_fault o_faultPlace o_toldRe o_toldIm o_place_2 o_kind_3 o_start_4 o_number_5 o_im o_re v2 s0 o_number_5 o_toldIm
      )
    ) else (
      bd3 (fX4_failAtToken o_fault o_faultPlace o_start_4 (2 : Int32)) (fun r_10 o_fault_11 o_faultPlace_12 =>
      gd (bl r_10) (
      some (r_10, o_fault_11, o_faultPlace_12, o_toldRe, o_toldIm, o_place_2, o_kind_3, o_start_4, o_number_5, o_im, o_re)))
    )
  ) else (
    bd3 (fX4_failAtToken o_fault o_faultPlace o_start_4 (1 : Int32)) (fun r_15 o_fault_16 o_faultPlace_17 =>
    gd (bl r_15) (
    some (r_15, o_fault_16, o_faultPlace_17, o_toldRe, o_toldIm, o_place_2, o_kind_3, o_start_4, o_number_5, o_im, o_re)))
  ))
def fX4_readPoint (o_fault : Int32) (o_faultPlace : Int32) (o_toldRe : Int32) (o_toldIm : Int32) (o_length : Int32) (o_place : Int32) (o_kind : Int32) (o_start : Int32) (o_number : Int32) (a1 : Nat → Int32) (o_im : Nat → Int32) (o_re : Nat → Int32) (o_way_size : Int32) (o_way_limit : Int32) (p2 : Int32) : Option (Int32 × Int32 × Int32 × Int32 × Int32 × Int32 × Int32 × Int32 × Int32 × (Nat → Int32) × (Nat → Int32)) :=
  if p2 < (8 : Int32) then (
    fX4_readPoint_11 o_length a1 o_way_size o_way_limit o_fault o_faultPlace o_toldRe o_toldIm o_place o_kind o_start o_number o_im o_re p2 (0 : Int32)
  ) else (
    fX4_readPoint_11 o_length a1 o_way_size o_way_limit o_fault o_faultPlace o_toldRe o_toldIm o_place o_kind o_start o_number o_im o_re p2 (1 : Int32)
  )
set_option maxHeartbeats 4000000 in
set_option maxRecDepth 100000 in
theorem tX4_readPoint (l : Launch) (G : va_G) (cI cJ cZ : ClassId) (sz : Nat) (h_o h_a1 h_o_im h_o_re h_o_way h_o_way_shifts : Nat) (o_fault : Int32) (o_faultPlace : Int32) (o_toldWords : Int32) (o_toldRe : Int32) (o_toldIm : Int32) (o_length : Int32) (o_place : Int32) (o_kind : Int32) (o_start : Int32) (o_number : Int32) (a1 : Nat → Int32) (o_im : Nat → Int32) (o_re : Nat → Int32) (o_way_size : Int32) (o_way_log : Int32) (o_way_wordBits : Int32) (o_way_limit : Int32) (o_way_radix : Int32) (o_way_order : Int32) (o_way_near : Int32) (o_way_seed : Int32) (o_way_stages : Int32) (p2 : Int32) (r : Int32) (out_o_fault : Int32) (out_o_faultPlace : Int32) (out_o_toldRe : Int32) (out_o_toldIm : Int32) (out_o_place : Int32) (out_o_kind : Int32) (out_o_start : Int32) (out_o_number : Int32) (out_o_im : Nat → Int32) (out_o_re : Nat → Int32) (hf : fX4_readPoint o_fault o_faultPlace o_toldRe o_toldIm o_length o_place o_kind o_start o_number a1 o_im o_re o_way_size o_way_limit p2 = some (r, out_o_fault, out_o_faultPlace, out_o_toldRe, out_o_toldIm, out_o_place, out_o_kind, out_o_start, out_o_number, out_o_im, out_o_re)) : Met l yX4_readPoint (Cond.code yX4_readPoint cX4_readPoint 5 (some .boolean) :: BIG) ({ frames := 3, cells := 0, slots := 0, locals := 62 } : Room) (cP G (TY3 cI cJ cZ) [.ref h_o, .ref h_a1, .int p2] sz (wX4_readPoint cI cJ cZ h_o h_a1 h_o_im h_o_re h_o_way h_o_way_shifts o_fault o_faultPlace o_toldWords o_toldRe o_toldIm o_length o_place o_kind o_start o_number a1 o_im o_re o_way_size o_way_log o_way_wordBits o_way_limit o_way_radix o_way_order o_way_near o_way_seed o_way_stages)) (cQ G (TY3 cI cJ cZ) sz (wX4_readPoint cI cJ cZ h_o h_a1 h_o_im h_o_re h_o_way h_o_way_shifts o_fault o_faultPlace o_toldWords o_toldRe o_toldIm o_length o_place o_kind o_start o_number a1 o_im o_re o_way_size o_way_log o_way_wordBits o_way_limit o_way_radix o_way_order o_way_near o_way_seed o_way_stages) (wX4_readPoint cI cJ cZ h_o h_a1 h_o_im h_o_re h_o_way h_o_way_shifts out_o_fault out_o_faultPlace o_toldWords out_o_toldRe out_o_toldIm o_length out_o_place out_o_kind out_o_start out_o_number a1 out_o_im out_o_re o_way_size o_way_log o_way_wordBits o_way_limit o_way_radix o_way_order o_way_near o_way_seed o_way_stages) (some (.int r))) 0 0 (va_A (wX4_readPoint cI cJ cZ h_o h_a1 h_o_im h_o_re h_o_way h_o_way_shifts o_fault o_faultPlace o_toldWords o_toldRe o_toldIm o_length o_place o_kind o_start o_number a1 o_im o_re o_way_size o_way_log o_way_wordBits o_way_limit o_way_radix o_way_order o_way_near o_way_seed o_way_stages) sz) := by
  refine met_z (cc := cX4_readPoint) (maxL := 5) (plainFor_of_name (by decide)) (Nat.le_of_ble_eq_true rfl) (fun p e s m below meth c A ls Q hx hb hml hts hown hK hP hD hS hA hl hret => ?_)
  have hown : s.vm.findClass RX4 = some m.cls := hown
  have hl : lv_has ls 5 [(0, .ref h_o), (1, .ref h_a1), (2, .int p2)] := hl
  have j154 : ∀ (o_fault : Int32) (o_faultPlace : Int32) (o_toldRe : Int32) (o_toldIm : Int32) (o_place : Int32) (o_kind : Int32) (o_start : Int32) (o_number : Int32) (o_im : Nat → Int32) (o_re : Nat → Int32) (s1 : Int32) (s2 : Int32) (s3 : Int32) (H : Heap) (locs : List Loc) (ls : Array Slot), fX4_readPoint_154 o_fault o_faultPlace o_toldRe o_toldIm o_place o_kind o_start o_number o_im o_re s1 s2 s3 = some (r, out_o_fault, out_o_faultPlace, out_o_toldRe, out_o_toldIm, out_o_place, out_o_kind, out_o_start, out_o_number, out_o_im, out_o_re) → va_P G vwCl (wX4_readPoint cI cJ cZ h_o h_a1 h_o_im h_o_re h_o_way h_o_way_shifts o_fault o_faultPlace o_toldWords o_toldRe o_toldIm o_length o_place o_kind o_start o_number a1 o_im o_re o_way_size o_way_log o_way_wordBits o_way_limit o_way_radix o_way_order o_way_near o_way_seed o_way_stages) H → va_D A (wX4_readPoint cI cJ cZ h_o h_a1 h_o_im h_o_re h_o_way h_o_way_shifts o_fault o_faultPlace o_toldWords o_toldRe o_toldIm o_length o_place o_kind o_start o_number a1 o_im o_re o_way_size o_way_log o_way_wordBits o_way_limit o_way_radix o_way_order o_way_near o_way_seed o_way_stages) → va_S A s.heap H locs → lv_has ls 5 [] → W p l e ({ frames := 3, cells := 0, slots := 0, locals := 62 } : Room) s m ([.ref h_o, .ref h_a1, .int p2] : List Value).toArray below meth c H locs 0 0 Q (F0 m 154 ls [.int s3, .int s2, .int s1, .ref h_o]) := by
    intro o_fault o_faultPlace o_toldRe o_toldIm o_place o_kind o_start o_number o_im o_re s1 s2 s3 H locs ls hf hP hD hS hl
    unfold fX4_readPoint_154 at hf
    obtain ⟨o_toldRe_45, o_toldIm_46, o_im_47, o_re_48, e_49, hf⟩ := bd4_x hf
    refine call_v [.int s1, .int s2, .int s3] [] ⟨hx, hb, hml, hown, hts⟩ hK hP hD hS hA hl.1 (tX4_takePoint l G cI cJ cZ H.size h_o h_o_im h_o_re h_o_way o_fault o_faultPlace o_toldWords o_toldRe o_toldIm o_length o_place o_kind o_start o_number o_im o_re s1 s2 s3 o_toldRe_45 o_toldIm_46 o_im_47 o_re_48 e_49) (cwV 3 hts (gv q_mX4_117 q_i_yX4_takePoint q_s_yX4_takePoint q_n_RX4 q_k_yX4_takePoint) rfl rfl rfl (by decide +kernel) ⟨by decide, by decide⟩) rfl rfl (Nat.le_of_ble_eq_true rfl) dX4_readPoint_154 ⟨Nat.zero_le _, Nat.zero_le _⟩ (ci := 4) rfl 0 rfl [0, 2, 3] [1, 4] [2, 0, 3, 4, 1] rfl rfl (ws2 := (wX4_readPoint cI cJ cZ h_o h_a1 h_o_im h_o_re h_o_way h_o_way_shifts o_fault o_faultPlace o_toldWords o_toldRe_45 o_toldIm_46 o_length o_place o_kind o_start o_number a1 o_im_47 o_re_48 o_way_size o_way_log o_way_wordBits o_way_limit o_way_radix o_way_order o_way_near o_way_seed o_way_stages)) rfl (fun H locs hP hD hS => ?_)
    refine W.eq (g2 := F0 m 157 ls []) rfl ?_
    refine lv_iconst (v := (1 : Int32)) hx hb dX4_readPoint_157 (by decide) ?_
    cases hf
    exact hret _ _ _ _ dX4_readPoint_158 rfl hP hD hS
  have j142 : ∀ (o_fault : Int32) (o_faultPlace : Int32) (o_toldRe : Int32) (o_toldIm : Int32) (o_place : Int32) (o_kind : Int32) (o_start : Int32) (o_number : Int32) (o_im : Nat → Int32) (o_re : Nat → Int32) (s1 : Int32) (s2 : Int32) (H : Heap) (locs : List Loc) (ls : Array Slot), fX4_readPoint_142 o_fault o_faultPlace o_toldRe o_toldIm o_place o_kind o_start o_number o_im o_re s1 s2 = some (r, out_o_fault, out_o_faultPlace, out_o_toldRe, out_o_toldIm, out_o_place, out_o_kind, out_o_start, out_o_number, out_o_im, out_o_re) → va_P G vwCl (wX4_readPoint cI cJ cZ h_o h_a1 h_o_im h_o_re h_o_way h_o_way_shifts o_fault o_faultPlace o_toldWords o_toldRe o_toldIm o_length o_place o_kind o_start o_number a1 o_im o_re o_way_size o_way_log o_way_wordBits o_way_limit o_way_radix o_way_order o_way_near o_way_seed o_way_stages) H → va_D A (wX4_readPoint cI cJ cZ h_o h_a1 h_o_im h_o_re h_o_way h_o_way_shifts o_fault o_faultPlace o_toldWords o_toldRe o_toldIm o_length o_place o_kind o_start o_number a1 o_im o_re o_way_size o_way_log o_way_wordBits o_way_limit o_way_radix o_way_order o_way_near o_way_seed o_way_stages) → va_S A s.heap H locs → lv_has ls 5 [(0, .ref h_o)] → W p l e ({ frames := 3, cells := 0, slots := 0, locals := 62 } : Room) s m ([.ref h_o, .ref h_a1, .int p2] : List Value).toArray below meth c H locs 0 0 Q (F0 m 142 ls [.int s2, .int s1, .ref h_o]) := by
    intro o_fault o_faultPlace o_toldRe o_toldIm o_place o_kind o_start o_number o_im o_re s1 s2 H locs ls hf hP hD hS hl
    unfold fX4_readPoint_142 at hf
    refine lv_aload_n hx hb dX4_readPoint_142 rfl (lv_at hl 0 rfl) ?_
    refine rd (ci := 4) (C := RX4) (T := TX4) (N := 13) hx hb hts inX4 hown hK hP 0 12 rfl rfl (by decide) (hts _ q_fX4_89) rfl dX4_readPoint_143 ?_
    refine lv_ineg hx hb dX4_readPoint_146 ?_
    refine lv_goto (tgt := 154) hx hb dX4_readPoint_147 (by decide) ?_
    exact j154 o_fault o_faultPlace o_toldRe o_toldIm o_place o_kind o_start o_number o_im o_re s1 s2 (-o_number) H locs ls hf hP hD hS (lv_sub hl [] rfl)
  have j72 : ∀ (o_fault : Int32) (o_faultPlace : Int32) (o_toldRe : Int32) (o_toldIm : Int32) (o_place : Int32) (o_kind : Int32) (o_start : Int32) (o_number : Int32) (o_im : Nat → Int32) (o_re : Nat → Int32) (v2 : Int32) (v3 : Int32) (v4 : Int32) (s0 : Int32) (H : Heap) (locs : List Loc) (ls : Array Slot), fX4_readPoint_72 o_length a1 o_way_limit o_fault o_faultPlace o_toldRe o_toldIm o_place o_kind o_start o_number o_im o_re v2 v3 v4 s0 = some (r, out_o_fault, out_o_faultPlace, out_o_toldRe, out_o_toldIm, out_o_place, out_o_kind, out_o_start, out_o_number, out_o_im, out_o_re) → va_P G vwCl (wX4_readPoint cI cJ cZ h_o h_a1 h_o_im h_o_re h_o_way h_o_way_shifts o_fault o_faultPlace o_toldWords o_toldRe o_toldIm o_length o_place o_kind o_start o_number a1 o_im o_re o_way_size o_way_log o_way_wordBits o_way_limit o_way_radix o_way_order o_way_near o_way_seed o_way_stages) H → va_D A (wX4_readPoint cI cJ cZ h_o h_a1 h_o_im h_o_re h_o_way h_o_way_shifts o_fault o_faultPlace o_toldWords o_toldRe o_toldIm o_length o_place o_kind o_start o_number a1 o_im o_re o_way_size o_way_log o_way_wordBits o_way_limit o_way_radix o_way_order o_way_near o_way_seed o_way_stages) → va_S A s.heap H locs → lv_has ls 5 [(0, .ref h_o), (1, .ref h_a1), (2, .int v2), (3, .int v3), (4, .int v4)] → W p l e ({ frames := 3, cells := 0, slots := 0, locals := 62 } : Room) s m ([.ref h_o, .ref h_a1, .int p2] : List Value).toArray below meth c H locs 0 0 Q (F0 m 72 ls [.int s0]) := by
    intro o_fault o_faultPlace o_toldRe o_toldIm o_place o_kind o_start o_number o_im o_re v2 v3 v4 s0 H locs ls hf hP hD hS hl
    unfold fX4_readPoint_72 at hf
    refine lv_iload hx hb dX4_readPoint_72 (lv_at hl 4 rfl) ?_
    refine lv_ishr hx hb dX4_readPoint_74 ?_
    refine lv_iconst (v := (1 : Int32)) hx hb dX4_readPoint_75 (by decide) ?_
    refine lv_iand hx hb dX4_readPoint_76 ?_
    refine lv_iconst (v := (1 : Int32)) hx hb dX4_readPoint_77 (by decide) ?_
    refine lv_icmp_ne (tgt := 87) hx hb dX4_readPoint_78 (by decide) (fun c_20 => ?_) (fun c_20 => ?_)
    · have hf := it_f c_20 hf
      refine lv_aload_n hx hb dX4_readPoint_87 rfl (lv_at hl 0 rfl) ?_
      refine lv_aload_n hx hb dX4_readPoint_88 rfl (lv_at hl 1 rfl) ?_
      obtain ⟨o_place_21, o_kind_22, o_start_23, o_number_24, e_25, hf⟩ := bd4_x hf
      refine call_v [.ref h_a1] [] ⟨hx, hb, hml, hown, hts⟩ hK hP hD hS hA hl.1 (tX4_nextToken l G cI cJ cZ H.size h_o h_a1 h_o_way h_o_re h_o_im o_fault o_faultPlace o_toldWords o_toldRe o_toldIm o_length o_place o_kind o_start o_number a1 o_place_21 o_kind_22 o_start_23 o_number_24 e_25) (cwV 1 hts (gv q_mX4_36 q_i_yX4_nextToken q_s_yX4_nextToken q_n_RX4 q_k_yX4_nextToken) rfl rfl rfl (by decide +kernel) ⟨by decide, by decide⟩) rfl rfl (Nat.le_of_ble_eq_true rfl) dX4_readPoint_89 ⟨Nat.zero_le _, Nat.zero_le _⟩ (ci := 4) rfl 0 rfl [0, 1] [2, 3, 4] [3, 4, 0, 1, 2] rfl rfl (ws2 := (wX4_readPoint cI cJ cZ h_o h_a1 h_o_im h_o_re h_o_way h_o_way_shifts o_fault o_faultPlace o_toldWords o_toldRe o_toldIm o_length o_place_21 o_kind_22 o_start_23 o_number_24 a1 o_im o_re o_way_size o_way_log o_way_wordBits o_way_limit o_way_radix o_way_order o_way_near o_way_seed o_way_stages)) rfl (fun H locs hP hD hS => ?_)
      refine W.eq (g2 := F0 m 92 ls []) rfl ?_
      refine lv_aload_n hx hb dX4_readPoint_92 rfl (lv_at hl 0 rfl) ?_
      refine rd (ci := 4) (C := RX4) (T := TX4) (N := 13) hx hb hts inX4 hown hK hP 0 10 rfl rfl (by decide) (hts _ q_fX4_40) rfl dX4_readPoint_93 ?_
      refine lv_iconst (v := (2 : Int32)) hx hb dX4_readPoint_96 (by decide) ?_
      refine lv_icmp_eq (tgt := 106) hx hb dX4_readPoint_97 (by decide) (fun c_26 => ?_) (fun c_26 => ?_)
      · have hf := it_t c_26 hf
        refine lv_aload_n hx hb dX4_readPoint_106 rfl (lv_at hl 0 rfl) ?_
        refine rd (ci := 4) (C := RX4) (T := TX4) (N := 13) hx hb hts inX4 hown hK hP 0 12 rfl rfl (by decide) (hts _ q_fX4_89) rfl dX4_readPoint_107 ?_
        refine lv_aload_n hx hb dX4_readPoint_110 rfl (lv_at hl 0 rfl) ?_
        refine rd (ci := 4) (C := RX4) (T := TX4) (N := 13) hx hb hts inX4 hown hK hP 0 0 rfl rfl (by decide) (hts _ q_fX4_12) rfl dX4_readPoint_111 ?_
        refine rd (ci := 8) (C := RX8) (T := TX8) (N := 10) hx hb hts inX8 hown hK hP 4 3 rfl rfl (by decide) (hts _ q_fX4_114) rfl dX4_readPoint_114 ?_
        refine lv_icmp_le (tgt := 126) hx hb dX4_readPoint_117 (by decide) (fun c_27 => ?_) (fun c_27 => ?_)
        · have hf := it_t c_27 hf
          refine lv_aload_n hx hb dX4_readPoint_126 rfl (lv_at hl 0 rfl) ?_
          refine lv_iload hx hb dX4_readPoint_127 (lv_at hl 4 rfl) ?_
          refine lv_iload_n hx hb dX4_readPoint_129 rfl (lv_at hl 3 rfl) ?_
          refine lv_iload_n hx hb dX4_readPoint_130 rfl (lv_at hl 2 rfl) ?_
          refine lv_bipush (v := (7 : Int32)) hx hb dX4_readPoint_131 (by decide) ?_
          refine lv_icmp_eq (tgt := 142) hx hb dX4_readPoint_133 (by decide) (fun c_28 => ?_) (fun c_28 => ?_)
          · have hf := it_t c_28 hf
            exact j142 o_fault o_faultPlace o_toldRe o_toldIm o_place_21 o_kind_22 o_start_23 o_number_24 o_im o_re v4 v3 H locs ls hf hP hD hS (lv_sub hl [0] rfl)
          · have hf := it_f c_28 hf
            refine lv_iload_n hx hb dX4_readPoint_136 rfl (lv_at hl 2 rfl) ?_
            refine lv_bipush (v := (9 : Int32)) hx hb dX4_readPoint_137 (by decide) ?_
            refine lv_icmp_ne (tgt := 150) hx hb dX4_readPoint_139 (by decide) (fun c_29 => ?_) (fun c_29 => ?_)
            · have hf := it_f c_29 hf
              refine lv_aload_n hx hb dX4_readPoint_150 rfl (lv_at hl 0 rfl) ?_
              refine rd (ci := 4) (C := RX4) (T := TX4) (N := 13) hx hb hts inX4 hown hK hP 0 12 rfl rfl (by decide) (hts _ q_fX4_89) rfl dX4_readPoint_151 ?_
              exact j154 o_fault o_faultPlace o_toldRe o_toldIm o_place_21 o_kind_22 o_start_23 o_number_24 o_im o_re v4 v3 o_number_24 H locs ls hf hP hD hS (lv_sub hl [] rfl)
            · have hf := it_t c_29 hf
              exact j142 o_fault o_faultPlace o_toldRe o_toldIm o_place_21 o_kind_22 o_start_23 o_number_24 o_im o_re v4 v3 H locs ls hf hP hD hS (lv_sub hl [0] rfl)
        · have hf := it_f c_27 hf
          refine lv_aload_n hx hb dX4_readPoint_120 rfl (lv_at hl 0 rfl) ?_
          refine lv_iconst (v := (2 : Int32)) hx hb dX4_readPoint_121 (by decide) ?_
          obtain ⟨r_30, o_fault_31, o_faultPlace_32, e_33, hf⟩ := bd3_x hf
          refine call_v [.int (2 : Int32)] [] ⟨hx, hb, hml, hown, hts⟩ hK hP hD hS hA hl.1 (tX4_failAtToken l G cI cJ cZ H.size h_o h_o_way h_o_re h_o_im o_fault o_faultPlace o_toldWords o_toldRe o_toldIm o_length o_place_21 o_kind_22 o_start_23 o_number_24 (2 : Int32) r_30 o_fault_31 o_faultPlace_32 e_33) (cwV 1 hts (gv q_mX4_72 q_i_yX4_failAtToken q_s_yX4_failAtToken q_n_RX4 q_k_yX4_failAtToken) rfl rfl rfl (by decide +kernel) ⟨by decide, by decide⟩) rfl rfl (Nat.le_of_ble_eq_true rfl) dX4_readPoint_122 ⟨Nat.zero_le _, Nat.zero_le _⟩ (ci := 4) rfl 0 rfl [0] [1, 2, 3, 4] [4, 0, 1, 2, 3] rfl rfl (ws2 := (wX4_readPoint cI cJ cZ h_o h_a1 h_o_im h_o_re h_o_way h_o_way_shifts o_fault_31 o_faultPlace_32 o_toldWords o_toldRe o_toldIm o_length o_place_21 o_kind_22 o_start_23 o_number_24 a1 o_im o_re o_way_size o_way_log o_way_wordBits o_way_limit o_way_radix o_way_order o_way_near o_way_seed o_way_stages)) rfl (fun H locs hP hD hS => ?_)
          refine W.eq (g2 := F0 m 125 ls [.int r_30]) rfl ?_
          obtain ⟨g_34, hf⟩ := gd_x hf
          cases hf
          exact hret _ _ _ _ dX4_readPoint_125 (bl_n g_34) hP hD hS
      · have hf := it_f c_26 hf
        refine lv_aload_n hx hb dX4_readPoint_100 rfl (lv_at hl 0 rfl) ?_
        refine lv_iconst (v := (1 : Int32)) hx hb dX4_readPoint_101 (by decide) ?_
        obtain ⟨r_35, o_fault_36, o_faultPlace_37, e_38, hf⟩ := bd3_x hf
        refine call_v [.int (1 : Int32)] [] ⟨hx, hb, hml, hown, hts⟩ hK hP hD hS hA hl.1 (tX4_failAtToken l G cI cJ cZ H.size h_o h_o_way h_o_re h_o_im o_fault o_faultPlace o_toldWords o_toldRe o_toldIm o_length o_place_21 o_kind_22 o_start_23 o_number_24 (1 : Int32) r_35 o_fault_36 o_faultPlace_37 e_38) (cwV 1 hts (gv q_mX4_72 q_i_yX4_failAtToken q_s_yX4_failAtToken q_n_RX4 q_k_yX4_failAtToken) rfl rfl rfl (by decide +kernel) ⟨by decide, by decide⟩) rfl rfl (Nat.le_of_ble_eq_true rfl) dX4_readPoint_102 ⟨Nat.zero_le _, Nat.zero_le _⟩ (ci := 4) rfl 0 rfl [0] [1, 2, 3, 4] [4, 0, 1, 2, 3] rfl rfl (ws2 := (wX4_readPoint cI cJ cZ h_o h_a1 h_o_im h_o_re h_o_way h_o_way_shifts o_fault_36 o_faultPlace_37 o_toldWords o_toldRe o_toldIm o_length o_place_21 o_kind_22 o_start_23 o_number_24 a1 o_im o_re o_way_size o_way_log o_way_wordBits o_way_limit o_way_radix o_way_order o_way_near o_way_seed o_way_stages)) rfl (fun H locs hP hD hS => ?_)
        refine W.eq (g2 := F0 m 105 ls [.int r_35]) rfl ?_
        obtain ⟨g_39, hf⟩ := gd_x hf
        cases hf
        exact hret _ _ _ _ dX4_readPoint_105 (bl_n g_39) hP hD hS
    · have hf := it_t c_20 hf
      refine lv_aload_n hx hb dX4_readPoint_81 rfl (lv_at hl 0 rfl) ?_
      refine lv_iconst (v := (3 : Int32)) hx hb dX4_readPoint_82 (by decide) ?_
      obtain ⟨r_40, o_fault_41, o_faultPlace_42, e_43, hf⟩ := bd3_x hf
      refine call_v [.int (3 : Int32)] [] ⟨hx, hb, hml, hown, hts⟩ hK hP hD hS hA hl.1 (tX4_failAtToken l G cI cJ cZ H.size h_o h_o_way h_o_re h_o_im o_fault o_faultPlace o_toldWords o_toldRe o_toldIm o_length o_place o_kind o_start o_number (3 : Int32) r_40 o_fault_41 o_faultPlace_42 e_43) (cwV 1 hts (gv q_mX4_72 q_i_yX4_failAtToken q_s_yX4_failAtToken q_n_RX4 q_k_yX4_failAtToken) rfl rfl rfl (by decide +kernel) ⟨by decide, by decide⟩) rfl rfl (Nat.le_of_ble_eq_true rfl) dX4_readPoint_83 ⟨Nat.zero_le _, Nat.zero_le _⟩ (ci := 4) rfl 0 rfl [0] [1, 2, 3, 4] [4, 0, 1, 2, 3] rfl rfl (ws2 := (wX4_readPoint cI cJ cZ h_o h_a1 h_o_im h_o_re h_o_way h_o_way_shifts o_fault_41 o_faultPlace_42 o_toldWords o_toldRe o_toldIm o_length o_place o_kind o_start o_number a1 o_im o_re o_way_size o_way_log o_way_wordBits o_way_limit o_way_radix o_way_order o_way_near o_way_seed o_way_stages)) rfl (fun H locs hP hD hS => ?_)
      refine W.eq (g2 := F0 m 86 ls [.int r_40]) rfl ?_
      obtain ⟨g_44, hf⟩ := gd_x hf
      cases hf
      exact hret _ _ _ _ dX4_readPoint_86 (bl_n g_44) hP hD hS
  have j11 : ∀ (o_fault : Int32) (o_faultPlace : Int32) (o_toldRe : Int32) (o_toldIm : Int32) (o_place : Int32) (o_kind : Int32) (o_start : Int32) (o_number : Int32) (o_im : Nat → Int32) (o_re : Nat → Int32) (v2 : Int32) (s0 : Int32) (H : Heap) (locs : List Loc) (ls : Array Slot), fX4_readPoint_11 o_length a1 o_way_size o_way_limit o_fault o_faultPlace o_toldRe o_toldIm o_place o_kind o_start o_number o_im o_re v2 s0 = some (r, out_o_fault, out_o_faultPlace, out_o_toldRe, out_o_toldIm, out_o_place, out_o_kind, out_o_start, out_o_number, out_o_im, out_o_re) → va_P G vwCl (wX4_readPoint cI cJ cZ h_o h_a1 h_o_im h_o_re h_o_way h_o_way_shifts o_fault o_faultPlace o_toldWords o_toldRe o_toldIm o_length o_place o_kind o_start o_number a1 o_im o_re o_way_size o_way_log o_way_wordBits o_way_limit o_way_radix o_way_order o_way_near o_way_seed o_way_stages) H → va_D A (wX4_readPoint cI cJ cZ h_o h_a1 h_o_im h_o_re h_o_way h_o_way_shifts o_fault o_faultPlace o_toldWords o_toldRe o_toldIm o_length o_place o_kind o_start o_number a1 o_im o_re o_way_size o_way_log o_way_wordBits o_way_limit o_way_radix o_way_order o_way_near o_way_seed o_way_stages) → va_S A s.heap H locs → lv_has ls 5 [(0, .ref h_o), (1, .ref h_a1), (2, .int v2)] → W p l e ({ frames := 3, cells := 0, slots := 0, locals := 62 } : Room) s m ([.ref h_o, .ref h_a1, .int p2] : List Value).toArray below meth c H locs 0 0 Q (F0 m 11 ls [.int s0]) := by
    intro o_fault o_faultPlace o_toldRe o_toldIm o_place o_kind o_start o_number o_im o_re v2 s0 H locs ls hf hP hD hS hl
    unfold fX4_readPoint_11 at hf
    refine lv_istore_n (lv' := [(3, .int s0), (0, .ref h_o), (1, .ref h_a1), (2, .int v2)]) hx hb dX4_readPoint_11 rfl hl (by decide) rfl (fun ls hl => ?_)
    refine lv_aload_n hx hb dX4_readPoint_12 rfl (lv_at hl 1 rfl) ?_
    refine lv_aload_n hx hb dX4_readPoint_13 rfl (lv_at hl 2 rfl) ?_
    obtain ⟨o_place_2, o_kind_3, o_start_4, o_number_5, e_6, hf⟩ := bd4_x hf
    refine call_v [.ref h_a1] [] ⟨hx, hb, hml, hown, hts⟩ hK hP hD hS hA hl.1 (tX4_nextToken l G cI cJ cZ H.size h_o h_a1 h_o_way h_o_re h_o_im o_fault o_faultPlace o_toldWords o_toldRe o_toldIm o_length o_place o_kind o_start o_number a1 o_place_2 o_kind_3 o_start_4 o_number_5 e_6) (cwV 1 hts (gv q_mX4_36 q_i_yX4_nextToken q_s_yX4_nextToken q_n_RX4 q_k_yX4_nextToken) rfl rfl rfl (by decide +kernel) ⟨by decide, by decide⟩) rfl rfl (Nat.le_of_ble_eq_true rfl) dX4_readPoint_14 ⟨Nat.zero_le _, Nat.zero_le _⟩ (ci := 4) rfl 0 rfl [0, 1] [2, 3, 4] [3, 4, 0, 1, 2] rfl rfl (ws2 := (wX4_readPoint cI cJ cZ h_o h_a1 h_o_im h_o_re h_o_way h_o_way_shifts o_fault o_faultPlace o_toldWords o_toldRe o_toldIm o_length o_place_2 o_kind_3 o_start_4 o_number_5 a1 o_im o_re o_way_size o_way_log o_way_wordBits o_way_limit o_way_radix o_way_order o_way_near o_way_seed o_way_stages)) rfl (fun H locs hP hD hS => ?_)
    refine W.eq (g2 := F0 m 17 ls []) rfl ?_
    refine lv_aload_n hx hb dX4_readPoint_17 rfl (lv_at hl 1 rfl) ?_
    refine rd (ci := 4) (C := RX4) (T := TX4) (N := 13) hx hb hts inX4 hown hK hP 0 10 rfl rfl (by decide) (hts _ q_fX4_40) rfl dX4_readPoint_18 ?_
    refine lv_iconst (v := (2 : Int32)) hx hb dX4_readPoint_21 (by decide) ?_
    refine lv_icmp_eq (tgt := 31) hx hb dX4_readPoint_22 (by decide) (fun c_7 => ?_) (fun c_7 => ?_)
    · have hf := it_t c_7 hf
      refine lv_aload_n hx hb dX4_readPoint_31 rfl (lv_at hl 1 rfl) ?_
      refine rd (ci := 4) (C := RX4) (T := TX4) (N := 13) hx hb hts inX4 hown hK hP 0 12 rfl rfl (by decide) (hts _ q_fX4_89) rfl dX4_readPoint_32 ?_
      refine lv_aload_n hx hb dX4_readPoint_35 rfl (lv_at hl 1 rfl) ?_
      refine rd (ci := 4) (C := RX4) (T := TX4) (N := 13) hx hb hts inX4 hown hK hP 0 0 rfl rfl (by decide) (hts _ q_fX4_12) rfl dX4_readPoint_36 ?_
      refine rd (ci := 8) (C := RX8) (T := TX8) (N := 10) hx hb hts inX8 hown hK hP 4 0 rfl rfl (by decide) (hts _ q_fX4_111) rfl dX4_readPoint_39 ?_
      refine lv_icmp_lt (tgt := 51) hx hb dX4_readPoint_42 (by decide) (fun c_8 => ?_) (fun c_8 => ?_)
      · have hf := it_t c_8 hf
        refine lv_aload_n hx hb dX4_readPoint_51 rfl (lv_at hl 1 rfl) ?_
        refine rd (ci := 4) (C := RX4) (T := TX4) (N := 13) hx hb hts inX4 hown hK hP 0 12 rfl rfl (by decide) (hts _ q_fX4_89) rfl dX4_readPoint_52 ?_
        refine lv_istore (lv' := [(4, .int o_number_5), (3, .int s0), (0, .ref h_o), (1, .ref h_a1), (2, .int v2)]) hx hb dX4_readPoint_55 hl (by decide) rfl (fun ls hl => ?_)
        refine lv_iload_n hx hb dX4_readPoint_57 rfl (lv_at hl 1 rfl) ?_
        refine lv_if_eq (tgt := 68) hx hb dX4_readPoint_58 (by decide) (fun c_9 => ?_) (fun c_9 => ?_)
        · have hf := it_t c_9 hf
          refine lv_aload_n hx hb dX4_readPoint_68 rfl (lv_at hl 2 rfl) ?_
          refine rd (ci := 4) (C := RX4) (T := TX4) (N := 13) hx hb hts inX4 hown hK hP 0 6 rfl rfl (by decide) (hts _ q_fX4_53) rfl dX4_readPoint_69 ?_
          exact j72 o_fault o_faultPlace o_toldRe o_toldIm o_place_2 o_kind_3 o_start_4 o_number_5 o_im o_re v2 s0 o_number_5 o_toldRe H locs ls hf hP hD hS (lv_sub hl [2, 3, 4, 1, 0] rfl)
        · have hf := it_f c_9 hf
          refine lv_aload_n hx hb dX4_readPoint_61 rfl (lv_at hl 2 rfl) ?_
          refine rd (ci := 4) (C := RX4) (T := TX4) (N := 13) hx hb hts inX4 hown hK hP 0 7 rfl rfl (by decide) (hts _ q_fX4_56) rfl dX4_readPoint_62 ?_
          refine lv_goto (tgt := 72) hx hb dX4_readPoint_65 (by decide) ?_
          exact j72 o_fault o_faultPlace o_toldRe o_toldIm o_place_2 o_kind_3 o_start_4 o_number_5 o_im o_re v2 s0 o_number_5 o_toldIm H locs ls hf hP hD hS (lv_sub hl [2, 3, 4, 1, 0] rfl)
      · have hf := it_f c_8 hf
        refine lv_aload_n hx hb dX4_readPoint_45 rfl (lv_at hl 1 rfl) ?_
        refine lv_iconst (v := (2 : Int32)) hx hb dX4_readPoint_46 (by decide) ?_
        obtain ⟨r_10, o_fault_11, o_faultPlace_12, e_13, hf⟩ := bd3_x hf
        refine call_v [.int (2 : Int32)] [] ⟨hx, hb, hml, hown, hts⟩ hK hP hD hS hA hl.1 (tX4_failAtToken l G cI cJ cZ H.size h_o h_o_way h_o_re h_o_im o_fault o_faultPlace o_toldWords o_toldRe o_toldIm o_length o_place_2 o_kind_3 o_start_4 o_number_5 (2 : Int32) r_10 o_fault_11 o_faultPlace_12 e_13) (cwV 1 hts (gv q_mX4_72 q_i_yX4_failAtToken q_s_yX4_failAtToken q_n_RX4 q_k_yX4_failAtToken) rfl rfl rfl (by decide +kernel) ⟨by decide, by decide⟩) rfl rfl (Nat.le_of_ble_eq_true rfl) dX4_readPoint_47 ⟨Nat.zero_le _, Nat.zero_le _⟩ (ci := 4) rfl 0 rfl [0] [1, 2, 3, 4] [4, 0, 1, 2, 3] rfl rfl (ws2 := (wX4_readPoint cI cJ cZ h_o h_a1 h_o_im h_o_re h_o_way h_o_way_shifts o_fault_11 o_faultPlace_12 o_toldWords o_toldRe o_toldIm o_length o_place_2 o_kind_3 o_start_4 o_number_5 a1 o_im o_re o_way_size o_way_log o_way_wordBits o_way_limit o_way_radix o_way_order o_way_near o_way_seed o_way_stages)) rfl (fun H locs hP hD hS => ?_)
        refine W.eq (g2 := F0 m 50 ls [.int r_10]) rfl ?_
        obtain ⟨g_14, hf⟩ := gd_x hf
        cases hf
        exact hret _ _ _ _ dX4_readPoint_50 (bl_n g_14) hP hD hS
    · have hf := it_f c_7 hf
      refine lv_aload_n hx hb dX4_readPoint_25 rfl (lv_at hl 1 rfl) ?_
      refine lv_iconst (v := (1 : Int32)) hx hb dX4_readPoint_26 (by decide) ?_
      obtain ⟨r_15, o_fault_16, o_faultPlace_17, e_18, hf⟩ := bd3_x hf
      refine call_v [.int (1 : Int32)] [] ⟨hx, hb, hml, hown, hts⟩ hK hP hD hS hA hl.1 (tX4_failAtToken l G cI cJ cZ H.size h_o h_o_way h_o_re h_o_im o_fault o_faultPlace o_toldWords o_toldRe o_toldIm o_length o_place_2 o_kind_3 o_start_4 o_number_5 (1 : Int32) r_15 o_fault_16 o_faultPlace_17 e_18) (cwV 1 hts (gv q_mX4_72 q_i_yX4_failAtToken q_s_yX4_failAtToken q_n_RX4 q_k_yX4_failAtToken) rfl rfl rfl (by decide +kernel) ⟨by decide, by decide⟩) rfl rfl (Nat.le_of_ble_eq_true rfl) dX4_readPoint_27 ⟨Nat.zero_le _, Nat.zero_le _⟩ (ci := 4) rfl 0 rfl [0] [1, 2, 3, 4] [4, 0, 1, 2, 3] rfl rfl (ws2 := (wX4_readPoint cI cJ cZ h_o h_a1 h_o_im h_o_re h_o_way h_o_way_shifts o_fault_16 o_faultPlace_17 o_toldWords o_toldRe o_toldIm o_length o_place_2 o_kind_3 o_start_4 o_number_5 a1 o_im o_re o_way_size o_way_log o_way_wordBits o_way_limit o_way_radix o_way_order o_way_near o_way_seed o_way_stages)) rfl (fun H locs hP hD hS => ?_)
      refine W.eq (g2 := F0 m 30 ls [.int r_15]) rfl ?_
      obtain ⟨g_19, hf⟩ := gd_x hf
      cases hf
      exact hret _ _ _ _ dX4_readPoint_30 (bl_n g_19) hP hD hS
  unfold fX4_readPoint at hf
  obtain ⟨H, eH⟩ : ∃ H, H = s.heap := ⟨_, rfl⟩
  obtain ⟨locs, elocs⟩ : ∃ z : List Loc, z = [] := ⟨_, rfl⟩
  have hP : va_P G vwCl (wX4_readPoint cI cJ cZ h_o h_a1 h_o_im h_o_re h_o_way h_o_way_shifts o_fault o_faultPlace o_toldWords o_toldRe o_toldIm o_length o_place o_kind o_start o_number a1 o_im o_re o_way_size o_way_log o_way_wordBits o_way_limit o_way_radix o_way_order o_way_near o_way_seed o_way_stages) H := by rw [eH]; exact hP
  have hS : va_S A s.heap H locs := by rw [eH, elocs]; exact hS
  suffices hgo : W p l e ({ frames := 3, cells := 0, slots := 0, locals := 62 } : Room) s m ([.ref h_o, .ref h_a1, .int p2] : List Value).toArray below meth c H locs 0 0 Q (F0 m 0 ls []) by rw [eH, elocs] at hgo; exact hgo
  clear eH elocs
  refine lv_iload_n hx hb dX4_readPoint_0 rfl (lv_at hl 2 rfl) ?_
  refine lv_bipush (v := (8 : Int32)) hx hb dX4_readPoint_1 (by decide) ?_
  refine lv_icmp_lt (tgt := 10) hx hb dX4_readPoint_3 (by decide) (fun c_1 => ?_) (fun c_1 => ?_)
  · have hf := it_t c_1 hf
    refine lv_iconst (v := (0 : Int32)) hx hb dX4_readPoint_10 (by decide) ?_
    exact j11 o_fault o_faultPlace o_toldRe o_toldIm o_place o_kind o_start o_number o_im o_re p2 (0 : Int32) H locs ls hf hP hD hS (lv_sub hl [0, 1, 2] rfl)
  · have hf := it_f c_1 hf
    refine lv_iconst (v := (1 : Int32)) hx hb dX4_readPoint_6 (by decide) ?_
    refine lv_goto (tgt := 11) hx hb dX4_readPoint_7 (by decide) ?_
    exact j11 o_fault o_faultPlace o_toldRe o_toldIm o_place o_kind o_start o_number o_im o_re p2 (1 : Int32) H locs ls hf hP hD hS (lv_sub hl [0, 1, 2] rfl)
