def wX0_takeSpare (cI cJ cZ : ClassId) (h_o h_a1 h_a1_im h_a1_re h_o_spareIm h_o_spareRe h_o_turns h_o_wingRe h_o_wingIm h_a1_wasRe h_a1_wasIm h_a1_halved : Nat) (a1_exp : Int32) (a1_done : Int32) (a1_backward : Int32) (a1_im : Nat → Int32) (a1_re : Nat → Int32) (o_spareIm : Nat → Int32) (o_spareRe : Nat → Int32) : va_W := [(h_o, .inr (0, [.ref h_o_turns, .ref h_o_spareRe, .ref h_o_spareIm, .ref h_o_wingRe, .ref h_o_wingIm])), (h_a1, .inr (7, [.ref h_a1_re, .ref h_a1_im, .ref h_a1_wasRe, .ref h_a1_wasIm, .ref h_a1_halved, .int a1_exp, .int a1_done, .int a1_backward])), (h_a1_im, .inl (cI, 32, .inl a1_im)), (h_a1_re, .inl (cI, 32, .inl a1_re)), (h_o_spareIm, .inl (cI, 32, .inl o_spareIm)), (h_o_spareRe, .inl (cI, 32, .inl o_spareRe))]
def fX0_takeSpare (a1_im : Nat → Int32) (a1_re : Nat → Int32) (o_spareIm : Nat → Int32) (o_spareRe : Nat → Int32) (p2 : Int32) : Option ((Nat → Int32) × (Nat → Int32)) :=
  gd (cpok (0 : Int32) (0 : Int32) p2 32 32) (
  nm (va_cpy o_spareRe a1_re (Int32.toNatClampNeg (0 : Int32)) (Int32.toNatClampNeg (0 : Int32)) (Int32.toNatClampNeg p2)) (fun a1_re_2 =>
  gd (cpok (0 : Int32) (0 : Int32) p2 32 32) (
  nm (va_cpy o_spareIm a1_im (Int32.toNatClampNeg (0 : Int32)) (Int32.toNatClampNeg (0 : Int32)) (Int32.toNatClampNeg p2)) (fun a1_im_4 =>
  some (a1_im_4, a1_re_2)))))
set_option maxHeartbeats 4000000 in
set_option maxRecDepth 100000 in
theorem tX0_takeSpare (l : Launch) (G : va_G) (cI cJ cZ : ClassId) (sz : Nat) (h_o h_a1 h_a1_im h_a1_re h_o_spareIm h_o_spareRe h_o_turns h_o_wingRe h_o_wingIm h_a1_wasRe h_a1_wasIm h_a1_halved : Nat) (a1_exp : Int32) (a1_done : Int32) (a1_backward : Int32) (a1_im : Nat → Int32) (a1_re : Nat → Int32) (o_spareIm : Nat → Int32) (o_spareRe : Nat → Int32) (p2 : Int32) (out_a1_im : Nat → Int32) (out_a1_re : Nat → Int32) (hf : fX0_takeSpare a1_im a1_re o_spareIm o_spareRe p2 = some (out_a1_im, out_a1_re)) : Met l yX0_takeSpare (Cond.code yX0_takeSpare cX0_takeSpare 3 none :: BIG) ({ frames := 1, cells := 0, slots := 0, locals := 18 } : Room) (cP G (TY3 cI cJ cZ) [.ref h_o, .ref h_a1, .int p2] sz (wX0_takeSpare cI cJ cZ h_o h_a1 h_a1_im h_a1_re h_o_spareIm h_o_spareRe h_o_turns h_o_wingRe h_o_wingIm h_a1_wasRe h_a1_wasIm h_a1_halved a1_exp a1_done a1_backward a1_im a1_re o_spareIm o_spareRe)) (cQ G (TY3 cI cJ cZ) sz (wX0_takeSpare cI cJ cZ h_o h_a1 h_a1_im h_a1_re h_o_spareIm h_o_spareRe h_o_turns h_o_wingRe h_o_wingIm h_a1_wasRe h_a1_wasIm h_a1_halved a1_exp a1_done a1_backward a1_im a1_re o_spareIm o_spareRe) (wX0_takeSpare cI cJ cZ h_o h_a1 h_a1_im h_a1_re h_o_spareIm h_o_spareRe h_o_turns h_o_wingRe h_o_wingIm h_a1_wasRe h_a1_wasIm h_a1_halved a1_exp a1_done a1_backward out_a1_im out_a1_re o_spareIm o_spareRe) none) 0 0 (va_A (wX0_takeSpare cI cJ cZ h_o h_a1 h_a1_im h_a1_re h_o_spareIm h_o_spareRe h_o_turns h_o_wingRe h_o_wingIm h_a1_wasRe h_a1_wasIm h_a1_halved a1_exp a1_done a1_backward a1_im a1_re o_spareIm o_spareRe) sz) := by
  refine met_v (cc := cX0_takeSpare) (maxL := 3) (plainFor_of_name (by decide)) (Nat.le_of_ble_eq_true rfl) (fun p e s m below meth c A ls Q hx hb hml hts hown hK hP hD hS hA hl hret => ?_)
  have hown : s.vm.findClass RX0 = some m.cls := hown
  have hl : lv_has ls 3 [(0, .ref h_o), (1, .ref h_a1), (2, .int p2)] := hl
  unfold fX0_takeSpare at hf
  obtain ⟨H, eH⟩ : ∃ H, H = s.heap := ⟨_, rfl⟩
  obtain ⟨locs, elocs⟩ : ∃ z : List Loc, z = [] := ⟨_, rfl⟩
  have hP : va_P G vwCl (wX0_takeSpare cI cJ cZ h_o h_a1 h_a1_im h_a1_re h_o_spareIm h_o_spareRe h_o_turns h_o_wingRe h_o_wingIm h_a1_wasRe h_a1_wasIm h_a1_halved a1_exp a1_done a1_backward a1_im a1_re o_spareIm o_spareRe) H := by rw [eH]; exact hP
  have hS : va_S A s.heap H locs := by rw [eH, elocs]; exact hS
  suffices hgo : W p l e ({ frames := 1, cells := 0, slots := 0, locals := 18 } : Room) s m ([.ref h_o, .ref h_a1, .int p2] : List Value).toArray below meth c H locs 0 0 Q (F0 m 0 ls []) by rw [eH, elocs] at hgo; exact hgo
  clear eH elocs
  refine lv_aload_n hx hb dX0_takeSpare_0 rfl (lv_at hl 0 rfl) ?_
  refine rd (ci := 0) (C := RX0) (T := TX0) (N := 5) hx hb hts inX0 hown hK hP 0 1 rfl rfl (by decide) (hts _ q_fX0_9) rfl dX0_takeSpare_1 ?_
  refine lv_iconst (v := (0 : Int32)) hx hb dX0_takeSpare_4 (by decide) ?_
  refine lv_aload_n hx hb dX0_takeSpare_5 rfl (lv_at hl 1 rfl) ?_
  refine rd (ci := 7) (C := RX7) (T := TX7) (N := 8) hx hb hts inX7 hown hK hP 1 0 rfl rfl (by decide) (hts _ q_fX0_85) rfl dX0_takeSpare_6 ?_
  refine lv_iconst (v := (0 : Int32)) hx hb dX0_takeSpare_9 (by decide) ?_
  refine lv_iload_n hx hb dX0_takeSpare_10 rfl (lv_at hl 2 rfl) ?_
  obtain ⟨g_1, hf⟩ := gd_x hf
  obtain ⟨a1_re_2, ea1_re_2⟩ : ∃ y : Nat → Int32, y = va_cpy o_spareRe a1_re (Int32.toNatClampNeg (0 : Int32)) (Int32.toNatClampNeg (0 : Int32)) (Int32.toNatClampNeg p2) := ⟨_, rfl⟩
  have hf := nm_x ea1_re_2 hf
  refine cpy hx hb (hml.trans hl.1.symm) hown (hts _ q_mX0_95) (hts _ q_n_arraycopyName) (hts _ q_s_arraycopyName) (hts _ q_n_java_lang_System) hK hP hD hS 5 3 0 rfl rfl rfl g_1 (by decide) (Nat.le_of_ble_eq_true rfl) dX0_takeSpare_11 ea1_re_2 (ws2 := (wX0_takeSpare cI cJ cZ h_o h_a1 h_a1_im h_a1_re h_o_spareIm h_o_spareRe h_o_turns h_o_wingRe h_o_wingIm h_a1_wasRe h_a1_wasIm h_a1_halved a1_exp a1_done a1_backward a1_im a1_re_2 o_spareIm o_spareRe)) rfl (fun H locs hP hD hS => ?_)
  refine lv_aload_n hx hb dX0_takeSpare_14 rfl (lv_at hl 0 rfl) ?_
  refine rd (ci := 0) (C := RX0) (T := TX0) (N := 5) hx hb hts inX0 hown hK hP 0 2 rfl rfl (by decide) (hts _ q_fX0_15) rfl dX0_takeSpare_15 ?_
  refine lv_iconst (v := (0 : Int32)) hx hb dX0_takeSpare_18 (by decide) ?_
  refine lv_aload_n hx hb dX0_takeSpare_19 rfl (lv_at hl 1 rfl) ?_
  refine rd (ci := 7) (C := RX7) (T := TX7) (N := 8) hx hb hts inX7 hown hK hP 1 1 rfl rfl (by decide) (hts _ q_fX0_88) rfl dX0_takeSpare_20 ?_
  refine lv_iconst (v := (0 : Int32)) hx hb dX0_takeSpare_23 (by decide) ?_
  refine lv_iload_n hx hb dX0_takeSpare_24 rfl (lv_at hl 2 rfl) ?_
  obtain ⟨g_3, hf⟩ := gd_x hf
  obtain ⟨a1_im_4, ea1_im_4⟩ : ∃ y : Nat → Int32, y = va_cpy o_spareIm a1_im (Int32.toNatClampNeg (0 : Int32)) (Int32.toNatClampNeg (0 : Int32)) (Int32.toNatClampNeg p2) := ⟨_, rfl⟩
  have hf := nm_x ea1_im_4 hf
  refine cpy hx hb (hml.trans hl.1.symm) hown (hts _ q_mX0_95) (hts _ q_n_arraycopyName) (hts _ q_s_arraycopyName) (hts _ q_n_java_lang_System) hK hP hD hS 4 2 0 rfl rfl rfl g_3 (by decide) (Nat.le_of_ble_eq_true rfl) dX0_takeSpare_25 ea1_im_4 (ws2 := (wX0_takeSpare cI cJ cZ h_o h_a1 h_a1_im h_a1_re h_o_spareIm h_o_spareRe h_o_turns h_o_wingRe h_o_wingIm h_a1_wasRe h_a1_wasIm h_a1_halved a1_exp a1_done a1_backward a1_im_4 a1_re_2 o_spareIm o_spareRe)) rfl (fun H locs hP hD hS => ?_)
  cases hf
  exact hret _ _ _ _ dX0_takeSpare_28 hP hD hS
def wX0_reverseAll (cI cJ cZ : ClassId) (h_o h_a1 h_a2 h_a1_im h_a1_re h_a2_shifts h_o_spareIm h_o_spareRe h_o_turns h_o_wingRe h_o_wingIm h_a1_wasRe h_a1_wasIm h_a1_halved : Nat) (a1_exp : Int32) (a1_done : Int32) (a1_backward : Int32) (a2_size : Int32) (a2_log : Int32) (a2_wordBits : Int32) (a2_limit : Int32) (a2_radix : Int32) (a2_order : Int32) (a2_near : Int32) (a2_seed : Int32) (a2_stages : Int32) (a1_im : Nat → Int32) (a1_re : Nat → Int32) (a2_shifts : Nat → Int32) (o_spareIm : Nat → Int32) (o_spareRe : Nat → Int32) : va_W := [(h_o, .inr (0, [.ref h_o_turns, .ref h_o_spareRe, .ref h_o_spareIm, .ref h_o_wingRe, .ref h_o_wingIm])), (h_a1, .inr (7, [.ref h_a1_re, .ref h_a1_im, .ref h_a1_wasRe, .ref h_a1_wasIm, .ref h_a1_halved, .int a1_exp, .int a1_done, .int a1_backward])), (h_a2, .inr (8, [.int a2_size, .int a2_log, .int a2_wordBits, .int a2_limit, .int a2_radix, .int a2_order, .int a2_near, .int a2_seed, .int a2_stages, .ref h_a2_shifts])), (h_a1_im, .inl (cI, 32, .inl a1_im)), (h_a1_re, .inl (cI, 32, .inl a1_re)), (h_a2_shifts, .inl (cI, 5, .inl a2_shifts)), (h_o_spareIm, .inl (cI, 32, .inl o_spareIm)), (h_o_spareRe, .inl (cI, 32, .inl o_spareRe))]
def fX0_reverseAll_49 (a2_size : Int32) (a1_im : Nat → Int32) (a1_re : Nat → Int32) (o_spareIm : Nat → Int32) (o_spareRe : Nat → Int32) : Option ((Nat → Int32) × (Nat → Int32) × (Nat → Int32) × (Nat → Int32)) :=
  bd2 (fX0_takeSpare a1_im a1_re o_spareIm o_spareRe a2_size) (fun a1_im_11 a1_re_12 =>
  some (a1_im_11, a1_re_12, o_spareIm, o_spareRe))
def fX0_reverseAll_2 (a2_size : Int32) (a2_stages : Int32) (a2_shifts : Nat → Int32) : Nat → (Nat → Int32) → (Nat → Int32) → (Nat → Int32) → (Nat → Int32) → Int32 → Option ((Nat → Int32) × (Nat → Int32) × (Nat → Int32) × (Nat → Int32))
  | 0, _, _, _, _, _ => none
  | n + 1, a1_im, a1_re, o_spareIm, o_spareRe, v3 =>
    if a2_size ≤ v3 then (
      fX0_reverseAll_49 a2_size a1_im a1_re o_spareIm o_spareRe
    ) else (
      bd1 (fX8_reversedPlace a2_stages a2_shifts v3) (fun r_2 =>
      gd (inb v3 32) (
      gd (inb r_2 32) (
      nm (upd o_spareRe (Int32.toNatClampNeg r_2) (a1_re (Int32.toNatClampNeg v3))) (fun o_spareRe_6 =>
      gd (inb v3 32) (
      gd (inb r_2 32) (
      nm (upd o_spareIm (Int32.toNatClampNeg r_2) (a1_im (Int32.toNatClampNeg v3))) (fun o_spareIm_9 =>
      nm (v3 + (1 : Int32)) (fun v3_10 =>
      fX0_reverseAll_2 a2_size a2_stages a2_shifts n a1_im a1_re o_spareIm_9 o_spareRe_6 v3_10))))))))
    )
def fX0_reverseAll (a2_size : Int32) (a2_stages : Int32) (a1_im : Nat → Int32) (a1_re : Nat → Int32) (a2_shifts : Nat → Int32) (o_spareIm : Nat → Int32) (o_spareRe : Nat → Int32) : Option ((Nat → Int32) × (Nat → Int32) × (Nat → Int32) × (Nat → Int32)) :=
  fX0_reverseAll_2 a2_size a2_stages a2_shifts FU a1_im a1_re o_spareIm o_spareRe (0 : Int32)
set_option maxHeartbeats 4000000 in
set_option maxRecDepth 100000 in
theorem tX0_reverseAll (l : Launch) (G : va_G) (cI cJ cZ : ClassId) (sz : Nat) (h_o h_a1 h_a2 h_a1_im h_a1_re h_a2_shifts h_o_spareIm h_o_spareRe h_o_turns h_o_wingRe h_o_wingIm h_a1_wasRe h_a1_wasIm h_a1_halved : Nat) (a1_exp : Int32) (a1_done : Int32) (a1_backward : Int32) (a2_size : Int32) (a2_log : Int32) (a2_wordBits : Int32) (a2_limit : Int32) (a2_radix : Int32) (a2_order : Int32) (a2_near : Int32) (a2_seed : Int32) (a2_stages : Int32) (a1_im : Nat → Int32) (a1_re : Nat → Int32) (a2_shifts : Nat → Int32) (o_spareIm : Nat → Int32) (o_spareRe : Nat → Int32) (out_a1_im : Nat → Int32) (out_a1_re : Nat → Int32) (out_o_spareIm : Nat → Int32) (out_o_spareRe : Nat → Int32) (hf : fX0_reverseAll a2_size a2_stages a1_im a1_re a2_shifts o_spareIm o_spareRe = some (out_a1_im, out_a1_re, out_o_spareIm, out_o_spareRe)) : Met l yX0_reverseAll (Cond.code yX0_reverseAll cX0_reverseAll 5 none :: BIG) ({ frames := 2, cells := 0, slots := 0, locals := 40 } : Room) (cP G (TY3 cI cJ cZ) [.ref h_o, .ref h_a1, .ref h_a2] sz (wX0_reverseAll cI cJ cZ h_o h_a1 h_a2 h_a1_im h_a1_re h_a2_shifts h_o_spareIm h_o_spareRe h_o_turns h_o_wingRe h_o_wingIm h_a1_wasRe h_a1_wasIm h_a1_halved a1_exp a1_done a1_backward a2_size a2_log a2_wordBits a2_limit a2_radix a2_order a2_near a2_seed a2_stages a1_im a1_re a2_shifts o_spareIm o_spareRe)) (cQ G (TY3 cI cJ cZ) sz (wX0_reverseAll cI cJ cZ h_o h_a1 h_a2 h_a1_im h_a1_re h_a2_shifts h_o_spareIm h_o_spareRe h_o_turns h_o_wingRe h_o_wingIm h_a1_wasRe h_a1_wasIm h_a1_halved a1_exp a1_done a1_backward a2_size a2_log a2_wordBits a2_limit a2_radix a2_order a2_near a2_seed a2_stages a1_im a1_re a2_shifts o_spareIm o_spareRe) (wX0_reverseAll cI cJ cZ h_o h_a1 h_a2 h_a1_im h_a1_re h_a2_shifts h_o_spareIm h_o_spareRe h_o_turns h_o_wingRe h_o_wingIm h_a1_wasRe h_a1_wasIm h_a1_halved a1_exp a1_done a1_backward a2_size a2_log a2_wordBits a2_limit a2_radix a2_order a2_near a2_seed a2_stages out_a1_im out_a1_re a2_shifts out_o_spareIm out_o_spareRe) none) 0 0 (va_A (wX0_reverseAll cI cJ cZ h_o h_a1 h_a2 h_a1_im h_a1_re h_a2_shifts h_o_spareIm h_o_spareRe h_o_turns h_o_wingRe h_o_wingIm h_a1_wasRe h_a1_wasIm h_a1_halved a1_exp a1_done a1_backward a2_size a2_log a2_wordBits a2_limit a2_radix a2_order a2_near a2_seed a2_stages a1_im a1_re a2_shifts o_spareIm o_spareRe) sz) := by
  refine met_v (cc := cX0_reverseAll) (maxL := 5) (plainFor_of_name (by decide)) (Nat.le_of_ble_eq_true rfl) (fun p e s m below meth c A ls Q hx hb hml hts hown hK hP hD hS hA hl hret => ?_)
  have hown : s.vm.findClass RX0 = some m.cls := hown
  have hl : lv_has ls 5 [(0, .ref h_o), (1, .ref h_a1), (2, .ref h_a2)] := hl
  have j49 : ∀ (a1_im : Nat → Int32) (a1_re : Nat → Int32) (o_spareIm : Nat → Int32) (o_spareRe : Nat → Int32) (H : Heap) (locs : List Loc) (ls : Array Slot), fX0_reverseAll_49 a2_size a1_im a1_re o_spareIm o_spareRe = some (out_a1_im, out_a1_re, out_o_spareIm, out_o_spareRe) → va_P G vwCl (wX0_reverseAll cI cJ cZ h_o h_a1 h_a2 h_a1_im h_a1_re h_a2_shifts h_o_spareIm h_o_spareRe h_o_turns h_o_wingRe h_o_wingIm h_a1_wasRe h_a1_wasIm h_a1_halved a1_exp a1_done a1_backward a2_size a2_log a2_wordBits a2_limit a2_radix a2_order a2_near a2_seed a2_stages a1_im a1_re a2_shifts o_spareIm o_spareRe) H → va_D A (wX0_reverseAll cI cJ cZ h_o h_a1 h_a2 h_a1_im h_a1_re h_a2_shifts h_o_spareIm h_o_spareRe h_o_turns h_o_wingRe h_o_wingIm h_a1_wasRe h_a1_wasIm h_a1_halved a1_exp a1_done a1_backward a2_size a2_log a2_wordBits a2_limit a2_radix a2_order a2_near a2_seed a2_stages a1_im a1_re a2_shifts o_spareIm o_spareRe) → va_S A s.heap H locs → lv_has ls 5 [(0, .ref h_o), (1, .ref h_a1), (2, .ref h_a2)] → W p l e ({ frames := 2, cells := 0, slots := 0, locals := 40 } : Room) s m ([.ref h_o, .ref h_a1, .ref h_a2] : List Value).toArray below meth c H locs 0 0 Q (F0 m 49 ls []) := by
    intro a1_im a1_re o_spareIm o_spareRe H locs ls hf hP hD hS hl
    unfold fX0_reverseAll_49 at hf
    refine lv_aload_n hx hb dX0_reverseAll_49 rfl (lv_at hl 0 rfl) ?_
    refine lv_aload_n hx hb dX0_reverseAll_50 rfl (lv_at hl 1 rfl) ?_
    refine lv_aload_n hx hb dX0_reverseAll_51 rfl (lv_at hl 2 rfl) ?_
    refine rd (ci := 8) (C := RX8) (T := TX8) (N := 10) hx hb hts inX8 hown hK hP 2 0 rfl rfl (by decide) (hts _ q_fX0_72) rfl dX0_reverseAll_52 ?_
    obtain ⟨a1_im_11, a1_re_12, e_13, hf⟩ := bd2_x hf
    refine call_v [.ref h_a1, .int a2_size] [] ⟨hx, hb, hml, hown, hts⟩ hK hP hD hS hA hl.1 (tX0_takeSpare l G cI cJ cZ H.size h_o h_a1 h_a1_im h_a1_re h_o_spareIm h_o_spareRe h_o_turns h_o_wingRe h_o_wingIm h_a1_wasRe h_a1_wasIm h_a1_halved a1_exp a1_done a1_backward a1_im a1_re o_spareIm o_spareRe a2_size a1_im_11 a1_re_12 e_13) (cwV 2 hts (gv q_mX0_91 q_i_yX0_takeSpare q_s_yX0_takeSpare q_n_RX0 q_k_yX0_takeSpare) rfl rfl rfl (by decide +kernel) ⟨by decide, by decide⟩) rfl rfl (Nat.le_of_ble_eq_true rfl) dX0_reverseAll_55 ⟨Nat.zero_le _, Nat.zero_le _⟩ (ci := 0) rfl 0 rfl [0, 1, 3, 4, 6, 7] [2, 5] [2, 3, 0, 4, 5, 1, 6, 7] rfl rfl (ws2 := (wX0_reverseAll cI cJ cZ h_o h_a1 h_a2 h_a1_im h_a1_re h_a2_shifts h_o_spareIm h_o_spareRe h_o_turns h_o_wingRe h_o_wingIm h_a1_wasRe h_a1_wasIm h_a1_halved a1_exp a1_done a1_backward a2_size a2_log a2_wordBits a2_limit a2_radix a2_order a2_near a2_seed a2_stages a1_im_11 a1_re_12 a2_shifts o_spareIm o_spareRe)) rfl (fun H locs hP hD hS => ?_)
    refine W.eq (g2 := F0 m 58 ls []) rfl ?_
    cases hf
    exact hret _ _ _ _ dX0_reverseAll_58 hP hD hS
  have j2 : ∀ (n : Nat) (a1_im : Nat → Int32) (a1_re : Nat → Int32) (o_spareIm : Nat → Int32) (o_spareRe : Nat → Int32) (v3 : Int32) (H : Heap) (locs : List Loc) (ls : Array Slot), fX0_reverseAll_2 a2_size a2_stages a2_shifts n a1_im a1_re o_spareIm o_spareRe v3 = some (out_a1_im, out_a1_re, out_o_spareIm, out_o_spareRe) → va_P G vwCl (wX0_reverseAll cI cJ cZ h_o h_a1 h_a2 h_a1_im h_a1_re h_a2_shifts h_o_spareIm h_o_spareRe h_o_turns h_o_wingRe h_o_wingIm h_a1_wasRe h_a1_wasIm h_a1_halved a1_exp a1_done a1_backward a2_size a2_log a2_wordBits a2_limit a2_radix a2_order a2_near a2_seed a2_stages a1_im a1_re a2_shifts o_spareIm o_spareRe) H → va_D A (wX0_reverseAll cI cJ cZ h_o h_a1 h_a2 h_a1_im h_a1_re h_a2_shifts h_o_spareIm h_o_spareRe h_o_turns h_o_wingRe h_o_wingIm h_a1_wasRe h_a1_wasIm h_a1_halved a1_exp a1_done a1_backward a2_size a2_log a2_wordBits a2_limit a2_radix a2_order a2_near a2_seed a2_stages a1_im a1_re a2_shifts o_spareIm o_spareRe) → va_S A s.heap H locs → lv_has ls 5 [(0, .ref h_o), (1, .ref h_a1), (2, .ref h_a2), (3, .int v3)] → W p l e ({ frames := 2, cells := 0, slots := 0, locals := 40 } : Room) s m ([.ref h_o, .ref h_a1, .ref h_a2] : List Value).toArray below meth c H locs 0 0 Q (F0 m 2 ls []) := by
    intro n
    induction n with
    | zero =>
      intro a1_im a1_re o_spareIm o_spareRe v3 H locs ls hf
      have hf : (none : Option ((Nat → Int32) × (Nat → Int32) × (Nat → Int32) × (Nat → Int32))) = some (out_a1_im, out_a1_re, out_o_spareIm, out_o_spareRe) := hf
      cases hf
    | succ n ih =>
      intro a1_im a1_re o_spareIm o_spareRe v3 H locs ls hf hP hD hS hl
      rw [fX0_reverseAll_2.eq_2] at hf
      refine lv_iload_n hx hb dX0_reverseAll_2 rfl (lv_at hl 3 rfl) ?_
      refine lv_aload_n hx hb dX0_reverseAll_3 rfl (lv_at hl 2 rfl) ?_
      refine rd (ci := 8) (C := RX8) (T := TX8) (N := 10) hx hb hts inX8 hown hK hP 2 0 rfl rfl (by decide) (hts _ q_fX0_72) rfl dX0_reverseAll_4 ?_
      refine lv_icmp_ge (tgt := 49) hx hb dX0_reverseAll_7 (by decide) (fun c_1 => ?_) (fun c_1 => ?_)
      · have hf := it_t c_1 hf
        exact j49 a1_im a1_re o_spareIm o_spareRe H locs ls hf hP hD hS (lv_sub hl [0, 1, 2] rfl)
      · have hf := it_f c_1 hf
        refine lv_aload_n hx hb dX0_reverseAll_10 rfl (lv_at hl 2 rfl) ?_
        refine lv_iload_n hx hb dX0_reverseAll_11 rfl (lv_at hl 3 rfl) ?_
        obtain ⟨r_2, e_3, hf⟩ := bd1_x hf
        refine call_v [.int v3] [] ⟨hx, hb, hml, hown, hts⟩ hK hP hD hS hA hl.1 (tX8_reversedPlace l G cI cJ cZ H.size h_a2 h_a2_shifts a2_size a2_log a2_wordBits a2_limit a2_radix a2_order a2_near a2_seed a2_stages a2_shifts v3 r_2 e_3) (cwV 1 hts (gv q_mX0_82 q_i_yX8_reversedPlace q_s_yX8_reversedPlace q_n_RX8 q_k_yX8_reversedPlace) rfl rfl rfl (by decide +kernel) ⟨by decide, by decide⟩) rfl rfl (Nat.le_of_ble_eq_true rfl) dX0_reverseAll_12 ⟨Nat.zero_le _, Nat.zero_le _⟩ (ci := 8) rfl 0 rfl [2, 5] [0, 1, 3, 4, 6, 7] [0, 1, 6, 2, 3, 7, 4, 5] rfl rfl (ws2 := (wX0_reverseAll cI cJ cZ h_o h_a1 h_a2 h_a1_im h_a1_re h_a2_shifts h_o_spareIm h_o_spareRe h_o_turns h_o_wingRe h_o_wingIm h_a1_wasRe h_a1_wasIm h_a1_halved a1_exp a1_done a1_backward a2_size a2_log a2_wordBits a2_limit a2_radix a2_order a2_near a2_seed a2_stages a1_im a1_re a2_shifts o_spareIm o_spareRe)) rfl (fun H locs hP hD hS => ?_)
        refine W.eq (g2 := F0 m 15 ls [.int r_2]) rfl ?_
        refine lv_istore (lv' := [(4, .int r_2), (0, .ref h_o), (1, .ref h_a1), (2, .ref h_a2), (3, .int v3)]) hx hb dX0_reverseAll_15 hl (by decide) rfl (fun ls hl => ?_)
        refine lv_aload_n hx hb dX0_reverseAll_17 rfl (lv_at hl 1 rfl) ?_
        refine rd (ci := 0) (C := RX0) (T := TX0) (N := 5) hx hb hts inX0 hown hK hP 0 1 rfl rfl (by decide) (hts _ q_fX0_9) rfl dX0_reverseAll_18 ?_
        refine lv_iload hx hb dX0_reverseAll_21 (lv_at hl 0 rfl) ?_
        refine lv_aload_n hx hb dX0_reverseAll_23 rfl (lv_at hl 2 rfl) ?_
        refine rd (ci := 7) (C := RX7) (T := TX7) (N := 8) hx hb hts inX7 hown hK hP 1 0 rfl rfl (by decide) (hts _ q_fX0_85) rfl dX0_reverseAll_24 ?_
        refine lv_iload_n hx hb dX0_reverseAll_27 rfl (lv_at hl 4 rfl) ?_
        obtain ⟨g_4, hf⟩ := gd_x hf
        refine va_iald hx hb hK hP 4 0 rfl rfl (inb_x g_4) dX0_reverseAll_28 ?_
        obtain ⟨g_5, hf⟩ := gd_x hf
        obtain ⟨o_spareRe_6, eo_spareRe_6⟩ : ∃ y : Nat → Int32, y = upd o_spareRe (Int32.toNatClampNeg r_2) (a1_re (Int32.toNatClampNeg v3)) := ⟨_, rfl⟩
        have hf := nm_x eo_spareRe_6 hf
        refine ist hx hb hK hP hD hS 7 0 rfl rfl (inb_x g_5) dX0_reverseAll_29 eo_spareRe_6 (ws2 := (wX0_reverseAll cI cJ cZ h_o h_a1 h_a2 h_a1_im h_a1_re h_a2_shifts h_o_spareIm h_o_spareRe h_o_turns h_o_wingRe h_o_wingIm h_a1_wasRe h_a1_wasIm h_a1_halved a1_exp a1_done a1_backward a2_size a2_log a2_wordBits a2_limit a2_radix a2_order a2_near a2_seed a2_stages a1_im a1_re a2_shifts o_spareIm o_spareRe_6)) rfl (fun H locs hP hD hS => ?_)
        refine lv_aload_n hx hb dX0_reverseAll_30 rfl (lv_at hl 1 rfl) ?_
        refine rd (ci := 0) (C := RX0) (T := TX0) (N := 5) hx hb hts inX0 hown hK hP 0 2 rfl rfl (by decide) (hts _ q_fX0_15) rfl dX0_reverseAll_31 ?_
        refine lv_iload hx hb dX0_reverseAll_34 (lv_at hl 0 rfl) ?_
        refine lv_aload_n hx hb dX0_reverseAll_36 rfl (lv_at hl 2 rfl) ?_
        refine rd (ci := 7) (C := RX7) (T := TX7) (N := 8) hx hb hts inX7 hown hK hP 1 1 rfl rfl (by decide) (hts _ q_fX0_88) rfl dX0_reverseAll_37 ?_
        refine lv_iload_n hx hb dX0_reverseAll_40 rfl (lv_at hl 4 rfl) ?_
        obtain ⟨g_7, hf⟩ := gd_x hf
        refine va_iald hx hb hK hP 3 0 rfl rfl (inb_x g_7) dX0_reverseAll_41 ?_
        obtain ⟨g_8, hf⟩ := gd_x hf
        obtain ⟨o_spareIm_9, eo_spareIm_9⟩ : ∃ y : Nat → Int32, y = upd o_spareIm (Int32.toNatClampNeg r_2) (a1_im (Int32.toNatClampNeg v3)) := ⟨_, rfl⟩
        have hf := nm_x eo_spareIm_9 hf
        refine ist hx hb hK hP hD hS 6 0 rfl rfl (inb_x g_8) dX0_reverseAll_42 eo_spareIm_9 (ws2 := (wX0_reverseAll cI cJ cZ h_o h_a1 h_a2 h_a1_im h_a1_re h_a2_shifts h_o_spareIm h_o_spareRe h_o_turns h_o_wingRe h_o_wingIm h_a1_wasRe h_a1_wasIm h_a1_halved a1_exp a1_done a1_backward a2_size a2_log a2_wordBits a2_limit a2_radix a2_order a2_near a2_seed a2_stages a1_im a1_re a2_shifts o_spareIm_9 o_spareRe_6)) rfl (fun H locs hP hD hS => ?_)
        obtain ⟨v3_10, ev3_10⟩ : ∃ y : Int32, y = v3 + (1 : Int32) := ⟨_, rfl⟩
        have hf := nm_x ev3_10 hf
        refine lv_iinc (v := v3_10) (lv' := [(3, .int v3_10), (4, .int r_2), (0, .ref h_o), (1, .ref h_a1), (2, .ref h_a2)]) hx hb dX0_reverseAll_43 hl (k := 4) rfl (by rw [ev3_10]; rfl) (by decide) rfl (fun ls hl => ?_)
        refine lv_goto (tgt := 2) hx hb dX0_reverseAll_46 (by decide) ?_
        exact ih a1_im a1_re o_spareIm_9 o_spareRe_6 v3_10 H locs ls hf hP hD hS (lv_sub hl [2, 3, 4, 0] rfl)
  unfold fX0_reverseAll at hf
  obtain ⟨H, eH⟩ : ∃ H, H = s.heap := ⟨_, rfl⟩
  obtain ⟨locs, elocs⟩ : ∃ z : List Loc, z = [] := ⟨_, rfl⟩
  have hP : va_P G vwCl (wX0_reverseAll cI cJ cZ h_o h_a1 h_a2 h_a1_im h_a1_re h_a2_shifts h_o_spareIm h_o_spareRe h_o_turns h_o_wingRe h_o_wingIm h_a1_wasRe h_a1_wasIm h_a1_halved a1_exp a1_done a1_backward a2_size a2_log a2_wordBits a2_limit a2_radix a2_order a2_near a2_seed a2_stages a1_im a1_re a2_shifts o_spareIm o_spareRe) H := by rw [eH]; exact hP
  have hS : va_S A s.heap H locs := by rw [eH, elocs]; exact hS
  suffices hgo : W p l e ({ frames := 2, cells := 0, slots := 0, locals := 40 } : Room) s m ([.ref h_o, .ref h_a1, .ref h_a2] : List Value).toArray below meth c H locs 0 0 Q (F0 m 0 ls []) by rw [eH, elocs] at hgo; exact hgo
  clear eH elocs
  refine lv_iconst (v := (0 : Int32)) hx hb dX0_reverseAll_0 (by decide) ?_
  refine lv_istore_n (lv' := [(3, .int (0 : Int32)), (0, .ref h_o), (1, .ref h_a1), (2, .ref h_a2)]) hx hb dX0_reverseAll_1 rfl hl (by decide) rfl (fun ls hl => ?_)
  exact j2 FU a1_im a1_re o_spareIm o_spareRe (0 : Int32) H locs ls hf hP hD hS (lv_sub hl [1, 2, 3, 0] rfl)
def wX0_halveAsNeeded (cI cJ cZ : ClassId) (h_o h_a1 h_a2 h_a1_im h_a1_re h_o_turns h_o_spareRe h_o_spareIm h_o_wingRe h_o_wingIm h_a1_wasRe h_a1_wasIm h_a1_halved h_a2_shifts : Nat) (a1_exp : Int32) (a1_done : Int32) (a1_backward : Int32) (a2_size : Int32) (a2_log : Int32) (a2_wordBits : Int32) (a2_limit : Int32) (a2_radix : Int32) (a2_order : Int32) (a2_near : Int32) (a2_seed : Int32) (a2_stages : Int32) (a1_im : Nat → Int32) (a1_re : Nat → Int32) : va_W := [(h_o, .inr (0, [.ref h_o_turns, .ref h_o_spareRe, .ref h_o_spareIm, .ref h_o_wingRe, .ref h_o_wingIm])), (h_a1, .inr (7, [.ref h_a1_re, .ref h_a1_im, .ref h_a1_wasRe, .ref h_a1_wasIm, .ref h_a1_halved, .int a1_exp, .int a1_done, .int a1_backward])), (h_a2, .inr (8, [.int a2_size, .int a2_log, .int a2_wordBits, .int a2_limit, .int a2_radix, .int a2_order, .int a2_near, .int a2_seed, .int a2_stages, .ref h_a2_shifts])), (h_a1_im, .inl (cI, 32, .inl a1_im)), (h_a1_re, .inl (cI, 32, .inl a1_re))]
def fX0_halveAsNeeded_96 (a2_size : Int32) (a2_limit : Int32) (a2_near : Int32) (k3 : (Nat → Int32) → (Nat → Int32) → Int32 → Int32 → Option (Int32 × (Nat → Int32) × (Nat → Int32))) (a1_im : Nat → Int32) (a1_re : Nat → Int32) (v3 : Int32) (v4 : Int32) : Option (Int32 × (Nat → Int32) × (Nat → Int32)) :=
  nm (v4 + (1 : Int32)) (fun v4_13 =>
  k3 a1_im a1_re v3 v4_13)
def fX0_halveAsNeeded_39 (a2_size : Int32) (a2_limit : Int32) (a2_near : Int32) (k3 : (Nat → Int32) → (Nat → Int32) → Int32 → Int32 → Option (Int32 × (Nat → Int32) × (Nat → Int32))) : Nat → (Nat → Int32) → (Nat → Int32) → Int32 → Int32 → Int32 → Option (Int32 × (Nat → Int32) × (Nat → Int32))
  | 0, _, _, _, _, _ => none
  | n + 1, a1_im, a1_re, v3, v4, v5 =>
    if a2_size ≤ v5 then (
      fX0_halveAsNeeded_96 a2_size a2_limit a2_near k3 a1_im a1_re v3 v4
    ) else (
      gd (inb v5 32) (
      gd (inb v5 32) (
      nm (upd a1_re (Int32.toNatClampNeg v5) (((a1_re (Int32.toNatClampNeg v5)) + a2_near) >>> ((1 : Int32) &&& 31))) (fun a1_re_8 =>
      gd (inb v5 32) (
      gd (inb v5 32) (
      nm (upd a1_im (Int32.toNatClampNeg v5) (((a1_im (Int32.toNatClampNeg v5)) + a2_near) >>> ((1 : Int32) &&& 31))) (fun a1_im_11 =>
      nm (v5 + (1 : Int32)) (fun v5_12 =>
      fX0_halveAsNeeded_39 a2_size a2_limit a2_near k3 n a1_im_11 a1_re_8 v3 v4 v5_12)))))))
    )
def fX0_halveAsNeeded_3 (a2_size : Int32) (a2_limit : Int32) (a2_near : Int32) : Nat → (Nat → Int32) → (Nat → Int32) → Int32 → Int32 → Option (Int32 × (Nat → Int32) × (Nat → Int32))
  | 0, _, _, _, _ => none
  | n + 1, a1_im, a1_re, v3, v4 =>
    if (64 : Int32) ≤ v4 then (
      some (v4, a1_im, a1_re)
    ) else (
      bd1 (fX7_greatest a1_im a1_re (0 : Int32) a2_size) (fun r_2 =>
      if ((Int32.toInt64 r_2) * (Int32.toInt64 v3)) ≤ ((Int32.toInt64 a2_limit) * (2 : Int64)) then (
        some (v4, a1_im, a1_re)
      ) else (
        fX0_halveAsNeeded_39 a2_size a2_limit a2_near (fX0_halveAsNeeded_3 a2_size a2_limit a2_near n) FU a1_im a1_re v3 v4 (0 : Int32)
      ))
    )
def fX0_halveAsNeeded (a2_size : Int32) (a2_limit : Int32) (a2_near : Int32) (a1_im : Nat → Int32) (a1_re : Nat → Int32) (p3 : Int32) : Option (Int32 × (Nat → Int32) × (Nat → Int32)) :=
  fX0_halveAsNeeded_3 a2_size a2_limit a2_near FU a1_im a1_re p3 (0 : Int32)
set_option maxHeartbeats 4000000 in
set_option maxRecDepth 100000 in
theorem tX0_halveAsNeeded (l : Launch) (G : va_G) (cI cJ cZ : ClassId) (sz : Nat) (h_o h_a1 h_a2 h_a1_im h_a1_re h_o_turns h_o_spareRe h_o_spareIm h_o_wingRe h_o_wingIm h_a1_wasRe h_a1_wasIm h_a1_halved h_a2_shifts : Nat) (a1_exp : Int32) (a1_done : Int32) (a1_backward : Int32) (a2_size : Int32) (a2_log : Int32) (a2_wordBits : Int32) (a2_limit : Int32) (a2_radix : Int32) (a2_order : Int32) (a2_near : Int32) (a2_seed : Int32) (a2_stages : Int32) (a1_im : Nat → Int32) (a1_re : Nat → Int32) (p3 : Int32) (r : Int32) (out_a1_im : Nat → Int32) (out_a1_re : Nat → Int32) (hf : fX0_halveAsNeeded a2_size a2_limit a2_near a1_im a1_re p3 = some (r, out_a1_im, out_a1_re)) : Met l yX0_halveAsNeeded (Cond.code yX0_halveAsNeeded cX0_halveAsNeeded 6 (some .int) :: BIG) ({ frames := 2, cells := 0, slots := 0, locals := 39 } : Room) (cP G (TY3 cI cJ cZ) [.ref h_o, .ref h_a1, .ref h_a2, .int p3] sz (wX0_halveAsNeeded cI cJ cZ h_o h_a1 h_a2 h_a1_im h_a1_re h_o_turns h_o_spareRe h_o_spareIm h_o_wingRe h_o_wingIm h_a1_wasRe h_a1_wasIm h_a1_halved h_a2_shifts a1_exp a1_done a1_backward a2_size a2_log a2_wordBits a2_limit a2_radix a2_order a2_near a2_seed a2_stages a1_im a1_re)) (cQ G (TY3 cI cJ cZ) sz (wX0_halveAsNeeded cI cJ cZ h_o h_a1 h_a2 h_a1_im h_a1_re h_o_turns h_o_spareRe h_o_spareIm h_o_wingRe h_o_wingIm h_a1_wasRe h_a1_wasIm h_a1_halved h_a2_shifts a1_exp a1_done a1_backward a2_size a2_log a2_wordBits a2_limit a2_radix a2_order a2_near a2_seed a2_stages a1_im a1_re) (wX0_halveAsNeeded cI cJ cZ h_o h_a1 h_a2 h_a1_im h_a1_re h_o_turns h_o_spareRe h_o_spareIm h_o_wingRe h_o_wingIm h_a1_wasRe h_a1_wasIm h_a1_halved h_a2_shifts a1_exp a1_done a1_backward a2_size a2_log a2_wordBits a2_limit a2_radix a2_order a2_near a2_seed a2_stages out_a1_im out_a1_re) (some (.int r))) 0 0 (va_A (wX0_halveAsNeeded cI cJ cZ h_o h_a1 h_a2 h_a1_im h_a1_re h_o_turns h_o_spareRe h_o_spareIm h_o_wingRe h_o_wingIm h_a1_wasRe h_a1_wasIm h_a1_halved h_a2_shifts a1_exp a1_done a1_backward a2_size a2_log a2_wordBits a2_limit a2_radix a2_order a2_near a2_seed a2_stages a1_im a1_re) sz) := by
  refine met_i (cc := cX0_halveAsNeeded) (maxL := 6) (plainFor_of_name (by decide)) (Nat.le_of_ble_eq_true rfl) (fun p e s m below meth c A ls Q hx hb hml hts hown hK hP hD hS hA hl hret => ?_)
  have hown : s.vm.findClass RX0 = some m.cls := hown
  have hl : lv_has ls 6 [(0, .ref h_o), (1, .ref h_a1), (2, .ref h_a2), (3, .int p3)] := hl
  have j96 : ∀ (k3 : (Nat → Int32) → (Nat → Int32) → Int32 → Int32 → Option (Int32 × (Nat → Int32) × (Nat → Int32))), (∀ (a1_im : Nat → Int32) (a1_re : Nat → Int32) (v3 : Int32) (v4 : Int32) (H : Heap) (locs : List Loc) (ls : Array Slot), k3 a1_im a1_re v3 v4 = some (r, out_a1_im, out_a1_re) → va_P G vwCl (wX0_halveAsNeeded cI cJ cZ h_o h_a1 h_a2 h_a1_im h_a1_re h_o_turns h_o_spareRe h_o_spareIm h_o_wingRe h_o_wingIm h_a1_wasRe h_a1_wasIm h_a1_halved h_a2_shifts a1_exp a1_done a1_backward a2_size a2_log a2_wordBits a2_limit a2_radix a2_order a2_near a2_seed a2_stages a1_im a1_re) H → va_D A (wX0_halveAsNeeded cI cJ cZ h_o h_a1 h_a2 h_a1_im h_a1_re h_o_turns h_o_spareRe h_o_spareIm h_o_wingRe h_o_wingIm h_a1_wasRe h_a1_wasIm h_a1_halved h_a2_shifts a1_exp a1_done a1_backward a2_size a2_log a2_wordBits a2_limit a2_radix a2_order a2_near a2_seed a2_stages a1_im a1_re) → va_S A s.heap H locs → lv_has ls 6 [(1, .ref h_a1), (2, .ref h_a2), (3, .int v3), (4, .int v4)] → W p l e ({ frames := 2, cells := 0, slots := 0, locals := 39 } : Room) s m ([.ref h_o, .ref h_a1, .ref h_a2, .int p3] : List Value).toArray below meth c H locs 0 0 Q (F0 m 3 ls [])) → ∀ (a1_im : Nat → Int32) (a1_re : Nat → Int32) (v3 : Int32) (v4 : Int32) (H : Heap) (locs : List Loc) (ls : Array Slot), fX0_halveAsNeeded_96 a2_size a2_limit a2_near k3 a1_im a1_re v3 v4 = some (r, out_a1_im, out_a1_re) → va_P G vwCl (wX0_halveAsNeeded cI cJ cZ h_o h_a1 h_a2 h_a1_im h_a1_re h_o_turns h_o_spareRe h_o_spareIm h_o_wingRe h_o_wingIm h_a1_wasRe h_a1_wasIm h_a1_halved h_a2_shifts a1_exp a1_done a1_backward a2_size a2_log a2_wordBits a2_limit a2_radix a2_order a2_near a2_seed a2_stages a1_im a1_re) H → va_D A (wX0_halveAsNeeded cI cJ cZ h_o h_a1 h_a2 h_a1_im h_a1_re h_o_turns h_o_spareRe h_o_spareIm h_o_wingRe h_o_wingIm h_a1_wasRe h_a1_wasIm h_a1_halved h_a2_shifts a1_exp a1_done a1_backward a2_size a2_log a2_wordBits a2_limit a2_radix a2_order a2_near a2_seed a2_stages a1_im a1_re) → va_S A s.heap H locs → lv_has ls 6 [(1, .ref h_a1), (2, .ref h_a2), (3, .int v3), (4, .int v4)] → W p l e ({ frames := 2, cells := 0, slots := 0, locals := 39 } : Room) s m ([.ref h_o, .ref h_a1, .ref h_a2, .int p3] : List Value).toArray below meth c H locs 0 0 Q (F0 m 96 ls []) := by
    intro k3 hk3 a1_im a1_re v3 v4 H locs ls hf hP hD hS hl
    unfold fX0_halveAsNeeded_96 at hf
    obtain ⟨v4_13, ev4_13⟩ : ∃ y : Int32, y = v4 + (1 : Int32) := ⟨_, rfl⟩
    have hf := nm_x ev4_13 hf
    refine lv_iinc (v := v4_13) (lv' := [(4, .int v4_13), (1, .ref h_a1), (2, .ref h_a2), (3, .int v3)]) hx hb dX0_halveAsNeeded_96 hl (k := 3) rfl (by rw [ev4_13]; rfl) (by decide) rfl (fun ls hl => ?_)
    refine lv_goto (tgt := 3) hx hb dX0_halveAsNeeded_99 (by decide) ?_
    exact hk3 a1_im a1_re v3 v4_13 H locs ls hf hP hD hS (lv_sub hl [1, 2, 3, 0] rfl)
  have j39 : ∀ (k3 : (Nat → Int32) → (Nat → Int32) → Int32 → Int32 → Option (Int32 × (Nat → Int32) × (Nat → Int32))), (∀ (a1_im : Nat → Int32) (a1_re : Nat → Int32) (v3 : Int32) (v4 : Int32) (H : Heap) (locs : List Loc) (ls : Array Slot), k3 a1_im a1_re v3 v4 = some (r, out_a1_im, out_a1_re) → va_P G vwCl (wX0_halveAsNeeded cI cJ cZ h_o h_a1 h_a2 h_a1_im h_a1_re h_o_turns h_o_spareRe h_o_spareIm h_o_wingRe h_o_wingIm h_a1_wasRe h_a1_wasIm h_a1_halved h_a2_shifts a1_exp a1_done a1_backward a2_size a2_log a2_wordBits a2_limit a2_radix a2_order a2_near a2_seed a2_stages a1_im a1_re) H → va_D A (wX0_halveAsNeeded cI cJ cZ h_o h_a1 h_a2 h_a1_im h_a1_re h_o_turns h_o_spareRe h_o_spareIm h_o_wingRe h_o_wingIm h_a1_wasRe h_a1_wasIm h_a1_halved h_a2_shifts a1_exp a1_done a1_backward a2_size a2_log a2_wordBits a2_limit a2_radix a2_order a2_near a2_seed a2_stages a1_im a1_re) → va_S A s.heap H locs → lv_has ls 6 [(1, .ref h_a1), (2, .ref h_a2), (3, .int v3), (4, .int v4)] → W p l e ({ frames := 2, cells := 0, slots := 0, locals := 39 } : Room) s m ([.ref h_o, .ref h_a1, .ref h_a2, .int p3] : List Value).toArray below meth c H locs 0 0 Q (F0 m 3 ls [])) → ∀ (n : Nat) (a1_im : Nat → Int32) (a1_re : Nat → Int32) (v3 : Int32) (v4 : Int32) (v5 : Int32) (H : Heap) (locs : List Loc) (ls : Array Slot), fX0_halveAsNeeded_39 a2_size a2_limit a2_near k3 n a1_im a1_re v3 v4 v5 = some (r, out_a1_im, out_a1_re) → va_P G vwCl (wX0_halveAsNeeded cI cJ cZ h_o h_a1 h_a2 h_a1_im h_a1_re h_o_turns h_o_spareRe h_o_spareIm h_o_wingRe h_o_wingIm h_a1_wasRe h_a1_wasIm h_a1_halved h_a2_shifts a1_exp a1_done a1_backward a2_size a2_log a2_wordBits a2_limit a2_radix a2_order a2_near a2_seed a2_stages a1_im a1_re) H → va_D A (wX0_halveAsNeeded cI cJ cZ h_o h_a1 h_a2 h_a1_im h_a1_re h_o_turns h_o_spareRe h_o_spareIm h_o_wingRe h_o_wingIm h_a1_wasRe h_a1_wasIm h_a1_halved h_a2_shifts a1_exp a1_done a1_backward a2_size a2_log a2_wordBits a2_limit a2_radix a2_order a2_near a2_seed a2_stages a1_im a1_re) → va_S A s.heap H locs → lv_has ls 6 [(1, .ref h_a1), (2, .ref h_a2), (3, .int v3), (4, .int v4), (5, .int v5)] → W p l e ({ frames := 2, cells := 0, slots := 0, locals := 39 } : Room) s m ([.ref h_o, .ref h_a1, .ref h_a2, .int p3] : List Value).toArray below meth c H locs 0 0 Q (F0 m 39 ls []) := by
    intro k3 hk3 n
    induction n with
    | zero =>
      intro a1_im a1_re v3 v4 v5 H locs ls hf
      have hf : (none : Option (Int32 × (Nat → Int32) × (Nat → Int32))) = some (r, out_a1_im, out_a1_re) := hf
      cases hf
    | succ n ih =>
      intro a1_im a1_re v3 v4 v5 H locs ls hf hP hD hS hl
      rw [fX0_halveAsNeeded_39.eq_2] at hf
      refine lv_iload hx hb dX0_halveAsNeeded_39 (lv_at hl 4 rfl) ?_
      refine lv_aload_n hx hb dX0_halveAsNeeded_41 rfl (lv_at hl 1 rfl) ?_
      refine rd (ci := 8) (C := RX8) (T := TX8) (N := 10) hx hb hts inX8 hown hK hP 2 0 rfl rfl (by decide) (hts _ q_fX0_72) rfl dX0_halveAsNeeded_42 ?_
      refine lv_icmp_ge (tgt := 96) hx hb dX0_halveAsNeeded_45 (by decide) (fun c_5 => ?_) (fun c_5 => ?_)
      · have hf := it_t c_5 hf
        exact j96 k3 hk3 a1_im a1_re v3 v4 H locs ls hf hP hD hS (lv_sub hl [0, 1, 2, 3] rfl)
      · have hf := it_f c_5 hf
        refine lv_aload_n hx hb dX0_halveAsNeeded_48 rfl (lv_at hl 0 rfl) ?_
        refine rd (ci := 7) (C := RX7) (T := TX7) (N := 8) hx hb hts inX7 hown hK hP 1 0 rfl rfl (by decide) (hts _ q_fX0_85) rfl dX0_halveAsNeeded_49 ?_
        refine lv_iload hx hb dX0_halveAsNeeded_52 (lv_at hl 4 rfl) ?_
        refine lv_aload_n hx hb dX0_halveAsNeeded_54 rfl (lv_at hl 0 rfl) ?_
        refine rd (ci := 7) (C := RX7) (T := TX7) (N := 8) hx hb hts inX7 hown hK hP 1 0 rfl rfl (by decide) (hts _ q_fX0_85) rfl dX0_halveAsNeeded_55 ?_
        refine lv_iload hx hb dX0_halveAsNeeded_58 (lv_at hl 4 rfl) ?_
        obtain ⟨g_6, hf⟩ := gd_x hf
        refine va_iald hx hb hK hP 4 0 rfl rfl (inb_x g_6) dX0_halveAsNeeded_60 ?_
        refine lv_aload_n hx hb dX0_halveAsNeeded_61 rfl (lv_at hl 1 rfl) ?_
        refine rd (ci := 8) (C := RX8) (T := TX8) (N := 10) hx hb hts inX8 hown hK hP 2 6 rfl rfl (by decide) (hts _ q_fX0_110) rfl dX0_halveAsNeeded_62 ?_
        refine lv_iadd hx hb dX0_halveAsNeeded_65 ?_
        refine lv_iconst (v := (1 : Int32)) hx hb dX0_halveAsNeeded_66 (by decide) ?_
        refine lv_ishr hx hb dX0_halveAsNeeded_67 ?_
        obtain ⟨g_7, hf⟩ := gd_x hf
        obtain ⟨a1_re_8, ea1_re_8⟩ : ∃ y : Nat → Int32, y = upd a1_re (Int32.toNatClampNeg v5) (((a1_re (Int32.toNatClampNeg v5)) + a2_near) >>> ((1 : Int32) &&& 31)) := ⟨_, rfl⟩
        have hf := nm_x ea1_re_8 hf
        refine ist hx hb hK hP hD hS 4 0 rfl rfl (inb_x g_7) dX0_halveAsNeeded_68 ea1_re_8 (ws2 := (wX0_halveAsNeeded cI cJ cZ h_o h_a1 h_a2 h_a1_im h_a1_re h_o_turns h_o_spareRe h_o_spareIm h_o_wingRe h_o_wingIm h_a1_wasRe h_a1_wasIm h_a1_halved h_a2_shifts a1_exp a1_done a1_backward a2_size a2_log a2_wordBits a2_limit a2_radix a2_order a2_near a2_seed a2_stages a1_im a1_re_8)) rfl (fun H locs hP hD hS => ?_)
        refine lv_aload_n hx hb dX0_halveAsNeeded_69 rfl (lv_at hl 0 rfl) ?_
        refine rd (ci := 7) (C := RX7) (T := TX7) (N := 8) hx hb hts inX7 hown hK hP 1 1 rfl rfl (by decide) (hts _ q_fX0_88) rfl dX0_halveAsNeeded_70 ?_
        refine lv_iload hx hb dX0_halveAsNeeded_73 (lv_at hl 4 rfl) ?_
        refine lv_aload_n hx hb dX0_halveAsNeeded_75 rfl (lv_at hl 0 rfl) ?_
        refine rd (ci := 7) (C := RX7) (T := TX7) (N := 8) hx hb hts inX7 hown hK hP 1 1 rfl rfl (by decide) (hts _ q_fX0_88) rfl dX0_halveAsNeeded_76 ?_
        refine lv_iload hx hb dX0_halveAsNeeded_79 (lv_at hl 4 rfl) ?_
        obtain ⟨g_9, hf⟩ := gd_x hf
        refine va_iald hx hb hK hP 3 0 rfl rfl (inb_x g_9) dX0_halveAsNeeded_81 ?_
        refine lv_aload_n hx hb dX0_halveAsNeeded_82 rfl (lv_at hl 1 rfl) ?_
        refine rd (ci := 8) (C := RX8) (T := TX8) (N := 10) hx hb hts inX8 hown hK hP 2 6 rfl rfl (by decide) (hts _ q_fX0_110) rfl dX0_halveAsNeeded_83 ?_
        refine lv_iadd hx hb dX0_halveAsNeeded_86 ?_
        refine lv_iconst (v := (1 : Int32)) hx hb dX0_halveAsNeeded_87 (by decide) ?_
        refine lv_ishr hx hb dX0_halveAsNeeded_88 ?_
        obtain ⟨g_10, hf⟩ := gd_x hf
        obtain ⟨a1_im_11, ea1_im_11⟩ : ∃ y : Nat → Int32, y = upd a1_im (Int32.toNatClampNeg v5) (((a1_im (Int32.toNatClampNeg v5)) + a2_near) >>> ((1 : Int32) &&& 31)) := ⟨_, rfl⟩
        have hf := nm_x ea1_im_11 hf
        refine ist hx hb hK hP hD hS 3 0 rfl rfl (inb_x g_10) dX0_halveAsNeeded_89 ea1_im_11 (ws2 := (wX0_halveAsNeeded cI cJ cZ h_o h_a1 h_a2 h_a1_im h_a1_re h_o_turns h_o_spareRe h_o_spareIm h_o_wingRe h_o_wingIm h_a1_wasRe h_a1_wasIm h_a1_halved h_a2_shifts a1_exp a1_done a1_backward a2_size a2_log a2_wordBits a2_limit a2_radix a2_order a2_near a2_seed a2_stages a1_im_11 a1_re_8)) rfl (fun H locs hP hD hS => ?_)
        obtain ⟨v5_12, ev5_12⟩ : ∃ y : Int32, y = v5 + (1 : Int32) := ⟨_, rfl⟩
        have hf := nm_x ev5_12 hf
        refine lv_iinc (v := v5_12) (lv' := [(5, .int v5_12), (1, .ref h_a1), (2, .ref h_a2), (3, .int v3), (4, .int v4)]) hx hb dX0_halveAsNeeded_90 hl (k := 4) rfl (by rw [ev5_12]; rfl) (by decide) rfl (fun ls hl => ?_)
        refine lv_goto (tgt := 39) hx hb dX0_halveAsNeeded_93 (by decide) ?_
        exact ih a1_im_11 a1_re_8 v3 v4 v5_12 H locs ls hf hP hD hS (lv_sub hl [1, 2, 3, 4, 0] rfl)
  have j3 : ∀ (n : Nat) (a1_im : Nat → Int32) (a1_re : Nat → Int32) (v3 : Int32) (v4 : Int32) (H : Heap) (locs : List Loc) (ls : Array Slot), fX0_halveAsNeeded_3 a2_size a2_limit a2_near n a1_im a1_re v3 v4 = some (r, out_a1_im, out_a1_re) → va_P G vwCl (wX0_halveAsNeeded cI cJ cZ h_o h_a1 h_a2 h_a1_im h_a1_re h_o_turns h_o_spareRe h_o_spareIm h_o_wingRe h_o_wingIm h_a1_wasRe h_a1_wasIm h_a1_halved h_a2_shifts a1_exp a1_done a1_backward a2_size a2_log a2_wordBits a2_limit a2_radix a2_order a2_near a2_seed a2_stages a1_im a1_re) H → va_D A (wX0_halveAsNeeded cI cJ cZ h_o h_a1 h_a2 h_a1_im h_a1_re h_o_turns h_o_spareRe h_o_spareIm h_o_wingRe h_o_wingIm h_a1_wasRe h_a1_wasIm h_a1_halved h_a2_shifts a1_exp a1_done a1_backward a2_size a2_log a2_wordBits a2_limit a2_radix a2_order a2_near a2_seed a2_stages a1_im a1_re) → va_S A s.heap H locs → lv_has ls 6 [(1, .ref h_a1), (2, .ref h_a2), (3, .int v3), (4, .int v4)] → W p l e ({ frames := 2, cells := 0, slots := 0, locals := 39 } : Room) s m ([.ref h_o, .ref h_a1, .ref h_a2, .int p3] : List Value).toArray below meth c H locs 0 0 Q (F0 m 3 ls []) := by
    intro n
    induction n with
    | zero =>
      intro a1_im a1_re v3 v4 H locs ls hf
      have hf : (none : Option (Int32 × (Nat → Int32) × (Nat → Int32))) = some (r, out_a1_im, out_a1_re) := hf
      cases hf
    | succ n ih =>
      intro a1_im a1_re v3 v4 H locs ls hf hP hD hS hl
      rw [fX0_halveAsNeeded_3.eq_2] at hf
      refine lv_iload hx hb dX0_halveAsNeeded_3 (lv_at hl 3 rfl) ?_
      refine lv_bipush (v := (64 : Int32)) hx hb dX0_halveAsNeeded_5 (by decide) ?_
      refine lv_icmp_ge (tgt := 102) hx hb dX0_halveAsNeeded_7 (by decide) (fun c_1 => ?_) (fun c_1 => ?_)
      · have hf := it_t c_1 hf
        refine lv_iload hx hb dX0_halveAsNeeded_102 (lv_at hl 3 rfl) ?_
        cases hf
        exact hret _ _ _ _ dX0_halveAsNeeded_104 hP hD hS
      · have hf := it_f c_1 hf
        refine lv_aload_n hx hb dX0_halveAsNeeded_10 rfl (lv_at hl 0 rfl) ?_
        refine lv_iconst (v := (0 : Int32)) hx hb dX0_halveAsNeeded_11 (by decide) ?_
        refine lv_aload_n hx hb dX0_halveAsNeeded_12 rfl (lv_at hl 1 rfl) ?_
        refine rd (ci := 8) (C := RX8) (T := TX8) (N := 10) hx hb hts inX8 hown hK hP 2 0 rfl rfl (by decide) (hts _ q_fX0_72) rfl dX0_halveAsNeeded_13 ?_
        obtain ⟨r_2, e_3, hf⟩ := bd1_x hf
        refine call_v [.int (0 : Int32), .int a2_size] [] ⟨hx, hb, hml, hown, hts⟩ hK hP hD hS hA hl.1 (tX7_greatest l G cI cJ cZ H.size h_a1 h_a1_im h_a1_re h_a1_wasRe h_a1_wasIm h_a1_halved a1_exp a1_done a1_backward a1_im a1_re (0 : Int32) a2_size r_2 e_3) (cwV 2 hts (gv q_mX0_101 q_i_yX7_greatest q_s_yX7_greatest q_n_RX7 q_k_yX7_greatest) rfl rfl rfl (by decide +kernel) ⟨by decide, by decide⟩) rfl rfl (Nat.le_of_ble_eq_true rfl) dX0_halveAsNeeded_16 ⟨Nat.zero_le _, Nat.zero_le _⟩ (ci := 7) rfl 0 rfl [1, 3, 4] [0, 2] [0, 2, 1, 3, 4] rfl rfl (ws2 := (wX0_halveAsNeeded cI cJ cZ h_o h_a1 h_a2 h_a1_im h_a1_re h_o_turns h_o_spareRe h_o_spareIm h_o_wingRe h_o_wingIm h_a1_wasRe h_a1_wasIm h_a1_halved h_a2_shifts a1_exp a1_done a1_backward a2_size a2_log a2_wordBits a2_limit a2_radix a2_order a2_near a2_seed a2_stages a1_im a1_re)) rfl (fun H locs hP hD hS => ?_)
        refine W.eq (g2 := F0 m 19 ls [.int r_2]) rfl ?_
        refine lv_i2l hx hb dX0_halveAsNeeded_19 rfl ?_
        refine lv_iload_n hx hb dX0_halveAsNeeded_20 rfl (lv_at hl 2 rfl) ?_
        refine lv_i2l hx hb dX0_halveAsNeeded_21 rfl ?_
        refine lv_lmul hx hb dX0_halveAsNeeded_22 ?_
        refine lv_aload_n hx hb dX0_halveAsNeeded_23 rfl (lv_at hl 1 rfl) ?_
        refine rd (ci := 8) (C := RX8) (T := TX8) (N := 10) hx hb hts inX8 hown hK hP 2 3 rfl rfl (by decide) (hts _ q_fX0_105) rfl dX0_halveAsNeeded_24 ?_
        refine lv_i2l hx hb dX0_halveAsNeeded_27 rfl ?_
        refine lv_ldc2 (v := (2 : Int64)) hx hb hown (hts _ q_cX0_108) dX0_halveAsNeeded_28 ?_
        refine lv_lmul hx hb dX0_halveAsNeeded_31 ?_
        refine lc_le (tgt := 102) hx hb dX0_halveAsNeeded_32 dX0_halveAsNeeded_33 (by decide) (fun c_4 => ?_) (fun c_4 => ?_)
        · have hf := it_t c_4 hf
          refine lv_iload hx hb dX0_halveAsNeeded_102 (lv_at hl 3 rfl) ?_
          cases hf
          exact hret _ _ _ _ dX0_halveAsNeeded_104 hP hD hS
        · have hf := it_f c_4 hf
          refine lv_iconst (v := (0 : Int32)) hx hb dX0_halveAsNeeded_36 (by decide) ?_
          refine lv_istore (lv' := [(5, .int (0 : Int32)), (1, .ref h_a1), (2, .ref h_a2), (3, .int v3), (4, .int v4)]) hx hb dX0_halveAsNeeded_37 hl (by decide) rfl (fun ls hl => ?_)
          exact j39 (fX0_halveAsNeeded_3 a2_size a2_limit a2_near n) ih FU a1_im a1_re v3 v4 (0 : Int32) H locs ls hf hP hD hS (lv_sub hl [1, 2, 3, 4, 0] rfl)
  unfold fX0_halveAsNeeded at hf
  obtain ⟨H, eH⟩ : ∃ H, H = s.heap := ⟨_, rfl⟩
  obtain ⟨locs, elocs⟩ : ∃ z : List Loc, z = [] := ⟨_, rfl⟩
  have hP : va_P G vwCl (wX0_halveAsNeeded cI cJ cZ h_o h_a1 h_a2 h_a1_im h_a1_re h_o_turns h_o_spareRe h_o_spareIm h_o_wingRe h_o_wingIm h_a1_wasRe h_a1_wasIm h_a1_halved h_a2_shifts a1_exp a1_done a1_backward a2_size a2_log a2_wordBits a2_limit a2_radix a2_order a2_near a2_seed a2_stages a1_im a1_re) H := by rw [eH]; exact hP
  have hS : va_S A s.heap H locs := by rw [eH, elocs]; exact hS
  suffices hgo : W p l e ({ frames := 2, cells := 0, slots := 0, locals := 39 } : Room) s m ([.ref h_o, .ref h_a1, .ref h_a2, .int p3] : List Value).toArray below meth c H locs 0 0 Q (F0 m 0 ls []) by rw [eH, elocs] at hgo; exact hgo
  clear eH elocs
  refine lv_iconst (v := (0 : Int32)) hx hb dX0_halveAsNeeded_0 (by decide) ?_
  refine lv_istore (lv' := [(4, .int (0 : Int32)), (0, .ref h_o), (1, .ref h_a1), (2, .ref h_a2), (3, .int p3)]) hx hb dX0_halveAsNeeded_1 hl (by decide) rfl (fun ls hl => ?_)
  exact j3 FU a1_im a1_re p3 (0 : Int32) H locs ls hf hP hD hS (lv_sub hl [2, 3, 4, 0] rfl)
def wX0_turnWing (cI cJ cZ : ClassId) (h_o h_a1 h_o_turns h_o_wingIm h_o_wingRe h_o_turns_cos h_o_turns_sin h_o_spareRe h_o_spareIm h_a1_shifts : Nat) (a1_size : Int32) (a1_log : Int32) (a1_wordBits : Int32) (a1_limit : Int32) (a1_radix : Int32) (a1_order : Int32) (a1_near : Int32) (a1_seed : Int32) (a1_stages : Int32) (o_wingIm : Nat → Int32) (o_wingRe : Nat → Int32) (o_turns_cos : Nat → Int32) (o_turns_sin : Nat → Int32) : va_W := [(h_o, .inr (0, [.ref h_o_turns, .ref h_o_spareRe, .ref h_o_spareIm, .ref h_o_wingRe, .ref h_o_wingIm])), (h_a1, .inr (8, [.int a1_size, .int a1_log, .int a1_wordBits, .int a1_limit, .int a1_radix, .int a1_order, .int a1_near, .int a1_seed, .int a1_stages, .ref h_a1_shifts])), (h_o_turns, .inr (6, [.ref h_o_turns_cos, .ref h_o_turns_sin])), (h_o_wingIm, .inl (cI, 4, .inl o_wingIm)), (h_o_wingRe, .inl (cI, 4, .inl o_wingRe)), (h_o_turns_cos, .inl (cI, 32, .inl o_turns_cos)), (h_o_turns_sin, .inl (cI, 32, .inl o_turns_sin))]
def fX0_turnWing_10 (o_turns_cos : Nat → Int32) (o_turns_sin : Nat → Int32) : Nat → (Nat → Int32) → (Nat → Int32) → Int32 → Int32 → Int64 → Int32 → Option ((Nat → Int32) × (Nat → Int32))
  | 0, _, _, _, _, _, _ => none
  | n + 1, o_wingIm, o_wingRe, v2, v3, v4, v6 =>
    if v2 ≤ v6 then (
      some (o_wingIm, o_wingRe)
    ) else (
      nm (v6 * v3) (fun i_5 =>
      gd (inb i_5 32) (
      nm (Int32.toInt64 (o_turns_cos (Int32.toNatClampNeg i_5))) (fun v7_7 =>
      nm (v6 * v3) (fun i_8 =>
      gd (inb i_8 32) (
      nm (Int32.toInt64 (o_turns_sin (Int32.toNatClampNeg i_8))) (fun v9_10 =>
      gd (inb v6 4) (
      nm (Int32.toInt64 (o_wingRe (Int32.toNatClampNeg v6))) (fun v11_12 =>
      gd (inb v6 4) (
      nm (Int32.toInt64 (o_wingIm (Int32.toNatClampNeg v6))) (fun v13_14 =>
      gd (inb v6 4) (
      nm (upd o_wingRe (Int32.toNatClampNeg v6) (Int64.toInt32 ((((v11_12 * v7_7) + (v13_14 * v9_10)) + v4) >>> (Int32.toInt64 (14 : Int32) &&& 63)))) (fun o_wingRe_16 =>
      gd (inb v6 4) (
      nm (upd o_wingIm (Int32.toNatClampNeg v6) (Int64.toInt32 ((((v13_14 * v7_7) - (v11_12 * v9_10)) + v4) >>> (Int32.toInt64 (14 : Int32) &&& 63)))) (fun o_wingIm_18 =>
      nm (v6 + (1 : Int32)) (fun v6_19 =>
      fX0_turnWing_10 o_turns_cos o_turns_sin n o_wingIm_18 o_wingRe_16 v2 v3 v4 v6_19)))))))))))))))
    )
def fX0_turnWing (a1_near : Int32) (o_wingIm : Nat → Int32) (o_wingRe : Nat → Int32) (o_turns_cos : Nat → Int32) (o_turns_sin : Nat → Int32) (p2 : Int32) (p3 : Int32) : Option ((Nat → Int32) × (Nat → Int32)) :=
  bd1 (fX8_addedBeforeCut a1_near) (fun r_1 =>
  nm (Int32.toInt64 r_1) (fun v4_3 =>
  fX0_turnWing_10 o_turns_cos o_turns_sin FU o_wingIm o_wingRe p2 p3 v4_3 (1 : Int32)))
set_option maxHeartbeats 4000000 in
set_option maxRecDepth 100000 in
theorem tX0_turnWing (l : Launch) (G : va_G) (cI cJ cZ : ClassId) (sz : Nat) (h_o h_a1 h_o_turns h_o_wingIm h_o_wingRe h_o_turns_cos h_o_turns_sin h_o_spareRe h_o_spareIm h_a1_shifts : Nat) (a1_size : Int32) (a1_log : Int32) (a1_wordBits : Int32) (a1_limit : Int32) (a1_radix : Int32) (a1_order : Int32) (a1_near : Int32) (a1_seed : Int32) (a1_stages : Int32) (o_wingIm : Nat → Int32) (o_wingRe : Nat → Int32) (o_turns_cos : Nat → Int32) (o_turns_sin : Nat → Int32) (p2 : Int32) (p3 : Int32) (out_o_wingIm : Nat → Int32) (out_o_wingRe : Nat → Int32) (hf : fX0_turnWing a1_near o_wingIm o_wingRe o_turns_cos o_turns_sin p2 p3 = some (out_o_wingIm, out_o_wingRe)) : Met l yX0_turnWing (Cond.code yX0_turnWing cX0_turnWing 15 none :: BIG) ({ frames := 1, cells := 0, slots := 0, locals := 20 } : Room) (cP G (TY3 cI cJ cZ) [.ref h_o, .ref h_a1, .int p2, .int p3] sz (wX0_turnWing cI cJ cZ h_o h_a1 h_o_turns h_o_wingIm h_o_wingRe h_o_turns_cos h_o_turns_sin h_o_spareRe h_o_spareIm h_a1_shifts a1_size a1_log a1_wordBits a1_limit a1_radix a1_order a1_near a1_seed a1_stages o_wingIm o_wingRe o_turns_cos o_turns_sin)) (cQ G (TY3 cI cJ cZ) sz (wX0_turnWing cI cJ cZ h_o h_a1 h_o_turns h_o_wingIm h_o_wingRe h_o_turns_cos h_o_turns_sin h_o_spareRe h_o_spareIm h_a1_shifts a1_size a1_log a1_wordBits a1_limit a1_radix a1_order a1_near a1_seed a1_stages o_wingIm o_wingRe o_turns_cos o_turns_sin) (wX0_turnWing cI cJ cZ h_o h_a1 h_o_turns h_o_wingIm h_o_wingRe h_o_turns_cos h_o_turns_sin h_o_spareRe h_o_spareIm h_a1_shifts a1_size a1_log a1_wordBits a1_limit a1_radix a1_order a1_near a1_seed a1_stages out_o_wingIm out_o_wingRe o_turns_cos o_turns_sin) none) 0 0 (va_A (wX0_turnWing cI cJ cZ h_o h_a1 h_o_turns h_o_wingIm h_o_wingRe h_o_turns_cos h_o_turns_sin h_o_spareRe h_o_spareIm h_a1_shifts a1_size a1_log a1_wordBits a1_limit a1_radix a1_order a1_near a1_seed a1_stages o_wingIm o_wingRe o_turns_cos o_turns_sin) sz) := by
  refine met_v (cc := cX0_turnWing) (maxL := 15) (plainFor_of_name (by decide)) (Nat.le_of_ble_eq_true rfl) (fun p e s m below meth c A ls Q hx hb hml hts hown hK hP hD hS hA hl hret => ?_)
  have hown : s.vm.findClass RX0 = some m.cls := hown
  have hl : lv_has ls 15 [(0, .ref h_o), (1, .ref h_a1), (2, .int p2), (3, .int p3)] := hl
  have j10 : ∀ (n : Nat) (o_wingIm : Nat → Int32) (o_wingRe : Nat → Int32) (v2 : Int32) (v3 : Int32) (v4 : Int64) (v6 : Int32) (H : Heap) (locs : List Loc) (ls : Array Slot), fX0_turnWing_10 o_turns_cos o_turns_sin n o_wingIm o_wingRe v2 v3 v4 v6 = some (out_o_wingIm, out_o_wingRe) → va_P G vwCl (wX0_turnWing cI cJ cZ h_o h_a1 h_o_turns h_o_wingIm h_o_wingRe h_o_turns_cos h_o_turns_sin h_o_spareRe h_o_spareIm h_a1_shifts a1_size a1_log a1_wordBits a1_limit a1_radix a1_order a1_near a1_seed a1_stages o_wingIm o_wingRe o_turns_cos o_turns_sin) H → va_D A (wX0_turnWing cI cJ cZ h_o h_a1 h_o_turns h_o_wingIm h_o_wingRe h_o_turns_cos h_o_turns_sin h_o_spareRe h_o_spareIm h_a1_shifts a1_size a1_log a1_wordBits a1_limit a1_radix a1_order a1_near a1_seed a1_stages o_wingIm o_wingRe o_turns_cos o_turns_sin) → va_S A s.heap H locs → lv_has ls 15 [(0, .ref h_o), (2, .int v2), (3, .int v3), (4, .long v4), (6, .int v6)] → W p l e ({ frames := 1, cells := 0, slots := 0, locals := 20 } : Room) s m ([.ref h_o, .ref h_a1, .int p2, .int p3] : List Value).toArray below meth c H locs 0 0 Q (F0 m 10 ls []) := by
    intro n
    induction n with
    | zero =>
      intro o_wingIm o_wingRe v2 v3 v4 v6 H locs ls hf
      have hf : (none : Option ((Nat → Int32) × (Nat → Int32))) = some (out_o_wingIm, out_o_wingRe) := hf
      cases hf
    | succ n ih =>
      intro o_wingIm o_wingRe v2 v3 v4 v6 H locs ls hf hP hD hS hl
      rw [fX0_turnWing_10.eq_2] at hf
      refine lv_iload hx hb dX0_turnWing_10 (lv_at hl 4 rfl) ?_
      refine lv_iload_n hx hb dX0_turnWing_12 rfl (lv_at hl 1 rfl) ?_
      refine lv_icmp_ge (tgt := 122) hx hb dX0_turnWing_13 (by decide) (fun c_4 => ?_) (fun c_4 => ?_)
      · have hf := it_t c_4 hf
        cases hf
        exact hret _ _ _ _ dX0_turnWing_122 hP hD hS
      · have hf := it_f c_4 hf
        refine lv_aload_n hx hb dX0_turnWing_16 rfl (lv_at hl 0 rfl) ?_
        refine rd (ci := 0) (C := RX0) (T := TX0) (N := 5) hx hb hts inX0 hown hK hP 0 0 rfl rfl (by decide) (hts _ q_fX0_24) rfl dX0_turnWing_17 ?_
        refine rd (ci := 6) (C := RX6) (T := TX6) (N := 2) hx hb hts inX6 hown hK hP 2 0 rfl rfl (by decide) (hts _ q_fX0_134) rfl dX0_turnWing_20 ?_
        refine lv_iload hx hb dX0_turnWing_23 (lv_at hl 4 rfl) ?_
        refine lv_iload_n hx hb dX0_turnWing_25 rfl (lv_at hl 2 rfl) ?_
        refine lv_imul hx hb dX0_turnWing_26 ?_
        refine lv_topi (fun i_5 ei_5 => ?_)
        have hf := nm_x ei_5 hf
        obtain ⟨g_6, hf⟩ := gd_x hf
        refine va_iald hx hb hK hP 5 0 rfl rfl (inb_x g_6) dX0_turnWing_27 ?_
        refine lv_i2l hx hb dX0_turnWing_28 rfl ?_
        refine lv_topl (fun v7_7 ev7_7 => ?_)
        have hf := nm_x ev7_7 hf
        refine lv_lstore (lv' := [(7, .long v7_7), (0, .ref h_o), (2, .int v2), (3, .int v3), (4, .long v4), (6, .int v6)]) hx hb dX0_turnWing_29 hl (by decide) rfl (fun ls hl => ?_)
        refine lv_aload_n hx hb dX0_turnWing_31 rfl (lv_at hl 1 rfl) ?_
        refine rd (ci := 0) (C := RX0) (T := TX0) (N := 5) hx hb hts inX0 hown hK hP 0 0 rfl rfl (by decide) (hts _ q_fX0_24) rfl dX0_turnWing_32 ?_
        refine rd (ci := 6) (C := RX6) (T := TX6) (N := 2) hx hb hts inX6 hown hK hP 2 1 rfl rfl (by decide) (hts _ q_fX0_139) rfl dX0_turnWing_35 ?_
        refine lv_iload hx hb dX0_turnWing_38 (lv_at hl 5 rfl) ?_
        refine lv_iload_n hx hb dX0_turnWing_40 rfl (lv_at hl 3 rfl) ?_
        refine lv_imul hx hb dX0_turnWing_41 ?_
        refine lv_topi (fun i_8 ei_8 => ?_)
        have hf := nm_x ei_8 hf
        obtain ⟨g_9, hf⟩ := gd_x hf
        refine va_iald hx hb hK hP 6 0 rfl rfl (inb_x g_9) dX0_turnWing_42 ?_
        refine lv_i2l hx hb dX0_turnWing_43 rfl ?_
        refine lv_topl (fun v9_10 ev9_10 => ?_)
        have hf := nm_x ev9_10 hf
        refine lv_lstore (lv' := [(9, .long v9_10), (7, .long v7_7), (0, .ref h_o), (2, .int v2), (3, .int v3), (4, .long v4), (6, .int v6)]) hx hb dX0_turnWing_44 hl (by decide) rfl (fun ls hl => ?_)
        refine lv_aload_n hx hb dX0_turnWing_46 rfl (lv_at hl 2 rfl) ?_
        refine rd (ci := 0) (C := RX0) (T := TX0) (N := 5) hx hb hts inX0 hown hK hP 0 3 rfl rfl (by decide) (hts _ q_fX0_18) rfl dX0_turnWing_47 ?_
        refine lv_iload hx hb dX0_turnWing_50 (lv_at hl 6 rfl) ?_
        obtain ⟨g_11, hf⟩ := gd_x hf
        refine va_iald hx hb hK hP 4 0 rfl rfl (inb_x g_11) dX0_turnWing_52 ?_
        refine lv_i2l hx hb dX0_turnWing_53 rfl ?_
        refine lv_topl (fun v11_12 ev11_12 => ?_)
        have hf := nm_x ev11_12 hf
        refine lv_lstore (lv' := [(11, .long v11_12), (9, .long v9_10), (7, .long v7_7), (0, .ref h_o), (2, .int v2), (3, .int v3), (4, .long v4), (6, .int v6)]) hx hb dX0_turnWing_54 hl (by decide) rfl (fun ls hl => ?_)
        refine lv_aload_n hx hb dX0_turnWing_56 rfl (lv_at hl 3 rfl) ?_
        refine rd (ci := 0) (C := RX0) (T := TX0) (N := 5) hx hb hts inX0 hown hK hP 0 4 rfl rfl (by decide) (hts _ q_fX0_21) rfl dX0_turnWing_57 ?_
        refine lv_iload hx hb dX0_turnWing_60 (lv_at hl 7 rfl) ?_
        obtain ⟨g_13, hf⟩ := gd_x hf
        refine va_iald hx hb hK hP 3 0 rfl rfl (inb_x g_13) dX0_turnWing_62 ?_
        refine lv_i2l hx hb dX0_turnWing_63 rfl ?_
        refine lv_topl (fun v13_14 ev13_14 => ?_)
        have hf := nm_x ev13_14 hf
        refine lv_lstore (lv' := [(13, .long v13_14), (11, .long v11_12), (9, .long v9_10), (7, .long v7_7), (0, .ref h_o), (2, .int v2), (3, .int v3), (4, .long v4), (6, .int v6)]) hx hb dX0_turnWing_64 hl (by decide) rfl (fun ls hl => ?_)
        refine lv_aload_n hx hb dX0_turnWing_66 rfl (lv_at hl 4 rfl) ?_
        refine rd (ci := 0) (C := RX0) (T := TX0) (N := 5) hx hb hts inX0 hown hK hP 0 3 rfl rfl (by decide) (hts _ q_fX0_18) rfl dX0_turnWing_67 ?_
        refine lv_iload hx hb dX0_turnWing_70 (lv_at hl 8 rfl) ?_
        refine lv_lload hx hb dX0_turnWing_72 (lv_at hl 1 rfl) ?_
        refine lv_lload hx hb dX0_turnWing_74 (lv_at hl 3 rfl) ?_
        refine lv_lmul hx hb dX0_turnWing_76 ?_
        refine lv_lload hx hb dX0_turnWing_77 (lv_at hl 0 rfl) ?_
        refine lv_lload hx hb dX0_turnWing_79 (lv_at hl 2 rfl) ?_
        refine lv_lmul hx hb dX0_turnWing_81 ?_
        refine lv_ladd hx hb dX0_turnWing_82 ?_
        refine lv_lload hx hb dX0_turnWing_83 (lv_at hl 7 rfl) ?_
        refine lv_ladd hx hb dX0_turnWing_85 ?_
        refine lv_bipush (v := (14 : Int32)) hx hb dX0_turnWing_86 (by decide) ?_
        refine lv_lshr hx hb dX0_turnWing_88 rfl ?_
        refine lv_l2i hx hb dX0_turnWing_89 rfl ?_
        obtain ⟨g_15, hf⟩ := gd_x hf
        obtain ⟨o_wingRe_16, eo_wingRe_16⟩ : ∃ y : Nat → Int32, y = upd o_wingRe (Int32.toNatClampNeg v6) (Int64.toInt32 ((((v11_12 * v7_7) + (v13_14 * v9_10)) + v4) >>> (Int32.toInt64 (14 : Int32) &&& 63))) := ⟨_, rfl⟩
        have hf := nm_x eo_wingRe_16 hf
        refine ist hx hb hK hP hD hS 4 0 rfl rfl (inb_x g_15) dX0_turnWing_90 eo_wingRe_16 (ws2 := (wX0_turnWing cI cJ cZ h_o h_a1 h_o_turns h_o_wingIm h_o_wingRe h_o_turns_cos h_o_turns_sin h_o_spareRe h_o_spareIm h_a1_shifts a1_size a1_log a1_wordBits a1_limit a1_radix a1_order a1_near a1_seed a1_stages o_wingIm o_wingRe_16 o_turns_cos o_turns_sin)) rfl (fun H locs hP hD hS => ?_)
        refine lv_aload_n hx hb dX0_turnWing_91 rfl (lv_at hl 4 rfl) ?_
        refine rd (ci := 0) (C := RX0) (T := TX0) (N := 5) hx hb hts inX0 hown hK hP 0 4 rfl rfl (by decide) (hts _ q_fX0_21) rfl dX0_turnWing_92 ?_
        refine lv_iload hx hb dX0_turnWing_95 (lv_at hl 8 rfl) ?_
        refine lv_lload hx hb dX0_turnWing_97 (lv_at hl 0 rfl) ?_
        refine lv_lload hx hb dX0_turnWing_99 (lv_at hl 3 rfl) ?_
        refine lv_lmul hx hb dX0_turnWing_101 ?_
        refine lv_lload hx hb dX0_turnWing_102 (lv_at hl 1 rfl) ?_
        refine lv_lload hx hb dX0_turnWing_104 (lv_at hl 2 rfl) ?_
        refine lv_lmul hx hb dX0_turnWing_106 ?_
        refine lv_lsub hx hb dX0_turnWing_107 ?_
        refine lv_lload hx hb dX0_turnWing_108 (lv_at hl 7 rfl) ?_
        refine lv_ladd hx hb dX0_turnWing_110 ?_
        refine lv_bipush (v := (14 : Int32)) hx hb dX0_turnWing_111 (by decide) ?_
        refine lv_lshr hx hb dX0_turnWing_113 rfl ?_
        refine lv_l2i hx hb dX0_turnWing_114 rfl ?_
        obtain ⟨g_17, hf⟩ := gd_x hf
        obtain ⟨o_wingIm_18, eo_wingIm_18⟩ : ∃ y : Nat → Int32, y = upd o_wingIm (Int32.toNatClampNeg v6) (Int64.toInt32 ((((v13_14 * v7_7) - (v11_12 * v9_10)) + v4) >>> (Int32.toInt64 (14 : Int32) &&& 63))) := ⟨_, rfl⟩
        have hf := nm_x eo_wingIm_18 hf
        refine ist hx hb hK hP hD hS 3 0 rfl rfl (inb_x g_17) dX0_turnWing_115 eo_wingIm_18 (ws2 := (wX0_turnWing cI cJ cZ h_o h_a1 h_o_turns h_o_wingIm h_o_wingRe h_o_turns_cos h_o_turns_sin h_o_spareRe h_o_spareIm h_a1_shifts a1_size a1_log a1_wordBits a1_limit a1_radix a1_order a1_near a1_seed a1_stages o_wingIm_18 o_wingRe_16 o_turns_cos o_turns_sin)) rfl (fun H locs hP hD hS => ?_)
        obtain ⟨v6_19, ev6_19⟩ : ∃ y : Int32, y = v6 + (1 : Int32) := ⟨_, rfl⟩
        have hf := nm_x ev6_19 hf
        refine lv_iinc (v := v6_19) (lv' := [(6, .int v6_19), (13, .long v13_14), (11, .long v11_12), (9, .long v9_10), (7, .long v7_7), (0, .ref h_o), (2, .int v2), (3, .int v3), (4, .long v4)]) hx hb dX0_turnWing_116 hl (k := 8) rfl (by rw [ev6_19]; rfl) (by decide) rfl (fun ls hl => ?_)
        refine lv_goto (tgt := 10) hx hb dX0_turnWing_119 (by decide) ?_
        exact ih o_wingIm_18 o_wingRe_16 v2 v3 v4 v6_19 H locs ls hf hP hD hS (lv_sub hl [5, 6, 7, 8, 0] rfl)
  unfold fX0_turnWing at hf
  obtain ⟨H, eH⟩ : ∃ H, H = s.heap := ⟨_, rfl⟩
  obtain ⟨locs, elocs⟩ : ∃ z : List Loc, z = [] := ⟨_, rfl⟩
  have hP : va_P G vwCl (wX0_turnWing cI cJ cZ h_o h_a1 h_o_turns h_o_wingIm h_o_wingRe h_o_turns_cos h_o_turns_sin h_o_spareRe h_o_spareIm h_a1_shifts a1_size a1_log a1_wordBits a1_limit a1_radix a1_order a1_near a1_seed a1_stages o_wingIm o_wingRe o_turns_cos o_turns_sin) H := by rw [eH]; exact hP
  have hS : va_S A s.heap H locs := by rw [eH, elocs]; exact hS
  suffices hgo : W p l e ({ frames := 1, cells := 0, slots := 0, locals := 20 } : Room) s m ([.ref h_o, .ref h_a1, .int p2, .int p3] : List Value).toArray below meth c H locs 0 0 Q (F0 m 0 ls []) by rw [eH, elocs] at hgo; exact hgo
  clear eH elocs
  refine lv_aload_n hx hb dX0_turnWing_0 rfl (lv_at hl 1 rfl) ?_
  obtain ⟨r_1, e_2, hf⟩ := bd1_x hf
  refine call_v [] [] ⟨hx, hb, hml, hown, hts⟩ hK hP hD hS hA hl.1 (tX8_addedBeforeCut l G cI cJ cZ H.size h_a1 h_a1_shifts a1_size a1_log a1_wordBits a1_limit a1_radix a1_order a1_near a1_seed a1_stages r_1 e_2) (cwV 0 hts (gv q_mX0_130 q_i_yX8_addedBeforeCut q_s_yX8_addedBeforeCut q_n_RX8 q_k_yX8_addedBeforeCut) rfl rfl rfl (by decide +kernel) ⟨by decide, by decide⟩) rfl rfl (Nat.le_of_ble_eq_true rfl) dX0_turnWing_1 ⟨Nat.zero_le _, Nat.zero_le _⟩ (ci := 8) rfl 0 rfl [1] [0, 2, 3, 4, 5, 6] [0, 6, 1, 2, 3, 4, 5] rfl rfl (ws2 := (wX0_turnWing cI cJ cZ h_o h_a1 h_o_turns h_o_wingIm h_o_wingRe h_o_turns_cos h_o_turns_sin h_o_spareRe h_o_spareIm h_a1_shifts a1_size a1_log a1_wordBits a1_limit a1_radix a1_order a1_near a1_seed a1_stages o_wingIm o_wingRe o_turns_cos o_turns_sin)) rfl (fun H locs hP hD hS => ?_)
  refine W.eq (g2 := F0 m 4 ls [.int r_1]) rfl ?_
  refine lv_i2l hx hb dX0_turnWing_4 rfl ?_
  refine lv_topl (fun v4_3 ev4_3 => ?_)
  have hf := nm_x ev4_3 hf
  refine lv_lstore (lv' := [(4, .long v4_3), (0, .ref h_o), (1, .ref h_a1), (2, .int p2), (3, .int p3)]) hx hb dX0_turnWing_5 hl (by decide) rfl (fun ls hl => ?_)
  refine lv_iconst (v := (1 : Int32)) hx hb dX0_turnWing_7 (by decide) ?_
  refine lv_istore (lv' := [(6, .int (1 : Int32)), (4, .long v4_3), (0, .ref h_o), (1, .ref h_a1), (2, .int p2), (3, .int p3)]) hx hb dX0_turnWing_8 hl (by decide) rfl (fun ls hl => ?_)
  exact j10 FU o_wingIm o_wingRe p2 p3 v4_3 (1 : Int32) H locs ls hf hP hD hS (lv_sub hl [2, 4, 5, 1, 0] rfl)
def wX0_addTwo (cI cJ cZ : ClassId) (h_o h_o_wingIm h_o_wingRe h_o_turns h_o_spareRe h_o_spareIm : Nat) (o_wingIm : Nat → Int32) (o_wingRe : Nat → Int32) : va_W := [(h_o, .inr (0, [.ref h_o_turns, .ref h_o_spareRe, .ref h_o_spareIm, .ref h_o_wingRe, .ref h_o_wingIm])), (h_o_wingIm, .inl (cI, 4, .inl o_wingIm)), (h_o_wingRe, .inl (cI, 4, .inl o_wingRe))]
def fX0_addTwo (o_wingIm : Nat → Int32) (o_wingRe : Nat → Int32) : Option ((Nat → Int32) × (Nat → Int32)) :=
  gd (inb (0 : Int32) 4) (
  nm (o_wingRe (Int32.toNatClampNeg (0 : Int32))) (fun v1_2 =>
  gd (inb (0 : Int32) 4) (
  nm (o_wingIm (Int32.toNatClampNeg (0 : Int32))) (fun v2_4 =>
  gd (inb (1 : Int32) 4) (
  gd (inb (0 : Int32) 4) (
  nm (upd o_wingRe (Int32.toNatClampNeg (0 : Int32)) (v1_2 + (o_wingRe (Int32.toNatClampNeg (1 : Int32))))) (fun o_wingRe_7 =>
  gd (inb (1 : Int32) 4) (
  gd (inb (0 : Int32) 4) (
  nm (upd o_wingIm (Int32.toNatClampNeg (0 : Int32)) (v2_4 + (o_wingIm (Int32.toNatClampNeg (1 : Int32))))) (fun o_wingIm_10 =>
  gd (inb (1 : Int32) 4) (
  gd (inb (1 : Int32) 4) (
  nm (upd o_wingRe_7 (Int32.toNatClampNeg (1 : Int32)) (v1_2 - (o_wingRe_7 (Int32.toNatClampNeg (1 : Int32))))) (fun o_wingRe_13 =>
  gd (inb (1 : Int32) 4) (
  gd (inb (1 : Int32) 4) (
  nm (upd o_wingIm_10 (Int32.toNatClampNeg (1 : Int32)) (v2_4 - (o_wingIm_10 (Int32.toNatClampNeg (1 : Int32))))) (fun o_wingIm_16 =>
  some (o_wingIm_16, o_wingRe_13)))))))))))))))))
set_option maxHeartbeats 4000000 in
set_option maxRecDepth 100000 in
theorem tX0_addTwo (l : Launch) (G : va_G) (cI cJ cZ : ClassId) (sz : Nat) (h_o h_o_wingIm h_o_wingRe h_o_turns h_o_spareRe h_o_spareIm : Nat) (o_wingIm : Nat → Int32) (o_wingRe : Nat → Int32) (out_o_wingIm : Nat → Int32) (out_o_wingRe : Nat → Int32) (hf : fX0_addTwo o_wingIm o_wingRe = some (out_o_wingIm, out_o_wingRe)) : Met l yX0_addTwo (Cond.code yX0_addTwo cX0_addTwo 3 none :: BIG) ({ frames := 0, cells := 0, slots := 0, locals := 0 } : Room) (cP G (TY3 cI cJ cZ) [.ref h_o] sz (wX0_addTwo cI cJ cZ h_o h_o_wingIm h_o_wingRe h_o_turns h_o_spareRe h_o_spareIm o_wingIm o_wingRe)) (cQ G (TY3 cI cJ cZ) sz (wX0_addTwo cI cJ cZ h_o h_o_wingIm h_o_wingRe h_o_turns h_o_spareRe h_o_spareIm o_wingIm o_wingRe) (wX0_addTwo cI cJ cZ h_o h_o_wingIm h_o_wingRe h_o_turns h_o_spareRe h_o_spareIm out_o_wingIm out_o_wingRe) none) 0 0 (va_A (wX0_addTwo cI cJ cZ h_o h_o_wingIm h_o_wingRe h_o_turns h_o_spareRe h_o_spareIm o_wingIm o_wingRe) sz) := by
  refine met_v (cc := cX0_addTwo) (maxL := 3) (plainFor_of_name (by decide)) (Nat.le_of_ble_eq_true rfl) (fun p e s m below meth c A ls Q hx hb hml hts hown hK hP hD hS hA hl hret => ?_)
  have hown : s.vm.findClass RX0 = some m.cls := hown
  have hl : lv_has ls 3 [(0, .ref h_o)] := hl
  unfold fX0_addTwo at hf
  obtain ⟨H, eH⟩ : ∃ H, H = s.heap := ⟨_, rfl⟩
  obtain ⟨locs, elocs⟩ : ∃ z : List Loc, z = [] := ⟨_, rfl⟩
  have hP : va_P G vwCl (wX0_addTwo cI cJ cZ h_o h_o_wingIm h_o_wingRe h_o_turns h_o_spareRe h_o_spareIm o_wingIm o_wingRe) H := by rw [eH]; exact hP
  have hS : va_S A s.heap H locs := by rw [eH, elocs]; exact hS
  suffices hgo : W p l e ({ frames := 0, cells := 0, slots := 0, locals := 0 } : Room) s m ([.ref h_o] : List Value).toArray below meth c H locs 0 0 Q (F0 m 0 ls []) by rw [eH, elocs] at hgo; exact hgo
  clear eH elocs
  refine lv_aload_n hx hb dX0_addTwo_0 rfl (lv_at hl 0 rfl) ?_
  refine rd (ci := 0) (C := RX0) (T := TX0) (N := 5) hx hb hts inX0 hown hK hP 0 3 rfl rfl (by decide) (hts _ q_fX0_18) rfl dX0_addTwo_1 ?_
  refine lv_iconst (v := (0 : Int32)) hx hb dX0_addTwo_4 (by decide) ?_
  obtain ⟨g_1, hf⟩ := gd_x hf
  refine va_iald hx hb hK hP 2 0 rfl rfl (inb_x g_1) dX0_addTwo_5 ?_
  refine lv_topi (fun v1_2 ev1_2 => ?_)
  have hf := nm_x ev1_2 hf
  refine lv_istore_n (lv' := [(1, .int v1_2), (0, .ref h_o)]) hx hb dX0_addTwo_6 rfl hl (by decide) rfl (fun ls hl => ?_)
  refine lv_aload_n hx hb dX0_addTwo_7 rfl (lv_at hl 1 rfl) ?_
  refine rd (ci := 0) (C := RX0) (T := TX0) (N := 5) hx hb hts inX0 hown hK hP 0 4 rfl rfl (by decide) (hts _ q_fX0_21) rfl dX0_addTwo_8 ?_
  refine lv_iconst (v := (0 : Int32)) hx hb dX0_addTwo_11 (by decide) ?_
  obtain ⟨g_3, hf⟩ := gd_x hf
  refine va_iald hx hb hK hP 1 0 rfl rfl (inb_x g_3) dX0_addTwo_12 ?_
  refine lv_topi (fun v2_4 ev2_4 => ?_)
  have hf := nm_x ev2_4 hf
  refine lv_istore_n (lv' := [(2, .int v2_4), (1, .int v1_2), (0, .ref h_o)]) hx hb dX0_addTwo_13 rfl hl (by decide) rfl (fun ls hl => ?_)
  refine lv_aload_n hx hb dX0_addTwo_14 rfl (lv_at hl 2 rfl) ?_
  refine rd (ci := 0) (C := RX0) (T := TX0) (N := 5) hx hb hts inX0 hown hK hP 0 3 rfl rfl (by decide) (hts _ q_fX0_18) rfl dX0_addTwo_15 ?_
  refine lv_iconst (v := (0 : Int32)) hx hb dX0_addTwo_18 (by decide) ?_
  refine lv_iload_n hx hb dX0_addTwo_19 rfl (lv_at hl 1 rfl) ?_
  refine lv_aload_n hx hb dX0_addTwo_20 rfl (lv_at hl 2 rfl) ?_
  refine rd (ci := 0) (C := RX0) (T := TX0) (N := 5) hx hb hts inX0 hown hK hP 0 3 rfl rfl (by decide) (hts _ q_fX0_18) rfl dX0_addTwo_21 ?_
  refine lv_iconst (v := (1 : Int32)) hx hb dX0_addTwo_24 (by decide) ?_
  obtain ⟨g_5, hf⟩ := gd_x hf
  refine va_iald hx hb hK hP 2 0 rfl rfl (inb_x g_5) dX0_addTwo_25 ?_
  refine lv_iadd hx hb dX0_addTwo_26 ?_
  obtain ⟨g_6, hf⟩ := gd_x hf
  obtain ⟨o_wingRe_7, eo_wingRe_7⟩ : ∃ y : Nat → Int32, y = upd o_wingRe (Int32.toNatClampNeg (0 : Int32)) (v1_2 + (o_wingRe (Int32.toNatClampNeg (1 : Int32)))) := ⟨_, rfl⟩
  have hf := nm_x eo_wingRe_7 hf
  refine ist hx hb hK hP hD hS 2 0 rfl rfl (inb_x g_6) dX0_addTwo_27 eo_wingRe_7 (ws2 := (wX0_addTwo cI cJ cZ h_o h_o_wingIm h_o_wingRe h_o_turns h_o_spareRe h_o_spareIm o_wingIm o_wingRe_7)) rfl (fun H locs hP hD hS => ?_)
  refine lv_aload_n hx hb dX0_addTwo_28 rfl (lv_at hl 2 rfl) ?_
  refine rd (ci := 0) (C := RX0) (T := TX0) (N := 5) hx hb hts inX0 hown hK hP 0 4 rfl rfl (by decide) (hts _ q_fX0_21) rfl dX0_addTwo_29 ?_
  refine lv_iconst (v := (0 : Int32)) hx hb dX0_addTwo_32 (by decide) ?_
  refine lv_iload_n hx hb dX0_addTwo_33 rfl (lv_at hl 0 rfl) ?_
  refine lv_aload_n hx hb dX0_addTwo_34 rfl (lv_at hl 2 rfl) ?_
  refine rd (ci := 0) (C := RX0) (T := TX0) (N := 5) hx hb hts inX0 hown hK hP 0 4 rfl rfl (by decide) (hts _ q_fX0_21) rfl dX0_addTwo_35 ?_
  refine lv_iconst (v := (1 : Int32)) hx hb dX0_addTwo_38 (by decide) ?_
  obtain ⟨g_8, hf⟩ := gd_x hf
  refine va_iald hx hb hK hP 1 0 rfl rfl (inb_x g_8) dX0_addTwo_39 ?_
  refine lv_iadd hx hb dX0_addTwo_40 ?_
  obtain ⟨g_9, hf⟩ := gd_x hf
  obtain ⟨o_wingIm_10, eo_wingIm_10⟩ : ∃ y : Nat → Int32, y = upd o_wingIm (Int32.toNatClampNeg (0 : Int32)) (v2_4 + (o_wingIm (Int32.toNatClampNeg (1 : Int32)))) := ⟨_, rfl⟩
  have hf := nm_x eo_wingIm_10 hf
  refine ist hx hb hK hP hD hS 1 0 rfl rfl (inb_x g_9) dX0_addTwo_41 eo_wingIm_10 (ws2 := (wX0_addTwo cI cJ cZ h_o h_o_wingIm h_o_wingRe h_o_turns h_o_spareRe h_o_spareIm o_wingIm_10 o_wingRe_7)) rfl (fun H locs hP hD hS => ?_)
  refine lv_aload_n hx hb dX0_addTwo_42 rfl (lv_at hl 2 rfl) ?_
  refine rd (ci := 0) (C := RX0) (T := TX0) (N := 5) hx hb hts inX0 hown hK hP 0 3 rfl rfl (by decide) (hts _ q_fX0_18) rfl dX0_addTwo_43 ?_
  refine lv_iconst (v := (1 : Int32)) hx hb dX0_addTwo_46 (by decide) ?_
  refine lv_iload_n hx hb dX0_addTwo_47 rfl (lv_at hl 1 rfl) ?_
  refine lv_aload_n hx hb dX0_addTwo_48 rfl (lv_at hl 2 rfl) ?_
  refine rd (ci := 0) (C := RX0) (T := TX0) (N := 5) hx hb hts inX0 hown hK hP 0 3 rfl rfl (by decide) (hts _ q_fX0_18) rfl dX0_addTwo_49 ?_
  refine lv_iconst (v := (1 : Int32)) hx hb dX0_addTwo_52 (by decide) ?_
  obtain ⟨g_11, hf⟩ := gd_x hf
  refine va_iald hx hb hK hP 2 0 rfl rfl (inb_x g_11) dX0_addTwo_53 ?_
  refine lv_isub hx hb dX0_addTwo_54 ?_
  obtain ⟨g_12, hf⟩ := gd_x hf
  obtain ⟨o_wingRe_13, eo_wingRe_13⟩ : ∃ y : Nat → Int32, y = upd o_wingRe_7 (Int32.toNatClampNeg (1 : Int32)) (v1_2 - (o_wingRe_7 (Int32.toNatClampNeg (1 : Int32)))) := ⟨_, rfl⟩
  have hf := nm_x eo_wingRe_13 hf
  refine ist hx hb hK hP hD hS 2 0 rfl rfl (inb_x g_12) dX0_addTwo_55 eo_wingRe_13 (ws2 := (wX0_addTwo cI cJ cZ h_o h_o_wingIm h_o_wingRe h_o_turns h_o_spareRe h_o_spareIm o_wingIm_10 o_wingRe_13)) rfl (fun H locs hP hD hS => ?_)
  refine lv_aload_n hx hb dX0_addTwo_56 rfl (lv_at hl 2 rfl) ?_
  refine rd (ci := 0) (C := RX0) (T := TX0) (N := 5) hx hb hts inX0 hown hK hP 0 4 rfl rfl (by decide) (hts _ q_fX0_21) rfl dX0_addTwo_57 ?_
  refine lv_iconst (v := (1 : Int32)) hx hb dX0_addTwo_60 (by decide) ?_
  refine lv_iload_n hx hb dX0_addTwo_61 rfl (lv_at hl 0 rfl) ?_
  refine lv_aload_n hx hb dX0_addTwo_62 rfl (lv_at hl 2 rfl) ?_
  refine rd (ci := 0) (C := RX0) (T := TX0) (N := 5) hx hb hts inX0 hown hK hP 0 4 rfl rfl (by decide) (hts _ q_fX0_21) rfl dX0_addTwo_63 ?_
  refine lv_iconst (v := (1 : Int32)) hx hb dX0_addTwo_66 (by decide) ?_
  obtain ⟨g_14, hf⟩ := gd_x hf
  refine va_iald hx hb hK hP 1 0 rfl rfl (inb_x g_14) dX0_addTwo_67 ?_
  refine lv_isub hx hb dX0_addTwo_68 ?_
  obtain ⟨g_15, hf⟩ := gd_x hf
  obtain ⟨o_wingIm_16, eo_wingIm_16⟩ : ∃ y : Nat → Int32, y = upd o_wingIm_10 (Int32.toNatClampNeg (1 : Int32)) (v2_4 - (o_wingIm_10 (Int32.toNatClampNeg (1 : Int32)))) := ⟨_, rfl⟩
  have hf := nm_x eo_wingIm_16 hf
  refine ist hx hb hK hP hD hS 1 0 rfl rfl (inb_x g_15) dX0_addTwo_69 eo_wingIm_16 (ws2 := (wX0_addTwo cI cJ cZ h_o h_o_wingIm h_o_wingRe h_o_turns h_o_spareRe h_o_spareIm o_wingIm_16 o_wingRe_13)) rfl (fun H locs hP hD hS => ?_)
  cases hf
  exact hret _ _ _ _ dX0_addTwo_70 hP hD hS
def wX0_addFour (cI cJ cZ : ClassId) (h_o h_o_wingIm h_o_wingRe h_o_turns h_o_spareRe h_o_spareIm : Nat) (o_wingIm : Nat → Int32) (o_wingRe : Nat → Int32) : va_W := [(h_o, .inr (0, [.ref h_o_turns, .ref h_o_spareRe, .ref h_o_spareIm, .ref h_o_wingRe, .ref h_o_wingIm])), (h_o_wingIm, .inl (cI, 4, .inl o_wingIm)), (h_o_wingRe, .inl (cI, 4, .inl o_wingRe))]
def fX0_addFour (o_wingIm : Nat → Int32) (o_wingRe : Nat → Int32) : Option ((Nat → Int32) × (Nat → Int32)) :=
  gd (inb (0 : Int32) 4) (
  gd (inb (2 : Int32) 4) (
  nm ((o_wingRe (Int32.toNatClampNeg (0 : Int32))) + (o_wingRe (Int32.toNatClampNeg (2 : Int32)))) (fun v1_3 =>
  gd (inb (0 : Int32) 4) (
  gd (inb (2 : Int32) 4) (
  nm ((o_wingIm (Int32.toNatClampNeg (0 : Int32))) + (o_wingIm (Int32.toNatClampNeg (2 : Int32)))) (fun v2_6 =>
  gd (inb (0 : Int32) 4) (
  gd (inb (2 : Int32) 4) (
  nm ((o_wingRe (Int32.toNatClampNeg (0 : Int32))) - (o_wingRe (Int32.toNatClampNeg (2 : Int32)))) (fun v3_9 =>
  gd (inb (0 : Int32) 4) (
  gd (inb (2 : Int32) 4) (
  nm ((o_wingIm (Int32.toNatClampNeg (0 : Int32))) - (o_wingIm (Int32.toNatClampNeg (2 : Int32)))) (fun v4_12 =>
  gd (inb (1 : Int32) 4) (
  gd (inb (3 : Int32) 4) (
  nm ((o_wingRe (Int32.toNatClampNeg (1 : Int32))) + (o_wingRe (Int32.toNatClampNeg (3 : Int32)))) (fun v5_15 =>
  gd (inb (1 : Int32) 4) (
  gd (inb (3 : Int32) 4) (
  nm ((o_wingIm (Int32.toNatClampNeg (1 : Int32))) + (o_wingIm (Int32.toNatClampNeg (3 : Int32)))) (fun v6_18 =>
  gd (inb (3 : Int32) 4) (
  gd (inb (1 : Int32) 4) (
  nm ((o_wingIm (Int32.toNatClampNeg (3 : Int32))) - (o_wingIm (Int32.toNatClampNeg (1 : Int32)))) (fun v7_21 =>
  gd (inb (1 : Int32) 4) (
  gd (inb (3 : Int32) 4) (
  nm ((o_wingRe (Int32.toNatClampNeg (1 : Int32))) - (o_wingRe (Int32.toNatClampNeg (3 : Int32)))) (fun v8_24 =>
  gd (inb (0 : Int32) 4) (
  nm (upd o_wingRe (Int32.toNatClampNeg (0 : Int32)) (v1_3 + v5_15)) (fun o_wingRe_26 =>
  gd (inb (0 : Int32) 4) (
  nm (upd o_wingIm (Int32.toNatClampNeg (0 : Int32)) (v2_6 + v6_18)) (fun o_wingIm_28 =>
  gd (inb (1 : Int32) 4) (
  nm (upd o_wingRe_26 (Int32.toNatClampNeg (1 : Int32)) (v3_9 - v7_21)) (fun o_wingRe_30 =>
  gd (inb (1 : Int32) 4) (
  nm (upd o_wingIm_28 (Int32.toNatClampNeg (1 : Int32)) (v4_12 - v8_24)) (fun o_wingIm_32 =>
  gd (inb (2 : Int32) 4) (
  nm (upd o_wingRe_30 (Int32.toNatClampNeg (2 : Int32)) (v1_3 - v5_15)) (fun o_wingRe_34 =>
  gd (inb (2 : Int32) 4) (
  nm (upd o_wingIm_32 (Int32.toNatClampNeg (2 : Int32)) (v2_6 - v6_18)) (fun o_wingIm_36 =>
  gd (inb (3 : Int32) 4) (
  nm (upd o_wingRe_34 (Int32.toNatClampNeg (3 : Int32)) (v3_9 + v7_21)) (fun o_wingRe_38 =>
  gd (inb (3 : Int32) 4) (
  nm (upd o_wingIm_36 (Int32.toNatClampNeg (3 : Int32)) (v4_12 + v8_24)) (fun o_wingIm_40 =>
  some (o_wingIm_40, o_wingRe_38)))))))))))))))))))))))))))))))))))))))))
set_option maxHeartbeats 4000000 in
set_option maxRecDepth 100000 in
theorem tX0_addFour (l : Launch) (G : va_G) (cI cJ cZ : ClassId) (sz : Nat) (h_o h_o_wingIm h_o_wingRe h_o_turns h_o_spareRe h_o_spareIm : Nat) (o_wingIm : Nat → Int32) (o_wingRe : Nat → Int32) (out_o_wingIm : Nat → Int32) (out_o_wingRe : Nat → Int32) (hf : fX0_addFour o_wingIm o_wingRe = some (out_o_wingIm, out_o_wingRe)) : Met l yX0_addFour (Cond.code yX0_addFour cX0_addFour 9 none :: BIG) ({ frames := 0, cells := 0, slots := 0, locals := 0 } : Room) (cP G (TY3 cI cJ cZ) [.ref h_o] sz (wX0_addFour cI cJ cZ h_o h_o_wingIm h_o_wingRe h_o_turns h_o_spareRe h_o_spareIm o_wingIm o_wingRe)) (cQ G (TY3 cI cJ cZ) sz (wX0_addFour cI cJ cZ h_o h_o_wingIm h_o_wingRe h_o_turns h_o_spareRe h_o_spareIm o_wingIm o_wingRe) (wX0_addFour cI cJ cZ h_o h_o_wingIm h_o_wingRe h_o_turns h_o_spareRe h_o_spareIm out_o_wingIm out_o_wingRe) none) 0 0 (va_A (wX0_addFour cI cJ cZ h_o h_o_wingIm h_o_wingRe h_o_turns h_o_spareRe h_o_spareIm o_wingIm o_wingRe) sz) := by
  refine met_v (cc := cX0_addFour) (maxL := 9) (plainFor_of_name (by decide)) (Nat.le_of_ble_eq_true rfl) (fun p e s m below meth c A ls Q hx hb hml hts hown hK hP hD hS hA hl hret => ?_)
  have hown : s.vm.findClass RX0 = some m.cls := hown
  have hl : lv_has ls 9 [(0, .ref h_o)] := hl
  unfold fX0_addFour at hf
  obtain ⟨H, eH⟩ : ∃ H, H = s.heap := ⟨_, rfl⟩
  obtain ⟨locs, elocs⟩ : ∃ z : List Loc, z = [] := ⟨_, rfl⟩
  have hP : va_P G vwCl (wX0_addFour cI cJ cZ h_o h_o_wingIm h_o_wingRe h_o_turns h_o_spareRe h_o_spareIm o_wingIm o_wingRe) H := by rw [eH]; exact hP
  have hS : va_S A s.heap H locs := by rw [eH, elocs]; exact hS
  suffices hgo : W p l e ({ frames := 0, cells := 0, slots := 0, locals := 0 } : Room) s m ([.ref h_o] : List Value).toArray below meth c H locs 0 0 Q (F0 m 0 ls []) by rw [eH, elocs] at hgo; exact hgo
  clear eH elocs
  refine lv_aload_n hx hb dX0_addFour_0 rfl (lv_at hl 0 rfl) ?_
  refine rd (ci := 0) (C := RX0) (T := TX0) (N := 5) hx hb hts inX0 hown hK hP 0 3 rfl rfl (by decide) (hts _ q_fX0_18) rfl dX0_addFour_1 ?_
  refine lv_iconst (v := (0 : Int32)) hx hb dX0_addFour_4 (by decide) ?_
  obtain ⟨g_1, hf⟩ := gd_x hf
  refine va_iald hx hb hK hP 2 0 rfl rfl (inb_x g_1) dX0_addFour_5 ?_
  refine lv_aload_n hx hb dX0_addFour_6 rfl (lv_at hl 0 rfl) ?_
  refine rd (ci := 0) (C := RX0) (T := TX0) (N := 5) hx hb hts inX0 hown hK hP 0 3 rfl rfl (by decide) (hts _ q_fX0_18) rfl dX0_addFour_7 ?_
  refine lv_iconst (v := (2 : Int32)) hx hb dX0_addFour_10 (by decide) ?_
  obtain ⟨g_2, hf⟩ := gd_x hf
  refine va_iald hx hb hK hP 2 0 rfl rfl (inb_x g_2) dX0_addFour_11 ?_
  refine lv_iadd hx hb dX0_addFour_12 ?_
  refine lv_topi (fun v1_3 ev1_3 => ?_)
  have hf := nm_x ev1_3 hf
  refine lv_istore_n (lv' := [(1, .int v1_3), (0, .ref h_o)]) hx hb dX0_addFour_13 rfl hl (by decide) rfl (fun ls hl => ?_)
  refine lv_aload_n hx hb dX0_addFour_14 rfl (lv_at hl 1 rfl) ?_
  refine rd (ci := 0) (C := RX0) (T := TX0) (N := 5) hx hb hts inX0 hown hK hP 0 4 rfl rfl (by decide) (hts _ q_fX0_21) rfl dX0_addFour_15 ?_
  refine lv_iconst (v := (0 : Int32)) hx hb dX0_addFour_18 (by decide) ?_
  obtain ⟨g_4, hf⟩ := gd_x hf
  refine va_iald hx hb hK hP 1 0 rfl rfl (inb_x g_4) dX0_addFour_19 ?_
  refine lv_aload_n hx hb dX0_addFour_20 rfl (lv_at hl 1 rfl) ?_
  refine rd (ci := 0) (C := RX0) (T := TX0) (N := 5) hx hb hts inX0 hown hK hP 0 4 rfl rfl (by decide) (hts _ q_fX0_21) rfl dX0_addFour_21 ?_
  refine lv_iconst (v := (2 : Int32)) hx hb dX0_addFour_24 (by decide) ?_
  obtain ⟨g_5, hf⟩ := gd_x hf
  refine va_iald hx hb hK hP 1 0 rfl rfl (inb_x g_5) dX0_addFour_25 ?_
  refine lv_iadd hx hb dX0_addFour_26 ?_
  refine lv_topi (fun v2_6 ev2_6 => ?_)
  have hf := nm_x ev2_6 hf
  refine lv_istore_n (lv' := [(2, .int v2_6), (1, .int v1_3), (0, .ref h_o)]) hx hb dX0_addFour_27 rfl hl (by decide) rfl (fun ls hl => ?_)
  refine lv_aload_n hx hb dX0_addFour_28 rfl (lv_at hl 2 rfl) ?_
  refine rd (ci := 0) (C := RX0) (T := TX0) (N := 5) hx hb hts inX0 hown hK hP 0 3 rfl rfl (by decide) (hts _ q_fX0_18) rfl dX0_addFour_29 ?_
  refine lv_iconst (v := (0 : Int32)) hx hb dX0_addFour_32 (by decide) ?_
  obtain ⟨g_7, hf⟩ := gd_x hf
  refine va_iald hx hb hK hP 2 0 rfl rfl (inb_x g_7) dX0_addFour_33 ?_
  refine lv_aload_n hx hb dX0_addFour_34 rfl (lv_at hl 2 rfl) ?_
  refine rd (ci := 0) (C := RX0) (T := TX0) (N := 5) hx hb hts inX0 hown hK hP 0 3 rfl rfl (by decide) (hts _ q_fX0_18) rfl dX0_addFour_35 ?_
  refine lv_iconst (v := (2 : Int32)) hx hb dX0_addFour_38 (by decide) ?_
  obtain ⟨g_8, hf⟩ := gd_x hf
  refine va_iald hx hb hK hP 2 0 rfl rfl (inb_x g_8) dX0_addFour_39 ?_
  refine lv_isub hx hb dX0_addFour_40 ?_
  refine lv_topi (fun v3_9 ev3_9 => ?_)
  have hf := nm_x ev3_9 hf
  refine lv_istore_n (lv' := [(3, .int v3_9), (2, .int v2_6), (1, .int v1_3), (0, .ref h_o)]) hx hb dX0_addFour_41 rfl hl (by decide) rfl (fun ls hl => ?_)
  refine lv_aload_n hx hb dX0_addFour_42 rfl (lv_at hl 3 rfl) ?_
  refine rd (ci := 0) (C := RX0) (T := TX0) (N := 5) hx hb hts inX0 hown hK hP 0 4 rfl rfl (by decide) (hts _ q_fX0_21) rfl dX0_addFour_43 ?_
  refine lv_iconst (v := (0 : Int32)) hx hb dX0_addFour_46 (by decide) ?_
  obtain ⟨g_10, hf⟩ := gd_x hf
  refine va_iald hx hb hK hP 1 0 rfl rfl (inb_x g_10) dX0_addFour_47 ?_
  refine lv_aload_n hx hb dX0_addFour_48 rfl (lv_at hl 3 rfl) ?_
  refine rd (ci := 0) (C := RX0) (T := TX0) (N := 5) hx hb hts inX0 hown hK hP 0 4 rfl rfl (by decide) (hts _ q_fX0_21) rfl dX0_addFour_49 ?_
  refine lv_iconst (v := (2 : Int32)) hx hb dX0_addFour_52 (by decide) ?_
  obtain ⟨g_11, hf⟩ := gd_x hf
  refine va_iald hx hb hK hP 1 0 rfl rfl (inb_x g_11) dX0_addFour_53 ?_
  refine lv_isub hx hb dX0_addFour_54 ?_
  refine lv_topi (fun v4_12 ev4_12 => ?_)
  have hf := nm_x ev4_12 hf
  refine lv_istore (lv' := [(4, .int v4_12), (3, .int v3_9), (2, .int v2_6), (1, .int v1_3), (0, .ref h_o)]) hx hb dX0_addFour_55 hl (by decide) rfl (fun ls hl => ?_)
  refine lv_aload_n hx hb dX0_addFour_57 rfl (lv_at hl 4 rfl) ?_
  refine rd (ci := 0) (C := RX0) (T := TX0) (N := 5) hx hb hts inX0 hown hK hP 0 3 rfl rfl (by decide) (hts _ q_fX0_18) rfl dX0_addFour_58 ?_
  refine lv_iconst (v := (1 : Int32)) hx hb dX0_addFour_61 (by decide) ?_
  obtain ⟨g_13, hf⟩ := gd_x hf
  refine va_iald hx hb hK hP 2 0 rfl rfl (inb_x g_13) dX0_addFour_62 ?_
  refine lv_aload_n hx hb dX0_addFour_63 rfl (lv_at hl 4 rfl) ?_
  refine rd (ci := 0) (C := RX0) (T := TX0) (N := 5) hx hb hts inX0 hown hK hP 0 3 rfl rfl (by decide) (hts _ q_fX0_18) rfl dX0_addFour_64 ?_
  refine lv_iconst (v := (3 : Int32)) hx hb dX0_addFour_67 (by decide) ?_
  obtain ⟨g_14, hf⟩ := gd_x hf
  refine va_iald hx hb hK hP 2 0 rfl rfl (inb_x g_14) dX0_addFour_68 ?_
  refine lv_iadd hx hb dX0_addFour_69 ?_
  refine lv_topi (fun v5_15 ev5_15 => ?_)
  have hf := nm_x ev5_15 hf
  refine lv_istore (lv' := [(5, .int v5_15), (4, .int v4_12), (3, .int v3_9), (2, .int v2_6), (1, .int v1_3), (0, .ref h_o)]) hx hb dX0_addFour_70 hl (by decide) rfl (fun ls hl => ?_)
  refine lv_aload_n hx hb dX0_addFour_72 rfl (lv_at hl 5 rfl) ?_
  refine rd (ci := 0) (C := RX0) (T := TX0) (N := 5) hx hb hts inX0 hown hK hP 0 4 rfl rfl (by decide) (hts _ q_fX0_21) rfl dX0_addFour_73 ?_
  refine lv_iconst (v := (1 : Int32)) hx hb dX0_addFour_76 (by decide) ?_
  obtain ⟨g_16, hf⟩ := gd_x hf
  refine va_iald hx hb hK hP 1 0 rfl rfl (inb_x g_16) dX0_addFour_77 ?_
  refine lv_aload_n hx hb dX0_addFour_78 rfl (lv_at hl 5 rfl) ?_
  refine rd (ci := 0) (C := RX0) (T := TX0) (N := 5) hx hb hts inX0 hown hK hP 0 4 rfl rfl (by decide) (hts _ q_fX0_21) rfl dX0_addFour_79 ?_
  refine lv_iconst (v := (3 : Int32)) hx hb dX0_addFour_82 (by decide) ?_
  obtain ⟨g_17, hf⟩ := gd_x hf
  refine va_iald hx hb hK hP 1 0 rfl rfl (inb_x g_17) dX0_addFour_83 ?_
  refine lv_iadd hx hb dX0_addFour_84 ?_
  refine lv_topi (fun v6_18 ev6_18 => ?_)
  have hf := nm_x ev6_18 hf
  refine lv_istore (lv' := [(6, .int v6_18), (5, .int v5_15), (4, .int v4_12), (3, .int v3_9), (2, .int v2_6), (1, .int v1_3), (0, .ref h_o)]) hx hb dX0_addFour_85 hl (by decide) rfl (fun ls hl => ?_)
  refine lv_aload_n hx hb dX0_addFour_87 rfl (lv_at hl 6 rfl) ?_
  refine rd (ci := 0) (C := RX0) (T := TX0) (N := 5) hx hb hts inX0 hown hK hP 0 4 rfl rfl (by decide) (hts _ q_fX0_21) rfl dX0_addFour_88 ?_
  refine lv_iconst (v := (3 : Int32)) hx hb dX0_addFour_91 (by decide) ?_
  obtain ⟨g_19, hf⟩ := gd_x hf
  refine va_iald hx hb hK hP 1 0 rfl rfl (inb_x g_19) dX0_addFour_92 ?_
  refine lv_aload_n hx hb dX0_addFour_93 rfl (lv_at hl 6 rfl) ?_
  refine rd (ci := 0) (C := RX0) (T := TX0) (N := 5) hx hb hts inX0 hown hK hP 0 4 rfl rfl (by decide) (hts _ q_fX0_21) rfl dX0_addFour_94 ?_
  refine lv_iconst (v := (1 : Int32)) hx hb dX0_addFour_97 (by decide) ?_
  obtain ⟨g_20, hf⟩ := gd_x hf
  refine va_iald hx hb hK hP 1 0 rfl rfl (inb_x g_20) dX0_addFour_98 ?_
  refine lv_isub hx hb dX0_addFour_99 ?_
  refine lv_topi (fun v7_21 ev7_21 => ?_)
  have hf := nm_x ev7_21 hf
  refine lv_istore (lv' := [(7, .int v7_21), (6, .int v6_18), (5, .int v5_15), (4, .int v4_12), (3, .int v3_9), (2, .int v2_6), (1, .int v1_3), (0, .ref h_o)]) hx hb dX0_addFour_100 hl (by decide) rfl (fun ls hl => ?_)
  refine lv_aload_n hx hb dX0_addFour_102 rfl (lv_at hl 7 rfl) ?_
  refine rd (ci := 0) (C := RX0) (T := TX0) (N := 5) hx hb hts inX0 hown hK hP 0 3 rfl rfl (by decide) (hts _ q_fX0_18) rfl dX0_addFour_103 ?_
  refine lv_iconst (v := (1 : Int32)) hx hb dX0_addFour_106 (by decide) ?_
  obtain ⟨g_22, hf⟩ := gd_x hf
  refine va_iald hx hb hK hP 2 0 rfl rfl (inb_x g_22) dX0_addFour_107 ?_
  refine lv_aload_n hx hb dX0_addFour_108 rfl (lv_at hl 7 rfl) ?_
  refine rd (ci := 0) (C := RX0) (T := TX0) (N := 5) hx hb hts inX0 hown hK hP 0 3 rfl rfl (by decide) (hts _ q_fX0_18) rfl dX0_addFour_109 ?_
  refine lv_iconst (v := (3 : Int32)) hx hb dX0_addFour_112 (by decide) ?_
  obtain ⟨g_23, hf⟩ := gd_x hf
  refine va_iald hx hb hK hP 2 0 rfl rfl (inb_x g_23) dX0_addFour_113 ?_
  refine lv_isub hx hb dX0_addFour_114 ?_
  refine lv_topi (fun v8_24 ev8_24 => ?_)
  have hf := nm_x ev8_24 hf
  refine lv_istore (lv' := [(8, .int v8_24), (7, .int v7_21), (6, .int v6_18), (5, .int v5_15), (4, .int v4_12), (3, .int v3_9), (2, .int v2_6), (1, .int v1_3), (0, .ref h_o)]) hx hb dX0_addFour_115 hl (by decide) rfl (fun ls hl => ?_)
  refine lv_aload_n hx hb dX0_addFour_117 rfl (lv_at hl 8 rfl) ?_
  refine rd (ci := 0) (C := RX0) (T := TX0) (N := 5) hx hb hts inX0 hown hK hP 0 3 rfl rfl (by decide) (hts _ q_fX0_18) rfl dX0_addFour_118 ?_
  refine lv_iconst (v := (0 : Int32)) hx hb dX0_addFour_121 (by decide) ?_
  refine lv_iload_n hx hb dX0_addFour_122 rfl (lv_at hl 7 rfl) ?_
  refine lv_iload hx hb dX0_addFour_123 (lv_at hl 3 rfl) ?_
  refine lv_iadd hx hb dX0_addFour_125 ?_
  obtain ⟨g_25, hf⟩ := gd_x hf
  obtain ⟨o_wingRe_26, eo_wingRe_26⟩ : ∃ y : Nat → Int32, y = upd o_wingRe (Int32.toNatClampNeg (0 : Int32)) (v1_3 + v5_15) := ⟨_, rfl⟩
  have hf := nm_x eo_wingRe_26 hf
  refine ist hx hb hK hP hD hS 2 0 rfl rfl (inb_x g_25) dX0_addFour_126 eo_wingRe_26 (ws2 := (wX0_addFour cI cJ cZ h_o h_o_wingIm h_o_wingRe h_o_turns h_o_spareRe h_o_spareIm o_wingIm o_wingRe_26)) rfl (fun H locs hP hD hS => ?_)
  refine lv_aload_n hx hb dX0_addFour_127 rfl (lv_at hl 8 rfl) ?_
  refine rd (ci := 0) (C := RX0) (T := TX0) (N := 5) hx hb hts inX0 hown hK hP 0 4 rfl rfl (by decide) (hts _ q_fX0_21) rfl dX0_addFour_128 ?_
  refine lv_iconst (v := (0 : Int32)) hx hb dX0_addFour_131 (by decide) ?_
  refine lv_iload_n hx hb dX0_addFour_132 rfl (lv_at hl 6 rfl) ?_
  refine lv_iload hx hb dX0_addFour_133 (lv_at hl 2 rfl) ?_
  refine lv_iadd hx hb dX0_addFour_135 ?_
  obtain ⟨g_27, hf⟩ := gd_x hf
  obtain ⟨o_wingIm_28, eo_wingIm_28⟩ : ∃ y : Nat → Int32, y = upd o_wingIm (Int32.toNatClampNeg (0 : Int32)) (v2_6 + v6_18) := ⟨_, rfl⟩
  have hf := nm_x eo_wingIm_28 hf
  refine ist hx hb hK hP hD hS 1 0 rfl rfl (inb_x g_27) dX0_addFour_136 eo_wingIm_28 (ws2 := (wX0_addFour cI cJ cZ h_o h_o_wingIm h_o_wingRe h_o_turns h_o_spareRe h_o_spareIm o_wingIm_28 o_wingRe_26)) rfl (fun H locs hP hD hS => ?_)
  refine lv_aload_n hx hb dX0_addFour_137 rfl (lv_at hl 8 rfl) ?_
  refine rd (ci := 0) (C := RX0) (T := TX0) (N := 5) hx hb hts inX0 hown hK hP 0 3 rfl rfl (by decide) (hts _ q_fX0_18) rfl dX0_addFour_138 ?_
  refine lv_iconst (v := (1 : Int32)) hx hb dX0_addFour_141 (by decide) ?_
  refine lv_iload_n hx hb dX0_addFour_142 rfl (lv_at hl 5 rfl) ?_
  refine lv_iload hx hb dX0_addFour_143 (lv_at hl 1 rfl) ?_
  refine lv_isub hx hb dX0_addFour_145 ?_
  obtain ⟨g_29, hf⟩ := gd_x hf
  obtain ⟨o_wingRe_30, eo_wingRe_30⟩ : ∃ y : Nat → Int32, y = upd o_wingRe_26 (Int32.toNatClampNeg (1 : Int32)) (v3_9 - v7_21) := ⟨_, rfl⟩
  have hf := nm_x eo_wingRe_30 hf
  refine ist hx hb hK hP hD hS 2 0 rfl rfl (inb_x g_29) dX0_addFour_146 eo_wingRe_30 (ws2 := (wX0_addFour cI cJ cZ h_o h_o_wingIm h_o_wingRe h_o_turns h_o_spareRe h_o_spareIm o_wingIm_28 o_wingRe_30)) rfl (fun H locs hP hD hS => ?_)
  refine lv_aload_n hx hb dX0_addFour_147 rfl (lv_at hl 8 rfl) ?_
  refine rd (ci := 0) (C := RX0) (T := TX0) (N := 5) hx hb hts inX0 hown hK hP 0 4 rfl rfl (by decide) (hts _ q_fX0_21) rfl dX0_addFour_148 ?_
  refine lv_iconst (v := (1 : Int32)) hx hb dX0_addFour_151 (by decide) ?_
  refine lv_iload hx hb dX0_addFour_152 (lv_at hl 4 rfl) ?_
  refine lv_iload hx hb dX0_addFour_154 (lv_at hl 0 rfl) ?_
  refine lv_isub hx hb dX0_addFour_156 ?_
  obtain ⟨g_31, hf⟩ := gd_x hf
  obtain ⟨o_wingIm_32, eo_wingIm_32⟩ : ∃ y : Nat → Int32, y = upd o_wingIm_28 (Int32.toNatClampNeg (1 : Int32)) (v4_12 - v8_24) := ⟨_, rfl⟩
  have hf := nm_x eo_wingIm_32 hf
  refine ist hx hb hK hP hD hS 1 0 rfl rfl (inb_x g_31) dX0_addFour_157 eo_wingIm_32 (ws2 := (wX0_addFour cI cJ cZ h_o h_o_wingIm h_o_wingRe h_o_turns h_o_spareRe h_o_spareIm o_wingIm_32 o_wingRe_30)) rfl (fun H locs hP hD hS => ?_)
  refine lv_aload_n hx hb dX0_addFour_158 rfl (lv_at hl 8 rfl) ?_
  refine rd (ci := 0) (C := RX0) (T := TX0) (N := 5) hx hb hts inX0 hown hK hP 0 3 rfl rfl (by decide) (hts _ q_fX0_18) rfl dX0_addFour_159 ?_
  refine lv_iconst (v := (2 : Int32)) hx hb dX0_addFour_162 (by decide) ?_
  refine lv_iload_n hx hb dX0_addFour_163 rfl (lv_at hl 7 rfl) ?_
  refine lv_iload hx hb dX0_addFour_164 (lv_at hl 3 rfl) ?_
  refine lv_isub hx hb dX0_addFour_166 ?_
  obtain ⟨g_33, hf⟩ := gd_x hf
  obtain ⟨o_wingRe_34, eo_wingRe_34⟩ : ∃ y : Nat → Int32, y = upd o_wingRe_30 (Int32.toNatClampNeg (2 : Int32)) (v1_3 - v5_15) := ⟨_, rfl⟩
  have hf := nm_x eo_wingRe_34 hf
  refine ist hx hb hK hP hD hS 2 0 rfl rfl (inb_x g_33) dX0_addFour_167 eo_wingRe_34 (ws2 := (wX0_addFour cI cJ cZ h_o h_o_wingIm h_o_wingRe h_o_turns h_o_spareRe h_o_spareIm o_wingIm_32 o_wingRe_34)) rfl (fun H locs hP hD hS => ?_)
  refine lv_aload_n hx hb dX0_addFour_168 rfl (lv_at hl 8 rfl) ?_
  refine rd (ci := 0) (C := RX0) (T := TX0) (N := 5) hx hb hts inX0 hown hK hP 0 4 rfl rfl (by decide) (hts _ q_fX0_21) rfl dX0_addFour_169 ?_
  refine lv_iconst (v := (2 : Int32)) hx hb dX0_addFour_172 (by decide) ?_
  refine lv_iload_n hx hb dX0_addFour_173 rfl (lv_at hl 6 rfl) ?_
  refine lv_iload hx hb dX0_addFour_174 (lv_at hl 2 rfl) ?_
  refine lv_isub hx hb dX0_addFour_176 ?_
  obtain ⟨g_35, hf⟩ := gd_x hf
  obtain ⟨o_wingIm_36, eo_wingIm_36⟩ : ∃ y : Nat → Int32, y = upd o_wingIm_32 (Int32.toNatClampNeg (2 : Int32)) (v2_6 - v6_18) := ⟨_, rfl⟩
  have hf := nm_x eo_wingIm_36 hf
  refine ist hx hb hK hP hD hS 1 0 rfl rfl (inb_x g_35) dX0_addFour_177 eo_wingIm_36 (ws2 := (wX0_addFour cI cJ cZ h_o h_o_wingIm h_o_wingRe h_o_turns h_o_spareRe h_o_spareIm o_wingIm_36 o_wingRe_34)) rfl (fun H locs hP hD hS => ?_)
  refine lv_aload_n hx hb dX0_addFour_178 rfl (lv_at hl 8 rfl) ?_
  refine rd (ci := 0) (C := RX0) (T := TX0) (N := 5) hx hb hts inX0 hown hK hP 0 3 rfl rfl (by decide) (hts _ q_fX0_18) rfl dX0_addFour_179 ?_
  refine lv_iconst (v := (3 : Int32)) hx hb dX0_addFour_182 (by decide) ?_
  refine lv_iload_n hx hb dX0_addFour_183 rfl (lv_at hl 5 rfl) ?_
  refine lv_iload hx hb dX0_addFour_184 (lv_at hl 1 rfl) ?_
  refine lv_iadd hx hb dX0_addFour_186 ?_
  obtain ⟨g_37, hf⟩ := gd_x hf
  obtain ⟨o_wingRe_38, eo_wingRe_38⟩ : ∃ y : Nat → Int32, y = upd o_wingRe_34 (Int32.toNatClampNeg (3 : Int32)) (v3_9 + v7_21) := ⟨_, rfl⟩
  have hf := nm_x eo_wingRe_38 hf
  refine ist hx hb hK hP hD hS 2 0 rfl rfl (inb_x g_37) dX0_addFour_187 eo_wingRe_38 (ws2 := (wX0_addFour cI cJ cZ h_o h_o_wingIm h_o_wingRe h_o_turns h_o_spareRe h_o_spareIm o_wingIm_36 o_wingRe_38)) rfl (fun H locs hP hD hS => ?_)
  refine lv_aload_n hx hb dX0_addFour_188 rfl (lv_at hl 8 rfl) ?_
  refine rd (ci := 0) (C := RX0) (T := TX0) (N := 5) hx hb hts inX0 hown hK hP 0 4 rfl rfl (by decide) (hts _ q_fX0_21) rfl dX0_addFour_189 ?_
  refine lv_iconst (v := (3 : Int32)) hx hb dX0_addFour_192 (by decide) ?_
  refine lv_iload hx hb dX0_addFour_193 (lv_at hl 4 rfl) ?_
  refine lv_iload hx hb dX0_addFour_195 (lv_at hl 0 rfl) ?_
  refine lv_iadd hx hb dX0_addFour_197 ?_
  obtain ⟨g_39, hf⟩ := gd_x hf
  obtain ⟨o_wingIm_40, eo_wingIm_40⟩ : ∃ y : Nat → Int32, y = upd o_wingIm_36 (Int32.toNatClampNeg (3 : Int32)) (v4_12 + v8_24) := ⟨_, rfl⟩
  have hf := nm_x eo_wingIm_40 hf
  refine ist hx hb hK hP hD hS 1 0 rfl rfl (inb_x g_39) dX0_addFour_198 eo_wingIm_40 (ws2 := (wX0_addFour cI cJ cZ h_o h_o_wingIm h_o_wingRe h_o_turns h_o_spareRe h_o_spareIm o_wingIm_40 o_wingRe_38)) rfl (fun H locs hP hD hS => ?_)
  cases hf
  exact hret _ _ _ _ dX0_addFour_199 hP hD hS
def wX0_beatWing (cI cJ cZ : ClassId) (h_o h_a1 h_a2 h_a1_im h_a1_re h_o_turns h_o_wingIm h_o_wingRe h_o_turns_cos h_o_turns_sin h_o_spareRe h_o_spareIm h_a1_wasRe h_a1_wasIm h_a1_halved h_a2_shifts : Nat) (a1_exp : Int32) (a1_done : Int32) (a1_backward : Int32) (a2_size : Int32) (a2_log : Int32) (a2_wordBits : Int32) (a2_limit : Int32) (a2_radix : Int32) (a2_order : Int32) (a2_near : Int32) (a2_seed : Int32) (a2_stages : Int32) (a1_im : Nat → Int32) (a1_re : Nat → Int32) (o_wingIm : Nat → Int32) (o_wingRe : Nat → Int32) (o_turns_cos : Nat → Int32) (o_turns_sin : Nat → Int32) : va_W := [(h_o, .inr (0, [.ref h_o_turns, .ref h_o_spareRe, .ref h_o_spareIm, .ref h_o_wingRe, .ref h_o_wingIm])), (h_a1, .inr (7, [.ref h_a1_re, .ref h_a1_im, .ref h_a1_wasRe, .ref h_a1_wasIm, .ref h_a1_halved, .int a1_exp, .int a1_done, .int a1_backward])), (h_a2, .inr (8, [.int a2_size, .int a2_log, .int a2_wordBits, .int a2_limit, .int a2_radix, .int a2_order, .int a2_near, .int a2_seed, .int a2_stages, .ref h_a2_shifts])), (h_a1_im, .inl (cI, 32, .inl a1_im)), (h_a1_re, .inl (cI, 32, .inl a1_re)), (h_o_turns, .inr (6, [.ref h_o_turns_cos, .ref h_o_turns_sin])), (h_o_wingIm, .inl (cI, 4, .inl o_wingIm)), (h_o_wingRe, .inl (cI, 4, .inl o_wingRe)), (h_o_turns_cos, .inl (cI, 32, .inl o_turns_cos)), (h_o_turns_sin, .inl (cI, 32, .inl o_turns_sin))]
def fX0_beatWing_112 : Nat → (Nat → Int32) → (Nat → Int32) → (Nat → Int32) → (Nat → Int32) → Int32 → Int32 → Int32 → Int32 → Option ((Nat → Int32) × (Nat → Int32) × (Nat → Int32) × (Nat → Int32))
  | 0, _, _, _, _, _, _, _, _ => none
  | n + 1, a1_im, a1_re, o_wingIm, o_wingRe, v3, v4, v7, v8 =>
    if v7 ≤ v8 then (
      some (a1_im, a1_re, o_wingIm, o_wingRe)
    ) else (
      gd (inb v8 4) (
      gd (inb (v3 + (v8 <<< (v4 &&& 31))) 32) (
      nm (upd a1_re (Int32.toNatClampNeg (v3 + (v8 <<< (v4 &&& 31)))) (o_wingRe (Int32.toNatClampNeg v8))) (fun a1_re_30 =>
      gd (inb v8 4) (
      gd (inb (v3 + (v8 <<< (v4 &&& 31))) 32) (
      nm (upd a1_im (Int32.toNatClampNeg (v3 + (v8 <<< (v4 &&& 31)))) (o_wingIm (Int32.toNatClampNeg v8))) (fun a1_im_33 =>
      nm (v8 + (1 : Int32)) (fun v8_34 =>
      fX0_beatWing_112 n a1_im_33 a1_re_30 o_wingIm o_wingRe v3 v4 v7 v8_34)))))))
    )
def fX0_beatWing_109 (a1_im : Nat → Int32) (a1_re : Nat → Int32) (o_wingIm : Nat → Int32) (o_wingRe : Nat → Int32) (v3 : Int32) (v4 : Int32) (v7 : Int32) : Option ((Nat → Int32) × (Nat → Int32) × (Nat → Int32) × (Nat → Int32)) :=
  fX0_beatWing_112 FU a1_im a1_re o_wingIm o_wingRe v3 v4 v7 (0 : Int32)
def fX0_beatWing_93 (a2_order : Int32) (a2_near : Int32) (o_turns_cos : Nat → Int32) (o_turns_sin : Nat → Int32) (a1_im : Nat → Int32) (a1_re : Nat → Int32) (o_wingIm : Nat → Int32) (o_wingRe : Nat → Int32) (v3 : Int32) (v4 : Int32) (v6 : Int32) (v7 : Int32) : Option ((Nat → Int32) × (Nat → Int32) × (Nat → Int32) × (Nat → Int32)) :=
  if a2_order = 0 then (
    fX0_beatWing_109 a1_im a1_re o_wingIm o_wingRe v3 v4 v7
  ) else (
    bd2 (fX0_turnWing a2_near o_wingIm o_wingRe o_turns_cos o_turns_sin v7 v6) (fun o_wingIm_24 o_wingRe_25 =>
    fX0_beatWing_109 a1_im a1_re o_wingIm_24 o_wingRe_25 v3 v4 v7)
  )
def fX0_beatWing_76 (a2_order : Int32) (a2_near : Int32) (o_turns_cos : Nat → Int32) (o_turns_sin : Nat → Int32) (a1_im : Nat → Int32) (a1_re : Nat → Int32) (o_wingIm : Nat → Int32) (o_wingRe : Nat → Int32) (v3 : Int32) (v4 : Int32) (v5 : Int32) (v6 : Int32) (v7 : Int32) : Option ((Nat → Int32) × (Nat → Int32) × (Nat → Int32) × (Nat → Int32)) :=
  if v5 = (1 : Int32) then (
    bd2 (fX0_addTwo o_wingIm o_wingRe) (fun o_wingIm_20 o_wingRe_21 =>
    fX0_beatWing_93 a2_order a2_near o_turns_cos o_turns_sin a1_im a1_re o_wingIm_20 o_wingRe_21 v3 v4 v6 v7)
  ) else (
    bd2 (fX0_addFour o_wingIm o_wingRe) (fun o_wingIm_17 o_wingRe_18 =>
    fX0_beatWing_93 a2_order a2_near o_turns_cos o_turns_sin a1_im a1_re o_wingIm_17 o_wingRe_18 v3 v4 v6 v7)
  )
def fX0_beatWing_60 (a2_order : Int32) (a2_near : Int32) (o_turns_cos : Nat → Int32) (o_turns_sin : Nat → Int32) (a1_im : Nat → Int32) (a1_re : Nat → Int32) (o_wingIm : Nat → Int32) (o_wingRe : Nat → Int32) (v3 : Int32) (v4 : Int32) (v5 : Int32) (v6 : Int32) (v7 : Int32) : Option ((Nat → Int32) × (Nat → Int32) × (Nat → Int32) × (Nat → Int32)) :=
  if a2_order = 0 then (
    bd2 (fX0_turnWing a2_near o_wingIm o_wingRe o_turns_cos o_turns_sin v7 v6) (fun o_wingIm_13 o_wingRe_14 =>
    fX0_beatWing_76 a2_order a2_near o_turns_cos o_turns_sin a1_im a1_re o_wingIm_13 o_wingRe_14 v3 v4 v5 v6 v7)
  ) else (
    fX0_beatWing_76 a2_order a2_near o_turns_cos o_turns_sin a1_im a1_re o_wingIm o_wingRe v3 v4 v5 v6 v7
  )
def fX0_beatWing_9 (a2_order : Int32) (a2_near : Int32) (o_turns_cos : Nat → Int32) (o_turns_sin : Nat → Int32) : Nat → (Nat → Int32) → (Nat → Int32) → (Nat → Int32) → (Nat → Int32) → Int32 → Int32 → Int32 → Int32 → Int32 → Int32 → Option ((Nat → Int32) × (Nat → Int32) × (Nat → Int32) × (Nat → Int32))
  | 0, _, _, _, _, _, _, _, _, _, _ => none
  | n + 1, a1_im, a1_re, o_wingIm, o_wingRe, v3, v4, v5, v6, v7, v8 =>
    if v7 ≤ v8 then (
      fX0_beatWing_60 a2_order a2_near o_turns_cos o_turns_sin a1_im a1_re o_wingIm o_wingRe v3 v4 v5 v6 v7
    ) else (
      nm (v3 + (v8 <<< (v4 &&& 31))) (fun i_3 =>
      gd (inb i_3 32) (
      gd (inb v8 4) (
      nm (upd o_wingRe (Int32.toNatClampNeg v8) (a1_re (Int32.toNatClampNeg i_3))) (fun o_wingRe_6 =>
      nm (v3 + (v8 <<< (v4 &&& 31))) (fun i_7 =>
      gd (inb i_7 32) (
      gd (inb v8 4) (
      nm (upd o_wingIm (Int32.toNatClampNeg v8) (a1_im (Int32.toNatClampNeg i_7))) (fun o_wingIm_10 =>
      nm (v8 + (1 : Int32)) (fun v8_11 =>
      fX0_beatWing_9 a2_order a2_near o_turns_cos o_turns_sin n a1_im a1_re o_wingIm_10 o_wingRe_6 v3 v4 v5 v6 v7 v8_11)))))))))
    )
def fX0_beatWing (a2_order : Int32) (a2_near : Int32) (a1_im : Nat → Int32) (a1_re : Nat → Int32) (o_wingIm : Nat → Int32) (o_wingRe : Nat → Int32) (o_turns_cos : Nat → Int32) (o_turns_sin : Nat → Int32) (p3 : Int32) (p4 : Int32) (p5 : Int32) (p6 : Int32) : Option ((Nat → Int32) × (Nat → Int32) × (Nat → Int32) × (Nat → Int32)) :=
  nm ((1 : Int32) <<< (p5 &&& 31)) (fun v7_1 =>
  fX0_beatWing_9 a2_order a2_near o_turns_cos o_turns_sin FU a1_im a1_re o_wingIm o_wingRe p3 p4 p5 p6 v7_1 (0 : Int32))
set_option maxHeartbeats 4000000 in
set_option maxRecDepth 100000 in
theorem tX0_beatWing (l : Launch) (G : va_G) (cI cJ cZ : ClassId) (sz : Nat) (h_o h_a1 h_a2 h_a1_im h_a1_re h_o_turns h_o_wingIm h_o_wingRe h_o_turns_cos h_o_turns_sin h_o_spareRe h_o_spareIm h_a1_wasRe h_a1_wasIm h_a1_halved h_a2_shifts : Nat) (a1_exp : Int32) (a1_done : Int32) (a1_backward : Int32) (a2_size : Int32) (a2_log : Int32) (a2_wordBits : Int32) (a2_limit : Int32) (a2_radix : Int32) (a2_order : Int32) (a2_near : Int32) (a2_seed : Int32) (a2_stages : Int32) (a1_im : Nat → Int32) (a1_re : Nat → Int32) (o_wingIm : Nat → Int32) (o_wingRe : Nat → Int32) (o_turns_cos : Nat → Int32) (o_turns_sin : Nat → Int32) (p3 : Int32) (p4 : Int32) (p5 : Int32) (p6 : Int32) (out_a1_im : Nat → Int32) (out_a1_re : Nat → Int32) (out_o_wingIm : Nat → Int32) (out_o_wingRe : Nat → Int32) (hf : fX0_beatWing a2_order a2_near a1_im a1_re o_wingIm o_wingRe o_turns_cos o_turns_sin p3 p4 p5 p6 = some (out_a1_im, out_a1_re, out_o_wingIm, out_o_wingRe)) : Met l yX0_beatWing (Cond.code yX0_beatWing cX0_beatWing 9 none :: BIG) ({ frames := 2, cells := 0, slots := 0, locals := 54 } : Room) (cP G (TY3 cI cJ cZ) [.ref h_o, .ref h_a1, .ref h_a2, .int p3, .int p4, .int p5, .int p6] sz (wX0_beatWing cI cJ cZ h_o h_a1 h_a2 h_a1_im h_a1_re h_o_turns h_o_wingIm h_o_wingRe h_o_turns_cos h_o_turns_sin h_o_spareRe h_o_spareIm h_a1_wasRe h_a1_wasIm h_a1_halved h_a2_shifts a1_exp a1_done a1_backward a2_size a2_log a2_wordBits a2_limit a2_radix a2_order a2_near a2_seed a2_stages a1_im a1_re o_wingIm o_wingRe o_turns_cos o_turns_sin)) (cQ G (TY3 cI cJ cZ) sz (wX0_beatWing cI cJ cZ h_o h_a1 h_a2 h_a1_im h_a1_re h_o_turns h_o_wingIm h_o_wingRe h_o_turns_cos h_o_turns_sin h_o_spareRe h_o_spareIm h_a1_wasRe h_a1_wasIm h_a1_halved h_a2_shifts a1_exp a1_done a1_backward a2_size a2_log a2_wordBits a2_limit a2_radix a2_order a2_near a2_seed a2_stages a1_im a1_re o_wingIm o_wingRe o_turns_cos o_turns_sin) (wX0_beatWing cI cJ cZ h_o h_a1 h_a2 h_a1_im h_a1_re h_o_turns h_o_wingIm h_o_wingRe h_o_turns_cos h_o_turns_sin h_o_spareRe h_o_spareIm h_a1_wasRe h_a1_wasIm h_a1_halved h_a2_shifts a1_exp a1_done a1_backward a2_size a2_log a2_wordBits a2_limit a2_radix a2_order a2_near a2_seed a2_stages out_a1_im out_a1_re out_o_wingIm out_o_wingRe o_turns_cos o_turns_sin) none) 0 0 (va_A (wX0_beatWing cI cJ cZ h_o h_a1 h_a2 h_a1_im h_a1_re h_o_turns h_o_wingIm h_o_wingRe h_o_turns_cos h_o_turns_sin h_o_spareRe h_o_spareIm h_a1_wasRe h_a1_wasIm h_a1_halved h_a2_shifts a1_exp a1_done a1_backward a2_size a2_log a2_wordBits a2_limit a2_radix a2_order a2_near a2_seed a2_stages a1_im a1_re o_wingIm o_wingRe o_turns_cos o_turns_sin) sz) := by
  refine met_v (cc := cX0_beatWing) (maxL := 9) (plainFor_of_name (by decide)) (Nat.le_of_ble_eq_true rfl) (fun p e s m below meth c A ls Q hx hb hml hts hown hK hP hD hS hA hl hret => ?_)
  have hown : s.vm.findClass RX0 = some m.cls := hown
  have hl : lv_has ls 9 [(0, .ref h_o), (1, .ref h_a1), (2, .ref h_a2), (3, .int p3), (4, .int p4), (5, .int p5), (6, .int p6)] := hl
  have j112 : ∀ (n : Nat) (a1_im : Nat → Int32) (a1_re : Nat → Int32) (o_wingIm : Nat → Int32) (o_wingRe : Nat → Int32) (v3 : Int32) (v4 : Int32) (v7 : Int32) (v8 : Int32) (H : Heap) (locs : List Loc) (ls : Array Slot), fX0_beatWing_112 n a1_im a1_re o_wingIm o_wingRe v3 v4 v7 v8 = some (out_a1_im, out_a1_re, out_o_wingIm, out_o_wingRe) → va_P G vwCl (wX0_beatWing cI cJ cZ h_o h_a1 h_a2 h_a1_im h_a1_re h_o_turns h_o_wingIm h_o_wingRe h_o_turns_cos h_o_turns_sin h_o_spareRe h_o_spareIm h_a1_wasRe h_a1_wasIm h_a1_halved h_a2_shifts a1_exp a1_done a1_backward a2_size a2_log a2_wordBits a2_limit a2_radix a2_order a2_near a2_seed a2_stages a1_im a1_re o_wingIm o_wingRe o_turns_cos o_turns_sin) H → va_D A (wX0_beatWing cI cJ cZ h_o h_a1 h_a2 h_a1_im h_a1_re h_o_turns h_o_wingIm h_o_wingRe h_o_turns_cos h_o_turns_sin h_o_spareRe h_o_spareIm h_a1_wasRe h_a1_wasIm h_a1_halved h_a2_shifts a1_exp a1_done a1_backward a2_size a2_log a2_wordBits a2_limit a2_radix a2_order a2_near a2_seed a2_stages a1_im a1_re o_wingIm o_wingRe o_turns_cos o_turns_sin) → va_S A s.heap H locs → lv_has ls 9 [(0, .ref h_o), (1, .ref h_a1), (3, .int v3), (4, .int v4), (7, .int v7), (8, .int v8)] → W p l e ({ frames := 2, cells := 0, slots := 0, locals := 54 } : Room) s m ([.ref h_o, .ref h_a1, .ref h_a2, .int p3, .int p4, .int p5, .int p6] : List Value).toArray below meth c H locs 0 0 Q (F0 m 112 ls []) := by
    intro n
    induction n with
    | zero =>
      intro a1_im a1_re o_wingIm o_wingRe v3 v4 v7 v8 H locs ls hf
      have hf : (none : Option ((Nat → Int32) × (Nat → Int32) × (Nat → Int32) × (Nat → Int32))) = some (out_a1_im, out_a1_re, out_o_wingIm, out_o_wingRe) := hf
      cases hf
    | succ n ih =>
      intro a1_im a1_re o_wingIm o_wingRe v3 v4 v7 v8 H locs ls hf hP hD hS hl
      rw [fX0_beatWing_112.eq_2] at hf
      refine lv_iload hx hb dX0_beatWing_112 (lv_at hl 5 rfl) ?_
      refine lv_iload hx hb dX0_beatWing_114 (lv_at hl 4 rfl) ?_
      refine lv_icmp_ge (tgt := 163) hx hb dX0_beatWing_116 (by decide) (fun c_27 => ?_) (fun c_27 => ?_)
      · have hf := it_t c_27 hf
        cases hf
        exact hret _ _ _ _ dX0_beatWing_163 hP hD hS
      · have hf := it_f c_27 hf
        refine lv_aload_n hx hb dX0_beatWing_119 rfl (lv_at hl 1 rfl) ?_
        refine rd (ci := 7) (C := RX7) (T := TX7) (N := 8) hx hb hts inX7 hown hK hP 1 0 rfl rfl (by decide) (hts _ q_fX0_85) rfl dX0_beatWing_120 ?_
        refine lv_iload_n hx hb dX0_beatWing_123 rfl (lv_at hl 2 rfl) ?_
        refine lv_iload hx hb dX0_beatWing_124 (lv_at hl 5 rfl) ?_
        refine lv_iload hx hb dX0_beatWing_126 (lv_at hl 3 rfl) ?_
        refine lv_ishl hx hb dX0_beatWing_128 ?_
        refine lv_iadd hx hb dX0_beatWing_129 ?_
        refine lv_aload_n hx hb dX0_beatWing_130 rfl (lv_at hl 0 rfl) ?_
        refine rd (ci := 0) (C := RX0) (T := TX0) (N := 5) hx hb hts inX0 hown hK hP 0 3 rfl rfl (by decide) (hts _ q_fX0_18) rfl dX0_beatWing_131 ?_
        refine lv_iload hx hb dX0_beatWing_134 (lv_at hl 5 rfl) ?_
        obtain ⟨g_28, hf⟩ := gd_x hf
        refine va_iald hx hb hK hP 7 0 rfl rfl (inb_x g_28) dX0_beatWing_136 ?_
        obtain ⟨g_29, hf⟩ := gd_x hf
        obtain ⟨a1_re_30, ea1_re_30⟩ : ∃ y : Nat → Int32, y = upd a1_re (Int32.toNatClampNeg (v3 + (v8 <<< (v4 &&& 31)))) (o_wingRe (Int32.toNatClampNeg v8)) := ⟨_, rfl⟩
        have hf := nm_x ea1_re_30 hf
        refine ist hx hb hK hP hD hS 4 0 rfl rfl (inb_x g_29) dX0_beatWing_137 ea1_re_30 (ws2 := (wX0_beatWing cI cJ cZ h_o h_a1 h_a2 h_a1_im h_a1_re h_o_turns h_o_wingIm h_o_wingRe h_o_turns_cos h_o_turns_sin h_o_spareRe h_o_spareIm h_a1_wasRe h_a1_wasIm h_a1_halved h_a2_shifts a1_exp a1_done a1_backward a2_size a2_log a2_wordBits a2_limit a2_radix a2_order a2_near a2_seed a2_stages a1_im a1_re_30 o_wingIm o_wingRe o_turns_cos o_turns_sin)) rfl (fun H locs hP hD hS => ?_)
        refine lv_aload_n hx hb dX0_beatWing_138 rfl (lv_at hl 1 rfl) ?_
        refine rd (ci := 7) (C := RX7) (T := TX7) (N := 8) hx hb hts inX7 hown hK hP 1 1 rfl rfl (by decide) (hts _ q_fX0_88) rfl dX0_beatWing_139 ?_
        refine lv_iload_n hx hb dX0_beatWing_142 rfl (lv_at hl 2 rfl) ?_
        refine lv_iload hx hb dX0_beatWing_143 (lv_at hl 5 rfl) ?_
        refine lv_iload hx hb dX0_beatWing_145 (lv_at hl 3 rfl) ?_
        refine lv_ishl hx hb dX0_beatWing_147 ?_
        refine lv_iadd hx hb dX0_beatWing_148 ?_
        refine lv_aload_n hx hb dX0_beatWing_149 rfl (lv_at hl 0 rfl) ?_
        refine rd (ci := 0) (C := RX0) (T := TX0) (N := 5) hx hb hts inX0 hown hK hP 0 4 rfl rfl (by decide) (hts _ q_fX0_21) rfl dX0_beatWing_150 ?_
        refine lv_iload hx hb dX0_beatWing_153 (lv_at hl 5 rfl) ?_
        obtain ⟨g_31, hf⟩ := gd_x hf
        refine va_iald hx hb hK hP 6 0 rfl rfl (inb_x g_31) dX0_beatWing_155 ?_
        obtain ⟨g_32, hf⟩ := gd_x hf
        obtain ⟨a1_im_33, ea1_im_33⟩ : ∃ y : Nat → Int32, y = upd a1_im (Int32.toNatClampNeg (v3 + (v8 <<< (v4 &&& 31)))) (o_wingIm (Int32.toNatClampNeg v8)) := ⟨_, rfl⟩
        have hf := nm_x ea1_im_33 hf
        refine ist hx hb hK hP hD hS 3 0 rfl rfl (inb_x g_32) dX0_beatWing_156 ea1_im_33 (ws2 := (wX0_beatWing cI cJ cZ h_o h_a1 h_a2 h_a1_im h_a1_re h_o_turns h_o_wingIm h_o_wingRe h_o_turns_cos h_o_turns_sin h_o_spareRe h_o_spareIm h_a1_wasRe h_a1_wasIm h_a1_halved h_a2_shifts a1_exp a1_done a1_backward a2_size a2_log a2_wordBits a2_limit a2_radix a2_order a2_near a2_seed a2_stages a1_im_33 a1_re_30 o_wingIm o_wingRe o_turns_cos o_turns_sin)) rfl (fun H locs hP hD hS => ?_)
        obtain ⟨v8_34, ev8_34⟩ : ∃ y : Int32, y = v8 + (1 : Int32) := ⟨_, rfl⟩
        have hf := nm_x ev8_34 hf
        refine lv_iinc (v := v8_34) (lv' := [(8, .int v8_34), (0, .ref h_o), (1, .ref h_a1), (3, .int v3), (4, .int v4), (7, .int v7)]) hx hb dX0_beatWing_157 hl (k := 5) rfl (by rw [ev8_34]; rfl) (by decide) rfl (fun ls hl => ?_)
        refine lv_goto (tgt := 112) hx hb dX0_beatWing_160 (by decide) ?_
        exact ih a1_im_33 a1_re_30 o_wingIm o_wingRe v3 v4 v7 v8_34 H locs ls hf hP hD hS (lv_sub hl [1, 2, 3, 4, 5, 0] rfl)
  have j109 : ∀ (a1_im : Nat → Int32) (a1_re : Nat → Int32) (o_wingIm : Nat → Int32) (o_wingRe : Nat → Int32) (v3 : Int32) (v4 : Int32) (v7 : Int32) (H : Heap) (locs : List Loc) (ls : Array Slot), fX0_beatWing_109 a1_im a1_re o_wingIm o_wingRe v3 v4 v7 = some (out_a1_im, out_a1_re, out_o_wingIm, out_o_wingRe) → va_P G vwCl (wX0_beatWing cI cJ cZ h_o h_a1 h_a2 h_a1_im h_a1_re h_o_turns h_o_wingIm h_o_wingRe h_o_turns_cos h_o_turns_sin h_o_spareRe h_o_spareIm h_a1_wasRe h_a1_wasIm h_a1_halved h_a2_shifts a1_exp a1_done a1_backward a2_size a2_log a2_wordBits a2_limit a2_radix a2_order a2_near a2_seed a2_stages a1_im a1_re o_wingIm o_wingRe o_turns_cos o_turns_sin) H → va_D A (wX0_beatWing cI cJ cZ h_o h_a1 h_a2 h_a1_im h_a1_re h_o_turns h_o_wingIm h_o_wingRe h_o_turns_cos h_o_turns_sin h_o_spareRe h_o_spareIm h_a1_wasRe h_a1_wasIm h_a1_halved h_a2_shifts a1_exp a1_done a1_backward a2_size a2_log a2_wordBits a2_limit a2_radix a2_order a2_near a2_seed a2_stages a1_im a1_re o_wingIm o_wingRe o_turns_cos o_turns_sin) → va_S A s.heap H locs → lv_has ls 9 [(0, .ref h_o), (1, .ref h_a1), (3, .int v3), (4, .int v4), (7, .int v7)] → W p l e ({ frames := 2, cells := 0, slots := 0, locals := 54 } : Room) s m ([.ref h_o, .ref h_a1, .ref h_a2, .int p3, .int p4, .int p5, .int p6] : List Value).toArray below meth c H locs 0 0 Q (F0 m 109 ls []) := by
    intro a1_im a1_re o_wingIm o_wingRe v3 v4 v7 H locs ls hf hP hD hS hl
    unfold fX0_beatWing_109 at hf
    refine lv_iconst (v := (0 : Int32)) hx hb dX0_beatWing_109 (by decide) ?_
    refine lv_istore (lv' := [(8, .int (0 : Int32)), (0, .ref h_o), (1, .ref h_a1), (3, .int v3), (4, .int v4), (7, .int v7)]) hx hb dX0_beatWing_110 hl (by decide) rfl (fun ls hl => ?_)
    exact j112 FU a1_im a1_re o_wingIm o_wingRe v3 v4 v7 (0 : Int32) H locs ls hf hP hD hS (lv_sub hl [1, 2, 3, 4, 5, 0] rfl)
  have j93 : ∀ (a1_im : Nat → Int32) (a1_re : Nat → Int32) (o_wingIm : Nat → Int32) (o_wingRe : Nat → Int32) (v3 : Int32) (v4 : Int32) (v6 : Int32) (v7 : Int32) (H : Heap) (locs : List Loc) (ls : Array Slot), fX0_beatWing_93 a2_order a2_near o_turns_cos o_turns_sin a1_im a1_re o_wingIm o_wingRe v3 v4 v6 v7 = some (out_a1_im, out_a1_re, out_o_wingIm, out_o_wingRe) → va_P G vwCl (wX0_beatWing cI cJ cZ h_o h_a1 h_a2 h_a1_im h_a1_re h_o_turns h_o_wingIm h_o_wingRe h_o_turns_cos h_o_turns_sin h_o_spareRe h_o_spareIm h_a1_wasRe h_a1_wasIm h_a1_halved h_a2_shifts a1_exp a1_done a1_backward a2_size a2_log a2_wordBits a2_limit a2_radix a2_order a2_near a2_seed a2_stages a1_im a1_re o_wingIm o_wingRe o_turns_cos o_turns_sin) H → va_D A (wX0_beatWing cI cJ cZ h_o h_a1 h_a2 h_a1_im h_a1_re h_o_turns h_o_wingIm h_o_wingRe h_o_turns_cos h_o_turns_sin h_o_spareRe h_o_spareIm h_a1_wasRe h_a1_wasIm h_a1_halved h_a2_shifts a1_exp a1_done a1_backward a2_size a2_log a2_wordBits a2_limit a2_radix a2_order a2_near a2_seed a2_stages a1_im a1_re o_wingIm o_wingRe o_turns_cos o_turns_sin) → va_S A s.heap H locs → lv_has ls 9 [(0, .ref h_o), (1, .ref h_a1), (2, .ref h_a2), (3, .int v3), (4, .int v4), (6, .int v6), (7, .int v7)] → W p l e ({ frames := 2, cells := 0, slots := 0, locals := 54 } : Room) s m ([.ref h_o, .ref h_a1, .ref h_a2, .int p3, .int p4, .int p5, .int p6] : List Value).toArray below meth c H locs 0 0 Q (F0 m 93 ls []) := by
    intro a1_im a1_re o_wingIm o_wingRe v3 v4 v6 v7 H locs ls hf hP hD hS hl
    unfold fX0_beatWing_93 at hf
    refine lv_aload_n hx hb dX0_beatWing_93 rfl (lv_at hl 2 rfl) ?_
    refine rd (ci := 8) (C := RX8) (T := TX8) (N := 10) hx hb hts inX8 hown hK hP 2 5 rfl rfl (by decide) (hts _ q_fX0_43) rfl dX0_beatWing_94 ?_
    refine lv_if_eq (tgt := 109) hx hb dX0_beatWing_97 (by decide) (fun c_23 => ?_) (fun c_23 => ?_)
    · have hf := it_t c_23 hf
      exact j109 a1_im a1_re o_wingIm o_wingRe v3 v4 v7 H locs ls hf hP hD hS (lv_sub hl [0, 1, 3, 4, 6] rfl)
    · have hf := it_f c_23 hf
      refine lv_aload_n hx hb dX0_beatWing_100 rfl (lv_at hl 0 rfl) ?_
      refine lv_aload_n hx hb dX0_beatWing_101 rfl (lv_at hl 2 rfl) ?_
      refine lv_iload hx hb dX0_beatWing_102 (lv_at hl 6 rfl) ?_
      refine lv_iload hx hb dX0_beatWing_104 (lv_at hl 5 rfl) ?_
      obtain ⟨o_wingIm_24, o_wingRe_25, e_26, hf⟩ := bd2_x hf
      refine call_v [.ref h_a2, .int v7, .int v6] [] ⟨hx, hb, hml, hown, hts⟩ hK hP hD hS hA hl.1 (tX0_turnWing l G cI cJ cZ H.size h_o h_a2 h_o_turns h_o_wingIm h_o_wingRe h_o_turns_cos h_o_turns_sin h_o_spareRe h_o_spareIm h_a2_shifts a2_size a2_log a2_wordBits a2_limit a2_radix a2_order a2_near a2_seed a2_stages o_wingIm o_wingRe o_turns_cos o_turns_sin v7 v6 o_wingIm_24 o_wingRe_25 e_26) (cwV 3 hts (gv q_mX0_120 q_i_yX0_turnWing q_s_yX0_turnWing q_n_RX0 q_k_yX0_turnWing) rfl rfl rfl (by decide +kernel) ⟨by decide, by decide⟩) rfl rfl (Nat.le_of_ble_eq_true rfl) dX0_beatWing_106 ⟨Nat.zero_le _, Nat.zero_le _⟩ (ci := 0) rfl 0 rfl [0, 2, 5, 6, 7, 8, 9] [1, 3, 4] [3, 0, 4, 1, 2, 5, 6, 7, 8, 9] rfl rfl (ws2 := (wX0_beatWing cI cJ cZ h_o h_a1 h_a2 h_a1_im h_a1_re h_o_turns h_o_wingIm h_o_wingRe h_o_turns_cos h_o_turns_sin h_o_spareRe h_o_spareIm h_a1_wasRe h_a1_wasIm h_a1_halved h_a2_shifts a1_exp a1_done a1_backward a2_size a2_log a2_wordBits a2_limit a2_radix a2_order a2_near a2_seed a2_stages a1_im a1_re o_wingIm_24 o_wingRe_25 o_turns_cos o_turns_sin)) rfl (fun H locs hP hD hS => ?_)
      refine W.eq (g2 := F0 m 109 ls []) rfl ?_
      exact j109 a1_im a1_re o_wingIm_24 o_wingRe_25 v3 v4 v7 H locs ls hf hP hD hS (lv_sub hl [0, 1, 3, 4, 6] rfl)
  have j76 : ∀ (a1_im : Nat → Int32) (a1_re : Nat → Int32) (o_wingIm : Nat → Int32) (o_wingRe : Nat → Int32) (v3 : Int32) (v4 : Int32) (v5 : Int32) (v6 : Int32) (v7 : Int32) (H : Heap) (locs : List Loc) (ls : Array Slot), fX0_beatWing_76 a2_order a2_near o_turns_cos o_turns_sin a1_im a1_re o_wingIm o_wingRe v3 v4 v5 v6 v7 = some (out_a1_im, out_a1_re, out_o_wingIm, out_o_wingRe) → va_P G vwCl (wX0_beatWing cI cJ cZ h_o h_a1 h_a2 h_a1_im h_a1_re h_o_turns h_o_wingIm h_o_wingRe h_o_turns_cos h_o_turns_sin h_o_spareRe h_o_spareIm h_a1_wasRe h_a1_wasIm h_a1_halved h_a2_shifts a1_exp a1_done a1_backward a2_size a2_log a2_wordBits a2_limit a2_radix a2_order a2_near a2_seed a2_stages a1_im a1_re o_wingIm o_wingRe o_turns_cos o_turns_sin) H → va_D A (wX0_beatWing cI cJ cZ h_o h_a1 h_a2 h_a1_im h_a1_re h_o_turns h_o_wingIm h_o_wingRe h_o_turns_cos h_o_turns_sin h_o_spareRe h_o_spareIm h_a1_wasRe h_a1_wasIm h_a1_halved h_a2_shifts a1_exp a1_done a1_backward a2_size a2_log a2_wordBits a2_limit a2_radix a2_order a2_near a2_seed a2_stages a1_im a1_re o_wingIm o_wingRe o_turns_cos o_turns_sin) → va_S A s.heap H locs → lv_has ls 9 [(0, .ref h_o), (1, .ref h_a1), (2, .ref h_a2), (3, .int v3), (4, .int v4), (5, .int v5), (6, .int v6), (7, .int v7)] → W p l e ({ frames := 2, cells := 0, slots := 0, locals := 54 } : Room) s m ([.ref h_o, .ref h_a1, .ref h_a2, .int p3, .int p4, .int p5, .int p6] : List Value).toArray below meth c H locs 0 0 Q (F0 m 76 ls []) := by
    intro a1_im a1_re o_wingIm o_wingRe v3 v4 v5 v6 v7 H locs ls hf hP hD hS hl
    unfold fX0_beatWing_76 at hf
    refine lv_iload hx hb dX0_beatWing_76 (lv_at hl 5 rfl) ?_
    refine lv_iconst (v := (1 : Int32)) hx hb dX0_beatWing_78 (by decide) ?_
    refine lv_icmp_ne (tgt := 89) hx hb dX0_beatWing_79 (by decide) (fun c_16 => ?_) (fun c_16 => ?_)
    · have hf := it_f c_16 hf
      refine lv_aload_n hx hb dX0_beatWing_89 rfl (lv_at hl 0 rfl) ?_
      obtain ⟨o_wingIm_17, o_wingRe_18, e_19, hf⟩ := bd2_x hf
      refine call_v [] [] ⟨hx, hb, hml, hown, hts⟩ hK hP hD hS hA hl.1 (tX0_addFour l G cI cJ cZ H.size h_o h_o_wingIm h_o_wingRe h_o_turns h_o_spareRe h_o_spareIm o_wingIm o_wingRe o_wingIm_17 o_wingRe_18 e_19) (cwV 0 hts (gv q_mX0_127 q_i_yX0_addFour q_s_yX0_addFour q_n_RX0 q_k_yX0_addFour) rfl rfl rfl (by decide +kernel) ⟨by decide, by decide⟩) rfl rfl (Nat.le_of_ble_eq_true rfl) dX0_beatWing_90 ⟨Nat.zero_le _, Nat.zero_le _⟩ (ci := 0) rfl 0 rfl [0, 6, 7] [1, 2, 3, 4, 5, 8, 9] [7, 0, 1, 2, 3, 4, 8, 9, 5, 6] rfl rfl (ws2 := (wX0_beatWing cI cJ cZ h_o h_a1 h_a2 h_a1_im h_a1_re h_o_turns h_o_wingIm h_o_wingRe h_o_turns_cos h_o_turns_sin h_o_spareRe h_o_spareIm h_a1_wasRe h_a1_wasIm h_a1_halved h_a2_shifts a1_exp a1_done a1_backward a2_size a2_log a2_wordBits a2_limit a2_radix a2_order a2_near a2_seed a2_stages a1_im a1_re o_wingIm_17 o_wingRe_18 o_turns_cos o_turns_sin)) rfl (fun H locs hP hD hS => ?_)
      refine W.eq (g2 := F0 m 93 ls []) rfl ?_
      exact j93 a1_im a1_re o_wingIm_17 o_wingRe_18 v3 v4 v6 v7 H locs ls hf hP hD hS (lv_sub hl [0, 1, 2, 3, 4, 6, 7] rfl)
    · have hf := it_t c_16 hf
      refine lv_aload_n hx hb dX0_beatWing_82 rfl (lv_at hl 0 rfl) ?_
      obtain ⟨o_wingIm_20, o_wingRe_21, e_22, hf⟩ := bd2_x hf
      refine call_v [] [] ⟨hx, hb, hml, hown, hts⟩ hK hP hD hS hA hl.1 (tX0_addTwo l G cI cJ cZ H.size h_o h_o_wingIm h_o_wingRe h_o_turns h_o_spareRe h_o_spareIm o_wingIm o_wingRe o_wingIm_20 o_wingRe_21 e_22) (cwV 0 hts (gv q_mX0_124 q_i_yX0_addTwo q_s_yX0_addTwo q_n_RX0 q_k_yX0_addTwo) rfl rfl rfl (by decide +kernel) ⟨by decide, by decide⟩) rfl rfl (Nat.le_of_ble_eq_true rfl) dX0_beatWing_83 ⟨Nat.zero_le _, Nat.zero_le _⟩ (ci := 0) rfl 0 rfl [0, 6, 7] [1, 2, 3, 4, 5, 8, 9] [7, 0, 1, 2, 3, 4, 8, 9, 5, 6] rfl rfl (ws2 := (wX0_beatWing cI cJ cZ h_o h_a1 h_a2 h_a1_im h_a1_re h_o_turns h_o_wingIm h_o_wingRe h_o_turns_cos h_o_turns_sin h_o_spareRe h_o_spareIm h_a1_wasRe h_a1_wasIm h_a1_halved h_a2_shifts a1_exp a1_done a1_backward a2_size a2_log a2_wordBits a2_limit a2_radix a2_order a2_near a2_seed a2_stages a1_im a1_re o_wingIm_20 o_wingRe_21 o_turns_cos o_turns_sin)) rfl (fun H locs hP hD hS => ?_)
      refine W.eq (g2 := F0 m 86 ls []) rfl ?_
      refine lv_goto (tgt := 93) hx hb dX0_beatWing_86 (by decide) ?_
      exact j93 a1_im a1_re o_wingIm_20 o_wingRe_21 v3 v4 v6 v7 H locs ls hf hP hD hS (lv_sub hl [0, 1, 2, 3, 4, 6, 7] rfl)
  have j60 : ∀ (a1_im : Nat → Int32) (a1_re : Nat → Int32) (o_wingIm : Nat → Int32) (o_wingRe : Nat → Int32) (v3 : Int32) (v4 : Int32) (v5 : Int32) (v6 : Int32) (v7 : Int32) (H : Heap) (locs : List Loc) (ls : Array Slot), fX0_beatWing_60 a2_order a2_near o_turns_cos o_turns_sin a1_im a1_re o_wingIm o_wingRe v3 v4 v5 v6 v7 = some (out_a1_im, out_a1_re, out_o_wingIm, out_o_wingRe) → va_P G vwCl (wX0_beatWing cI cJ cZ h_o h_a1 h_a2 h_a1_im h_a1_re h_o_turns h_o_wingIm h_o_wingRe h_o_turns_cos h_o_turns_sin h_o_spareRe h_o_spareIm h_a1_wasRe h_a1_wasIm h_a1_halved h_a2_shifts a1_exp a1_done a1_backward a2_size a2_log a2_wordBits a2_limit a2_radix a2_order a2_near a2_seed a2_stages a1_im a1_re o_wingIm o_wingRe o_turns_cos o_turns_sin) H → va_D A (wX0_beatWing cI cJ cZ h_o h_a1 h_a2 h_a1_im h_a1_re h_o_turns h_o_wingIm h_o_wingRe h_o_turns_cos h_o_turns_sin h_o_spareRe h_o_spareIm h_a1_wasRe h_a1_wasIm h_a1_halved h_a2_shifts a1_exp a1_done a1_backward a2_size a2_log a2_wordBits a2_limit a2_radix a2_order a2_near a2_seed a2_stages a1_im a1_re o_wingIm o_wingRe o_turns_cos o_turns_sin) → va_S A s.heap H locs → lv_has ls 9 [(0, .ref h_o), (1, .ref h_a1), (2, .ref h_a2), (3, .int v3), (4, .int v4), (5, .int v5), (6, .int v6), (7, .int v7)] → W p l e ({ frames := 2, cells := 0, slots := 0, locals := 54 } : Room) s m ([.ref h_o, .ref h_a1, .ref h_a2, .int p3, .int p4, .int p5, .int p6] : List Value).toArray below meth c H locs 0 0 Q (F0 m 60 ls []) := by
    intro a1_im a1_re o_wingIm o_wingRe v3 v4 v5 v6 v7 H locs ls hf hP hD hS hl
    unfold fX0_beatWing_60 at hf
    refine lv_aload_n hx hb dX0_beatWing_60 rfl (lv_at hl 2 rfl) ?_
    refine rd (ci := 8) (C := RX8) (T := TX8) (N := 10) hx hb hts inX8 hown hK hP 2 5 rfl rfl (by decide) (hts _ q_fX0_43) rfl dX0_beatWing_61 ?_
    refine lv_if_ne (tgt := 76) hx hb dX0_beatWing_64 (by decide) (fun c_12 => ?_) (fun c_12 => ?_)
    · have hf := it_f c_12 hf
      exact j76 a1_im a1_re o_wingIm o_wingRe v3 v4 v5 v6 v7 H locs ls hf hP hD hS (lv_sub hl [0, 1, 2, 3, 4, 5, 6, 7] rfl)
    · have hf := it_t c_12 hf
      refine lv_aload_n hx hb dX0_beatWing_67 rfl (lv_at hl 0 rfl) ?_
      refine lv_aload_n hx hb dX0_beatWing_68 rfl (lv_at hl 2 rfl) ?_
      refine lv_iload hx hb dX0_beatWing_69 (lv_at hl 7 rfl) ?_
      refine lv_iload hx hb dX0_beatWing_71 (lv_at hl 6 rfl) ?_
      obtain ⟨o_wingIm_13, o_wingRe_14, e_15, hf⟩ := bd2_x hf
      refine call_v [.ref h_a2, .int v7, .int v6] [] ⟨hx, hb, hml, hown, hts⟩ hK hP hD hS hA hl.1 (tX0_turnWing l G cI cJ cZ H.size h_o h_a2 h_o_turns h_o_wingIm h_o_wingRe h_o_turns_cos h_o_turns_sin h_o_spareRe h_o_spareIm h_a2_shifts a2_size a2_log a2_wordBits a2_limit a2_radix a2_order a2_near a2_seed a2_stages o_wingIm o_wingRe o_turns_cos o_turns_sin v7 v6 o_wingIm_13 o_wingRe_14 e_15) (cwV 3 hts (gv q_mX0_120 q_i_yX0_turnWing q_s_yX0_turnWing q_n_RX0 q_k_yX0_turnWing) rfl rfl rfl (by decide +kernel) ⟨by decide, by decide⟩) rfl rfl (Nat.le_of_ble_eq_true rfl) dX0_beatWing_73 ⟨Nat.zero_le _, Nat.zero_le _⟩ (ci := 0) rfl 0 rfl [0, 2, 5, 6, 7, 8, 9] [1, 3, 4] [3, 0, 4, 1, 2, 5, 6, 7, 8, 9] rfl rfl (ws2 := (wX0_beatWing cI cJ cZ h_o h_a1 h_a2 h_a1_im h_a1_re h_o_turns h_o_wingIm h_o_wingRe h_o_turns_cos h_o_turns_sin h_o_spareRe h_o_spareIm h_a1_wasRe h_a1_wasIm h_a1_halved h_a2_shifts a1_exp a1_done a1_backward a2_size a2_log a2_wordBits a2_limit a2_radix a2_order a2_near a2_seed a2_stages a1_im a1_re o_wingIm_13 o_wingRe_14 o_turns_cos o_turns_sin)) rfl (fun H locs hP hD hS => ?_)
      refine W.eq (g2 := F0 m 76 ls []) rfl ?_
      exact j76 a1_im a1_re o_wingIm_13 o_wingRe_14 v3 v4 v5 v6 v7 H locs ls hf hP hD hS (lv_sub hl [0, 1, 2, 3, 4, 5, 6, 7] rfl)
  have j9 : ∀ (n : Nat) (a1_im : Nat → Int32) (a1_re : Nat → Int32) (o_wingIm : Nat → Int32) (o_wingRe : Nat → Int32) (v3 : Int32) (v4 : Int32) (v5 : Int32) (v6 : Int32) (v7 : Int32) (v8 : Int32) (H : Heap) (locs : List Loc) (ls : Array Slot), fX0_beatWing_9 a2_order a2_near o_turns_cos o_turns_sin n a1_im a1_re o_wingIm o_wingRe v3 v4 v5 v6 v7 v8 = some (out_a1_im, out_a1_re, out_o_wingIm, out_o_wingRe) → va_P G vwCl (wX0_beatWing cI cJ cZ h_o h_a1 h_a2 h_a1_im h_a1_re h_o_turns h_o_wingIm h_o_wingRe h_o_turns_cos h_o_turns_sin h_o_spareRe h_o_spareIm h_a1_wasRe h_a1_wasIm h_a1_halved h_a2_shifts a1_exp a1_done a1_backward a2_size a2_log a2_wordBits a2_limit a2_radix a2_order a2_near a2_seed a2_stages a1_im a1_re o_wingIm o_wingRe o_turns_cos o_turns_sin) H → va_D A (wX0_beatWing cI cJ cZ h_o h_a1 h_a2 h_a1_im h_a1_re h_o_turns h_o_wingIm h_o_wingRe h_o_turns_cos h_o_turns_sin h_o_spareRe h_o_spareIm h_a1_wasRe h_a1_wasIm h_a1_halved h_a2_shifts a1_exp a1_done a1_backward a2_size a2_log a2_wordBits a2_limit a2_radix a2_order a2_near a2_seed a2_stages a1_im a1_re o_wingIm o_wingRe o_turns_cos o_turns_sin) → va_S A s.heap H locs → lv_has ls 9 [(0, .ref h_o), (1, .ref h_a1), (2, .ref h_a2), (3, .int v3), (4, .int v4), (5, .int v5), (6, .int v6), (7, .int v7), (8, .int v8)] → W p l e ({ frames := 2, cells := 0, slots := 0, locals := 54 } : Room) s m ([.ref h_o, .ref h_a1, .ref h_a2, .int p3, .int p4, .int p5, .int p6] : List Value).toArray below meth c H locs 0 0 Q (F0 m 9 ls []) := by
    intro n
    induction n with
    | zero =>
      intro a1_im a1_re o_wingIm o_wingRe v3 v4 v5 v6 v7 v8 H locs ls hf
      have hf : (none : Option ((Nat → Int32) × (Nat → Int32) × (Nat → Int32) × (Nat → Int32))) = some (out_a1_im, out_a1_re, out_o_wingIm, out_o_wingRe) := hf
      cases hf
    | succ n ih =>
      intro a1_im a1_re o_wingIm o_wingRe v3 v4 v5 v6 v7 v8 H locs ls hf hP hD hS hl
      rw [fX0_beatWing_9.eq_2] at hf
      refine lv_iload hx hb dX0_beatWing_9 (lv_at hl 8 rfl) ?_
      refine lv_iload hx hb dX0_beatWing_11 (lv_at hl 7 rfl) ?_
      refine lv_icmp_ge (tgt := 60) hx hb dX0_beatWing_13 (by decide) (fun c_2 => ?_) (fun c_2 => ?_)
      · have hf := it_t c_2 hf
        exact j60 a1_im a1_re o_wingIm o_wingRe v3 v4 v5 v6 v7 H locs ls hf hP hD hS (lv_sub hl [0, 1, 2, 3, 4, 5, 6, 7] rfl)
      · have hf := it_f c_2 hf
        refine lv_aload_n hx hb dX0_beatWing_16 rfl (lv_at hl 0 rfl) ?_
        refine rd (ci := 0) (C := RX0) (T := TX0) (N := 5) hx hb hts inX0 hown hK hP 0 3 rfl rfl (by decide) (hts _ q_fX0_18) rfl dX0_beatWing_17 ?_
        refine lv_iload hx hb dX0_beatWing_20 (lv_at hl 8 rfl) ?_
        refine lv_aload_n hx hb dX0_beatWing_22 rfl (lv_at hl 1 rfl) ?_
        refine rd (ci := 7) (C := RX7) (T := TX7) (N := 8) hx hb hts inX7 hown hK hP 1 0 rfl rfl (by decide) (hts _ q_fX0_85) rfl dX0_beatWing_23 ?_
        refine lv_iload_n hx hb dX0_beatWing_26 rfl (lv_at hl 3 rfl) ?_
        refine lv_iload hx hb dX0_beatWing_27 (lv_at hl 8 rfl) ?_
        refine lv_iload hx hb dX0_beatWing_29 (lv_at hl 4 rfl) ?_
        refine lv_ishl hx hb dX0_beatWing_31 ?_
        refine lv_iadd hx hb dX0_beatWing_32 ?_
        refine lv_topi (fun i_3 ei_3 => ?_)
        have hf := nm_x ei_3 hf
        obtain ⟨g_4, hf⟩ := gd_x hf
        refine va_iald hx hb hK hP 4 0 rfl rfl (inb_x g_4) dX0_beatWing_33 ?_
        obtain ⟨g_5, hf⟩ := gd_x hf
        obtain ⟨o_wingRe_6, eo_wingRe_6⟩ : ∃ y : Nat → Int32, y = upd o_wingRe (Int32.toNatClampNeg v8) (a1_re (Int32.toNatClampNeg i_3)) := ⟨_, rfl⟩
        have hf := nm_x eo_wingRe_6 hf
        refine ist hx hb hK hP hD hS 7 0 rfl rfl (inb_x g_5) dX0_beatWing_34 eo_wingRe_6 (ws2 := (wX0_beatWing cI cJ cZ h_o h_a1 h_a2 h_a1_im h_a1_re h_o_turns h_o_wingIm h_o_wingRe h_o_turns_cos h_o_turns_sin h_o_spareRe h_o_spareIm h_a1_wasRe h_a1_wasIm h_a1_halved h_a2_shifts a1_exp a1_done a1_backward a2_size a2_log a2_wordBits a2_limit a2_radix a2_order a2_near a2_seed a2_stages a1_im a1_re o_wingIm o_wingRe_6 o_turns_cos o_turns_sin)) rfl (fun H locs hP hD hS => ?_)
        refine lv_aload_n hx hb dX0_beatWing_35 rfl (lv_at hl 0 rfl) ?_
        refine rd (ci := 0) (C := RX0) (T := TX0) (N := 5) hx hb hts inX0 hown hK hP 0 4 rfl rfl (by decide) (hts _ q_fX0_21) rfl dX0_beatWing_36 ?_
        refine lv_iload hx hb dX0_beatWing_39 (lv_at hl 8 rfl) ?_
        refine lv_aload_n hx hb dX0_beatWing_41 rfl (lv_at hl 1 rfl) ?_
        refine rd (ci := 7) (C := RX7) (T := TX7) (N := 8) hx hb hts inX7 hown hK hP 1 1 rfl rfl (by decide) (hts _ q_fX0_88) rfl dX0_beatWing_42 ?_
        refine lv_iload_n hx hb dX0_beatWing_45 rfl (lv_at hl 3 rfl) ?_
        refine lv_iload hx hb dX0_beatWing_46 (lv_at hl 8 rfl) ?_
        refine lv_iload hx hb dX0_beatWing_48 (lv_at hl 4 rfl) ?_
        refine lv_ishl hx hb dX0_beatWing_50 ?_
        refine lv_iadd hx hb dX0_beatWing_51 ?_
        refine lv_topi (fun i_7 ei_7 => ?_)
        have hf := nm_x ei_7 hf
        obtain ⟨g_8, hf⟩ := gd_x hf
        refine va_iald hx hb hK hP 3 0 rfl rfl (inb_x g_8) dX0_beatWing_52 ?_
        obtain ⟨g_9, hf⟩ := gd_x hf
        obtain ⟨o_wingIm_10, eo_wingIm_10⟩ : ∃ y : Nat → Int32, y = upd o_wingIm (Int32.toNatClampNeg v8) (a1_im (Int32.toNatClampNeg i_7)) := ⟨_, rfl⟩
        have hf := nm_x eo_wingIm_10 hf
        refine ist hx hb hK hP hD hS 6 0 rfl rfl (inb_x g_9) dX0_beatWing_53 eo_wingIm_10 (ws2 := (wX0_beatWing cI cJ cZ h_o h_a1 h_a2 h_a1_im h_a1_re h_o_turns h_o_wingIm h_o_wingRe h_o_turns_cos h_o_turns_sin h_o_spareRe h_o_spareIm h_a1_wasRe h_a1_wasIm h_a1_halved h_a2_shifts a1_exp a1_done a1_backward a2_size a2_log a2_wordBits a2_limit a2_radix a2_order a2_near a2_seed a2_stages a1_im a1_re o_wingIm_10 o_wingRe_6 o_turns_cos o_turns_sin)) rfl (fun H locs hP hD hS => ?_)
        obtain ⟨v8_11, ev8_11⟩ : ∃ y : Int32, y = v8 + (1 : Int32) := ⟨_, rfl⟩
        have hf := nm_x ev8_11 hf
        refine lv_iinc (v := v8_11) (lv' := [(8, .int v8_11), (0, .ref h_o), (1, .ref h_a1), (2, .ref h_a2), (3, .int v3), (4, .int v4), (5, .int v5), (6, .int v6), (7, .int v7)]) hx hb dX0_beatWing_54 hl (k := 8) rfl (by rw [ev8_11]; rfl) (by decide) rfl (fun ls hl => ?_)
        refine lv_goto (tgt := 9) hx hb dX0_beatWing_57 (by decide) ?_
        exact ih a1_im a1_re o_wingIm_10 o_wingRe_6 v3 v4 v5 v6 v7 v8_11 H locs ls hf hP hD hS (lv_sub hl [1, 2, 3, 4, 5, 6, 7, 8, 0] rfl)
  unfold fX0_beatWing at hf
  obtain ⟨H, eH⟩ : ∃ H, H = s.heap := ⟨_, rfl⟩
  obtain ⟨locs, elocs⟩ : ∃ z : List Loc, z = [] := ⟨_, rfl⟩
  have hP : va_P G vwCl (wX0_beatWing cI cJ cZ h_o h_a1 h_a2 h_a1_im h_a1_re h_o_turns h_o_wingIm h_o_wingRe h_o_turns_cos h_o_turns_sin h_o_spareRe h_o_spareIm h_a1_wasRe h_a1_wasIm h_a1_halved h_a2_shifts a1_exp a1_done a1_backward a2_size a2_log a2_wordBits a2_limit a2_radix a2_order a2_near a2_seed a2_stages a1_im a1_re o_wingIm o_wingRe o_turns_cos o_turns_sin) H := by rw [eH]; exact hP
  have hS : va_S A s.heap H locs := by rw [eH, elocs]; exact hS
  suffices hgo : W p l e ({ frames := 2, cells := 0, slots := 0, locals := 54 } : Room) s m ([.ref h_o, .ref h_a1, .ref h_a2, .int p3, .int p4, .int p5, .int p6] : List Value).toArray below meth c H locs 0 0 Q (F0 m 0 ls []) by rw [eH, elocs] at hgo; exact hgo
  clear eH elocs
  refine lv_iconst (v := (1 : Int32)) hx hb dX0_beatWing_0 (by decide) ?_
  refine lv_iload hx hb dX0_beatWing_1 (lv_at hl 5 rfl) ?_
  refine lv_ishl hx hb dX0_beatWing_3 ?_
  refine lv_topi (fun v7_1 ev7_1 => ?_)
  have hf := nm_x ev7_1 hf
  refine lv_istore (lv' := [(7, .int v7_1), (0, .ref h_o), (1, .ref h_a1), (2, .ref h_a2), (3, .int p3), (4, .int p4), (5, .int p5), (6, .int p6)]) hx hb dX0_beatWing_4 hl (by decide) rfl (fun ls hl => ?_)
  refine lv_iconst (v := (0 : Int32)) hx hb dX0_beatWing_6 (by decide) ?_
  refine lv_istore (lv' := [(8, .int (0 : Int32)), (7, .int v7_1), (0, .ref h_o), (1, .ref h_a1), (2, .ref h_a2), (3, .int p3), (4, .int p4), (5, .int p5), (6, .int p6)]) hx hb dX0_beatWing_7 hl (by decide) rfl (fun ls hl => ?_)
  exact j9 FU a1_im a1_re o_wingIm o_wingRe p3 p4 p5 p6 v7_1 (0 : Int32) H locs ls hf hP hD hS (lv_sub hl [2, 3, 4, 5, 6, 7, 8, 1, 0] rfl)
def wX0_beatWings (cI cJ cZ : ClassId) (h_o h_a1 h_a2 h_a1_im h_a1_re h_a2_shifts h_o_turns h_o_wingIm h_o_wingRe h_o_turns_cos h_o_turns_sin h_o_spareRe h_o_spareIm h_a1_wasRe h_a1_wasIm h_a1_halved : Nat) (a1_exp : Int32) (a1_done : Int32) (a1_backward : Int32) (a2_size : Int32) (a2_log : Int32) (a2_wordBits : Int32) (a2_limit : Int32) (a2_radix : Int32) (a2_order : Int32) (a2_near : Int32) (a2_seed : Int32) (a2_stages : Int32) (a1_im : Nat → Int32) (a1_re : Nat → Int32) (a2_shifts : Nat → Int32) (o_wingIm : Nat → Int32) (o_wingRe : Nat → Int32) (o_turns_cos : Nat → Int32) (o_turns_sin : Nat → Int32) : va_W := [(h_o, .inr (0, [.ref h_o_turns, .ref h_o_spareRe, .ref h_o_spareIm, .ref h_o_wingRe, .ref h_o_wingIm])), (h_a1, .inr (7, [.ref h_a1_re, .ref h_a1_im, .ref h_a1_wasRe, .ref h_a1_wasIm, .ref h_a1_halved, .int a1_exp, .int a1_done, .int a1_backward])), (h_a2, .inr (8, [.int a2_size, .int a2_log, .int a2_wordBits, .int a2_limit, .int a2_radix, .int a2_order, .int a2_near, .int a2_seed, .int a2_stages, .ref h_a2_shifts])), (h_a1_im, .inl (cI, 32, .inl a1_im)), (h_a1_re, .inl (cI, 32, .inl a1_re)), (h_a2_shifts, .inl (cI, 5, .inl a2_shifts)), (h_o_turns, .inr (6, [.ref h_o_turns_cos, .ref h_o_turns_sin])), (h_o_wingIm, .inl (cI, 4, .inl o_wingIm)), (h_o_wingRe, .inl (cI, 4, .inl o_wingRe)), (h_o_turns_cos, .inl (cI, 32, .inl o_turns_cos)), (h_o_turns_sin, .inl (cI, 32, .inl o_turns_sin))]
def fX0_beatWings_142 (a2_order : Int32) (a2_near : Int32) (o_turns_cos : Nat → Int32) (o_turns_sin : Nat → Int32) (k89 : (Nat → Int32) → (Nat → Int32) → (Nat → Int32) → (Nat → Int32) → Int32 → Int32 → Int32 → Int32 → Int32 → Int32 → Option ((Nat → Int32) × (Nat → Int32) × (Nat → Int32) × (Nat → Int32))) (a1_im : Nat → Int32) (a1_re : Nat → Int32) (o_wingIm : Nat → Int32) (o_wingRe : Nat → Int32) (v5 : Int32) (v6 : Int32) (v7 : Int32) (v8 : Int32) (v9 : Int32) (v10 : Int32) : Option ((Nat → Int32) × (Nat → Int32) × (Nat → Int32) × (Nat → Int32)) :=
  nm (v10 + (1 : Int32)) (fun v10_20 =>
  k89 a1_im a1_re o_wingIm o_wingRe v5 v6 v7 v8 v9 v10_20)
def fX0_beatWings_109 (a2_order : Int32) (a2_near : Int32) (o_turns_cos : Nat → Int32) (o_turns_sin : Nat → Int32) (k89 : (Nat → Int32) → (Nat → Int32) → (Nat → Int32) → (Nat → Int32) → Int32 → Int32 → Int32 → Int32 → Int32 → Int32 → Option ((Nat → Int32) × (Nat → Int32) × (Nat → Int32) × (Nat → Int32))) : Nat → (Nat → Int32) → (Nat → Int32) → (Nat → Int32) → (Nat → Int32) → Int32 → Int32 → Int32 → Int32 → Int32 → Int32 → Int32 → Int32 → Option ((Nat → Int32) × (Nat → Int32) × (Nat → Int32) × (Nat → Int32))
  | 0, _, _, _, _, _, _, _, _, _, _, _, _ => none
  | n + 1, a1_im, a1_re, o_wingIm, o_wingRe, v5, v6, v7, v8, v9, v10, v11, v12 =>
    if v7 ≤ v12 then (
      fX0_beatWings_142 a2_order a2_near o_turns_cos o_turns_sin k89 a1_im a1_re o_wingIm o_wingRe v5 v6 v7 v8 v9 v10
    ) else (
      bd4 (fX0_beatWing a2_order a2_near a1_im a1_re o_wingIm o_wingRe o_turns_cos o_turns_sin (v11 + v12) v6 v5 (v12 <<< (v8 &&& 31))) (fun a1_im_14 a1_re_15 o_wingIm_16 o_wingRe_17 =>
      nm (v12 + (1 : Int32)) (fun v12_19 =>
      fX0_beatWings_109 a2_order a2_near o_turns_cos o_turns_sin k89 n a1_im_14 a1_re_15 o_wingIm_16 o_wingRe_17 v5 v6 v7 v8 v9 v10 v11 v12_19))
    )
def fX0_beatWings_89 (a2_order : Int32) (a2_near : Int32) (o_turns_cos : Nat → Int32) (o_turns_sin : Nat → Int32) : Nat → (Nat → Int32) → (Nat → Int32) → (Nat → Int32) → (Nat → Int32) → Int32 → Int32 → Int32 → Int32 → Int32 → Int32 → Option ((Nat → Int32) × (Nat → Int32) × (Nat → Int32) × (Nat → Int32))
  | 0, _, _, _, _, _, _, _, _, _, _ => none
  | n + 1, a1_im, a1_re, o_wingIm, o_wingRe, v5, v6, v7, v8, v9, v10 =>
    if v9 ≤ v10 then (
      some (a1_im, a1_re, o_wingIm, o_wingRe)
    ) else (
      nm (v10 <<< ((v6 + v5) &&& 31)) (fun v11_12 =>
      fX0_beatWings_109 a2_order a2_near o_turns_cos o_turns_sin (fX0_beatWings_89 a2_order a2_near o_turns_cos o_turns_sin n) FU a1_im a1_re o_wingIm o_wingRe v5 v6 v7 v8 v9 v10 v11_12 (0 : Int32))
    )
def fX0_beatWings_60 (a2_log : Int32) (a2_order : Int32) (a2_near : Int32) (o_turns_cos : Nat → Int32) (o_turns_sin : Nat → Int32) (a1_im : Nat → Int32) (a1_re : Nat → Int32) (o_wingIm : Nat → Int32) (o_wingRe : Nat → Int32) (v5 : Int32) (s0 : Int32) : Option ((Nat → Int32) × (Nat → Int32) × (Nat → Int32) × (Nat → Int32)) :=
  nm ((1 : Int32) <<< (s0 &&& 31)) (fun v7_8 =>
  nm ((a2_log - s0) - v5) (fun v8_9 =>
  nm ((1 : Int32) <<< (v8_9 &&& 31)) (fun v9_10 =>
  fX0_beatWings_89 a2_order a2_near o_turns_cos o_turns_sin FU a1_im a1_re o_wingIm o_wingRe v5 s0 v7_8 v8_9 v9_10 (0 : Int32))))
def fX0_beatWings_30 (a2_log : Int32) (a2_order : Int32) (a2_near : Int32) (a2_shifts : Nat → Int32) (o_turns_cos : Nat → Int32) (o_turns_sin : Nat → Int32) (a1_im : Nat → Int32) (a1_re : Nat → Int32) (o_wingIm : Nat → Int32) (o_wingRe : Nat → Int32) (v3 : Int32) (v4 : Int32) : Option ((Nat → Int32) × (Nat → Int32) × (Nat → Int32) × (Nat → Int32)) :=
  gd (inb v3 5) (
  nm (a2_shifts (Int32.toNatClampNeg v3)) (fun v5_6 =>
  if a2_order = 0 then (
    fX0_beatWings_60 a2_log a2_order a2_near o_turns_cos o_turns_sin a1_im a1_re o_wingIm o_wingRe v5_6 v4
  ) else (
    fX0_beatWings_60 a2_log a2_order a2_near o_turns_cos o_turns_sin a1_im a1_re o_wingIm o_wingRe v5_6 ((a2_log - v4) - v5_6)
  )))
def fX0_beatWings_6 (a2_log : Int32) (a2_order : Int32) (a2_near : Int32) (a2_shifts : Nat → Int32) (o_turns_cos : Nat → Int32) (o_turns_sin : Nat → Int32) : Nat → (Nat → Int32) → (Nat → Int32) → (Nat → Int32) → (Nat → Int32) → Int32 → Int32 → Int32 → Option ((Nat → Int32) × (Nat → Int32) × (Nat → Int32) × (Nat → Int32))
  | 0, _, _, _, _, _, _, _ => none
  | n + 1, a1_im, a1_re, o_wingIm, o_wingRe, v3, v4, v5 =>
    if v3 ≤ v5 then (
      fX0_beatWings_30 a2_log a2_order a2_near a2_shifts o_turns_cos o_turns_sin a1_im a1_re o_wingIm o_wingRe v3 v4
    ) else (
      gd (inb v5 5) (
      nm (v4 + (a2_shifts (Int32.toNatClampNeg v5))) (fun v4_3 =>
      nm (v5 + (1 : Int32)) (fun v5_4 =>
      fX0_beatWings_6 a2_log a2_order a2_near a2_shifts o_turns_cos o_turns_sin n a1_im a1_re o_wingIm o_wingRe v3 v4_3 v5_4)))
    )
def fX0_beatWings (a2_log : Int32) (a2_order : Int32) (a2_near : Int32) (a1_im : Nat → Int32) (a1_re : Nat → Int32) (a2_shifts : Nat → Int32) (o_wingIm : Nat → Int32) (o_wingRe : Nat → Int32) (o_turns_cos : Nat → Int32) (o_turns_sin : Nat → Int32) (p3 : Int32) : Option ((Nat → Int32) × (Nat → Int32) × (Nat → Int32) × (Nat → Int32)) :=
  fX0_beatWings_6 a2_log a2_order a2_near a2_shifts o_turns_cos o_turns_sin FU a1_im a1_re o_wingIm o_wingRe p3 (0 : Int32) (0 : Int32)
set_option maxHeartbeats 4000000 in
set_option maxRecDepth 100000 in
theorem tX0_beatWings (l : Launch) (G : va_G) (cI cJ cZ : ClassId) (sz : Nat) (h_o h_a1 h_a2 h_a1_im h_a1_re h_a2_shifts h_o_turns h_o_wingIm h_o_wingRe h_o_turns_cos h_o_turns_sin h_o_spareRe h_o_spareIm h_a1_wasRe h_a1_wasIm h_a1_halved : Nat) (a1_exp : Int32) (a1_done : Int32) (a1_backward : Int32) (a2_size : Int32) (a2_log : Int32) (a2_wordBits : Int32) (a2_limit : Int32) (a2_radix : Int32) (a2_order : Int32) (a2_near : Int32) (a2_seed : Int32) (a2_stages : Int32) (a1_im : Nat → Int32) (a1_re : Nat → Int32) (a2_shifts : Nat → Int32) (o_wingIm : Nat → Int32) (o_wingRe : Nat → Int32) (o_turns_cos : Nat → Int32) (o_turns_sin : Nat → Int32) (p3 : Int32) (out_a1_im : Nat → Int32) (out_a1_re : Nat → Int32) (out_o_wingIm : Nat → Int32) (out_o_wingRe : Nat → Int32) (hf : fX0_beatWings a2_log a2_order a2_near a1_im a1_re a2_shifts o_wingIm o_wingRe o_turns_cos o_turns_sin p3 = some (out_a1_im, out_a1_re, out_o_wingIm, out_o_wingRe)) : Met l yX0_beatWings (Cond.code yX0_beatWings cX0_beatWings 13 none :: BIG) ({ frames := 3, cells := 0, slots := 0, locals := 82 } : Room) (cP G (TY3 cI cJ cZ) [.ref h_o, .ref h_a1, .ref h_a2, .int p3] sz (wX0_beatWings cI cJ cZ h_o h_a1 h_a2 h_a1_im h_a1_re h_a2_shifts h_o_turns h_o_wingIm h_o_wingRe h_o_turns_cos h_o_turns_sin h_o_spareRe h_o_spareIm h_a1_wasRe h_a1_wasIm h_a1_halved a1_exp a1_done a1_backward a2_size a2_log a2_wordBits a2_limit a2_radix a2_order a2_near a2_seed a2_stages a1_im a1_re a2_shifts o_wingIm o_wingRe o_turns_cos o_turns_sin)) (cQ G (TY3 cI cJ cZ) sz (wX0_beatWings cI cJ cZ h_o h_a1 h_a2 h_a1_im h_a1_re h_a2_shifts h_o_turns h_o_wingIm h_o_wingRe h_o_turns_cos h_o_turns_sin h_o_spareRe h_o_spareIm h_a1_wasRe h_a1_wasIm h_a1_halved a1_exp a1_done a1_backward a2_size a2_log a2_wordBits a2_limit a2_radix a2_order a2_near a2_seed a2_stages a1_im a1_re a2_shifts o_wingIm o_wingRe o_turns_cos o_turns_sin) (wX0_beatWings cI cJ cZ h_o h_a1 h_a2 h_a1_im h_a1_re h_a2_shifts h_o_turns h_o_wingIm h_o_wingRe h_o_turns_cos h_o_turns_sin h_o_spareRe h_o_spareIm h_a1_wasRe h_a1_wasIm h_a1_halved a1_exp a1_done a1_backward a2_size a2_log a2_wordBits a2_limit a2_radix a2_order a2_near a2_seed a2_stages out_a1_im out_a1_re a2_shifts out_o_wingIm out_o_wingRe o_turns_cos o_turns_sin) none) 0 0 (va_A (wX0_beatWings cI cJ cZ h_o h_a1 h_a2 h_a1_im h_a1_re h_a2_shifts h_o_turns h_o_wingIm h_o_wingRe h_o_turns_cos h_o_turns_sin h_o_spareRe h_o_spareIm h_a1_wasRe h_a1_wasIm h_a1_halved a1_exp a1_done a1_backward a2_size a2_log a2_wordBits a2_limit a2_radix a2_order a2_near a2_seed a2_stages a1_im a1_re a2_shifts o_wingIm o_wingRe o_turns_cos o_turns_sin) sz) := by
  refine met_v (cc := cX0_beatWings) (maxL := 13) (plainFor_of_name (by decide)) (Nat.le_of_ble_eq_true rfl) (fun p e s m below meth c A ls Q hx hb hml hts hown hK hP hD hS hA hl hret => ?_)
  have hown : s.vm.findClass RX0 = some m.cls := hown
  have hl : lv_has ls 13 [(0, .ref h_o), (1, .ref h_a1), (2, .ref h_a2), (3, .int p3)] := hl
  have j142 : ∀ (k89 : (Nat → Int32) → (Nat → Int32) → (Nat → Int32) → (Nat → Int32) → Int32 → Int32 → Int32 → Int32 → Int32 → Int32 → Option ((Nat → Int32) × (Nat → Int32) × (Nat → Int32) × (Nat → Int32))), (∀ (a1_im : Nat → Int32) (a1_re : Nat → Int32) (o_wingIm : Nat → Int32) (o_wingRe : Nat → Int32) (v5 : Int32) (v6 : Int32) (v7 : Int32) (v8 : Int32) (v9 : Int32) (v10 : Int32) (H : Heap) (locs : List Loc) (ls : Array Slot), k89 a1_im a1_re o_wingIm o_wingRe v5 v6 v7 v8 v9 v10 = some (out_a1_im, out_a1_re, out_o_wingIm, out_o_wingRe) → va_P G vwCl (wX0_beatWings cI cJ cZ h_o h_a1 h_a2 h_a1_im h_a1_re h_a2_shifts h_o_turns h_o_wingIm h_o_wingRe h_o_turns_cos h_o_turns_sin h_o_spareRe h_o_spareIm h_a1_wasRe h_a1_wasIm h_a1_halved a1_exp a1_done a1_backward a2_size a2_log a2_wordBits a2_limit a2_radix a2_order a2_near a2_seed a2_stages a1_im a1_re a2_shifts o_wingIm o_wingRe o_turns_cos o_turns_sin) H → va_D A (wX0_beatWings cI cJ cZ h_o h_a1 h_a2 h_a1_im h_a1_re h_a2_shifts h_o_turns h_o_wingIm h_o_wingRe h_o_turns_cos h_o_turns_sin h_o_spareRe h_o_spareIm h_a1_wasRe h_a1_wasIm h_a1_halved a1_exp a1_done a1_backward a2_size a2_log a2_wordBits a2_limit a2_radix a2_order a2_near a2_seed a2_stages a1_im a1_re a2_shifts o_wingIm o_wingRe o_turns_cos o_turns_sin) → va_S A s.heap H locs → lv_has ls 13 [(0, .ref h_o), (1, .ref h_a1), (2, .ref h_a2), (5, .int v5), (6, .int v6), (7, .int v7), (8, .int v8), (9, .int v9), (10, .int v10)] → W p l e ({ frames := 3, cells := 0, slots := 0, locals := 82 } : Room) s m ([.ref h_o, .ref h_a1, .ref h_a2, .int p3] : List Value).toArray below meth c H locs 0 0 Q (F0 m 89 ls [])) → ∀ (a1_im : Nat → Int32) (a1_re : Nat → Int32) (o_wingIm : Nat → Int32) (o_wingRe : Nat → Int32) (v5 : Int32) (v6 : Int32) (v7 : Int32) (v8 : Int32) (v9 : Int32) (v10 : Int32) (H : Heap) (locs : List Loc) (ls : Array Slot), fX0_beatWings_142 a2_order a2_near o_turns_cos o_turns_sin k89 a1_im a1_re o_wingIm o_wingRe v5 v6 v7 v8 v9 v10 = some (out_a1_im, out_a1_re, out_o_wingIm, out_o_wingRe) → va_P G vwCl (wX0_beatWings cI cJ cZ h_o h_a1 h_a2 h_a1_im h_a1_re h_a2_shifts h_o_turns h_o_wingIm h_o_wingRe h_o_turns_cos h_o_turns_sin h_o_spareRe h_o_spareIm h_a1_wasRe h_a1_wasIm h_a1_halved a1_exp a1_done a1_backward a2_size a2_log a2_wordBits a2_limit a2_radix a2_order a2_near a2_seed a2_stages a1_im a1_re a2_shifts o_wingIm o_wingRe o_turns_cos o_turns_sin) H → va_D A (wX0_beatWings cI cJ cZ h_o h_a1 h_a2 h_a1_im h_a1_re h_a2_shifts h_o_turns h_o_wingIm h_o_wingRe h_o_turns_cos h_o_turns_sin h_o_spareRe h_o_spareIm h_a1_wasRe h_a1_wasIm h_a1_halved a1_exp a1_done a1_backward a2_size a2_log a2_wordBits a2_limit a2_radix a2_order a2_near a2_seed a2_stages a1_im a1_re a2_shifts o_wingIm o_wingRe o_turns_cos o_turns_sin) → va_S A s.heap H locs → lv_has ls 13 [(0, .ref h_o), (1, .ref h_a1), (2, .ref h_a2), (5, .int v5), (6, .int v6), (7, .int v7), (8, .int v8), (9, .int v9), (10, .int v10)] → W p l e ({ frames := 3, cells := 0, slots := 0, locals := 82 } : Room) s m ([.ref h_o, .ref h_a1, .ref h_a2, .int p3] : List Value).toArray below meth c H locs 0 0 Q (F0 m 142 ls []) := by
    intro k89 hk89 a1_im a1_re o_wingIm o_wingRe v5 v6 v7 v8 v9 v10 H locs ls hf hP hD hS hl
    unfold fX0_beatWings_142 at hf
    obtain ⟨v10_20, ev10_20⟩ : ∃ y : Int32, y = v10 + (1 : Int32) := ⟨_, rfl⟩
    have hf := nm_x ev10_20 hf
    refine lv_iinc (v := v10_20) (lv' := [(10, .int v10_20), (0, .ref h_o), (1, .ref h_a1), (2, .ref h_a2), (5, .int v5), (6, .int v6), (7, .int v7), (8, .int v8), (9, .int v9)]) hx hb dX0_beatWings_142 hl (k := 8) rfl (by rw [ev10_20]; rfl) (by decide) rfl (fun ls hl => ?_)
    refine lv_goto (tgt := 89) hx hb dX0_beatWings_145 (by decide) ?_
    exact hk89 a1_im a1_re o_wingIm o_wingRe v5 v6 v7 v8 v9 v10_20 H locs ls hf hP hD hS (lv_sub hl [1, 2, 3, 4, 5, 6, 7, 8, 0] rfl)
  have j109 : ∀ (k89 : (Nat → Int32) → (Nat → Int32) → (Nat → Int32) → (Nat → Int32) → Int32 → Int32 → Int32 → Int32 → Int32 → Int32 → Option ((Nat → Int32) × (Nat → Int32) × (Nat → Int32) × (Nat → Int32))), (∀ (a1_im : Nat → Int32) (a1_re : Nat → Int32) (o_wingIm : Nat → Int32) (o_wingRe : Nat → Int32) (v5 : Int32) (v6 : Int32) (v7 : Int32) (v8 : Int32) (v9 : Int32) (v10 : Int32) (H : Heap) (locs : List Loc) (ls : Array Slot), k89 a1_im a1_re o_wingIm o_wingRe v5 v6 v7 v8 v9 v10 = some (out_a1_im, out_a1_re, out_o_wingIm, out_o_wingRe) → va_P G vwCl (wX0_beatWings cI cJ cZ h_o h_a1 h_a2 h_a1_im h_a1_re h_a2_shifts h_o_turns h_o_wingIm h_o_wingRe h_o_turns_cos h_o_turns_sin h_o_spareRe h_o_spareIm h_a1_wasRe h_a1_wasIm h_a1_halved a1_exp a1_done a1_backward a2_size a2_log a2_wordBits a2_limit a2_radix a2_order a2_near a2_seed a2_stages a1_im a1_re a2_shifts o_wingIm o_wingRe o_turns_cos o_turns_sin) H → va_D A (wX0_beatWings cI cJ cZ h_o h_a1 h_a2 h_a1_im h_a1_re h_a2_shifts h_o_turns h_o_wingIm h_o_wingRe h_o_turns_cos h_o_turns_sin h_o_spareRe h_o_spareIm h_a1_wasRe h_a1_wasIm h_a1_halved a1_exp a1_done a1_backward a2_size a2_log a2_wordBits a2_limit a2_radix a2_order a2_near a2_seed a2_stages a1_im a1_re a2_shifts o_wingIm o_wingRe o_turns_cos o_turns_sin) → va_S A s.heap H locs → lv_has ls 13 [(0, .ref h_o), (1, .ref h_a1), (2, .ref h_a2), (5, .int v5), (6, .int v6), (7, .int v7), (8, .int v8), (9, .int v9), (10, .int v10)] → W p l e ({ frames := 3, cells := 0, slots := 0, locals := 82 } : Room) s m ([.ref h_o, .ref h_a1, .ref h_a2, .int p3] : List Value).toArray below meth c H locs 0 0 Q (F0 m 89 ls [])) → ∀ (n : Nat) (a1_im : Nat → Int32) (a1_re : Nat → Int32) (o_wingIm : Nat → Int32) (o_wingRe : Nat → Int32) (v5 : Int32) (v6 : Int32) (v7 : Int32) (v8 : Int32) (v9 : Int32) (v10 : Int32) (v11 : Int32) (v12 : Int32) (H : Heap) (locs : List Loc) (ls : Array Slot), fX0_beatWings_109 a2_order a2_near o_turns_cos o_turns_sin k89 n a1_im a1_re o_wingIm o_wingRe v5 v6 v7 v8 v9 v10 v11 v12 = some (out_a1_im, out_a1_re, out_o_wingIm, out_o_wingRe) → va_P G vwCl (wX0_beatWings cI cJ cZ h_o h_a1 h_a2 h_a1_im h_a1_re h_a2_shifts h_o_turns h_o_wingIm h_o_wingRe h_o_turns_cos h_o_turns_sin h_o_spareRe h_o_spareIm h_a1_wasRe h_a1_wasIm h_a1_halved a1_exp a1_done a1_backward a2_size a2_log a2_wordBits a2_limit a2_radix a2_order a2_near a2_seed a2_stages a1_im a1_re a2_shifts o_wingIm o_wingRe o_turns_cos o_turns_sin) H → va_D A (wX0_beatWings cI cJ cZ h_o h_a1 h_a2 h_a1_im h_a1_re h_a2_shifts h_o_turns h_o_wingIm h_o_wingRe h_o_turns_cos h_o_turns_sin h_o_spareRe h_o_spareIm h_a1_wasRe h_a1_wasIm h_a1_halved a1_exp a1_done a1_backward a2_size a2_log a2_wordBits a2_limit a2_radix a2_order a2_near a2_seed a2_stages a1_im a1_re a2_shifts o_wingIm o_wingRe o_turns_cos o_turns_sin) → va_S A s.heap H locs → lv_has ls 13 [(0, .ref h_o), (1, .ref h_a1), (2, .ref h_a2), (5, .int v5), (6, .int v6), (7, .int v7), (8, .int v8), (9, .int v9), (10, .int v10), (11, .int v11), (12, .int v12)] → W p l e ({ frames := 3, cells := 0, slots := 0, locals := 82 } : Room) s m ([.ref h_o, .ref h_a1, .ref h_a2, .int p3] : List Value).toArray below meth c H locs 0 0 Q (F0 m 109 ls []) := by
    intro k89 hk89 n
    induction n with
    | zero =>
      intro a1_im a1_re o_wingIm o_wingRe v5 v6 v7 v8 v9 v10 v11 v12 H locs ls hf
      have hf : (none : Option ((Nat → Int32) × (Nat → Int32) × (Nat → Int32) × (Nat → Int32))) = some (out_a1_im, out_a1_re, out_o_wingIm, out_o_wingRe) := hf
      cases hf
    | succ n ih =>
      intro a1_im a1_re o_wingIm o_wingRe v5 v6 v7 v8 v9 v10 v11 v12 H locs ls hf hP hD hS hl
      rw [fX0_beatWings_109.eq_2] at hf
      refine lv_iload hx hb dX0_beatWings_109 (lv_at hl 10 rfl) ?_
      refine lv_iload hx hb dX0_beatWings_111 (lv_at hl 5 rfl) ?_
      refine lv_icmp_ge (tgt := 142) hx hb dX0_beatWings_113 (by decide) (fun c_13 => ?_) (fun c_13 => ?_)
      · have hf := it_t c_13 hf
        exact j142 k89 hk89 a1_im a1_re o_wingIm o_wingRe v5 v6 v7 v8 v9 v10 H locs ls hf hP hD hS (lv_sub hl [0, 1, 2, 3, 4, 5, 6, 7, 8] rfl)
      · have hf := it_f c_13 hf
        refine lv_aload_n hx hb dX0_beatWings_116 rfl (lv_at hl 0 rfl) ?_
        refine lv_aload_n hx hb dX0_beatWings_117 rfl (lv_at hl 1 rfl) ?_
        refine lv_aload_n hx hb dX0_beatWings_118 rfl (lv_at hl 2 rfl) ?_
        refine lv_iload hx hb dX0_beatWings_119 (lv_at hl 9 rfl) ?_
        refine lv_iload hx hb dX0_beatWings_121 (lv_at hl 10 rfl) ?_
        refine lv_iadd hx hb dX0_beatWings_123 ?_
        refine lv_iload hx hb dX0_beatWings_124 (lv_at hl 4 rfl) ?_
        refine lv_iload hx hb dX0_beatWings_126 (lv_at hl 3 rfl) ?_
        refine lv_iload hx hb dX0_beatWings_128 (lv_at hl 10 rfl) ?_
        refine lv_iload hx hb dX0_beatWings_130 (lv_at hl 6 rfl) ?_
        refine lv_ishl hx hb dX0_beatWings_132 ?_
        obtain ⟨a1_im_14, a1_re_15, o_wingIm_16, o_wingRe_17, e_18, hf⟩ := bd4_x hf
        refine call_v [.ref h_a1, .ref h_a2, .int (v11 + v12), .int v6, .int v5, .int (v12 <<< (v8 &&& 31))] [] ⟨hx, hb, hml, hown, hts⟩ hK hP hD hS hA hl.1 (tX0_beatWing l G cI cJ cZ H.size h_o h_a1 h_a2 h_a1_im h_a1_re h_o_turns h_o_wingIm h_o_wingRe h_o_turns_cos h_o_turns_sin h_o_spareRe h_o_spareIm h_a1_wasRe h_a1_wasIm h_a1_halved h_a2_shifts a1_exp a1_done a1_backward a2_size a2_log a2_wordBits a2_limit a2_radix a2_order a2_near a2_seed a2_stages a1_im a1_re o_wingIm o_wingRe o_turns_cos o_turns_sin (v11 + v12) v6 v5 (v12 <<< (v8 &&& 31)) a1_im_14 a1_re_15 o_wingIm_16 o_wingRe_17 e_18) (cwV 6 hts (gv q_mX0_116 q_i_yX0_beatWing q_s_yX0_beatWing q_n_RX0 q_k_yX0_beatWing) rfl rfl rfl (by decide +kernel) ⟨by decide, by decide⟩) rfl rfl (Nat.le_of_ble_eq_true rfl) dX0_beatWings_133 ⟨Nat.zero_le _, Nat.zero_le _⟩ (ci := 0) rfl 0 rfl [0, 1, 2, 3, 4, 6, 7, 8, 9, 10] [5] [1, 2, 3, 4, 5, 0, 6, 7, 8, 9, 10] rfl rfl (ws2 := (wX0_beatWings cI cJ cZ h_o h_a1 h_a2 h_a1_im h_a1_re h_a2_shifts h_o_turns h_o_wingIm h_o_wingRe h_o_turns_cos h_o_turns_sin h_o_spareRe h_o_spareIm h_a1_wasRe h_a1_wasIm h_a1_halved a1_exp a1_done a1_backward a2_size a2_log a2_wordBits a2_limit a2_radix a2_order a2_near a2_seed a2_stages a1_im_14 a1_re_15 a2_shifts o_wingIm_16 o_wingRe_17 o_turns_cos o_turns_sin)) rfl (fun H locs hP hD hS => ?_)
        refine W.eq (g2 := F0 m 136 ls []) rfl ?_
        obtain ⟨v12_19, ev12_19⟩ : ∃ y : Int32, y = v12 + (1 : Int32) := ⟨_, rfl⟩
        have hf := nm_x ev12_19 hf
        refine lv_iinc (v := v12_19) (lv' := [(12, .int v12_19), (0, .ref h_o), (1, .ref h_a1), (2, .ref h_a2), (5, .int v5), (6, .int v6), (7, .int v7), (8, .int v8), (9, .int v9), (10, .int v10), (11, .int v11)]) hx hb dX0_beatWings_136 hl (k := 10) rfl (by rw [ev12_19]; rfl) (by decide) rfl (fun ls hl => ?_)
        refine lv_goto (tgt := 109) hx hb dX0_beatWings_139 (by decide) ?_
        exact ih a1_im_14 a1_re_15 o_wingIm_16 o_wingRe_17 v5 v6 v7 v8 v9 v10 v11 v12_19 H locs ls hf hP hD hS (lv_sub hl [1, 2, 3, 4, 5, 6, 7, 8, 9, 10, 0] rfl)
  have j89 : ∀ (n : Nat) (a1_im : Nat → Int32) (a1_re : Nat → Int32) (o_wingIm : Nat → Int32) (o_wingRe : Nat → Int32) (v5 : Int32) (v6 : Int32) (v7 : Int32) (v8 : Int32) (v9 : Int32) (v10 : Int32) (H : Heap) (locs : List Loc) (ls : Array Slot), fX0_beatWings_89 a2_order a2_near o_turns_cos o_turns_sin n a1_im a1_re o_wingIm o_wingRe v5 v6 v7 v8 v9 v10 = some (out_a1_im, out_a1_re, out_o_wingIm, out_o_wingRe) → va_P G vwCl (wX0_beatWings cI cJ cZ h_o h_a1 h_a2 h_a1_im h_a1_re h_a2_shifts h_o_turns h_o_wingIm h_o_wingRe h_o_turns_cos h_o_turns_sin h_o_spareRe h_o_spareIm h_a1_wasRe h_a1_wasIm h_a1_halved a1_exp a1_done a1_backward a2_size a2_log a2_wordBits a2_limit a2_radix a2_order a2_near a2_seed a2_stages a1_im a1_re a2_shifts o_wingIm o_wingRe o_turns_cos o_turns_sin) H → va_D A (wX0_beatWings cI cJ cZ h_o h_a1 h_a2 h_a1_im h_a1_re h_a2_shifts h_o_turns h_o_wingIm h_o_wingRe h_o_turns_cos h_o_turns_sin h_o_spareRe h_o_spareIm h_a1_wasRe h_a1_wasIm h_a1_halved a1_exp a1_done a1_backward a2_size a2_log a2_wordBits a2_limit a2_radix a2_order a2_near a2_seed a2_stages a1_im a1_re a2_shifts o_wingIm o_wingRe o_turns_cos o_turns_sin) → va_S A s.heap H locs → lv_has ls 13 [(0, .ref h_o), (1, .ref h_a1), (2, .ref h_a2), (5, .int v5), (6, .int v6), (7, .int v7), (8, .int v8), (9, .int v9), (10, .int v10)] → W p l e ({ frames := 3, cells := 0, slots := 0, locals := 82 } : Room) s m ([.ref h_o, .ref h_a1, .ref h_a2, .int p3] : List Value).toArray below meth c H locs 0 0 Q (F0 m 89 ls []) := by
    intro n
    induction n with
    | zero =>
      intro a1_im a1_re o_wingIm o_wingRe v5 v6 v7 v8 v9 v10 H locs ls hf
      have hf : (none : Option ((Nat → Int32) × (Nat → Int32) × (Nat → Int32) × (Nat → Int32))) = some (out_a1_im, out_a1_re, out_o_wingIm, out_o_wingRe) := hf
      cases hf
    | succ n ih =>
      intro a1_im a1_re o_wingIm o_wingRe v5 v6 v7 v8 v9 v10 H locs ls hf hP hD hS hl
      rw [fX0_beatWings_89.eq_2] at hf
      refine lv_iload hx hb dX0_beatWings_89 (lv_at hl 8 rfl) ?_
      refine lv_iload hx hb dX0_beatWings_91 (lv_at hl 7 rfl) ?_
      refine lv_icmp_ge (tgt := 148) hx hb dX0_beatWings_93 (by decide) (fun c_11 => ?_) (fun c_11 => ?_)
      · have hf := it_t c_11 hf
        cases hf
        exact hret _ _ _ _ dX0_beatWings_148 hP hD hS
      · have hf := it_f c_11 hf
        refine lv_iload hx hb dX0_beatWings_96 (lv_at hl 8 rfl) ?_
        refine lv_iload hx hb dX0_beatWings_98 (lv_at hl 4 rfl) ?_
        refine lv_iload hx hb dX0_beatWings_100 (lv_at hl 3 rfl) ?_
        refine lv_iadd hx hb dX0_beatWings_102 ?_
        refine lv_ishl hx hb dX0_beatWings_103 ?_
        refine lv_topi (fun v11_12 ev11_12 => ?_)
        have hf := nm_x ev11_12 hf
        refine lv_istore (lv' := [(11, .int v11_12), (0, .ref h_o), (1, .ref h_a1), (2, .ref h_a2), (5, .int v5), (6, .int v6), (7, .int v7), (8, .int v8), (9, .int v9), (10, .int v10)]) hx hb dX0_beatWings_104 hl (by decide) rfl (fun ls hl => ?_)
        refine lv_iconst (v := (0 : Int32)) hx hb dX0_beatWings_106 (by decide) ?_
        refine lv_istore (lv' := [(12, .int (0 : Int32)), (11, .int v11_12), (0, .ref h_o), (1, .ref h_a1), (2, .ref h_a2), (5, .int v5), (6, .int v6), (7, .int v7), (8, .int v8), (9, .int v9), (10, .int v10)]) hx hb dX0_beatWings_107 hl (by decide) rfl (fun ls hl => ?_)
        exact j109 (fX0_beatWings_89 a2_order a2_near o_turns_cos o_turns_sin n) ih FU a1_im a1_re o_wingIm o_wingRe v5 v6 v7 v8 v9 v10 v11_12 (0 : Int32) H locs ls hf hP hD hS (lv_sub hl [2, 3, 4, 5, 6, 7, 8, 9, 10, 1, 0] rfl)
  have j60 : ∀ (a1_im : Nat → Int32) (a1_re : Nat → Int32) (o_wingIm : Nat → Int32) (o_wingRe : Nat → Int32) (v5 : Int32) (s0 : Int32) (H : Heap) (locs : List Loc) (ls : Array Slot), fX0_beatWings_60 a2_log a2_order a2_near o_turns_cos o_turns_sin a1_im a1_re o_wingIm o_wingRe v5 s0 = some (out_a1_im, out_a1_re, out_o_wingIm, out_o_wingRe) → va_P G vwCl (wX0_beatWings cI cJ cZ h_o h_a1 h_a2 h_a1_im h_a1_re h_a2_shifts h_o_turns h_o_wingIm h_o_wingRe h_o_turns_cos h_o_turns_sin h_o_spareRe h_o_spareIm h_a1_wasRe h_a1_wasIm h_a1_halved a1_exp a1_done a1_backward a2_size a2_log a2_wordBits a2_limit a2_radix a2_order a2_near a2_seed a2_stages a1_im a1_re a2_shifts o_wingIm o_wingRe o_turns_cos o_turns_sin) H → va_D A (wX0_beatWings cI cJ cZ h_o h_a1 h_a2 h_a1_im h_a1_re h_a2_shifts h_o_turns h_o_wingIm h_o_wingRe h_o_turns_cos h_o_turns_sin h_o_spareRe h_o_spareIm h_a1_wasRe h_a1_wasIm h_a1_halved a1_exp a1_done a1_backward a2_size a2_log a2_wordBits a2_limit a2_radix a2_order a2_near a2_seed a2_stages a1_im a1_re a2_shifts o_wingIm o_wingRe o_turns_cos o_turns_sin) → va_S A s.heap H locs → lv_has ls 13 [(0, .ref h_o), (1, .ref h_a1), (2, .ref h_a2), (5, .int v5)] → W p l e ({ frames := 3, cells := 0, slots := 0, locals := 82 } : Room) s m ([.ref h_o, .ref h_a1, .ref h_a2, .int p3] : List Value).toArray below meth c H locs 0 0 Q (F0 m 60 ls [.int s0]) := by
    intro a1_im a1_re o_wingIm o_wingRe v5 s0 H locs ls hf hP hD hS hl
    unfold fX0_beatWings_60 at hf
    refine lv_istore (lv' := [(6, .int s0), (0, .ref h_o), (1, .ref h_a1), (2, .ref h_a2), (5, .int v5)]) hx hb dX0_beatWings_60 hl (by decide) rfl (fun ls hl => ?_)
    refine lv_iconst (v := (1 : Int32)) hx hb dX0_beatWings_62 (by decide) ?_
    refine lv_iload hx hb dX0_beatWings_63 (lv_at hl 0 rfl) ?_
    refine lv_ishl hx hb dX0_beatWings_65 ?_
    refine lv_topi (fun v7_8 ev7_8 => ?_)
    have hf := nm_x ev7_8 hf
    refine lv_istore (lv' := [(7, .int v7_8), (6, .int s0), (0, .ref h_o), (1, .ref h_a1), (2, .ref h_a2), (5, .int v5)]) hx hb dX0_beatWings_66 hl (by decide) rfl (fun ls hl => ?_)
    refine lv_aload_n hx hb dX0_beatWings_68 rfl (lv_at hl 4 rfl) ?_
    refine rd (ci := 8) (C := RX8) (T := TX8) (N := 10) hx hb hts inX8 hown hK hP 2 1 rfl rfl (by decide) (hts _ q_fX0_79) rfl dX0_beatWings_69 ?_
    refine lv_iload hx hb dX0_beatWings_72 (lv_at hl 1 rfl) ?_
    refine lv_isub hx hb dX0_beatWings_74 ?_
    refine lv_iload hx hb dX0_beatWings_75 (lv_at hl 5 rfl) ?_
    refine lv_isub hx hb dX0_beatWings_77 ?_
    refine lv_topi (fun v8_9 ev8_9 => ?_)
    have hf := nm_x ev8_9 hf
    refine lv_istore (lv' := [(8, .int v8_9), (7, .int v7_8), (6, .int s0), (0, .ref h_o), (1, .ref h_a1), (2, .ref h_a2), (5, .int v5)]) hx hb dX0_beatWings_78 hl (by decide) rfl (fun ls hl => ?_)
    refine lv_iconst (v := (1 : Int32)) hx hb dX0_beatWings_80 (by decide) ?_
    refine lv_iload hx hb dX0_beatWings_81 (lv_at hl 0 rfl) ?_
    refine lv_ishl hx hb dX0_beatWings_83 ?_
    refine lv_topi (fun v9_10 ev9_10 => ?_)
    have hf := nm_x ev9_10 hf
    refine lv_istore (lv' := [(9, .int v9_10), (8, .int v8_9), (7, .int v7_8), (6, .int s0), (0, .ref h_o), (1, .ref h_a1), (2, .ref h_a2), (5, .int v5)]) hx hb dX0_beatWings_84 hl (by decide) rfl (fun ls hl => ?_)
    refine lv_iconst (v := (0 : Int32)) hx hb dX0_beatWings_86 (by decide) ?_
    refine lv_istore (lv' := [(10, .int (0 : Int32)), (9, .int v9_10), (8, .int v8_9), (7, .int v7_8), (6, .int s0), (0, .ref h_o), (1, .ref h_a1), (2, .ref h_a2), (5, .int v5)]) hx hb dX0_beatWings_87 hl (by decide) rfl (fun ls hl => ?_)
    exact j89 FU a1_im a1_re o_wingIm o_wingRe v5 s0 v7_8 v8_9 v9_10 (0 : Int32) H locs ls hf hP hD hS (lv_sub hl [5, 6, 7, 8, 4, 3, 2, 1, 0] rfl)
  have j30 : ∀ (a1_im : Nat → Int32) (a1_re : Nat → Int32) (o_wingIm : Nat → Int32) (o_wingRe : Nat → Int32) (v3 : Int32) (v4 : Int32) (H : Heap) (locs : List Loc) (ls : Array Slot), fX0_beatWings_30 a2_log a2_order a2_near a2_shifts o_turns_cos o_turns_sin a1_im a1_re o_wingIm o_wingRe v3 v4 = some (out_a1_im, out_a1_re, out_o_wingIm, out_o_wingRe) → va_P G vwCl (wX0_beatWings cI cJ cZ h_o h_a1 h_a2 h_a1_im h_a1_re h_a2_shifts h_o_turns h_o_wingIm h_o_wingRe h_o_turns_cos h_o_turns_sin h_o_spareRe h_o_spareIm h_a1_wasRe h_a1_wasIm h_a1_halved a1_exp a1_done a1_backward a2_size a2_log a2_wordBits a2_limit a2_radix a2_order a2_near a2_seed a2_stages a1_im a1_re a2_shifts o_wingIm o_wingRe o_turns_cos o_turns_sin) H → va_D A (wX0_beatWings cI cJ cZ h_o h_a1 h_a2 h_a1_im h_a1_re h_a2_shifts h_o_turns h_o_wingIm h_o_wingRe h_o_turns_cos h_o_turns_sin h_o_spareRe h_o_spareIm h_a1_wasRe h_a1_wasIm h_a1_halved a1_exp a1_done a1_backward a2_size a2_log a2_wordBits a2_limit a2_radix a2_order a2_near a2_seed a2_stages a1_im a1_re a2_shifts o_wingIm o_wingRe o_turns_cos o_turns_sin) → va_S A s.heap H locs → lv_has ls 13 [(0, .ref h_o), (1, .ref h_a1), (2, .ref h_a2), (3, .int v3), (4, .int v4)] → W p l e ({ frames := 3, cells := 0, slots := 0, locals := 82 } : Room) s m ([.ref h_o, .ref h_a1, .ref h_a2, .int p3] : List Value).toArray below meth c H locs 0 0 Q (F0 m 30 ls []) := by
    intro a1_im a1_re o_wingIm o_wingRe v3 v4 H locs ls hf hP hD hS hl
    unfold fX0_beatWings_30 at hf
    refine lv_aload_n hx hb dX0_beatWings_30 rfl (lv_at hl 2 rfl) ?_
    refine rd (ci := 8) (C := RX8) (T := TX8) (N := 10) hx hb hts inX8 hown hK hP 2 9 rfl rfl (by decide) (hts _ q_fX0_113) rfl dX0_beatWings_31 ?_
    refine lv_iload_n hx hb dX0_beatWings_34 rfl (lv_at hl 3 rfl) ?_
    obtain ⟨g_5, hf⟩ := gd_x hf
    refine va_iald hx hb hK hP 5 0 rfl rfl (inb_x g_5) dX0_beatWings_35 ?_
    refine lv_topi (fun v5_6 ev5_6 => ?_)
    have hf := nm_x ev5_6 hf
    refine lv_istore (lv' := [(5, .int v5_6), (0, .ref h_o), (1, .ref h_a1), (2, .ref h_a2), (3, .int v3), (4, .int v4)]) hx hb dX0_beatWings_36 hl (by decide) rfl (fun ls hl => ?_)
    refine lv_aload_n hx hb dX0_beatWings_38 rfl (lv_at hl 3 rfl) ?_
    refine rd (ci := 8) (C := RX8) (T := TX8) (N := 10) hx hb hts inX8 hown hK hP 2 5 rfl rfl (by decide) (hts _ q_fX0_43) rfl dX0_beatWings_39 ?_
    refine lv_if_ne (tgt := 50) hx hb dX0_beatWings_42 (by decide) (fun c_7 => ?_) (fun c_7 => ?_)
    · have hf := it_f c_7 hf
      refine lv_aload_n hx hb dX0_beatWings_50 rfl (lv_at hl 3 rfl) ?_
      refine rd (ci := 8) (C := RX8) (T := TX8) (N := 10) hx hb hts inX8 hown hK hP 2 1 rfl rfl (by decide) (hts _ q_fX0_79) rfl dX0_beatWings_51 ?_
      refine lv_iload hx hb dX0_beatWings_54 (lv_at hl 5 rfl) ?_
      refine lv_isub hx hb dX0_beatWings_56 ?_
      refine lv_iload hx hb dX0_beatWings_57 (lv_at hl 0 rfl) ?_
      refine lv_isub hx hb dX0_beatWings_59 ?_
      exact j60 a1_im a1_re o_wingIm o_wingRe v5_6 ((a2_log - v4) - v5_6) H locs ls hf hP hD hS (lv_sub hl [1, 2, 3, 0] rfl)
    · have hf := it_t c_7 hf
      refine lv_iload hx hb dX0_beatWings_45 (lv_at hl 5 rfl) ?_
      refine lv_goto (tgt := 60) hx hb dX0_beatWings_47 (by decide) ?_
      exact j60 a1_im a1_re o_wingIm o_wingRe v5_6 v4 H locs ls hf hP hD hS (lv_sub hl [1, 2, 3, 0] rfl)
  have j6 : ∀ (n : Nat) (a1_im : Nat → Int32) (a1_re : Nat → Int32) (o_wingIm : Nat → Int32) (o_wingRe : Nat → Int32) (v3 : Int32) (v4 : Int32) (v5 : Int32) (H : Heap) (locs : List Loc) (ls : Array Slot), fX0_beatWings_6 a2_log a2_order a2_near a2_shifts o_turns_cos o_turns_sin n a1_im a1_re o_wingIm o_wingRe v3 v4 v5 = some (out_a1_im, out_a1_re, out_o_wingIm, out_o_wingRe) → va_P G vwCl (wX0_beatWings cI cJ cZ h_o h_a1 h_a2 h_a1_im h_a1_re h_a2_shifts h_o_turns h_o_wingIm h_o_wingRe h_o_turns_cos h_o_turns_sin h_o_spareRe h_o_spareIm h_a1_wasRe h_a1_wasIm h_a1_halved a1_exp a1_done a1_backward a2_size a2_log a2_wordBits a2_limit a2_radix a2_order a2_near a2_seed a2_stages a1_im a1_re a2_shifts o_wingIm o_wingRe o_turns_cos o_turns_sin) H → va_D A (wX0_beatWings cI cJ cZ h_o h_a1 h_a2 h_a1_im h_a1_re h_a2_shifts h_o_turns h_o_wingIm h_o_wingRe h_o_turns_cos h_o_turns_sin h_o_spareRe h_o_spareIm h_a1_wasRe h_a1_wasIm h_a1_halved a1_exp a1_done a1_backward a2_size a2_log a2_wordBits a2_limit a2_radix a2_order a2_near a2_seed a2_stages a1_im a1_re a2_shifts o_wingIm o_wingRe o_turns_cos o_turns_sin) → va_S A s.heap H locs → lv_has ls 13 [(0, .ref h_o), (1, .ref h_a1), (2, .ref h_a2), (3, .int v3), (4, .int v4), (5, .int v5)] → W p l e ({ frames := 3, cells := 0, slots := 0, locals := 82 } : Room) s m ([.ref h_o, .ref h_a1, .ref h_a2, .int p3] : List Value).toArray below meth c H locs 0 0 Q (F0 m 6 ls []) := by
    intro n
    induction n with
    | zero =>
      intro a1_im a1_re o_wingIm o_wingRe v3 v4 v5 H locs ls hf
      have hf : (none : Option ((Nat → Int32) × (Nat → Int32) × (Nat → Int32) × (Nat → Int32))) = some (out_a1_im, out_a1_re, out_o_wingIm, out_o_wingRe) := hf
      cases hf
    | succ n ih =>
      intro a1_im a1_re o_wingIm o_wingRe v3 v4 v5 H locs ls hf hP hD hS hl
      rw [fX0_beatWings_6.eq_2] at hf
      refine lv_iload hx hb dX0_beatWings_6 (lv_at hl 5 rfl) ?_
      refine lv_iload_n hx hb dX0_beatWings_8 rfl (lv_at hl 3 rfl) ?_
      refine lv_icmp_ge (tgt := 30) hx hb dX0_beatWings_9 (by decide) (fun c_1 => ?_) (fun c_1 => ?_)
      · have hf := it_t c_1 hf
        exact j30 a1_im a1_re o_wingIm o_wingRe v3 v4 H locs ls hf hP hD hS (lv_sub hl [0, 1, 2, 3, 4] rfl)
      · have hf := it_f c_1 hf
        refine lv_iload hx hb dX0_beatWings_12 (lv_at hl 4 rfl) ?_
        refine lv_aload_n hx hb dX0_beatWings_14 rfl (lv_at hl 2 rfl) ?_
        refine rd (ci := 8) (C := RX8) (T := TX8) (N := 10) hx hb hts inX8 hown hK hP 2 9 rfl rfl (by decide) (hts _ q_fX0_113) rfl dX0_beatWings_15 ?_
        refine lv_iload hx hb dX0_beatWings_18 (lv_at hl 5 rfl) ?_
        obtain ⟨g_2, hf⟩ := gd_x hf
        refine va_iald hx hb hK hP 5 0 rfl rfl (inb_x g_2) dX0_beatWings_20 ?_
        refine lv_iadd hx hb dX0_beatWings_21 ?_
        refine lv_topi (fun v4_3 ev4_3 => ?_)
        have hf := nm_x ev4_3 hf
        refine lv_istore (lv' := [(4, .int v4_3), (0, .ref h_o), (1, .ref h_a1), (2, .ref h_a2), (3, .int v3), (5, .int v5)]) hx hb dX0_beatWings_22 hl (by decide) rfl (fun ls hl => ?_)
        obtain ⟨v5_4, ev5_4⟩ : ∃ y : Int32, y = v5 + (1 : Int32) := ⟨_, rfl⟩
        have hf := nm_x ev5_4 hf
        refine lv_iinc (v := v5_4) (lv' := [(5, .int v5_4), (4, .int v4_3), (0, .ref h_o), (1, .ref h_a1), (2, .ref h_a2), (3, .int v3)]) hx hb dX0_beatWings_24 hl (k := 5) rfl (by rw [ev5_4]; rfl) (by decide) rfl (fun ls hl => ?_)
        refine lv_goto (tgt := 6) hx hb dX0_beatWings_27 (by decide) ?_
        exact ih a1_im a1_re o_wingIm o_wingRe v3 v4_3 v5_4 H locs ls hf hP hD hS (lv_sub hl [2, 3, 4, 5, 1, 0] rfl)
  unfold fX0_beatWings at hf
  obtain ⟨H, eH⟩ : ∃ H, H = s.heap := ⟨_, rfl⟩
  obtain ⟨locs, elocs⟩ : ∃ z : List Loc, z = [] := ⟨_, rfl⟩
  have hP : va_P G vwCl (wX0_beatWings cI cJ cZ h_o h_a1 h_a2 h_a1_im h_a1_re h_a2_shifts h_o_turns h_o_wingIm h_o_wingRe h_o_turns_cos h_o_turns_sin h_o_spareRe h_o_spareIm h_a1_wasRe h_a1_wasIm h_a1_halved a1_exp a1_done a1_backward a2_size a2_log a2_wordBits a2_limit a2_radix a2_order a2_near a2_seed a2_stages a1_im a1_re a2_shifts o_wingIm o_wingRe o_turns_cos o_turns_sin) H := by rw [eH]; exact hP
  have hS : va_S A s.heap H locs := by rw [eH, elocs]; exact hS
  suffices hgo : W p l e ({ frames := 3, cells := 0, slots := 0, locals := 82 } : Room) s m ([.ref h_o, .ref h_a1, .ref h_a2, .int p3] : List Value).toArray below meth c H locs 0 0 Q (F0 m 0 ls []) by rw [eH, elocs] at hgo; exact hgo
  clear eH elocs
  refine lv_iconst (v := (0 : Int32)) hx hb dX0_beatWings_0 (by decide) ?_
  refine lv_istore (lv' := [(4, .int (0 : Int32)), (0, .ref h_o), (1, .ref h_a1), (2, .ref h_a2), (3, .int p3)]) hx hb dX0_beatWings_1 hl (by decide) rfl (fun ls hl => ?_)
  refine lv_iconst (v := (0 : Int32)) hx hb dX0_beatWings_3 (by decide) ?_
  refine lv_istore (lv' := [(5, .int (0 : Int32)), (4, .int (0 : Int32)), (0, .ref h_o), (1, .ref h_a1), (2, .ref h_a2), (3, .int p3)]) hx hb dX0_beatWings_4 hl (by decide) rfl (fun ls hl => ?_)
  exact j6 FU a1_im a1_re o_wingIm o_wingRe p3 (0 : Int32) (0 : Int32) H locs ls hf hP hD hS (lv_sub hl [2, 3, 4, 5, 1, 0] rfl)
def wX0_doStage (cI cJ cZ : ClassId) (h_o h_a1 h_a2 h_a1_halved h_a1_im h_a1_re h_a2_shifts h_o_spareIm h_o_spareRe h_o_turns h_o_wingIm h_o_wingRe h_o_turns_cos h_o_turns_sin h_a1_wasRe h_a1_wasIm : Nat) (a1_exp : Int32) (a1_done : Int32) (a1_backward : Int32) (a2_size : Int32) (a2_log : Int32) (a2_wordBits : Int32) (a2_limit : Int32) (a2_radix : Int32) (a2_order : Int32) (a2_near : Int32) (a2_seed : Int32) (a2_stages : Int32) (a1_halved : Nat → Int32) (a1_im : Nat → Int32) (a1_re : Nat → Int32) (a2_shifts : Nat → Int32) (o_spareIm : Nat → Int32) (o_spareRe : Nat → Int32) (o_wingIm : Nat → Int32) (o_wingRe : Nat → Int32) (o_turns_cos : Nat → Int32) (o_turns_sin : Nat → Int32) : va_W := [(h_o, .inr (0, [.ref h_o_turns, .ref h_o_spareRe, .ref h_o_spareIm, .ref h_o_wingRe, .ref h_o_wingIm])), (h_a1, .inr (7, [.ref h_a1_re, .ref h_a1_im, .ref h_a1_wasRe, .ref h_a1_wasIm, .ref h_a1_halved, .int a1_exp, .int a1_done, .int a1_backward])), (h_a2, .inr (8, [.int a2_size, .int a2_log, .int a2_wordBits, .int a2_limit, .int a2_radix, .int a2_order, .int a2_near, .int a2_seed, .int a2_stages, .ref h_a2_shifts])), (h_a1_halved, .inl (cI, 5, .inl a1_halved)), (h_a1_im, .inl (cI, 32, .inl a1_im)), (h_a1_re, .inl (cI, 32, .inl a1_re)), (h_a2_shifts, .inl (cI, 5, .inl a2_shifts)), (h_o_spareIm, .inl (cI, 32, .inl o_spareIm)), (h_o_spareRe, .inl (cI, 32, .inl o_spareRe)), (h_o_turns, .inr (6, [.ref h_o_turns_cos, .ref h_o_turns_sin])), (h_o_wingIm, .inl (cI, 4, .inl o_wingIm)), (h_o_wingRe, .inl (cI, 4, .inl o_wingRe)), (h_o_turns_cos, .inl (cI, 32, .inl o_turns_cos)), (h_o_turns_sin, .inl (cI, 32, .inl o_turns_sin))]
def fX0_doStage_90 (a1_backward : Int32) (a2_size : Int32) (a2_log : Int32) (a1_exp : Int32) (a1_done : Int32) (a1_halved : Nat → Int32) (a1_im : Nat → Int32) (a1_re : Nat → Int32) (o_spareIm : Nat → Int32) (o_spareRe : Nat → Int32) (o_wingIm : Nat → Int32) (o_wingRe : Nat → Int32) (v4 : Int32) (v5 : Int32) (v6 : Int32) : Option (Int32 × Int32 × Int32 × (Nat → Int32) × (Nat → Int32) × (Nat → Int32) × (Nat → Int32) × (Nat → Int32) × (Nat → Int32) × (Nat → Int32)) :=
  gd (inb v4 5) (
  nm (upd a1_halved (Int32.toNatClampNeg v4) v6) (fun a1_halved_29 =>
  nm (a1_exp + v6) (fun u_30 =>
  nm (a1_done + (1 : Int32)) (fun u_31 =>
  if a1_backward = 0 then (
    some (v6, u_30, u_31, a1_halved_29, a1_im, a1_re, o_spareIm, o_spareRe, o_wingIm, o_wingRe)
  ) else (
    if v5 = 0 then (
      some (v6, u_30, u_31, a1_halved_29, a1_im, a1_re, o_spareIm, o_spareRe, o_wingIm, o_wingRe)
    ) else (
      bd1 (fX7_flipIm a1_im a2_size) (fun a1_im_34 =>
      nm (u_30 - a2_log) (fun u_36 =>
      some (v6, u_36, u_31, a1_halved_29, a1_im_34, a1_re, o_spareIm, o_spareRe, o_wingIm, o_wingRe)))
    )
  )))))
def fX0_doStage_62 (a1_backward : Int32) (a2_size : Int32) (a2_log : Int32) (a2_order : Int32) (a2_near : Int32) (a2_stages : Int32) (a2_shifts : Nat → Int32) (o_turns_cos : Nat → Int32) (o_turns_sin : Nat → Int32) (a1_exp : Int32) (a1_done : Int32) (a1_halved : Nat → Int32) (a1_im : Nat → Int32) (a1_re : Nat → Int32) (o_spareIm : Nat → Int32) (o_spareRe : Nat → Int32) (o_wingIm : Nat → Int32) (o_wingRe : Nat → Int32) (v4 : Int32) (v5 : Int32) (s0 : Int32) : Option (Int32 × Int32 × Int32 × (Nat → Int32) × (Nat → Int32) × (Nat → Int32) × (Nat → Int32) × (Nat → Int32) × (Nat → Int32) × (Nat → Int32)) :=
  bd4 (fX0_beatWings a2_log a2_order a2_near a1_im a1_re a2_shifts o_wingIm o_wingRe o_turns_cos o_turns_sin v4) (fun a1_im_16 a1_re_17 o_wingIm_18 o_wingRe_19 =>
  if a2_order = 0 then (
    fX0_doStage_90 a1_backward a2_size a2_log a1_exp a1_done a1_halved a1_im_16 a1_re_17 o_spareIm o_spareRe o_wingIm_18 o_wingRe_19 v4 v5 s0
  ) else (
    if v5 = 0 then (
      fX0_doStage_90 a1_backward a2_size a2_log a1_exp a1_done a1_halved a1_im_16 a1_re_17 o_spareIm o_spareRe o_wingIm_18 o_wingRe_19 v4 v5 s0
    ) else (
      bd4 (fX0_reverseAll a2_size a2_stages a1_im_16 a1_re_17 a2_shifts o_spareIm o_spareRe) (fun a1_im_23 a1_re_24 o_spareIm_25 o_spareRe_26 =>
      fX0_doStage_90 a1_backward a2_size a2_log a1_exp a1_done a1_halved a1_im_23 a1_re_24 o_spareIm_25 o_spareRe_26 o_wingIm_18 o_wingRe_19 v4 v5 s0)
    )
  ))
def fX0_doStage_42 (a1_backward : Int32) (a2_size : Int32) (a2_log : Int32) (a2_limit : Int32) (a2_order : Int32) (a2_near : Int32) (a2_stages : Int32) (a2_shifts : Nat → Int32) (o_turns_cos : Nat → Int32) (o_turns_sin : Nat → Int32) (a1_exp : Int32) (a1_done : Int32) (a1_halved : Nat → Int32) (a1_im : Nat → Int32) (a1_re : Nat → Int32) (o_spareIm : Nat → Int32) (o_spareRe : Nat → Int32) (o_wingIm : Nat → Int32) (o_wingRe : Nat → Int32) (v3 : Int32) (v4 : Int32) (v5 : Int32) : Option (Int32 × Int32 × Int32 × (Nat → Int32) × (Nat → Int32) × (Nat → Int32) × (Nat → Int32) × (Nat → Int32) × (Nat → Int32) × (Nat → Int32)) :=
  if v3 = 0 then (
    fX0_doStage_62 a1_backward a2_size a2_log a2_order a2_near a2_stages a2_shifts o_turns_cos o_turns_sin a1_exp a1_done a1_halved a1_im a1_re o_spareIm o_spareRe o_wingIm o_wingRe v4 v5 (0 : Int32)
  ) else (
    bd1 (fX8_growOf a2_order a2_shifts v4) (fun r_10 =>
    bd3 (fX0_halveAsNeeded a2_size a2_limit a2_near a1_im a1_re r_10) (fun r_12 a1_im_13 a1_re_14 =>
    fX0_doStage_62 a1_backward a2_size a2_log a2_order a2_near a2_stages a2_shifts o_turns_cos o_turns_sin a1_exp a1_done a1_halved a1_im_13 a1_re_14 o_spareIm o_spareRe o_wingIm o_wingRe v4 v5 r_12))
  )
def fX0_doStage_22 (a1_backward : Int32) (a2_size : Int32) (a2_log : Int32) (a2_limit : Int32) (a2_order : Int32) (a2_near : Int32) (a2_stages : Int32) (a2_shifts : Nat → Int32) (o_turns_cos : Nat → Int32) (o_turns_sin : Nat → Int32) (a1_exp : Int32) (a1_done : Int32) (a1_halved : Nat → Int32) (a1_im : Nat → Int32) (a1_re : Nat → Int32) (o_spareIm : Nat → Int32) (o_spareRe : Nat → Int32) (o_wingIm : Nat → Int32) (o_wingRe : Nat → Int32) (v3 : Int32) (v4 : Int32) (s0 : Int32) : Option (Int32 × Int32 × Int32 × (Nat → Int32) × (Nat → Int32) × (Nat → Int32) × (Nat → Int32) × (Nat → Int32) × (Nat → Int32) × (Nat → Int32)) :=
  if a2_order = 0 then (
    if v4 = 0 then (
      bd4 (fX0_reverseAll a2_size a2_stages a1_im a1_re a2_shifts o_spareIm o_spareRe) (fun a1_im_4 a1_re_5 o_spareIm_6 o_spareRe_7 =>
      fX0_doStage_42 a1_backward a2_size a2_log a2_limit a2_order a2_near a2_stages a2_shifts o_turns_cos o_turns_sin a1_exp a1_done a1_halved a1_im_4 a1_re_5 o_spareIm_6 o_spareRe_7 o_wingIm o_wingRe v3 v4 s0)
    ) else (
      fX0_doStage_42 a1_backward a2_size a2_log a2_limit a2_order a2_near a2_stages a2_shifts o_turns_cos o_turns_sin a1_exp a1_done a1_halved a1_im a1_re o_spareIm o_spareRe o_wingIm o_wingRe v3 v4 s0
    )
  ) else (
    fX0_doStage_42 a1_backward a2_size a2_log a2_limit a2_order a2_near a2_stages a2_shifts o_turns_cos o_turns_sin a1_exp a1_done a1_halved a1_im a1_re o_spareIm o_spareRe o_wingIm o_wingRe v3 v4 s0
  )
def fX0_doStage (a1_exp : Int32) (a1_done : Int32) (a1_backward : Int32) (a2_size : Int32) (a2_log : Int32) (a2_limit : Int32) (a2_order : Int32) (a2_near : Int32) (a2_stages : Int32) (a1_halved : Nat → Int32) (a1_im : Nat → Int32) (a1_re : Nat → Int32) (a2_shifts : Nat → Int32) (o_spareIm : Nat → Int32) (o_spareRe : Nat → Int32) (o_wingIm : Nat → Int32) (o_wingRe : Nat → Int32) (o_turns_cos : Nat → Int32) (o_turns_sin : Nat → Int32) (p3 : Int32) : Option (Int32 × Int32 × Int32 × (Nat → Int32) × (Nat → Int32) × (Nat → Int32) × (Nat → Int32) × (Nat → Int32) × (Nat → Int32) × (Nat → Int32)) :=
  if a1_done = (a2_stages - (1 : Int32)) then (
    fX0_doStage_22 a1_backward a2_size a2_log a2_limit a2_order a2_near a2_stages a2_shifts o_turns_cos o_turns_sin a1_exp a1_done a1_halved a1_im a1_re o_spareIm o_spareRe o_wingIm o_wingRe p3 a1_done (1 : Int32)
  ) else (
    fX0_doStage_22 a1_backward a2_size a2_log a2_limit a2_order a2_near a2_stages a2_shifts o_turns_cos o_turns_sin a1_exp a1_done a1_halved a1_im a1_re o_spareIm o_spareRe o_wingIm o_wingRe p3 a1_done (0 : Int32)
  )
set_option maxHeartbeats 4000000 in
set_option maxRecDepth 100000 in
theorem tX0_doStage (l : Launch) (G : va_G) (cI cJ cZ : ClassId) (sz : Nat) (h_o h_a1 h_a2 h_a1_halved h_a1_im h_a1_re h_a2_shifts h_o_spareIm h_o_spareRe h_o_turns h_o_wingIm h_o_wingRe h_o_turns_cos h_o_turns_sin h_a1_wasRe h_a1_wasIm : Nat) (a1_exp : Int32) (a1_done : Int32) (a1_backward : Int32) (a2_size : Int32) (a2_log : Int32) (a2_wordBits : Int32) (a2_limit : Int32) (a2_radix : Int32) (a2_order : Int32) (a2_near : Int32) (a2_seed : Int32) (a2_stages : Int32) (a1_halved : Nat → Int32) (a1_im : Nat → Int32) (a1_re : Nat → Int32) (a2_shifts : Nat → Int32) (o_spareIm : Nat → Int32) (o_spareRe : Nat → Int32) (o_wingIm : Nat → Int32) (o_wingRe : Nat → Int32) (o_turns_cos : Nat → Int32) (o_turns_sin : Nat → Int32) (p3 : Int32) (r : Int32) (out_a1_exp : Int32) (out_a1_done : Int32) (out_a1_halved : Nat → Int32) (out_a1_im : Nat → Int32) (out_a1_re : Nat → Int32) (out_o_spareIm : Nat → Int32) (out_o_spareRe : Nat → Int32) (out_o_wingIm : Nat → Int32) (out_o_wingRe : Nat → Int32) (hf : fX0_doStage a1_exp a1_done a1_backward a2_size a2_log a2_limit a2_order a2_near a2_stages a1_halved a1_im a1_re a2_shifts o_spareIm o_spareRe o_wingIm o_wingRe o_turns_cos o_turns_sin p3 = some (r, out_a1_exp, out_a1_done, out_a1_halved, out_a1_im, out_a1_re, out_o_spareIm, out_o_spareRe, out_o_wingIm, out_o_wingRe)) : Met l yX0_doStage (Cond.code yX0_doStage cX0_doStage 7 (some .int) :: BIG) ({ frames := 4, cells := 0, slots := 0, locals := 114 } : Room) (cP G (TY3 cI cJ cZ) [.ref h_o, .ref h_a1, .ref h_a2, .int p3] sz (wX0_doStage cI cJ cZ h_o h_a1 h_a2 h_a1_halved h_a1_im h_a1_re h_a2_shifts h_o_spareIm h_o_spareRe h_o_turns h_o_wingIm h_o_wingRe h_o_turns_cos h_o_turns_sin h_a1_wasRe h_a1_wasIm a1_exp a1_done a1_backward a2_size a2_log a2_wordBits a2_limit a2_radix a2_order a2_near a2_seed a2_stages a1_halved a1_im a1_re a2_shifts o_spareIm o_spareRe o_wingIm o_wingRe o_turns_cos o_turns_sin)) (cQ G (TY3 cI cJ cZ) sz (wX0_doStage cI cJ cZ h_o h_a1 h_a2 h_a1_halved h_a1_im h_a1_re h_a2_shifts h_o_spareIm h_o_spareRe h_o_turns h_o_wingIm h_o_wingRe h_o_turns_cos h_o_turns_sin h_a1_wasRe h_a1_wasIm a1_exp a1_done a1_backward a2_size a2_log a2_wordBits a2_limit a2_radix a2_order a2_near a2_seed a2_stages a1_halved a1_im a1_re a2_shifts o_spareIm o_spareRe o_wingIm o_wingRe o_turns_cos o_turns_sin) (wX0_doStage cI cJ cZ h_o h_a1 h_a2 h_a1_halved h_a1_im h_a1_re h_a2_shifts h_o_spareIm h_o_spareRe h_o_turns h_o_wingIm h_o_wingRe h_o_turns_cos h_o_turns_sin h_a1_wasRe h_a1_wasIm out_a1_exp out_a1_done a1_backward a2_size a2_log a2_wordBits a2_limit a2_radix a2_order a2_near a2_seed a2_stages out_a1_halved out_a1_im out_a1_re a2_shifts out_o_spareIm out_o_spareRe out_o_wingIm out_o_wingRe o_turns_cos o_turns_sin) (some (.int r))) 0 0 (va_A (wX0_doStage cI cJ cZ h_o h_a1 h_a2 h_a1_halved h_a1_im h_a1_re h_a2_shifts h_o_spareIm h_o_spareRe h_o_turns h_o_wingIm h_o_wingRe h_o_turns_cos h_o_turns_sin h_a1_wasRe h_a1_wasIm a1_exp a1_done a1_backward a2_size a2_log a2_wordBits a2_limit a2_radix a2_order a2_near a2_seed a2_stages a1_halved a1_im a1_re a2_shifts o_spareIm o_spareRe o_wingIm o_wingRe o_turns_cos o_turns_sin) sz) := by
  refine met_i (cc := cX0_doStage) (maxL := 7) (plainFor_of_name (by decide)) (Nat.le_of_ble_eq_true rfl) (fun p e s m below meth c A ls Q hx hb hml hts hown hK hP hD hS hA hl hret => ?_)
  have hown : s.vm.findClass RX0 = some m.cls := hown
  have hl : lv_has ls 7 [(0, .ref h_o), (1, .ref h_a1), (2, .ref h_a2), (3, .int p3)] := hl
  have j90 : ∀ (a1_exp : Int32) (a1_done : Int32) (a1_halved : Nat → Int32) (a1_im : Nat → Int32) (a1_re : Nat → Int32) (o_spareIm : Nat → Int32) (o_spareRe : Nat → Int32) (o_wingIm : Nat → Int32) (o_wingRe : Nat → Int32) (v4 : Int32) (v5 : Int32) (v6 : Int32) (H : Heap) (locs : List Loc) (ls : Array Slot), fX0_doStage_90 a1_backward a2_size a2_log a1_exp a1_done a1_halved a1_im a1_re o_spareIm o_spareRe o_wingIm o_wingRe v4 v5 v6 = some (r, out_a1_exp, out_a1_done, out_a1_halved, out_a1_im, out_a1_re, out_o_spareIm, out_o_spareRe, out_o_wingIm, out_o_wingRe) → va_P G vwCl (wX0_doStage cI cJ cZ h_o h_a1 h_a2 h_a1_halved h_a1_im h_a1_re h_a2_shifts h_o_spareIm h_o_spareRe h_o_turns h_o_wingIm h_o_wingRe h_o_turns_cos h_o_turns_sin h_a1_wasRe h_a1_wasIm a1_exp a1_done a1_backward a2_size a2_log a2_wordBits a2_limit a2_radix a2_order a2_near a2_seed a2_stages a1_halved a1_im a1_re a2_shifts o_spareIm o_spareRe o_wingIm o_wingRe o_turns_cos o_turns_sin) H → va_D A (wX0_doStage cI cJ cZ h_o h_a1 h_a2 h_a1_halved h_a1_im h_a1_re h_a2_shifts h_o_spareIm h_o_spareRe h_o_turns h_o_wingIm h_o_wingRe h_o_turns_cos h_o_turns_sin h_a1_wasRe h_a1_wasIm a1_exp a1_done a1_backward a2_size a2_log a2_wordBits a2_limit a2_radix a2_order a2_near a2_seed a2_stages a1_halved a1_im a1_re a2_shifts o_spareIm o_spareRe o_wingIm o_wingRe o_turns_cos o_turns_sin) → va_S A s.heap H locs → lv_has ls 7 [(1, .ref h_a1), (2, .ref h_a2), (4, .int v4), (5, .int v5), (6, .int v6)] → W p l e ({ frames := 4, cells := 0, slots := 0, locals := 114 } : Room) s m ([.ref h_o, .ref h_a1, .ref h_a2, .int p3] : List Value).toArray below meth c H locs 0 0 Q (F0 m 90 ls []) := by
    intro a1_exp a1_done a1_halved a1_im a1_re o_spareIm o_spareRe o_wingIm o_wingRe v4 v5 v6 H locs ls hf hP hD hS hl
    unfold fX0_doStage_90 at hf
    refine lv_aload_n hx hb dX0_doStage_90 rfl (lv_at hl 0 rfl) ?_
    refine rd (ci := 7) (C := RX7) (T := TX7) (N := 8) hx hb hts inX7 hown hK hP 1 4 rfl rfl (by decide) (hts _ q_fX0_62) rfl dX0_doStage_91 ?_
    refine lv_iload hx hb dX0_doStage_94 (lv_at hl 2 rfl) ?_
    refine lv_iload hx hb dX0_doStage_96 (lv_at hl 4 rfl) ?_
    obtain ⟨g_28, hf⟩ := gd_x hf
    obtain ⟨a1_halved_29, ea1_halved_29⟩ : ∃ y : Nat → Int32, y = upd a1_halved (Int32.toNatClampNeg v4) v6 := ⟨_, rfl⟩
    have hf := nm_x ea1_halved_29 hf
    refine ist hx hb hK hP hD hS 3 0 rfl rfl (inb_x g_28) dX0_doStage_98 ea1_halved_29 (ws2 := (wX0_doStage cI cJ cZ h_o h_a1 h_a2 h_a1_halved h_a1_im h_a1_re h_a2_shifts h_o_spareIm h_o_spareRe h_o_turns h_o_wingIm h_o_wingRe h_o_turns_cos h_o_turns_sin h_a1_wasRe h_a1_wasIm a1_exp a1_done a1_backward a2_size a2_log a2_wordBits a2_limit a2_radix a2_order a2_near a2_seed a2_stages a1_halved_29 a1_im a1_re a2_shifts o_spareIm o_spareRe o_wingIm o_wingRe o_turns_cos o_turns_sin)) rfl (fun H locs hP hD hS => ?_)
    refine lv_aload_n hx hb dX0_doStage_99 rfl (lv_at hl 0 rfl) ?_
    refine lv_dup hx hb dX0_doStage_100 rfl ?_
    refine rd (ci := 7) (C := RX7) (T := TX7) (N := 8) hx hb hts inX7 hown hK hP 1 5 rfl rfl (by decide) (hts _ q_fX0_65) rfl dX0_doStage_101 ?_
    refine lv_iload hx hb dX0_doStage_104 (lv_at hl 4 rfl) ?_
    refine lv_iadd hx hb dX0_doStage_106 ?_
    refine lv_topi (fun u_30 eu_30 => ?_)
    have hf := nm_x eu_30 hf
    refine wr (ci := 7) (C := RX7) (T := TX7) (N := 8) hx hb hts inX7 tyX7 tyX7_ok nmX7 hown hK hP hD hS 1 5 rfl rfl (by decide) (hts _ q_fX0_65) rfl rfl rfl (Nat.le_of_ble_eq_true rfl) dX0_doStage_107 (ws2 := (wX0_doStage cI cJ cZ h_o h_a1 h_a2 h_a1_halved h_a1_im h_a1_re h_a2_shifts h_o_spareIm h_o_spareRe h_o_turns h_o_wingIm h_o_wingRe h_o_turns_cos h_o_turns_sin h_a1_wasRe h_a1_wasIm u_30 a1_done a1_backward a2_size a2_log a2_wordBits a2_limit a2_radix a2_order a2_near a2_seed a2_stages a1_halved_29 a1_im a1_re a2_shifts o_spareIm o_spareRe o_wingIm o_wingRe o_turns_cos o_turns_sin)) rfl (fun H locs hP hD hS => ?_)
    refine lv_aload_n hx hb dX0_doStage_110 rfl (lv_at hl 0 rfl) ?_
    refine lv_dup hx hb dX0_doStage_111 rfl ?_
    refine rd (ci := 7) (C := RX7) (T := TX7) (N := 8) hx hb hts inX7 hown hK hP 1 6 rfl rfl (by decide) (hts _ q_fX0_28) rfl dX0_doStage_112 ?_
    refine lv_iconst (v := (1 : Int32)) hx hb dX0_doStage_115 (by decide) ?_
    refine lv_iadd hx hb dX0_doStage_116 ?_
    refine lv_topi (fun u_31 eu_31 => ?_)
    have hf := nm_x eu_31 hf
    refine wr (ci := 7) (C := RX7) (T := TX7) (N := 8) hx hb hts inX7 tyX7 tyX7_ok nmX7 hown hK hP hD hS 1 6 rfl rfl (by decide) (hts _ q_fX0_28) rfl rfl rfl (Nat.le_of_ble_eq_true rfl) dX0_doStage_117 (ws2 := (wX0_doStage cI cJ cZ h_o h_a1 h_a2 h_a1_halved h_a1_im h_a1_re h_a2_shifts h_o_spareIm h_o_spareRe h_o_turns h_o_wingIm h_o_wingRe h_o_turns_cos h_o_turns_sin h_a1_wasRe h_a1_wasIm u_30 u_31 a1_backward a2_size a2_log a2_wordBits a2_limit a2_radix a2_order a2_near a2_seed a2_stages a1_halved_29 a1_im a1_re a2_shifts o_spareIm o_spareRe o_wingIm o_wingRe o_turns_cos o_turns_sin)) rfl (fun H locs hP hD hS => ?_)
    refine lv_aload_n hx hb dX0_doStage_120 rfl (lv_at hl 0 rfl) ?_
    refine rd (ci := 7) (C := RX7) (T := TX7) (N := 8) hx hb hts inX7 hown hK hP 1 7 rfl rfl (by decide) (hts _ q_fX0_68) rfl dX0_doStage_121 ?_
    refine lv_if_eq (tgt := 153) hx hb dX0_doStage_124 (by decide) (fun c_32 => ?_) (fun c_32 => ?_)
    · have hf := it_t c_32 hf
      refine lv_iload hx hb dX0_doStage_153 (lv_at hl 4 rfl) ?_
      cases hf
      exact hret _ _ _ _ dX0_doStage_155 hP hD hS
    · have hf := it_f c_32 hf
      refine lv_iload hx hb dX0_doStage_127 (lv_at hl 3 rfl) ?_
      refine lv_if_eq (tgt := 153) hx hb dX0_doStage_129 (by decide) (fun c_33 => ?_) (fun c_33 => ?_)
      · have hf := it_t c_33 hf
        refine lv_iload hx hb dX0_doStage_153 (lv_at hl 4 rfl) ?_
        cases hf
        exact hret _ _ _ _ dX0_doStage_155 hP hD hS
      · have hf := it_f c_33 hf
        refine lv_aload_n hx hb dX0_doStage_132 rfl (lv_at hl 0 rfl) ?_
        refine lv_aload_n hx hb dX0_doStage_133 rfl (lv_at hl 1 rfl) ?_
        refine rd (ci := 8) (C := RX8) (T := TX8) (N := 10) hx hb hts inX8 hown hK hP 2 0 rfl rfl (by decide) (hts _ q_fX0_72) rfl dX0_doStage_134 ?_
        obtain ⟨a1_im_34, e_35, hf⟩ := bd1_x hf
        refine call_v [.int a2_size] [] ⟨hx, hb, hml, hown, hts⟩ hK hP hD hS hA hl.1 (tX7_flipIm l G cI cJ cZ H.size h_a1 h_a1_im h_a1_re h_a1_wasRe h_a1_wasIm h_a1_halved u_30 u_31 a1_backward a1_im a2_size a1_im_34 e_35) (cwV 1 hts (gv q_mX0_75 q_i_yX7_flipIm q_s_yX7_flipIm q_n_RX7 q_k_yX7_flipIm) rfl rfl rfl (by decide +kernel) ⟨by decide, by decide⟩) rfl rfl (Nat.le_of_ble_eq_true rfl) dX0_doStage_137 ⟨Nat.zero_le _, Nat.zero_le _⟩ (ci := 7) rfl 0 rfl [1, 4] [0, 2, 3, 5, 6, 7, 8, 9, 10, 11, 12, 13] [0, 12, 1, 2, 13, 3, 4, 5, 6, 7, 8, 9, 10, 11] rfl rfl (ws2 := (wX0_doStage cI cJ cZ h_o h_a1 h_a2 h_a1_halved h_a1_im h_a1_re h_a2_shifts h_o_spareIm h_o_spareRe h_o_turns h_o_wingIm h_o_wingRe h_o_turns_cos h_o_turns_sin h_a1_wasRe h_a1_wasIm u_30 u_31 a1_backward a2_size a2_log a2_wordBits a2_limit a2_radix a2_order a2_near a2_seed a2_stages a1_halved_29 a1_im_34 a1_re a2_shifts o_spareIm o_spareRe o_wingIm o_wingRe o_turns_cos o_turns_sin)) rfl (fun H locs hP hD hS => ?_)
        refine W.eq (g2 := F0 m 140 ls []) rfl ?_
        refine lv_aload_n hx hb dX0_doStage_140 rfl (lv_at hl 0 rfl) ?_
        refine lv_dup hx hb dX0_doStage_141 rfl ?_
        refine rd (ci := 7) (C := RX7) (T := TX7) (N := 8) hx hb hts inX7 hown hK hP 1 5 rfl rfl (by decide) (hts _ q_fX0_65) rfl dX0_doStage_142 ?_
        refine lv_aload_n hx hb dX0_doStage_145 rfl (lv_at hl 1 rfl) ?_
        refine rd (ci := 8) (C := RX8) (T := TX8) (N := 10) hx hb hts inX8 hown hK hP 2 1 rfl rfl (by decide) (hts _ q_fX0_79) rfl dX0_doStage_146 ?_
        refine lv_isub hx hb dX0_doStage_149 ?_
        refine lv_topi (fun u_36 eu_36 => ?_)
        have hf := nm_x eu_36 hf
        refine wr (ci := 7) (C := RX7) (T := TX7) (N := 8) hx hb hts inX7 tyX7 tyX7_ok nmX7 hown hK hP hD hS 1 5 rfl rfl (by decide) (hts _ q_fX0_65) rfl rfl rfl (Nat.le_of_ble_eq_true rfl) dX0_doStage_150 (ws2 := (wX0_doStage cI cJ cZ h_o h_a1 h_a2 h_a1_halved h_a1_im h_a1_re h_a2_shifts h_o_spareIm h_o_spareRe h_o_turns h_o_wingIm h_o_wingRe h_o_turns_cos h_o_turns_sin h_a1_wasRe h_a1_wasIm u_36 u_31 a1_backward a2_size a2_log a2_wordBits a2_limit a2_radix a2_order a2_near a2_seed a2_stages a1_halved_29 a1_im_34 a1_re a2_shifts o_spareIm o_spareRe o_wingIm o_wingRe o_turns_cos o_turns_sin)) rfl (fun H locs hP hD hS => ?_)
        refine lv_iload hx hb dX0_doStage_153 (lv_at hl 4 rfl) ?_
        cases hf
        exact hret _ _ _ _ dX0_doStage_155 hP hD hS
  have j62 : ∀ (a1_exp : Int32) (a1_done : Int32) (a1_halved : Nat → Int32) (a1_im : Nat → Int32) (a1_re : Nat → Int32) (o_spareIm : Nat → Int32) (o_spareRe : Nat → Int32) (o_wingIm : Nat → Int32) (o_wingRe : Nat → Int32) (v4 : Int32) (v5 : Int32) (s0 : Int32) (H : Heap) (locs : List Loc) (ls : Array Slot), fX0_doStage_62 a1_backward a2_size a2_log a2_order a2_near a2_stages a2_shifts o_turns_cos o_turns_sin a1_exp a1_done a1_halved a1_im a1_re o_spareIm o_spareRe o_wingIm o_wingRe v4 v5 s0 = some (r, out_a1_exp, out_a1_done, out_a1_halved, out_a1_im, out_a1_re, out_o_spareIm, out_o_spareRe, out_o_wingIm, out_o_wingRe) → va_P G vwCl (wX0_doStage cI cJ cZ h_o h_a1 h_a2 h_a1_halved h_a1_im h_a1_re h_a2_shifts h_o_spareIm h_o_spareRe h_o_turns h_o_wingIm h_o_wingRe h_o_turns_cos h_o_turns_sin h_a1_wasRe h_a1_wasIm a1_exp a1_done a1_backward a2_size a2_log a2_wordBits a2_limit a2_radix a2_order a2_near a2_seed a2_stages a1_halved a1_im a1_re a2_shifts o_spareIm o_spareRe o_wingIm o_wingRe o_turns_cos o_turns_sin) H → va_D A (wX0_doStage cI cJ cZ h_o h_a1 h_a2 h_a1_halved h_a1_im h_a1_re h_a2_shifts h_o_spareIm h_o_spareRe h_o_turns h_o_wingIm h_o_wingRe h_o_turns_cos h_o_turns_sin h_a1_wasRe h_a1_wasIm a1_exp a1_done a1_backward a2_size a2_log a2_wordBits a2_limit a2_radix a2_order a2_near a2_seed a2_stages a1_halved a1_im a1_re a2_shifts o_spareIm o_spareRe o_wingIm o_wingRe o_turns_cos o_turns_sin) → va_S A s.heap H locs → lv_has ls 7 [(0, .ref h_o), (1, .ref h_a1), (2, .ref h_a2), (4, .int v4), (5, .int v5)] → W p l e ({ frames := 4, cells := 0, slots := 0, locals := 114 } : Room) s m ([.ref h_o, .ref h_a1, .ref h_a2, .int p3] : List Value).toArray below meth c H locs 0 0 Q (F0 m 62 ls [.int s0]) := by
    intro a1_exp a1_done a1_halved a1_im a1_re o_spareIm o_spareRe o_wingIm o_wingRe v4 v5 s0 H locs ls hf hP hD hS hl
    unfold fX0_doStage_62 at hf
    refine lv_istore (lv' := [(6, .int s0), (0, .ref h_o), (1, .ref h_a1), (2, .ref h_a2), (4, .int v4), (5, .int v5)]) hx hb dX0_doStage_62 hl (by decide) rfl (fun ls hl => ?_)
    refine lv_aload_n hx hb dX0_doStage_64 rfl (lv_at hl 1 rfl) ?_
    refine lv_aload_n hx hb dX0_doStage_65 rfl (lv_at hl 2 rfl) ?_
    refine lv_aload_n hx hb dX0_doStage_66 rfl (lv_at hl 3 rfl) ?_
    refine lv_iload hx hb dX0_doStage_67 (lv_at hl 4 rfl) ?_
    obtain ⟨a1_im_16, a1_re_17, o_wingIm_18, o_wingRe_19, e_20, hf⟩ := bd4_x hf
    refine call_v [.ref h_a1, .ref h_a2, .int v4] [] ⟨hx, hb, hml, hown, hts⟩ hK hP hD hS hA hl.1 (tX0_beatWings l G cI cJ cZ H.size h_o h_a1 h_a2 h_a1_im h_a1_re h_a2_shifts h_o_turns h_o_wingIm h_o_wingRe h_o_turns_cos h_o_turns_sin h_o_spareRe h_o_spareIm h_a1_wasRe h_a1_wasIm h_a1_halved a1_exp a1_done a1_backward a2_size a2_log a2_wordBits a2_limit a2_radix a2_order a2_near a2_seed a2_stages a1_im a1_re a2_shifts o_wingIm o_wingRe o_turns_cos o_turns_sin v4 a1_im_16 a1_re_17 o_wingIm_18 o_wingRe_19 e_20) (cwV 3 hts (gv q_mX0_58 q_i_yX0_beatWings q_s_yX0_beatWings q_n_RX0 q_k_yX0_beatWings) rfl rfl rfl (by decide +kernel) ⟨by decide, by decide⟩) rfl rfl (Nat.le_of_ble_eq_true rfl) dX0_doStage_69 ⟨Nat.zero_le _, Nat.zero_le _⟩ (ci := 0) rfl 0 rfl [0, 1, 2, 4, 5, 6, 9, 10, 11, 12, 13] [3, 7, 8] [3, 4, 5, 0, 6, 7, 8, 1, 2, 9, 10, 11, 12, 13] rfl rfl (ws2 := (wX0_doStage cI cJ cZ h_o h_a1 h_a2 h_a1_halved h_a1_im h_a1_re h_a2_shifts h_o_spareIm h_o_spareRe h_o_turns h_o_wingIm h_o_wingRe h_o_turns_cos h_o_turns_sin h_a1_wasRe h_a1_wasIm a1_exp a1_done a1_backward a2_size a2_log a2_wordBits a2_limit a2_radix a2_order a2_near a2_seed a2_stages a1_halved a1_im_16 a1_re_17 a2_shifts o_spareIm o_spareRe o_wingIm_18 o_wingRe_19 o_turns_cos o_turns_sin)) rfl (fun H locs hP hD hS => ?_)
    refine W.eq (g2 := F0 m 72 ls []) rfl ?_
    refine lv_aload_n hx hb dX0_doStage_72 rfl (lv_at hl 3 rfl) ?_
    refine rd (ci := 8) (C := RX8) (T := TX8) (N := 10) hx hb hts inX8 hown hK hP 2 5 rfl rfl (by decide) (hts _ q_fX0_43) rfl dX0_doStage_73 ?_
    refine lv_if_eq (tgt := 90) hx hb dX0_doStage_76 (by decide) (fun c_21 => ?_) (fun c_21 => ?_)
    · have hf := it_t c_21 hf
      exact j90 a1_exp a1_done a1_halved a1_im_16 a1_re_17 o_spareIm o_spareRe o_wingIm_18 o_wingRe_19 v4 v5 s0 H locs ls hf hP hD hS (lv_sub hl [2, 3, 4, 5, 0] rfl)
    · have hf := it_f c_21 hf
      refine lv_iload hx hb dX0_doStage_79 (lv_at hl 5 rfl) ?_
      refine lv_if_eq (tgt := 90) hx hb dX0_doStage_81 (by decide) (fun c_22 => ?_) (fun c_22 => ?_)
      · have hf := it_t c_22 hf
        exact j90 a1_exp a1_done a1_halved a1_im_16 a1_re_17 o_spareIm o_spareRe o_wingIm_18 o_wingRe_19 v4 v5 s0 H locs ls hf hP hD hS (lv_sub hl [2, 3, 4, 5, 0] rfl)
      · have hf := it_f c_22 hf
        refine lv_aload_n hx hb dX0_doStage_84 rfl (lv_at hl 1 rfl) ?_
        refine lv_aload_n hx hb dX0_doStage_85 rfl (lv_at hl 2 rfl) ?_
        refine lv_aload_n hx hb dX0_doStage_86 rfl (lv_at hl 3 rfl) ?_
        obtain ⟨a1_im_23, a1_re_24, o_spareIm_25, o_spareRe_26, e_27, hf⟩ := bd4_x hf
        refine call_v [.ref h_a1, .ref h_a2] [] ⟨hx, hb, hml, hown, hts⟩ hK hP hD hS hA hl.1 (tX0_reverseAll l G cI cJ cZ H.size h_o h_a1 h_a2 h_a1_im h_a1_re h_a2_shifts h_o_spareIm h_o_spareRe h_o_turns h_o_wingRe h_o_wingIm h_a1_wasRe h_a1_wasIm h_a1_halved a1_exp a1_done a1_backward a2_size a2_log a2_wordBits a2_limit a2_radix a2_order a2_near a2_seed a2_stages a1_im_16 a1_re_17 a2_shifts o_spareIm o_spareRe a1_im_23 a1_re_24 o_spareIm_25 o_spareRe_26 e_27) (cwV 2 hts (gv q_mX0_46 q_i_yX0_reverseAll q_s_yX0_reverseAll q_n_RX0 q_k_yX0_reverseAll) rfl rfl rfl (by decide +kernel) ⟨by decide, by decide⟩) rfl rfl (Nat.le_of_ble_eq_true rfl) dX0_doStage_87 ⟨Nat.zero_le _, Nat.zero_le _⟩ (ci := 0) rfl 0 rfl [0, 1, 2, 4, 5, 6, 7, 8] [3, 9, 10, 11, 12, 13] [6, 7, 8, 0, 9, 10, 11, 12, 13, 1, 2, 3, 4, 5] rfl rfl (ws2 := (wX0_doStage cI cJ cZ h_o h_a1 h_a2 h_a1_halved h_a1_im h_a1_re h_a2_shifts h_o_spareIm h_o_spareRe h_o_turns h_o_wingIm h_o_wingRe h_o_turns_cos h_o_turns_sin h_a1_wasRe h_a1_wasIm a1_exp a1_done a1_backward a2_size a2_log a2_wordBits a2_limit a2_radix a2_order a2_near a2_seed a2_stages a1_halved a1_im_23 a1_re_24 a2_shifts o_spareIm_25 o_spareRe_26 o_wingIm_18 o_wingRe_19 o_turns_cos o_turns_sin)) rfl (fun H locs hP hD hS => ?_)
        refine W.eq (g2 := F0 m 90 ls []) rfl ?_
        exact j90 a1_exp a1_done a1_halved a1_im_23 a1_re_24 o_spareIm_25 o_spareRe_26 o_wingIm_18 o_wingRe_19 v4 v5 s0 H locs ls hf hP hD hS (lv_sub hl [2, 3, 4, 5, 0] rfl)
  have j42 : ∀ (a1_exp : Int32) (a1_done : Int32) (a1_halved : Nat → Int32) (a1_im : Nat → Int32) (a1_re : Nat → Int32) (o_spareIm : Nat → Int32) (o_spareRe : Nat → Int32) (o_wingIm : Nat → Int32) (o_wingRe : Nat → Int32) (v3 : Int32) (v4 : Int32) (v5 : Int32) (H : Heap) (locs : List Loc) (ls : Array Slot), fX0_doStage_42 a1_backward a2_size a2_log a2_limit a2_order a2_near a2_stages a2_shifts o_turns_cos o_turns_sin a1_exp a1_done a1_halved a1_im a1_re o_spareIm o_spareRe o_wingIm o_wingRe v3 v4 v5 = some (r, out_a1_exp, out_a1_done, out_a1_halved, out_a1_im, out_a1_re, out_o_spareIm, out_o_spareRe, out_o_wingIm, out_o_wingRe) → va_P G vwCl (wX0_doStage cI cJ cZ h_o h_a1 h_a2 h_a1_halved h_a1_im h_a1_re h_a2_shifts h_o_spareIm h_o_spareRe h_o_turns h_o_wingIm h_o_wingRe h_o_turns_cos h_o_turns_sin h_a1_wasRe h_a1_wasIm a1_exp a1_done a1_backward a2_size a2_log a2_wordBits a2_limit a2_radix a2_order a2_near a2_seed a2_stages a1_halved a1_im a1_re a2_shifts o_spareIm o_spareRe o_wingIm o_wingRe o_turns_cos o_turns_sin) H → va_D A (wX0_doStage cI cJ cZ h_o h_a1 h_a2 h_a1_halved h_a1_im h_a1_re h_a2_shifts h_o_spareIm h_o_spareRe h_o_turns h_o_wingIm h_o_wingRe h_o_turns_cos h_o_turns_sin h_a1_wasRe h_a1_wasIm a1_exp a1_done a1_backward a2_size a2_log a2_wordBits a2_limit a2_radix a2_order a2_near a2_seed a2_stages a1_halved a1_im a1_re a2_shifts o_spareIm o_spareRe o_wingIm o_wingRe o_turns_cos o_turns_sin) → va_S A s.heap H locs → lv_has ls 7 [(0, .ref h_o), (1, .ref h_a1), (2, .ref h_a2), (3, .int v3), (4, .int v4), (5, .int v5)] → W p l e ({ frames := 4, cells := 0, slots := 0, locals := 114 } : Room) s m ([.ref h_o, .ref h_a1, .ref h_a2, .int p3] : List Value).toArray below meth c H locs 0 0 Q (F0 m 42 ls []) := by
    intro a1_exp a1_done a1_halved a1_im a1_re o_spareIm o_spareRe o_wingIm o_wingRe v3 v4 v5 H locs ls hf hP hD hS hl
    unfold fX0_doStage_42 at hf
    refine lv_iload_n hx hb dX0_doStage_42 rfl (lv_at hl 3 rfl) ?_
    refine lv_if_eq (tgt := 61) hx hb dX0_doStage_43 (by decide) (fun c_9 => ?_) (fun c_9 => ?_)
    · have hf := it_t c_9 hf
      refine lv_iconst (v := (0 : Int32)) hx hb dX0_doStage_61 (by decide) ?_
      exact j62 a1_exp a1_done a1_halved a1_im a1_re o_spareIm o_spareRe o_wingIm o_wingRe v4 v5 (0 : Int32) H locs ls hf hP hD hS (lv_sub hl [0, 1, 2, 4, 5] rfl)
    · have hf := it_f c_9 hf
      refine lv_aload_n hx hb dX0_doStage_46 rfl (lv_at hl 0 rfl) ?_
      refine lv_aload_n hx hb dX0_doStage_47 rfl (lv_at hl 1 rfl) ?_
      refine lv_aload_n hx hb dX0_doStage_48 rfl (lv_at hl 2 rfl) ?_
      refine lv_aload_n hx hb dX0_doStage_49 rfl (lv_at hl 2 rfl) ?_
      refine lv_iload hx hb dX0_doStage_50 (lv_at hl 4 rfl) ?_
      obtain ⟨r_10, e_11, hf⟩ := bd1_x hf
      refine call_v [.int v4] [.ref h_a2, .ref h_a1, .ref h_o] ⟨hx, hb, hml, hown, hts⟩ hK hP hD hS hA hl.1 (tX8_growOf l G cI cJ cZ H.size h_a2 h_a2_shifts a2_size a2_log a2_wordBits a2_limit a2_radix a2_order a2_near a2_seed a2_stages a2_shifts v4 r_10 e_11) (cwV 1 hts (gv q_mX0_50 q_i_yX8_growOf q_s_yX8_growOf q_n_RX8 q_k_yX8_growOf) rfl rfl rfl (by decide +kernel) ⟨by decide, by decide⟩) rfl rfl (Nat.le_of_ble_eq_true rfl) dX0_doStage_52 ⟨Nat.zero_le _, Nat.zero_le _⟩ (ci := 8) rfl 0 rfl [2, 6] [0, 1, 3, 4, 5, 7, 8, 9, 10, 11, 12, 13] [0, 1, 12, 2, 3, 4, 13, 5, 6, 7, 8, 9, 10, 11] rfl rfl (ws2 := (wX0_doStage cI cJ cZ h_o h_a1 h_a2 h_a1_halved h_a1_im h_a1_re h_a2_shifts h_o_spareIm h_o_spareRe h_o_turns h_o_wingIm h_o_wingRe h_o_turns_cos h_o_turns_sin h_a1_wasRe h_a1_wasIm a1_exp a1_done a1_backward a2_size a2_log a2_wordBits a2_limit a2_radix a2_order a2_near a2_seed a2_stages a1_halved a1_im a1_re a2_shifts o_spareIm o_spareRe o_wingIm o_wingRe o_turns_cos o_turns_sin)) rfl (fun H locs hP hD hS => ?_)
      refine W.eq (g2 := F0 m 55 ls [.int r_10, .ref h_a2, .ref h_a1, .ref h_o]) rfl ?_
      obtain ⟨r_12, a1_im_13, a1_re_14, e_15, hf⟩ := bd3_x hf
      refine call_v [.ref h_a1, .ref h_a2, .int r_10] [] ⟨hx, hb, hml, hown, hts⟩ hK hP hD hS hA hl.1 (tX0_halveAsNeeded l G cI cJ cZ H.size h_o h_a1 h_a2 h_a1_im h_a1_re h_o_turns h_o_spareRe h_o_spareIm h_o_wingRe h_o_wingIm h_a1_wasRe h_a1_wasIm h_a1_halved h_a2_shifts a1_exp a1_done a1_backward a2_size a2_log a2_wordBits a2_limit a2_radix a2_order a2_near a2_seed a2_stages a1_im a1_re r_10 r_12 a1_im_13 a1_re_14 e_15) (cwV 3 hts (gv q_mX0_54 q_i_yX0_halveAsNeeded q_s_yX0_halveAsNeeded q_n_RX0 q_k_yX0_halveAsNeeded) rfl rfl rfl (by decide +kernel) ⟨by decide, by decide⟩) rfl rfl (Nat.le_of_ble_eq_true rfl) dX0_doStage_55 ⟨Nat.zero_le _, Nat.zero_le _⟩ (ci := 0) rfl 0 rfl [0, 1, 2, 4, 5] [3, 6, 7, 8, 9, 10, 11, 12, 13] [9, 10, 11, 0, 12, 13, 1, 2, 3, 4, 5, 6, 7, 8] rfl rfl (ws2 := (wX0_doStage cI cJ cZ h_o h_a1 h_a2 h_a1_halved h_a1_im h_a1_re h_a2_shifts h_o_spareIm h_o_spareRe h_o_turns h_o_wingIm h_o_wingRe h_o_turns_cos h_o_turns_sin h_a1_wasRe h_a1_wasIm a1_exp a1_done a1_backward a2_size a2_log a2_wordBits a2_limit a2_radix a2_order a2_near a2_seed a2_stages a1_halved a1_im_13 a1_re_14 a2_shifts o_spareIm o_spareRe o_wingIm o_wingRe o_turns_cos o_turns_sin)) rfl (fun H locs hP hD hS => ?_)
      refine W.eq (g2 := F0 m 58 ls [.int r_12]) rfl ?_
      refine lv_goto (tgt := 62) hx hb dX0_doStage_58 (by decide) ?_
      exact j62 a1_exp a1_done a1_halved a1_im_13 a1_re_14 o_spareIm o_spareRe o_wingIm o_wingRe v4 v5 r_12 H locs ls hf hP hD hS (lv_sub hl [0, 1, 2, 4, 5] rfl)
  have j22 : ∀ (a1_exp : Int32) (a1_done : Int32) (a1_halved : Nat → Int32) (a1_im : Nat → Int32) (a1_re : Nat → Int32) (o_spareIm : Nat → Int32) (o_spareRe : Nat → Int32) (o_wingIm : Nat → Int32) (o_wingRe : Nat → Int32) (v3 : Int32) (v4 : Int32) (s0 : Int32) (H : Heap) (locs : List Loc) (ls : Array Slot), fX0_doStage_22 a1_backward a2_size a2_log a2_limit a2_order a2_near a2_stages a2_shifts o_turns_cos o_turns_sin a1_exp a1_done a1_halved a1_im a1_re o_spareIm o_spareRe o_wingIm o_wingRe v3 v4 s0 = some (r, out_a1_exp, out_a1_done, out_a1_halved, out_a1_im, out_a1_re, out_o_spareIm, out_o_spareRe, out_o_wingIm, out_o_wingRe) → va_P G vwCl (wX0_doStage cI cJ cZ h_o h_a1 h_a2 h_a1_halved h_a1_im h_a1_re h_a2_shifts h_o_spareIm h_o_spareRe h_o_turns h_o_wingIm h_o_wingRe h_o_turns_cos h_o_turns_sin h_a1_wasRe h_a1_wasIm a1_exp a1_done a1_backward a2_size a2_log a2_wordBits a2_limit a2_radix a2_order a2_near a2_seed a2_stages a1_halved a1_im a1_re a2_shifts o_spareIm o_spareRe o_wingIm o_wingRe o_turns_cos o_turns_sin) H → va_D A (wX0_doStage cI cJ cZ h_o h_a1 h_a2 h_a1_halved h_a1_im h_a1_re h_a2_shifts h_o_spareIm h_o_spareRe h_o_turns h_o_wingIm h_o_wingRe h_o_turns_cos h_o_turns_sin h_a1_wasRe h_a1_wasIm a1_exp a1_done a1_backward a2_size a2_log a2_wordBits a2_limit a2_radix a2_order a2_near a2_seed a2_stages a1_halved a1_im a1_re a2_shifts o_spareIm o_spareRe o_wingIm o_wingRe o_turns_cos o_turns_sin) → va_S A s.heap H locs → lv_has ls 7 [(0, .ref h_o), (1, .ref h_a1), (2, .ref h_a2), (3, .int v3), (4, .int v4)] → W p l e ({ frames := 4, cells := 0, slots := 0, locals := 114 } : Room) s m ([.ref h_o, .ref h_a1, .ref h_a2, .int p3] : List Value).toArray below meth c H locs 0 0 Q (F0 m 22 ls [.int s0]) := by
    intro a1_exp a1_done a1_halved a1_im a1_re o_spareIm o_spareRe o_wingIm o_wingRe v3 v4 s0 H locs ls hf hP hD hS hl
    unfold fX0_doStage_22 at hf
    refine lv_istore (lv' := [(5, .int s0), (0, .ref h_o), (1, .ref h_a1), (2, .ref h_a2), (3, .int v3), (4, .int v4)]) hx hb dX0_doStage_22 hl (by decide) rfl (fun ls hl => ?_)
    refine lv_aload_n hx hb dX0_doStage_24 rfl (lv_at hl 3 rfl) ?_
    refine rd (ci := 8) (C := RX8) (T := TX8) (N := 10) hx hb hts inX8 hown hK hP 2 5 rfl rfl (by decide) (hts _ q_fX0_43) rfl dX0_doStage_25 ?_
    refine lv_if_ne (tgt := 42) hx hb dX0_doStage_28 (by decide) (fun c_2 => ?_) (fun c_2 => ?_)
    · have hf := it_f c_2 hf
      exact j42 a1_exp a1_done a1_halved a1_im a1_re o_spareIm o_spareRe o_wingIm o_wingRe v3 v4 s0 H locs ls hf hP hD hS (lv_sub hl [1, 2, 3, 4, 5, 0] rfl)
    · have hf := it_t c_2 hf
      refine lv_iload hx hb dX0_doStage_31 (lv_at hl 5 rfl) ?_
      refine lv_if_ne (tgt := 42) hx hb dX0_doStage_33 (by decide) (fun c_3 => ?_) (fun c_3 => ?_)
      · have hf := it_f c_3 hf
        exact j42 a1_exp a1_done a1_halved a1_im a1_re o_spareIm o_spareRe o_wingIm o_wingRe v3 v4 s0 H locs ls hf hP hD hS (lv_sub hl [1, 2, 3, 4, 5, 0] rfl)
      · have hf := it_t c_3 hf
        refine lv_aload_n hx hb dX0_doStage_36 rfl (lv_at hl 1 rfl) ?_
        refine lv_aload_n hx hb dX0_doStage_37 rfl (lv_at hl 2 rfl) ?_
        refine lv_aload_n hx hb dX0_doStage_38 rfl (lv_at hl 3 rfl) ?_
        obtain ⟨a1_im_4, a1_re_5, o_spareIm_6, o_spareRe_7, e_8, hf⟩ := bd4_x hf
        refine call_v [.ref h_a1, .ref h_a2] [] ⟨hx, hb, hml, hown, hts⟩ hK hP hD hS hA hl.1 (tX0_reverseAll l G cI cJ cZ H.size h_o h_a1 h_a2 h_a1_im h_a1_re h_a2_shifts h_o_spareIm h_o_spareRe h_o_turns h_o_wingRe h_o_wingIm h_a1_wasRe h_a1_wasIm h_a1_halved a1_exp a1_done a1_backward a2_size a2_log a2_wordBits a2_limit a2_radix a2_order a2_near a2_seed a2_stages a1_im a1_re a2_shifts o_spareIm o_spareRe a1_im_4 a1_re_5 o_spareIm_6 o_spareRe_7 e_8) (cwV 2 hts (gv q_mX0_46 q_i_yX0_reverseAll q_s_yX0_reverseAll q_n_RX0 q_k_yX0_reverseAll) rfl rfl rfl (by decide +kernel) ⟨by decide, by decide⟩) rfl rfl (Nat.le_of_ble_eq_true rfl) dX0_doStage_39 ⟨Nat.zero_le _, Nat.zero_le _⟩ (ci := 0) rfl 0 rfl [0, 1, 2, 4, 5, 6, 7, 8] [3, 9, 10, 11, 12, 13] [6, 7, 8, 0, 9, 10, 11, 12, 13, 1, 2, 3, 4, 5] rfl rfl (ws2 := (wX0_doStage cI cJ cZ h_o h_a1 h_a2 h_a1_halved h_a1_im h_a1_re h_a2_shifts h_o_spareIm h_o_spareRe h_o_turns h_o_wingIm h_o_wingRe h_o_turns_cos h_o_turns_sin h_a1_wasRe h_a1_wasIm a1_exp a1_done a1_backward a2_size a2_log a2_wordBits a2_limit a2_radix a2_order a2_near a2_seed a2_stages a1_halved a1_im_4 a1_re_5 a2_shifts o_spareIm_6 o_spareRe_7 o_wingIm o_wingRe o_turns_cos o_turns_sin)) rfl (fun H locs hP hD hS => ?_)
        refine W.eq (g2 := F0 m 42 ls []) rfl ?_
        exact j42 a1_exp a1_done a1_halved a1_im_4 a1_re_5 o_spareIm_6 o_spareRe_7 o_wingIm o_wingRe v3 v4 s0 H locs ls hf hP hD hS (lv_sub hl [1, 2, 3, 4, 5, 0] rfl)
  unfold fX0_doStage at hf
  obtain ⟨H, eH⟩ : ∃ H, H = s.heap := ⟨_, rfl⟩
  obtain ⟨locs, elocs⟩ : ∃ z : List Loc, z = [] := ⟨_, rfl⟩
  have hP : va_P G vwCl (wX0_doStage cI cJ cZ h_o h_a1 h_a2 h_a1_halved h_a1_im h_a1_re h_a2_shifts h_o_spareIm h_o_spareRe h_o_turns h_o_wingIm h_o_wingRe h_o_turns_cos h_o_turns_sin h_a1_wasRe h_a1_wasIm a1_exp a1_done a1_backward a2_size a2_log a2_wordBits a2_limit a2_radix a2_order a2_near a2_seed a2_stages a1_halved a1_im a1_re a2_shifts o_spareIm o_spareRe o_wingIm o_wingRe o_turns_cos o_turns_sin) H := by rw [eH]; exact hP
  have hS : va_S A s.heap H locs := by rw [eH, elocs]; exact hS
  suffices hgo : W p l e ({ frames := 4, cells := 0, slots := 0, locals := 114 } : Room) s m ([.ref h_o, .ref h_a1, .ref h_a2, .int p3] : List Value).toArray below meth c H locs 0 0 Q (F0 m 0 ls []) by rw [eH, elocs] at hgo; exact hgo
  clear eH elocs
  refine lv_aload_n hx hb dX0_doStage_0 rfl (lv_at hl 1 rfl) ?_
  refine rd (ci := 7) (C := RX7) (T := TX7) (N := 8) hx hb hts inX7 hown hK hP 1 6 rfl rfl (by decide) (hts _ q_fX0_28) rfl dX0_doStage_1 ?_
  refine lv_istore (lv' := [(4, .int a1_done), (0, .ref h_o), (1, .ref h_a1), (2, .ref h_a2), (3, .int p3)]) hx hb dX0_doStage_4 hl (by decide) rfl (fun ls hl => ?_)
  refine lv_iload hx hb dX0_doStage_6 (lv_at hl 0 rfl) ?_
  refine lv_aload_n hx hb dX0_doStage_8 rfl (lv_at hl 3 rfl) ?_
  refine rd (ci := 8) (C := RX8) (T := TX8) (N := 10) hx hb hts inX8 hown hK hP 2 8 rfl rfl (by decide) (hts _ q_fX0_34) rfl dX0_doStage_9 ?_
  refine lv_iconst (v := (1 : Int32)) hx hb dX0_doStage_12 (by decide) ?_
  refine lv_isub hx hb dX0_doStage_13 ?_
  refine lv_icmp_ne (tgt := 21) hx hb dX0_doStage_14 (by decide) (fun c_1 => ?_) (fun c_1 => ?_)
  · have hf := it_f c_1 hf
    refine lv_iconst (v := (0 : Int32)) hx hb dX0_doStage_21 (by decide) ?_
    exact j22 a1_exp a1_done a1_halved a1_im a1_re o_spareIm o_spareRe o_wingIm o_wingRe p3 a1_done (0 : Int32) H locs ls hf hP hD hS (lv_sub hl [1, 2, 3, 4, 0] rfl)
  · have hf := it_t c_1 hf
    refine lv_iconst (v := (1 : Int32)) hx hb dX0_doStage_17 (by decide) ?_
    refine lv_goto (tgt := 22) hx hb dX0_doStage_18 (by decide) ?_
    exact j22 a1_exp a1_done a1_halved a1_im a1_re o_spareIm o_spareRe o_wingIm o_wingRe p3 a1_done (1 : Int32) H locs ls hf hP hD hS (lv_sub hl [1, 2, 3, 4, 0] rfl)
def wX0_doStages (cI cJ cZ : ClassId) (h_o h_a1 h_a2 h_a1_halved h_a1_im h_a1_re h_a2_shifts h_o_spareIm h_o_spareRe h_o_turns h_o_wingIm h_o_wingRe h_o_turns_cos h_o_turns_sin h_a1_wasRe h_a1_wasIm : Nat) (a1_exp : Int32) (a1_done : Int32) (a1_backward : Int32) (a2_size : Int32) (a2_log : Int32) (a2_wordBits : Int32) (a2_limit : Int32) (a2_radix : Int32) (a2_order : Int32) (a2_near : Int32) (a2_seed : Int32) (a2_stages : Int32) (a1_halved : Nat → Int32) (a1_im : Nat → Int32) (a1_re : Nat → Int32) (a2_shifts : Nat → Int32) (o_spareIm : Nat → Int32) (o_spareRe : Nat → Int32) (o_wingIm : Nat → Int32) (o_wingRe : Nat → Int32) (o_turns_cos : Nat → Int32) (o_turns_sin : Nat → Int32) : va_W := [(h_o, .inr (0, [.ref h_o_turns, .ref h_o_spareRe, .ref h_o_spareIm, .ref h_o_wingRe, .ref h_o_wingIm])), (h_a1, .inr (7, [.ref h_a1_re, .ref h_a1_im, .ref h_a1_wasRe, .ref h_a1_wasIm, .ref h_a1_halved, .int a1_exp, .int a1_done, .int a1_backward])), (h_a2, .inr (8, [.int a2_size, .int a2_log, .int a2_wordBits, .int a2_limit, .int a2_radix, .int a2_order, .int a2_near, .int a2_seed, .int a2_stages, .ref h_a2_shifts])), (h_a1_halved, .inl (cI, 5, .inl a1_halved)), (h_a1_im, .inl (cI, 32, .inl a1_im)), (h_a1_re, .inl (cI, 32, .inl a1_re)), (h_a2_shifts, .inl (cI, 5, .inl a2_shifts)), (h_o_spareIm, .inl (cI, 32, .inl o_spareIm)), (h_o_spareRe, .inl (cI, 32, .inl o_spareRe)), (h_o_turns, .inr (6, [.ref h_o_turns_cos, .ref h_o_turns_sin])), (h_o_wingIm, .inl (cI, 4, .inl o_wingIm)), (h_o_wingRe, .inl (cI, 4, .inl o_wingRe)), (h_o_turns_cos, .inl (cI, 32, .inl o_turns_cos)), (h_o_turns_sin, .inl (cI, 32, .inl o_turns_sin))]
def fX0_doStages_6 (a1_backward : Int32) (a2_size : Int32) (a2_log : Int32) (a2_limit : Int32) (a2_order : Int32) (a2_near : Int32) (a2_stages : Int32) (a2_shifts : Nat → Int32) (o_turns_cos : Nat → Int32) (o_turns_sin : Nat → Int32) : Nat → Int32 → Int32 → (Nat → Int32) → (Nat → Int32) → (Nat → Int32) → (Nat → Int32) → (Nat → Int32) → (Nat → Int32) → (Nat → Int32) → Int32 → Int32 → Int32 → Int32 → Option (Int32 × Int32 × Int32 × (Nat → Int32) × (Nat → Int32) × (Nat → Int32) × (Nat → Int32) × (Nat → Int32) × (Nat → Int32) × (Nat → Int32))
  | 0, _, _, _, _, _, _, _, _, _, _, _, _, _ => none
  | n + 1, a1_exp, a1_done, a1_halved, a1_im, a1_re, o_spareIm, o_spareRe, o_wingIm, o_wingRe, v3, v4, v5, v6 =>
    if v3 ≤ v6 then (
      some (v5, a1_exp, a1_done, a1_halved, a1_im, a1_re, o_spareIm, o_spareRe, o_wingIm, o_wingRe)
    ) else (
      if a2_stages ≤ a1_done then (
        some (v5, a1_exp, a1_done, a1_halved, a1_im, a1_re, o_spareIm, o_spareRe, o_wingIm, o_wingRe)
      ) else (
        bd10 (fX0_doStage a1_exp a1_done a1_backward a2_size a2_log a2_limit a2_order a2_near a2_stages a1_halved a1_im a1_re a2_shifts o_spareIm o_spareRe o_wingIm o_wingRe o_turns_cos o_turns_sin v4) (fun r_3 a1_exp_4 a1_done_5 a1_halved_6 a1_im_7 a1_re_8 o_spareIm_9 o_spareRe_10 o_wingIm_11 o_wingRe_12 =>
        nm (v5 + r_3) (fun v5_14 =>
        nm (v6 + (1 : Int32)) (fun v6_15 =>
        fX0_doStages_6 a1_backward a2_size a2_log a2_limit a2_order a2_near a2_stages a2_shifts o_turns_cos o_turns_sin n a1_exp_4 a1_done_5 a1_halved_6 a1_im_7 a1_re_8 o_spareIm_9 o_spareRe_10 o_wingIm_11 o_wingRe_12 v3 v4 v5_14 v6_15)))
      )
    )
def fX0_doStages (a1_exp : Int32) (a1_done : Int32) (a1_backward : Int32) (a2_size : Int32) (a2_log : Int32) (a2_limit : Int32) (a2_order : Int32) (a2_near : Int32) (a2_stages : Int32) (a1_halved : Nat → Int32) (a1_im : Nat → Int32) (a1_re : Nat → Int32) (a2_shifts : Nat → Int32) (o_spareIm : Nat → Int32) (o_spareRe : Nat → Int32) (o_wingIm : Nat → Int32) (o_wingRe : Nat → Int32) (o_turns_cos : Nat → Int32) (o_turns_sin : Nat → Int32) (p3 : Int32) (p4 : Int32) : Option (Int32 × Int32 × Int32 × (Nat → Int32) × (Nat → Int32) × (Nat → Int32) × (Nat → Int32) × (Nat → Int32) × (Nat → Int32) × (Nat → Int32)) :=
  fX0_doStages_6 a1_backward a2_size a2_log a2_limit a2_order a2_near a2_stages a2_shifts o_turns_cos o_turns_sin FU a1_exp a1_done a1_halved a1_im a1_re o_spareIm o_spareRe o_wingIm o_wingRe p3 p4 (0 : Int32) (0 : Int32)
set_option maxHeartbeats 4000000 in
set_option maxRecDepth 100000 in
theorem tX0_doStages (l : Launch) (G : va_G) (cI cJ cZ : ClassId) (sz : Nat) (h_o h_a1 h_a2 h_a1_halved h_a1_im h_a1_re h_a2_shifts h_o_spareIm h_o_spareRe h_o_turns h_o_wingIm h_o_wingRe h_o_turns_cos h_o_turns_sin h_a1_wasRe h_a1_wasIm : Nat) (a1_exp : Int32) (a1_done : Int32) (a1_backward : Int32) (a2_size : Int32) (a2_log : Int32) (a2_wordBits : Int32) (a2_limit : Int32) (a2_radix : Int32) (a2_order : Int32) (a2_near : Int32) (a2_seed : Int32) (a2_stages : Int32) (a1_halved : Nat → Int32) (a1_im : Nat → Int32) (a1_re : Nat → Int32) (a2_shifts : Nat → Int32) (o_spareIm : Nat → Int32) (o_spareRe : Nat → Int32) (o_wingIm : Nat → Int32) (o_wingRe : Nat → Int32) (o_turns_cos : Nat → Int32) (o_turns_sin : Nat → Int32) (p3 : Int32) (p4 : Int32) (r : Int32) (out_a1_exp : Int32) (out_a1_done : Int32) (out_a1_halved : Nat → Int32) (out_a1_im : Nat → Int32) (out_a1_re : Nat → Int32) (out_o_spareIm : Nat → Int32) (out_o_spareRe : Nat → Int32) (out_o_wingIm : Nat → Int32) (out_o_wingRe : Nat → Int32) (hf : fX0_doStages a1_exp a1_done a1_backward a2_size a2_log a2_limit a2_order a2_near a2_stages a1_halved a1_im a1_re a2_shifts o_spareIm o_spareRe o_wingIm o_wingRe o_turns_cos o_turns_sin p3 p4 = some (r, out_a1_exp, out_a1_done, out_a1_halved, out_a1_im, out_a1_re, out_o_spareIm, out_o_spareRe, out_o_wingIm, out_o_wingRe)) : Met l yX0_doStages (Cond.code yX0_doStages cX0_doStages 7 (some .int) :: BIG) ({ frames := 5, cells := 0, slots := 0, locals := 140 } : Room) (cP G (TY3 cI cJ cZ) [.ref h_o, .ref h_a1, .ref h_a2, .int p3, .int p4] sz (wX0_doStages cI cJ cZ h_o h_a1 h_a2 h_a1_halved h_a1_im h_a1_re h_a2_shifts h_o_spareIm h_o_spareRe h_o_turns h_o_wingIm h_o_wingRe h_o_turns_cos h_o_turns_sin h_a1_wasRe h_a1_wasIm a1_exp a1_done a1_backward a2_size a2_log a2_wordBits a2_limit a2_radix a2_order a2_near a2_seed a2_stages a1_halved a1_im a1_re a2_shifts o_spareIm o_spareRe o_wingIm o_wingRe o_turns_cos o_turns_sin)) (cQ G (TY3 cI cJ cZ) sz (wX0_doStages cI cJ cZ h_o h_a1 h_a2 h_a1_halved h_a1_im h_a1_re h_a2_shifts h_o_spareIm h_o_spareRe h_o_turns h_o_wingIm h_o_wingRe h_o_turns_cos h_o_turns_sin h_a1_wasRe h_a1_wasIm a1_exp a1_done a1_backward a2_size a2_log a2_wordBits a2_limit a2_radix a2_order a2_near a2_seed a2_stages a1_halved a1_im a1_re a2_shifts o_spareIm o_spareRe o_wingIm o_wingRe o_turns_cos o_turns_sin) (wX0_doStages cI cJ cZ h_o h_a1 h_a2 h_a1_halved h_a1_im h_a1_re h_a2_shifts h_o_spareIm h_o_spareRe h_o_turns h_o_wingIm h_o_wingRe h_o_turns_cos h_o_turns_sin h_a1_wasRe h_a1_wasIm out_a1_exp out_a1_done a1_backward a2_size a2_log a2_wordBits a2_limit a2_radix a2_order a2_near a2_seed a2_stages out_a1_halved out_a1_im out_a1_re a2_shifts out_o_spareIm out_o_spareRe out_o_wingIm out_o_wingRe o_turns_cos o_turns_sin) (some (.int r))) 0 0 (va_A (wX0_doStages cI cJ cZ h_o h_a1 h_a2 h_a1_halved h_a1_im h_a1_re h_a2_shifts h_o_spareIm h_o_spareRe h_o_turns h_o_wingIm h_o_wingRe h_o_turns_cos h_o_turns_sin h_a1_wasRe h_a1_wasIm a1_exp a1_done a1_backward a2_size a2_log a2_wordBits a2_limit a2_radix a2_order a2_near a2_seed a2_stages a1_halved a1_im a1_re a2_shifts o_spareIm o_spareRe o_wingIm o_wingRe o_turns_cos o_turns_sin) sz) := by
  refine met_i (cc := cX0_doStages) (maxL := 7) (plainFor_of_name (by decide)) (Nat.le_of_ble_eq_true rfl) (fun p e s m below meth c A ls Q hx hb hml hts hown hK hP hD hS hA hl hret => ?_)
  have hown : s.vm.findClass RX0 = some m.cls := hown
  have hl : lv_has ls 7 [(0, .ref h_o), (1, .ref h_a1), (2, .ref h_a2), (3, .int p3), (4, .int p4)] := hl
  have j6 : ∀ (n : Nat) (a1_exp : Int32) (a1_done : Int32) (a1_halved : Nat → Int32) (a1_im : Nat → Int32) (a1_re : Nat → Int32) (o_spareIm : Nat → Int32) (o_spareRe : Nat → Int32) (o_wingIm : Nat → Int32) (o_wingRe : Nat → Int32) (v3 : Int32) (v4 : Int32) (v5 : Int32) (v6 : Int32) (H : Heap) (locs : List Loc) (ls : Array Slot), fX0_doStages_6 a1_backward a2_size a2_log a2_limit a2_order a2_near a2_stages a2_shifts o_turns_cos o_turns_sin n a1_exp a1_done a1_halved a1_im a1_re o_spareIm o_spareRe o_wingIm o_wingRe v3 v4 v5 v6 = some (r, out_a1_exp, out_a1_done, out_a1_halved, out_a1_im, out_a1_re, out_o_spareIm, out_o_spareRe, out_o_wingIm, out_o_wingRe) → va_P G vwCl (wX0_doStages cI cJ cZ h_o h_a1 h_a2 h_a1_halved h_a1_im h_a1_re h_a2_shifts h_o_spareIm h_o_spareRe h_o_turns h_o_wingIm h_o_wingRe h_o_turns_cos h_o_turns_sin h_a1_wasRe h_a1_wasIm a1_exp a1_done a1_backward a2_size a2_log a2_wordBits a2_limit a2_radix a2_order a2_near a2_seed a2_stages a1_halved a1_im a1_re a2_shifts o_spareIm o_spareRe o_wingIm o_wingRe o_turns_cos o_turns_sin) H → va_D A (wX0_doStages cI cJ cZ h_o h_a1 h_a2 h_a1_halved h_a1_im h_a1_re h_a2_shifts h_o_spareIm h_o_spareRe h_o_turns h_o_wingIm h_o_wingRe h_o_turns_cos h_o_turns_sin h_a1_wasRe h_a1_wasIm a1_exp a1_done a1_backward a2_size a2_log a2_wordBits a2_limit a2_radix a2_order a2_near a2_seed a2_stages a1_halved a1_im a1_re a2_shifts o_spareIm o_spareRe o_wingIm o_wingRe o_turns_cos o_turns_sin) → va_S A s.heap H locs → lv_has ls 7 [(0, .ref h_o), (1, .ref h_a1), (2, .ref h_a2), (3, .int v3), (4, .int v4), (5, .int v5), (6, .int v6)] → W p l e ({ frames := 5, cells := 0, slots := 0, locals := 140 } : Room) s m ([.ref h_o, .ref h_a1, .ref h_a2, .int p3, .int p4] : List Value).toArray below meth c H locs 0 0 Q (F0 m 6 ls []) := by
    intro n
    induction n with
    | zero =>
      intro a1_exp a1_done a1_halved a1_im a1_re o_spareIm o_spareRe o_wingIm o_wingRe v3 v4 v5 v6 H locs ls hf
      have hf : (none : Option (Int32 × Int32 × Int32 × (Nat → Int32) × (Nat → Int32) × (Nat → Int32) × (Nat → Int32) × (Nat → Int32) × (Nat → Int32) × (Nat → Int32))) = some (r, out_a1_exp, out_a1_done, out_a1_halved, out_a1_im, out_a1_re, out_o_spareIm, out_o_spareRe, out_o_wingIm, out_o_wingRe) := hf
      cases hf
    | succ n ih =>
      intro a1_exp a1_done a1_halved a1_im a1_re o_spareIm o_spareRe o_wingIm o_wingRe v3 v4 v5 v6 H locs ls hf hP hD hS hl
      rw [fX0_doStages_6.eq_2] at hf
      refine lv_iload hx hb dX0_doStages_6 (lv_at hl 6 rfl) ?_
      refine lv_iload_n hx hb dX0_doStages_8 rfl (lv_at hl 3 rfl) ?_
      refine lv_icmp_ge (tgt := 42) hx hb dX0_doStages_9 (by decide) (fun c_1 => ?_) (fun c_1 => ?_)
      · have hf := it_t c_1 hf
        refine lv_iload hx hb dX0_doStages_42 (lv_at hl 5 rfl) ?_
        cases hf
        exact hret _ _ _ _ dX0_doStages_44 hP hD hS
      · have hf := it_f c_1 hf
        refine lv_aload_n hx hb dX0_doStages_12 rfl (lv_at hl 1 rfl) ?_
        refine rd (ci := 7) (C := RX7) (T := TX7) (N := 8) hx hb hts inX7 hown hK hP 1 6 rfl rfl (by decide) (hts _ q_fX0_28) rfl dX0_doStages_13 ?_
        refine lv_aload_n hx hb dX0_doStages_16 rfl (lv_at hl 2 rfl) ?_
        refine rd (ci := 8) (C := RX8) (T := TX8) (N := 10) hx hb hts inX8 hown hK hP 2 8 rfl rfl (by decide) (hts _ q_fX0_34) rfl dX0_doStages_17 ?_
        refine lv_icmp_ge (tgt := 42) hx hb dX0_doStages_20 (by decide) (fun c_2 => ?_) (fun c_2 => ?_)
        · have hf := it_t c_2 hf
          refine lv_iload hx hb dX0_doStages_42 (lv_at hl 5 rfl) ?_
          cases hf
          exact hret _ _ _ _ dX0_doStages_44 hP hD hS
        · have hf := it_f c_2 hf
          refine lv_iload hx hb dX0_doStages_23 (lv_at hl 5 rfl) ?_
          refine lv_aload_n hx hb dX0_doStages_25 rfl (lv_at hl 0 rfl) ?_
          refine lv_aload_n hx hb dX0_doStages_26 rfl (lv_at hl 1 rfl) ?_
          refine lv_aload_n hx hb dX0_doStages_27 rfl (lv_at hl 2 rfl) ?_
          refine lv_iload hx hb dX0_doStages_28 (lv_at hl 4 rfl) ?_
          obtain ⟨r_3, a1_exp_4, a1_done_5, a1_halved_6, a1_im_7, a1_re_8, o_spareIm_9, o_spareRe_10, o_wingIm_11, o_wingRe_12, e_13, hf⟩ := bd10_x hf
          refine call_v [.ref h_a1, .ref h_a2, .int v4] [.int v5] ⟨hx, hb, hml, hown, hts⟩ hK hP hD hS hA hl.1 (tX0_doStage l G cI cJ cZ H.size h_o h_a1 h_a2 h_a1_halved h_a1_im h_a1_re h_a2_shifts h_o_spareIm h_o_spareRe h_o_turns h_o_wingIm h_o_wingRe h_o_turns_cos h_o_turns_sin h_a1_wasRe h_a1_wasIm a1_exp a1_done a1_backward a2_size a2_log a2_wordBits a2_limit a2_radix a2_order a2_near a2_seed a2_stages a1_halved a1_im a1_re a2_shifts o_spareIm o_spareRe o_wingIm o_wingRe o_turns_cos o_turns_sin v4 r_3 a1_exp_4 a1_done_5 a1_halved_6 a1_im_7 a1_re_8 o_spareIm_9 o_spareRe_10 o_wingIm_11 o_wingRe_12 e_13) (cwV 3 hts (gv q_mX0_39 q_i_yX0_doStage q_s_yX0_doStage q_n_RX0 q_k_yX0_doStage) rfl rfl rfl (by decide +kernel) ⟨by decide, by decide⟩) rfl rfl (Nat.le_of_ble_eq_true rfl) dX0_doStages_30 ⟨Nat.zero_le _, Nat.zero_le _⟩ (ci := 0) rfl 0 rfl [0, 1, 2, 3, 4, 5, 6, 7, 8, 9, 10, 11, 12, 13] [] [0, 1, 2, 3, 4, 5, 6, 7, 8, 9, 10, 11, 12, 13] rfl rfl (ws2 := (wX0_doStages cI cJ cZ h_o h_a1 h_a2 h_a1_halved h_a1_im h_a1_re h_a2_shifts h_o_spareIm h_o_spareRe h_o_turns h_o_wingIm h_o_wingRe h_o_turns_cos h_o_turns_sin h_a1_wasRe h_a1_wasIm a1_exp_4 a1_done_5 a1_backward a2_size a2_log a2_wordBits a2_limit a2_radix a2_order a2_near a2_seed a2_stages a1_halved_6 a1_im_7 a1_re_8 a2_shifts o_spareIm_9 o_spareRe_10 o_wingIm_11 o_wingRe_12 o_turns_cos o_turns_sin)) rfl (fun H locs hP hD hS => ?_)
          refine W.eq (g2 := F0 m 33 ls [.int r_3, .int v5]) rfl ?_
          refine lv_iadd hx hb dX0_doStages_33 ?_
          refine lv_topi (fun v5_14 ev5_14 => ?_)
          have hf := nm_x ev5_14 hf
          refine lv_istore (lv' := [(5, .int v5_14), (0, .ref h_o), (1, .ref h_a1), (2, .ref h_a2), (3, .int v3), (4, .int v4), (6, .int v6)]) hx hb dX0_doStages_34 hl (by decide) rfl (fun ls hl => ?_)
          obtain ⟨v6_15, ev6_15⟩ : ∃ y : Int32, y = v6 + (1 : Int32) := ⟨_, rfl⟩
          have hf := nm_x ev6_15 hf
          refine lv_iinc (v := v6_15) (lv' := [(6, .int v6_15), (5, .int v5_14), (0, .ref h_o), (1, .ref h_a1), (2, .ref h_a2), (3, .int v3), (4, .int v4)]) hx hb dX0_doStages_36 hl (k := 6) rfl (by rw [ev6_15]; rfl) (by decide) rfl (fun ls hl => ?_)
          refine lv_goto (tgt := 6) hx hb dX0_doStages_39 (by decide) ?_
          exact ih a1_exp_4 a1_done_5 a1_halved_6 a1_im_7 a1_re_8 o_spareIm_9 o_spareRe_10 o_wingIm_11 o_wingRe_12 v3 v4 v5_14 v6_15 H locs ls hf hP hD hS (lv_sub hl [2, 3, 4, 5, 6, 1, 0] rfl)
  unfold fX0_doStages at hf
  obtain ⟨H, eH⟩ : ∃ H, H = s.heap := ⟨_, rfl⟩
  obtain ⟨locs, elocs⟩ : ∃ z : List Loc, z = [] := ⟨_, rfl⟩
  have hP : va_P G vwCl (wX0_doStages cI cJ cZ h_o h_a1 h_a2 h_a1_halved h_a1_im h_a1_re h_a2_shifts h_o_spareIm h_o_spareRe h_o_turns h_o_wingIm h_o_wingRe h_o_turns_cos h_o_turns_sin h_a1_wasRe h_a1_wasIm a1_exp a1_done a1_backward a2_size a2_log a2_wordBits a2_limit a2_radix a2_order a2_near a2_seed a2_stages a1_halved a1_im a1_re a2_shifts o_spareIm o_spareRe o_wingIm o_wingRe o_turns_cos o_turns_sin) H := by rw [eH]; exact hP
  have hS : va_S A s.heap H locs := by rw [eH, elocs]; exact hS
  suffices hgo : W p l e ({ frames := 5, cells := 0, slots := 0, locals := 140 } : Room) s m ([.ref h_o, .ref h_a1, .ref h_a2, .int p3, .int p4] : List Value).toArray below meth c H locs 0 0 Q (F0 m 0 ls []) by rw [eH, elocs] at hgo; exact hgo
  clear eH elocs
  refine lv_iconst (v := (0 : Int32)) hx hb dX0_doStages_0 (by decide) ?_
  refine lv_istore (lv' := [(5, .int (0 : Int32)), (0, .ref h_o), (1, .ref h_a1), (2, .ref h_a2), (3, .int p3), (4, .int p4)]) hx hb dX0_doStages_1 hl (by decide) rfl (fun ls hl => ?_)
  refine lv_iconst (v := (0 : Int32)) hx hb dX0_doStages_3 (by decide) ?_
  refine lv_istore (lv' := [(6, .int (0 : Int32)), (5, .int (0 : Int32)), (0, .ref h_o), (1, .ref h_a1), (2, .ref h_a2), (3, .int p3), (4, .int p4)]) hx hb dX0_doStages_4 hl (by decide) rfl (fun ls hl => ?_)
  exact j6 FU a1_exp a1_done a1_halved a1_im a1_re o_spareIm o_spareRe o_wingIm o_wingRe p3 p4 (0 : Int32) (0 : Int32) H locs ls hf hP hD hS (lv_sub hl [2, 3, 4, 5, 6, 1, 0] rfl)
def wX0_moveAll (cI cJ cZ : ClassId) (h_o h_a1 h_a1_im h_a1_re h_o_spareIm h_o_spareRe h_o_turns h_o_wingRe h_o_wingIm h_a1_wasRe h_a1_wasIm h_a1_halved : Nat) (a1_exp : Int32) (a1_done : Int32) (a1_backward : Int32) (a1_im : Nat → Int32) (a1_re : Nat → Int32) (o_spareIm : Nat → Int32) (o_spareRe : Nat → Int32) : va_W := [(h_o, .inr (0, [.ref h_o_turns, .ref h_o_spareRe, .ref h_o_spareIm, .ref h_o_wingRe, .ref h_o_wingIm])), (h_a1, .inr (7, [.ref h_a1_re, .ref h_a1_im, .ref h_a1_wasRe, .ref h_a1_wasIm, .ref h_a1_halved, .int a1_exp, .int a1_done, .int a1_backward])), (h_a1_im, .inl (cI, 32, .inl a1_im)), (h_a1_re, .inl (cI, 32, .inl a1_re)), (h_o_spareIm, .inl (cI, 32, .inl o_spareIm)), (h_o_spareRe, .inl (cI, 32, .inl o_spareRe))]
def fX0_moveAll_56 (a1_im : Nat → Int32) (a1_re : Nat → Int32) (o_spareIm : Nat → Int32) (o_spareRe : Nat → Int32) (v2 : Int32) : Option ((Nat → Int32) × (Nat → Int32) × (Nat → Int32) × (Nat → Int32)) :=
  bd2 (fX0_takeSpare a1_im a1_re o_spareIm o_spareRe v2) (fun a1_im_10 a1_re_11 =>
  some (a1_im_10, a1_re_11, o_spareIm, o_spareRe))
def fX0_moveAll_3 : Nat → (Nat → Int32) → (Nat → Int32) → (Nat → Int32) → (Nat → Int32) → Int32 → Int32 → Int32 → Int32 → Option ((Nat → Int32) × (Nat → Int32) × (Nat → Int32) × (Nat → Int32))
  | 0, _, _, _, _, _, _, _, _ => none
  | n + 1, a1_im, a1_re, o_spareIm, o_spareRe, v2, v3, v4, v5 =>
    if v2 ≤ v5 then (
      fX0_moveAll_56 a1_im a1_re o_spareIm o_spareRe v2
    ) else (
      nm (((v3 * v5) + v4) &&& (v2 - (1 : Int32))) (fun v6_2 =>
      gd (inb v5 32) (
      gd (inb v6_2 32) (
      nm (upd o_spareRe (Int32.toNatClampNeg v6_2) (a1_re (Int32.toNatClampNeg v5))) (fun o_spareRe_5 =>
      gd (inb v5 32) (
      gd (inb v6_2 32) (
      nm (upd o_spareIm (Int32.toNatClampNeg v6_2) (a1_im (Int32.toNatClampNeg v5))) (fun o_spareIm_8 =>
      nm (v5 + (1 : Int32)) (fun v5_9 =>
      fX0_moveAll_3 n a1_im a1_re o_spareIm_8 o_spareRe_5 v2 v3 v4 v5_9))))))))
    )
def fX0_moveAll (a1_im : Nat → Int32) (a1_re : Nat → Int32) (o_spareIm : Nat → Int32) (o_spareRe : Nat → Int32) (p2 : Int32) (p3 : Int32) (p4 : Int32) : Option ((Nat → Int32) × (Nat → Int32) × (Nat → Int32) × (Nat → Int32)) :=
  fX0_moveAll_3 FU a1_im a1_re o_spareIm o_spareRe p2 p3 p4 (0 : Int32)
set_option maxHeartbeats 4000000 in
set_option maxRecDepth 100000 in
theorem tX0_moveAll (l : Launch) (G : va_G) (cI cJ cZ : ClassId) (sz : Nat) (h_o h_a1 h_a1_im h_a1_re h_o_spareIm h_o_spareRe h_o_turns h_o_wingRe h_o_wingIm h_a1_wasRe h_a1_wasIm h_a1_halved : Nat) (a1_exp : Int32) (a1_done : Int32) (a1_backward : Int32) (a1_im : Nat → Int32) (a1_re : Nat → Int32) (o_spareIm : Nat → Int32) (o_spareRe : Nat → Int32) (p2 : Int32) (p3 : Int32) (p4 : Int32) (out_a1_im : Nat → Int32) (out_a1_re : Nat → Int32) (out_o_spareIm : Nat → Int32) (out_o_spareRe : Nat → Int32) (hf : fX0_moveAll a1_im a1_re o_spareIm o_spareRe p2 p3 p4 = some (out_a1_im, out_a1_re, out_o_spareIm, out_o_spareRe)) : Met l yX0_moveAll (Cond.code yX0_moveAll cX0_moveAll 7 none :: BIG) ({ frames := 2, cells := 0, slots := 0, locals := 40 } : Room) (cP G (TY3 cI cJ cZ) [.ref h_o, .ref h_a1, .int p2, .int p3, .int p4] sz (wX0_moveAll cI cJ cZ h_o h_a1 h_a1_im h_a1_re h_o_spareIm h_o_spareRe h_o_turns h_o_wingRe h_o_wingIm h_a1_wasRe h_a1_wasIm h_a1_halved a1_exp a1_done a1_backward a1_im a1_re o_spareIm o_spareRe)) (cQ G (TY3 cI cJ cZ) sz (wX0_moveAll cI cJ cZ h_o h_a1 h_a1_im h_a1_re h_o_spareIm h_o_spareRe h_o_turns h_o_wingRe h_o_wingIm h_a1_wasRe h_a1_wasIm h_a1_halved a1_exp a1_done a1_backward a1_im a1_re o_spareIm o_spareRe) (wX0_moveAll cI cJ cZ h_o h_a1 h_a1_im h_a1_re h_o_spareIm h_o_spareRe h_o_turns h_o_wingRe h_o_wingIm h_a1_wasRe h_a1_wasIm h_a1_halved a1_exp a1_done a1_backward out_a1_im out_a1_re out_o_spareIm out_o_spareRe) none) 0 0 (va_A (wX0_moveAll cI cJ cZ h_o h_a1 h_a1_im h_a1_re h_o_spareIm h_o_spareRe h_o_turns h_o_wingRe h_o_wingIm h_a1_wasRe h_a1_wasIm h_a1_halved a1_exp a1_done a1_backward a1_im a1_re o_spareIm o_spareRe) sz) := by
  refine met_v (cc := cX0_moveAll) (maxL := 7) (plainFor_of_name (by decide)) (Nat.le_of_ble_eq_true rfl) (fun p e s m below meth c A ls Q hx hb hml hts hown hK hP hD hS hA hl hret => ?_)
  have hown : s.vm.findClass RX0 = some m.cls := hown
  have hl : lv_has ls 7 [(0, .ref h_o), (1, .ref h_a1), (2, .int p2), (3, .int p3), (4, .int p4)] := hl
  have j56 : ∀ (a1_im : Nat → Int32) (a1_re : Nat → Int32) (o_spareIm : Nat → Int32) (o_spareRe : Nat → Int32) (v2 : Int32) (H : Heap) (locs : List Loc) (ls : Array Slot), fX0_moveAll_56 a1_im a1_re o_spareIm o_spareRe v2 = some (out_a1_im, out_a1_re, out_o_spareIm, out_o_spareRe) → va_P G vwCl (wX0_moveAll cI cJ cZ h_o h_a1 h_a1_im h_a1_re h_o_spareIm h_o_spareRe h_o_turns h_o_wingRe h_o_wingIm h_a1_wasRe h_a1_wasIm h_a1_halved a1_exp a1_done a1_backward a1_im a1_re o_spareIm o_spareRe) H → va_D A (wX0_moveAll cI cJ cZ h_o h_a1 h_a1_im h_a1_re h_o_spareIm h_o_spareRe h_o_turns h_o_wingRe h_o_wingIm h_a1_wasRe h_a1_wasIm h_a1_halved a1_exp a1_done a1_backward a1_im a1_re o_spareIm o_spareRe) → va_S A s.heap H locs → lv_has ls 7 [(0, .ref h_o), (1, .ref h_a1), (2, .int v2)] → W p l e ({ frames := 2, cells := 0, slots := 0, locals := 40 } : Room) s m ([.ref h_o, .ref h_a1, .int p2, .int p3, .int p4] : List Value).toArray below meth c H locs 0 0 Q (F0 m 56 ls []) := by
    intro a1_im a1_re o_spareIm o_spareRe v2 H locs ls hf hP hD hS hl
    unfold fX0_moveAll_56 at hf
    refine lv_aload_n hx hb dX0_moveAll_56 rfl (lv_at hl 0 rfl) ?_
    refine lv_aload_n hx hb dX0_moveAll_57 rfl (lv_at hl 1 rfl) ?_
    refine lv_iload_n hx hb dX0_moveAll_58 rfl (lv_at hl 2 rfl) ?_
    obtain ⟨a1_im_10, a1_re_11, e_12, hf⟩ := bd2_x hf
    refine call_v [.ref h_a1, .int v2] [] ⟨hx, hb, hml, hown, hts⟩ hK hP hD hS hA hl.1 (tX0_takeSpare l G cI cJ cZ H.size h_o h_a1 h_a1_im h_a1_re h_o_spareIm h_o_spareRe h_o_turns h_o_wingRe h_o_wingIm h_a1_wasRe h_a1_wasIm h_a1_halved a1_exp a1_done a1_backward a1_im a1_re o_spareIm o_spareRe v2 a1_im_10 a1_re_11 e_12) (cwV 2 hts (gv q_mX0_91 q_i_yX0_takeSpare q_s_yX0_takeSpare q_n_RX0 q_k_yX0_takeSpare) rfl rfl rfl (by decide +kernel) ⟨by decide, by decide⟩) rfl rfl (Nat.le_of_ble_eq_true rfl) dX0_moveAll_59 ⟨Nat.zero_le _, Nat.zero_le _⟩ (ci := 0) rfl 0 rfl [0, 1, 2, 3, 4, 5] [] [0, 1, 2, 3, 4, 5] rfl rfl (ws2 := (wX0_moveAll cI cJ cZ h_o h_a1 h_a1_im h_a1_re h_o_spareIm h_o_spareRe h_o_turns h_o_wingRe h_o_wingIm h_a1_wasRe h_a1_wasIm h_a1_halved a1_exp a1_done a1_backward a1_im_10 a1_re_11 o_spareIm o_spareRe)) rfl (fun H locs hP hD hS => ?_)
    refine W.eq (g2 := F0 m 62 ls []) rfl ?_
    cases hf
    exact hret _ _ _ _ dX0_moveAll_62 hP hD hS
  have j3 : ∀ (n : Nat) (a1_im : Nat → Int32) (a1_re : Nat → Int32) (o_spareIm : Nat → Int32) (o_spareRe : Nat → Int32) (v2 : Int32) (v3 : Int32) (v4 : Int32) (v5 : Int32) (H : Heap) (locs : List Loc) (ls : Array Slot), fX0_moveAll_3 n a1_im a1_re o_spareIm o_spareRe v2 v3 v4 v5 = some (out_a1_im, out_a1_re, out_o_spareIm, out_o_spareRe) → va_P G vwCl (wX0_moveAll cI cJ cZ h_o h_a1 h_a1_im h_a1_re h_o_spareIm h_o_spareRe h_o_turns h_o_wingRe h_o_wingIm h_a1_wasRe h_a1_wasIm h_a1_halved a1_exp a1_done a1_backward a1_im a1_re o_spareIm o_spareRe) H → va_D A (wX0_moveAll cI cJ cZ h_o h_a1 h_a1_im h_a1_re h_o_spareIm h_o_spareRe h_o_turns h_o_wingRe h_o_wingIm h_a1_wasRe h_a1_wasIm h_a1_halved a1_exp a1_done a1_backward a1_im a1_re o_spareIm o_spareRe) → va_S A s.heap H locs → lv_has ls 7 [(0, .ref h_o), (1, .ref h_a1), (2, .int v2), (3, .int v3), (4, .int v4), (5, .int v5)] → W p l e ({ frames := 2, cells := 0, slots := 0, locals := 40 } : Room) s m ([.ref h_o, .ref h_a1, .int p2, .int p3, .int p4] : List Value).toArray below meth c H locs 0 0 Q (F0 m 3 ls []) := by
    intro n
    induction n with
    | zero =>
      intro a1_im a1_re o_spareIm o_spareRe v2 v3 v4 v5 H locs ls hf
      have hf : (none : Option ((Nat → Int32) × (Nat → Int32) × (Nat → Int32) × (Nat → Int32))) = some (out_a1_im, out_a1_re, out_o_spareIm, out_o_spareRe) := hf
      cases hf
    | succ n ih =>
      intro a1_im a1_re o_spareIm o_spareRe v2 v3 v4 v5 H locs ls hf hP hD hS hl
      rw [fX0_moveAll_3.eq_2] at hf
      refine lv_iload hx hb dX0_moveAll_3 (lv_at hl 5 rfl) ?_
      refine lv_iload_n hx hb dX0_moveAll_5 rfl (lv_at hl 2 rfl) ?_
      refine lv_icmp_ge (tgt := 56) hx hb dX0_moveAll_6 (by decide) (fun c_1 => ?_) (fun c_1 => ?_)
      · have hf := it_t c_1 hf
        exact j56 a1_im a1_re o_spareIm o_spareRe v2 H locs ls hf hP hD hS (lv_sub hl [0, 1, 2] rfl)
      · have hf := it_f c_1 hf
        refine lv_iload_n hx hb dX0_moveAll_9 rfl (lv_at hl 3 rfl) ?_
        refine lv_iload hx hb dX0_moveAll_10 (lv_at hl 5 rfl) ?_
        refine lv_imul hx hb dX0_moveAll_12 ?_
        refine lv_iload hx hb dX0_moveAll_13 (lv_at hl 4 rfl) ?_
        refine lv_iadd hx hb dX0_moveAll_15 ?_
        refine lv_iload_n hx hb dX0_moveAll_16 rfl (lv_at hl 2 rfl) ?_
        refine lv_iconst (v := (1 : Int32)) hx hb dX0_moveAll_17 (by decide) ?_
        refine lv_isub hx hb dX0_moveAll_18 ?_
        refine lv_iand hx hb dX0_moveAll_19 ?_
        refine lv_topi (fun v6_2 ev6_2 => ?_)
        have hf := nm_x ev6_2 hf
        refine lv_istore (lv' := [(6, .int v6_2), (0, .ref h_o), (1, .ref h_a1), (2, .int v2), (3, .int v3), (4, .int v4), (5, .int v5)]) hx hb dX0_moveAll_20 hl (by decide) rfl (fun ls hl => ?_)
        refine lv_aload_n hx hb dX0_moveAll_22 rfl (lv_at hl 1 rfl) ?_
        refine rd (ci := 0) (C := RX0) (T := TX0) (N := 5) hx hb hts inX0 hown hK hP 0 1 rfl rfl (by decide) (hts _ q_fX0_9) rfl dX0_moveAll_23 ?_
        refine lv_iload hx hb dX0_moveAll_26 (lv_at hl 0 rfl) ?_
        refine lv_aload_n hx hb dX0_moveAll_28 rfl (lv_at hl 2 rfl) ?_
        refine rd (ci := 7) (C := RX7) (T := TX7) (N := 8) hx hb hts inX7 hown hK hP 1 0 rfl rfl (by decide) (hts _ q_fX0_85) rfl dX0_moveAll_29 ?_
        refine lv_iload hx hb dX0_moveAll_32 (lv_at hl 6 rfl) ?_
        obtain ⟨g_3, hf⟩ := gd_x hf
        refine va_iald hx hb hK hP 3 0 rfl rfl (inb_x g_3) dX0_moveAll_34 ?_
        obtain ⟨g_4, hf⟩ := gd_x hf
        obtain ⟨o_spareRe_5, eo_spareRe_5⟩ : ∃ y : Nat → Int32, y = upd o_spareRe (Int32.toNatClampNeg v6_2) (a1_re (Int32.toNatClampNeg v5)) := ⟨_, rfl⟩
        have hf := nm_x eo_spareRe_5 hf
        refine ist hx hb hK hP hD hS 5 0 rfl rfl (inb_x g_4) dX0_moveAll_35 eo_spareRe_5 (ws2 := (wX0_moveAll cI cJ cZ h_o h_a1 h_a1_im h_a1_re h_o_spareIm h_o_spareRe h_o_turns h_o_wingRe h_o_wingIm h_a1_wasRe h_a1_wasIm h_a1_halved a1_exp a1_done a1_backward a1_im a1_re o_spareIm o_spareRe_5)) rfl (fun H locs hP hD hS => ?_)
        refine lv_aload_n hx hb dX0_moveAll_36 rfl (lv_at hl 1 rfl) ?_
        refine rd (ci := 0) (C := RX0) (T := TX0) (N := 5) hx hb hts inX0 hown hK hP 0 2 rfl rfl (by decide) (hts _ q_fX0_15) rfl dX0_moveAll_37 ?_
        refine lv_iload hx hb dX0_moveAll_40 (lv_at hl 0 rfl) ?_
        refine lv_aload_n hx hb dX0_moveAll_42 rfl (lv_at hl 2 rfl) ?_
        refine rd (ci := 7) (C := RX7) (T := TX7) (N := 8) hx hb hts inX7 hown hK hP 1 1 rfl rfl (by decide) (hts _ q_fX0_88) rfl dX0_moveAll_43 ?_
        refine lv_iload hx hb dX0_moveAll_46 (lv_at hl 6 rfl) ?_
        obtain ⟨g_6, hf⟩ := gd_x hf
        refine va_iald hx hb hK hP 2 0 rfl rfl (inb_x g_6) dX0_moveAll_48 ?_
        obtain ⟨g_7, hf⟩ := gd_x hf
        obtain ⟨o_spareIm_8, eo_spareIm_8⟩ : ∃ y : Nat → Int32, y = upd o_spareIm (Int32.toNatClampNeg v6_2) (a1_im (Int32.toNatClampNeg v5)) := ⟨_, rfl⟩
        have hf := nm_x eo_spareIm_8 hf
        refine ist hx hb hK hP hD hS 4 0 rfl rfl (inb_x g_7) dX0_moveAll_49 eo_spareIm_8 (ws2 := (wX0_moveAll cI cJ cZ h_o h_a1 h_a1_im h_a1_re h_o_spareIm h_o_spareRe h_o_turns h_o_wingRe h_o_wingIm h_a1_wasRe h_a1_wasIm h_a1_halved a1_exp a1_done a1_backward a1_im a1_re o_spareIm_8 o_spareRe_5)) rfl (fun H locs hP hD hS => ?_)
        obtain ⟨v5_9, ev5_9⟩ : ∃ y : Int32, y = v5 + (1 : Int32) := ⟨_, rfl⟩
        have hf := nm_x ev5_9 hf
        refine lv_iinc (v := v5_9) (lv' := [(5, .int v5_9), (6, .int v6_2), (0, .ref h_o), (1, .ref h_a1), (2, .int v2), (3, .int v3), (4, .int v4)]) hx hb dX0_moveAll_50 hl (k := 6) rfl (by rw [ev5_9]; rfl) (by decide) rfl (fun ls hl => ?_)
        refine lv_goto (tgt := 3) hx hb dX0_moveAll_53 (by decide) ?_
        exact ih a1_im a1_re o_spareIm_8 o_spareRe_5 v2 v3 v4 v5_9 H locs ls hf hP hD hS (lv_sub hl [2, 3, 4, 5, 6, 0] rfl)
  unfold fX0_moveAll at hf
  obtain ⟨H, eH⟩ : ∃ H, H = s.heap := ⟨_, rfl⟩
  obtain ⟨locs, elocs⟩ : ∃ z : List Loc, z = [] := ⟨_, rfl⟩
  have hP : va_P G vwCl (wX0_moveAll cI cJ cZ h_o h_a1 h_a1_im h_a1_re h_o_spareIm h_o_spareRe h_o_turns h_o_wingRe h_o_wingIm h_a1_wasRe h_a1_wasIm h_a1_halved a1_exp a1_done a1_backward a1_im a1_re o_spareIm o_spareRe) H := by rw [eH]; exact hP
  have hS : va_S A s.heap H locs := by rw [eH, elocs]; exact hS
  suffices hgo : W p l e ({ frames := 2, cells := 0, slots := 0, locals := 40 } : Room) s m ([.ref h_o, .ref h_a1, .int p2, .int p3, .int p4] : List Value).toArray below meth c H locs 0 0 Q (F0 m 0 ls []) by rw [eH, elocs] at hgo; exact hgo
  clear eH elocs
  refine lv_iconst (v := (0 : Int32)) hx hb dX0_moveAll_0 (by decide) ?_
  refine lv_istore (lv' := [(5, .int (0 : Int32)), (0, .ref h_o), (1, .ref h_a1), (2, .int p2), (3, .int p3), (4, .int p4)]) hx hb dX0_moveAll_1 hl (by decide) rfl (fun ls hl => ?_)
  exact j3 FU a1_im a1_re o_spareIm o_spareRe p2 p3 p4 (0 : Int32) H locs ls hf hP hD hS (lv_sub hl [1, 2, 3, 4, 5, 0] rfl)
