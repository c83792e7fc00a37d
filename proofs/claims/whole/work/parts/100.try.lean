def wX7_greatest (cI cJ cZ : ClassId) (h_o h_o_im h_o_re h_o_wasRe h_o_wasIm h_o_halved : Nat) (o_exp : Int32) (o_done : Int32) (o_backward : Int32) (o_im : Nat → Int32) (o_re : Nat → Int32) : va_W := [(h_o, .inr (7, [.ref h_o_re, .ref h_o_im, .ref h_o_wasRe, .ref h_o_wasIm, .ref h_o_halved, .int o_exp, .int o_done, .int o_backward])), (h_o_im, .inl (cI, 32, .inl o_im)), (h_o_re, .inl (cI, 32, .inl o_re))]
def fX7_greatest_5 (o_im : Nat → Int32) (o_re : Nat → Int32) : Nat → Int32 → Int32 → Int32 → Option (Int32)
  | 0, _, _, _ => none
  | n + 1, v2, v3, v4 =>
    if v2 ≤ v4 then (
      some v3
    ) else (
      if (32 : Int32) ≤ v4 then (
        some v3
      ) else (
        gd (inb v4 32) (
        nm (if 0 ≤ (o_re (Int32.toNatClampNeg v4)) then (o_re (Int32.toNatClampNeg v4)) else 0 - (o_re (Int32.toNatClampNeg v4))) (fun m_4 =>
        gd (inb v4 32) (
        nm (if 0 ≤ (o_im (Int32.toNatClampNeg v4)) then (o_im (Int32.toNatClampNeg v4)) else 0 - (o_im (Int32.toNatClampNeg v4))) (fun m_6 =>
        nm (if m_4 < m_6 then m_6 else m_4) (fun m_7 =>
        nm (if v3 < m_7 then m_7 else v3) (fun m_8 =>
        nm (v4 + (1 : Int32)) (fun v4_9 =>
        fX7_greatest_5 o_im o_re n v2 m_8 v4_9)))))))
      )
    )
def fX7_greatest (o_im : Nat → Int32) (o_re : Nat → Int32) (p1 : Int32) (p2 : Int32) : Option (Int32) :=
  fX7_greatest_5 o_im o_re FU p2 (0 : Int32) p1
set_option maxHeartbeats 4000000 in
set_option maxRecDepth 100000 in
theorem tX7_greatest (l : Launch) (G : va_G) (cI cJ cZ : ClassId) (sz : Nat) (h_o h_o_im h_o_re h_o_wasRe h_o_wasIm h_o_halved : Nat) (o_exp : Int32) (o_done : Int32) (o_backward : Int32) (o_im : Nat → Int32) (o_re : Nat → Int32) (p1 : Int32) (p2 : Int32) (r : Int32) (hf : fX7_greatest o_im o_re p1 p2 = some r) : Met l yX7_greatest (Cond.code yX7_greatest cX7_greatest 5 (some .int) :: BIG) ({ frames := 1, cells := 0, slots := 0, locals := 15 } : Room) (cP G (TY3 cI cJ cZ) [.ref h_o, .int p1, .int p2] sz (wX7_greatest cI cJ cZ h_o h_o_im h_o_re h_o_wasRe h_o_wasIm h_o_halved o_exp o_done o_backward o_im o_re)) (cQ G (TY3 cI cJ cZ) sz (wX7_greatest cI cJ cZ h_o h_o_im h_o_re h_o_wasRe h_o_wasIm h_o_halved o_exp o_done o_backward o_im o_re) (wX7_greatest cI cJ cZ h_o h_o_im h_o_re h_o_wasRe h_o_wasIm h_o_halved o_exp o_done o_backward o_im o_re) (some (.int r))) 0 0 (va_A (wX7_greatest cI cJ cZ h_o h_o_im h_o_re h_o_wasRe h_o_wasIm h_o_halved o_exp o_done o_backward o_im o_re) sz) := by
  refine met_i (cc := cX7_greatest) (maxL := 5) (by decide) (by decide) (fun p e s m below meth c A ls Q hx hb hml hts hown hK hP hD hS hA hl hret => ?_)
  have hown : s.vm.findClass RX7 = some m.cls := hown
  have hl : lv_has ls 5 [(0, .ref h_o), (1, .int p1), (2, .int p2)] := hl
  have j5 : ∀ (n : Nat) (v2 : Int32) (v3 : Int32) (v4 : Int32) (H : Heap) (locs : List Loc) (ls : Array Slot), fX7_greatest_5 o_im o_re n v2 v3 v4 = some r → va_P G vwCl (wX7_greatest cI cJ cZ h_o h_o_im h_o_re h_o_wasRe h_o_wasIm h_o_halved o_exp o_done o_backward o_im o_re) H → va_D A (wX7_greatest cI cJ cZ h_o h_o_im h_o_re h_o_wasRe h_o_wasIm h_o_halved o_exp o_done o_backward o_im o_re) → va_S A s.heap H locs → lv_has ls 5 [(0, .ref h_o), (2, .int v2), (3, .int v3), (4, .int v4)] → W p l e ({ frames := 1, cells := 0, slots := 0, locals := 15 } : Room) s m ([.ref h_o, .int p1, .int p2] : List Value).toArray below meth c H locs 0 0 Q (F0 m 5 ls []) := by
    intro n
    induction n with
    | zero =>
      intro v2 v3 v4 H locs ls hf
      have hf : (none : Option (Int32)) = some r := hf
      cases hf
    | succ n ih =>
      intro v2 v3 v4 H locs ls hf hP hD hS hl
      rw [fX7_greatest_5.eq_2] at hf
      refine lv_iload hx hb dX7_greatest_5 (lv_at hl 3 rfl) ?_
      refine lv_iload_n hx hb dX7_greatest_7 rfl (lv_at hl 1 rfl) ?_
      refine lv_icmp_ge (tgt := 52) hx hb dX7_greatest_8 (by decide) (fun c_1 => ?_) (fun c_1 => ?_)
      · have hf := it_t c_1 hf
        refine lv_iload_n hx hb dX7_greatest_52 rfl (lv_at hl 2 rfl) ?_
        cases hf
        exact hret _ _ _ _ dX7_greatest_53 hP hD hS
      · have hf := it_f c_1 hf
        refine lv_iload hx hb dX7_greatest_11 (lv_at hl 3 rfl) ?_
        refine lv_bipush (v := (32 : Int32)) hx hb dX7_greatest_13 (by decide) ?_
        refine lv_icmp_ge (tgt := 52) hx hb dX7_greatest_15 (by decide) (fun c_2 => ?_) (fun c_2 => ?_)
        · have hf := it_t c_2 hf
          refine lv_iload_n hx hb dX7_greatest_52 rfl (lv_at hl 2 rfl) ?_
          cases hf
          exact hret _ _ _ _ dX7_greatest_53 hP hD hS
        · have hf := it_f c_2 hf
          refine lv_iload_n hx hb dX7_greatest_18 rfl (lv_at hl 2 rfl) ?_
          refine lv_aload_n hx hb dX7_greatest_19 rfl (lv_at hl 0 rfl) ?_
          refine rd (ci := 7) (C := RX7) (T := TX7) (N := 8) hx hb hts inX7 hown hK hP 0 0 rfl rfl (by decide) (hts _ q_fX7_9) rfl dX7_greatest_20 ?_
          refine lv_iload hx hb dX7_greatest_23 (lv_at hl 3 rfl) ?_
          obtain ⟨g_3, hf⟩ := gd_x hf
          refine va_iald hx hb hK hP 2 0 rfl rfl (inb_x g_3) dX7_greatest_25 ?_
          refine va_mabs hx hb (hml.trans hl.1.symm) hown (hts _ q_mX7_48) (hts _ q_s_Lib_Math_abs_name) (hts _ q_n_java_lang_Math) (hts _ q_k_Lib_Math_abs_name) (by decide) (by decide) (Nat.zero_le _) (Nat.zero_le _) dX7_greatest_26 ?_
          refine lv_topi (fun m_4 em_4 => ?_)
          have hf := nm_x em_4 hf
          refine lv_aload_n hx hb dX7_greatest_29 rfl (lv_at hl 0 rfl) ?_
          refine rd (ci := 7) (C := RX7) (T := TX7) (N := 8) hx hb hts inX7 hown hK hP 0 1 rfl rfl (by decide) (hts _ q_fX7_15) rfl dX7_greatest_30 ?_
          refine lv_iload hx hb dX7_greatest_33 (lv_at hl 3 rfl) ?_
          obtain ⟨g_5, hf⟩ := gd_x hf
          refine va_iald hx hb hK hP 1 0 rfl rfl (inb_x g_5) dX7_greatest_35 ?_
          refine va_mabs hx hb (hml.trans hl.1.symm) hown (hts _ q_mX7_48) (hts _ q_s_Lib_Math_abs_name) (hts _ q_n_java_lang_Math) (hts _ q_k_Lib_Math_abs_name) (by decide) (by decide) (Nat.zero_le _) (Nat.zero_le _) dX7_greatest_36 ?_
          refine lv_topi (fun m_6 em_6 => ?_)
          have hf := nm_x em_6 hf
          refine va_mmax hx hb (hml.trans hl.1.symm) hown (hts _ q_mX7_54) (hts _ q_s_Lib_Math_max_name) (hts _ q_n_java_lang_Math) (hts _ q_k_Lib_Math_max_name) (by decide) (by decide) (Nat.zero_le _) (Nat.zero_le _) dX7_greatest_39 ?_
          refine lv_topi (fun m_7 em_7 => ?_)
          have hf := nm_x em_7 hf
          refine va_mmax hx hb (hml.trans hl.1.symm) hown (hts _ q_mX7_54) (hts _ q_s_Lib_Math_max_name) (hts _ q_n_java_lang_Math) (hts _ q_k_Lib_Math_max_name) (by decide) (by decide) (Nat.zero_le _) (Nat.zero_le _) dX7_greatest_42 ?_
          refine lv_topi (fun m_8 em_8 => ?_)
          have hf := nm_x em_8 hf
          refine lv_istore_n (lv' := [(3, .int m_8), (0, .ref h_o), (2, .int v2), (4, .int v4)]) hx hb dX7_greatest_45 rfl hl (by decide) rfl (fun ls hl => ?_)
          obtain ⟨v4_9, ev4_9⟩ : ∃ y : Int32, y = v4 + (1 : Int32) := ⟨_, rfl⟩
          have hf := nm_x ev4_9 hf
          refine lv_iinc (v := v4_9) (lv' := [(4, .int v4_9), (3, .int m_8), (0, .ref h_o), (2, .int v2)]) hx hb dX7_greatest_46 hl (k := 3) rfl (by rw [ev4_9]; rfl) (by decide) rfl (fun ls hl => ?_)
          refine lv_goto (tgt := 5) hx hb dX7_greatest_49 (by decide) ?_
          exact ih v2 m_8 v4_9 H locs ls hf hP hD hS (lv_sub hl [2, 3, 1, 0] rfl)
  unfold fX7_greatest at hf
  obtain ⟨H, eH⟩ : ∃ H, H = s.heap := ⟨_, rfl⟩
  obtain ⟨locs, elocs⟩ : ∃ z : List Loc, z = [] := ⟨_, rfl⟩
  have hP : va_P G vwCl (wX7_greatest cI cJ cZ h_o h_o_im h_o_re h_o_wasRe h_o_wasIm h_o_halved o_exp o_done o_backward o_im o_re) H := by rw [eH]; exact hP
  have hS : va_S A s.heap H locs := by rw [eH, elocs]; exact hS
  suffices hgo : W p l e ({ frames := 1, cells := 0, slots := 0, locals := 15 } : Room) s m ([.ref h_o, .int p1, .int p2] : List Value).toArray below meth c H locs 0 0 Q (F0 m 0 ls []) by rw [eH, elocs] at hgo; exact hgo
  clear eH elocs
  refine lv_iconst (v := (0 : Int32)) hx hb dX7_greatest_0 (by decide) ?_
  refine lv_istore_n (lv' := [(3, .int (0 : Int32)), (0, .ref h_o), (1, .int p1), (2, .int p2)]) hx hb dX7_greatest_1 rfl hl (by decide) rfl (fun ls hl => ?_)
  refine lv_iload_n hx hb dX7_greatest_2 rfl (lv_at hl 2 rfl) ?_
  refine lv_istore (lv' := [(4, .int p1), (3, .int (0 : Int32)), (0, .ref h_o), (1, .int p1), (2, .int p2)]) hx hb dX7_greatest_3 hl (by decide) rfl (fun ls hl => ?_)
  exact j5 FU p2 (0 : Int32) p1 H locs ls hf hP hD hS (lv_sub hl [2, 4, 1, 0] rfl)
def wX7_flipIm (cI cJ cZ : ClassId) (h_o h_o_im h_o_re h_o_wasRe h_o_wasIm h_o_halved : Nat) (o_exp : Int32) (o_done : Int32) (o_backward : Int32) (o_im : Nat → Int32) : va_W := [(h_o, .inr (7, [.ref h_o_re, .ref h_o_im, .ref h_o_wasRe, .ref h_o_wasIm, .ref h_o_halved, .int o_exp, .int o_done, .int o_backward])), (h_o_im, .inl (cI, 32, .inl o_im))]
def fX7_flipIm_2 : Nat → (Nat → Int32) → Int32 → Int32 → Option ((Nat → Int32))
  | 0, _, _, _ => none
  | n + 1, o_im, v1, v2 =>
    if v1 ≤ v2 then (
      some o_im
    ) else (
      gd (inb v2 32) (
      gd (inb v2 32) (
      nm (upd o_im (Int32.toNatClampNeg v2) (-(o_im (Int32.toNatClampNeg v2)))) (fun o_im_4 =>
      nm (v2 + (1 : Int32)) (fun v2_5 =>
      fX7_flipIm_2 n o_im_4 v1 v2_5))))
    )
def fX7_flipIm (o_im : Nat → Int32) (p1 : Int32) : Option ((Nat → Int32)) :=
  fX7_flipIm_2 FU o_im p1 (0 : Int32)
set_option maxHeartbeats 4000000 in
set_option maxRecDepth 100000 in
theorem tX7_flipIm (l : Launch) (G : va_G) (cI cJ cZ : ClassId) (sz : Nat) (h_o h_o_im h_o_re h_o_wasRe h_o_wasIm h_o_halved : Nat) (o_exp : Int32) (o_done : Int32) (o_backward : Int32) (o_im : Nat → Int32) (p1 : Int32) (out_o_im : Nat → Int32) (hf : fX7_flipIm o_im p1 = some out_o_im) : Met l yX7_flipIm (Cond.code yX7_flipIm cX7_flipIm 3 none :: BIG) ({ frames := 0, cells := 0, slots := 0, locals := 0 } : Room) (cP G (TY3 cI cJ cZ) [.ref h_o, .int p1] sz (wX7_flipIm cI cJ cZ h_o h_o_im h_o_re h_o_wasRe h_o_wasIm h_o_halved o_exp o_done o_backward o_im)) (cQ G (TY3 cI cJ cZ) sz (wX7_flipIm cI cJ cZ h_o h_o_im h_o_re h_o_wasRe h_o_wasIm h_o_halved o_exp o_done o_backward o_im) (wX7_flipIm cI cJ cZ h_o h_o_im h_o_re h_o_wasRe h_o_wasIm h_o_halved o_exp o_done o_backward out_o_im) none) 0 0 (va_A (wX7_flipIm cI cJ cZ h_o h_o_im h_o_re h_o_wasRe h_o_wasIm h_o_halved o_exp o_done o_backward o_im) sz) := by
  refine met_v (cc := cX7_flipIm) (maxL := 3) (by decide) (by decide) (fun p e s m below meth c A ls Q hx hb hml hts hown hK hP hD hS hA hl hret => ?_)
  have hown : s.vm.findClass RX7 = some m.cls := hown
  have hl : lv_has ls 3 [(0, .ref h_o), (1, .int p1)] := hl
  have j2 : ∀ (n : Nat) (o_im : Nat → Int32) (v1 : Int32) (v2 : Int32) (H : Heap) (locs : List Loc) (ls : Array Slot), fX7_flipIm_2 n o_im v1 v2 = some out_o_im → va_P G vwCl (wX7_flipIm cI cJ cZ h_o h_o_im h_o_re h_o_wasRe h_o_wasIm h_o_halved o_exp o_done o_backward o_im) H → va_D A (wX7_flipIm cI cJ cZ h_o h_o_im h_o_re h_o_wasRe h_o_wasIm h_o_halved o_exp o_done o_backward o_im) → va_S A s.heap H locs → lv_has ls 3 [(0, .ref h_o), (1, .int v1), (2, .int v2)] → W p l e ({ frames := 0, cells := 0, slots := 0, locals := 0 } : Room) s m ([.ref h_o, .int p1] : List Value).toArray below meth c H locs 0 0 Q (F0 m 2 ls []) := by
    intro n
    induction n with
    | zero =>
      intro o_im v1 v2 H locs ls hf
      have hf : (none : Option ((Nat → Int32))) = some out_o_im := hf
      cases hf
    | succ n ih =>
      intro o_im v1 v2 H locs ls hf hP hD hS hl
      rw [fX7_flipIm_2.eq_2] at hf
      refine lv_iload_n hx hb dX7_flipIm_2 rfl (lv_at hl 2 rfl) ?_
      refine lv_iload_n hx hb dX7_flipIm_3 rfl (lv_at hl 1 rfl) ?_
      refine lv_icmp_ge (tgt := 26) hx hb dX7_flipIm_4 (by decide) (fun c_1 => ?_) (fun c_1 => ?_)
      · have hf := it_t c_1 hf
        cases hf
        exact hret _ _ _ _ dX7_flipIm_26 hP hD hS
      · have hf := it_f c_1 hf
        refine lv_aload_n hx hb dX7_flipIm_7 rfl (lv_at hl 0 rfl) ?_
        refine rd (ci := 7) (C := RX7) (T := TX7) (N := 8) hx hb hts inX7 hown hK hP 0 1 rfl rfl (by decide) (hts _ q_fX7_15) rfl dX7_flipIm_8 ?_
        refine lv_iload_n hx hb dX7_flipIm_11 rfl (lv_at hl 2 rfl) ?_
        refine lv_aload_n hx hb dX7_flipIm_12 rfl (lv_at hl 0 rfl) ?_
        refine rd (ci := 7) (C := RX7) (T := TX7) (N := 8) hx hb hts inX7 hown hK hP 0 1 rfl rfl (by decide) (hts _ q_fX7_15) rfl dX7_flipIm_13 ?_
        refine lv_iload_n hx hb dX7_flipIm_16 rfl (lv_at hl 2 rfl) ?_
        obtain ⟨g_2, hf⟩ := gd_x hf
        refine va_iald hx hb hK hP 1 0 rfl rfl (inb_x g_2) dX7_flipIm_17 ?_
        refine lv_ineg hx hb dX7_flipIm_18 ?_
        obtain ⟨g_3, hf⟩ := gd_x hf
        obtain ⟨o_im_4, eo_im_4⟩ : ∃ y : Nat → Int32, y = upd o_im (Int32.toNatClampNeg v2) (-(o_im (Int32.toNatClampNeg v2))) := ⟨_, rfl⟩
        have hf := nm_x eo_im_4 hf
        refine ist hx hb hK hP hD hS 1 0 rfl rfl (inb_x g_3) dX7_flipIm_19 eo_im_4 (ws2 := (wX7_flipIm cI cJ cZ h_o h_o_im h_o_re h_o_wasRe h_o_wasIm h_o_halved o_exp o_done o_backward o_im_4)) rfl (fun H locs hP hD hS => ?_)
        obtain ⟨v2_5, ev2_5⟩ : ∃ y : Int32, y = v2 + (1 : Int32) := ⟨_, rfl⟩
        have hf := nm_x ev2_5 hf
        refine lv_iinc (v := v2_5) (lv' := [(2, .int v2_5), (0, .ref h_o), (1, .int v1)]) hx hb dX7_flipIm_20 hl (k := 2) rfl (by rw [ev2_5]; rfl) (by decide) rfl (fun ls hl => ?_)
        refine lv_goto (tgt := 2) hx hb dX7_flipIm_23 (by decide) ?_
        exact ih o_im_4 v1 v2_5 H locs ls hf hP hD hS (lv_sub hl [1, 2, 0] rfl)
  unfold fX7_flipIm at hf
  obtain ⟨H, eH⟩ : ∃ H, H = s.heap := ⟨_, rfl⟩
  obtain ⟨locs, elocs⟩ : ∃ z : List Loc, z = [] := ⟨_, rfl⟩
  have hP : va_P G vwCl (wX7_flipIm cI cJ cZ h_o h_o_im h_o_re h_o_wasRe h_o_wasIm h_o_halved o_exp o_done o_backward o_im) H := by rw [eH]; exact hP
  have hS : va_S A s.heap H locs := by rw [eH, elocs]; exact hS
  suffices hgo : W p l e ({ frames := 0, cells := 0, slots := 0, locals := 0 } : Room) s m ([.ref h_o, .int p1] : List Value).toArray below meth c H locs 0 0 Q (F0 m 0 ls []) by rw [eH, elocs] at hgo; exact hgo
  clear eH elocs
  refine lv_iconst (v := (0 : Int32)) hx hb dX7_flipIm_0 (by decide) ?_
  refine lv_istore_n (lv' := [(2, .int (0 : Int32)), (0, .ref h_o), (1, .int p1)]) hx hb dX7_flipIm_1 rfl hl (by decide) rfl (fun ls hl => ?_)
  exact j2 FU o_im p1 (0 : Int32) H locs ls hf hP hD hS (lv_sub hl [1, 2, 0] rfl)
def wX7_goBack (cI cJ cZ : ClassId) (h_o h_o_im h_o_re h_o_wasRe h_o_wasIm h_o_halved : Nat) (o_exp : Int32) (o_done : Int32) (o_backward : Int32) (o_im : Nat → Int32) : va_W := [(h_o, .inr (7, [.ref h_o_re, .ref h_o_im, .ref h_o_wasRe, .ref h_o_wasIm, .ref h_o_halved, .int o_exp, .int o_done, .int o_backward])), (h_o_im, .inl (cI, 32, .inl o_im))]
def fX7_goBack (o_done : Int32) (o_backward : Int32) (o_im : Nat → Int32) (p1 : Int32) : Option (Int32 × Int32 × (Nat → Int32)) :=
  bd1 (fX7_flipIm o_im p1) (fun o_im_1 =>
  some ((0 : Int32), (1 : Int32), o_im_1))
set_option maxHeartbeats 4000000 in
set_option maxRecDepth 100000 in
theorem tX7_goBack (l : Launch) (G : va_G) (cI cJ cZ : ClassId) (sz : Nat) (h_o h_o_im h_o_re h_o_wasRe h_o_wasIm h_o_halved : Nat) (o_exp : Int32) (o_done : Int32) (o_backward : Int32) (o_im : Nat → Int32) (p1 : Int32) (out_o_done : Int32) (out_o_backward : Int32) (out_o_im : Nat → Int32) (hf : fX7_goBack o_done o_backward o_im p1 = some (out_o_done, out_o_backward, out_o_im)) : Met l yX7_goBack (Cond.code yX7_goBack cX7_goBack 2 none :: BIG) ({ frames := 1, cells := 0, slots := 0, locals := 22 } : Room) (cP G (TY3 cI cJ cZ) [.ref h_o, .int p1] sz (wX7_goBack cI cJ cZ h_o h_o_im h_o_re h_o_wasRe h_o_wasIm h_o_halved o_exp o_done o_backward o_im)) (cQ G (TY3 cI cJ cZ) sz (wX7_goBack cI cJ cZ h_o h_o_im h_o_re h_o_wasRe h_o_wasIm h_o_halved o_exp o_done o_backward o_im) (wX7_goBack cI cJ cZ h_o h_o_im h_o_re h_o_wasRe h_o_wasIm h_o_halved o_exp out_o_done out_o_backward out_o_im) none) 0 0 (va_A (wX7_goBack cI cJ cZ h_o h_o_im h_o_re h_o_wasRe h_o_wasIm h_o_halved o_exp o_done o_backward o_im) sz) := by
  refine met_v (cc := cX7_goBack) (maxL := 2) (by decide) (by decide) (fun p e s m below meth c A ls Q hx hb hml hts hown hK hP hD hS hA hl hret => ?_)
  have hown : s.vm.findClass RX7 = some m.cls := hown
  have hl : lv_has ls 2 [(0, .ref h_o), (1, .int p1)] := hl
  unfold fX7_goBack at hf
  obtain ⟨H, eH⟩ : ∃ H, H = s.heap := ⟨_, rfl⟩
  obtain ⟨locs, elocs⟩ : ∃ z : List Loc, z = [] := ⟨_, rfl⟩
  have hP : va_P G vwCl (wX7_goBack cI cJ cZ h_o h_o_im h_o_re h_o_wasRe h_o_wasIm h_o_halved o_exp o_done o_backward o_im) H := by rw [eH]; exact hP
  have hS : va_S A s.heap H locs := by rw [eH, elocs]; exact hS
  suffices hgo : W p l e ({ frames := 1, cells := 0, slots := 0, locals := 22 } : Room) s m ([.ref h_o, .int p1] : List Value).toArray below meth c H locs 0 0 Q (F0 m 0 ls []) by rw [eH, elocs] at hgo; exact hgo
  clear eH elocs
  refine lv_aload_n hx hb dX7_goBack_0 rfl (lv_at hl 0 rfl) ?_
  refine lv_iload_n hx hb dX7_goBack_1 rfl (lv_at hl 1 rfl) ?_
  obtain ⟨o_im_1, e_2, hf⟩ := bd1_x hf
  refine call_v [.int p1] [] ⟨hx, hb, hml, hown, hts⟩ hK hP hD hS hA hl.1 (tX7_flipIm l G cI cJ cZ H.size h_o h_o_im h_o_re h_o_wasRe h_o_wasIm h_o_halved o_exp o_done o_backward o_im p1 o_im_1 e_2) (cwV 1 hts (gv q_mX7_58 q_i_yX7_flipIm q_s_yX7_flipIm q_n_RX7 q_k_yX7_flipIm) rfl rfl rfl (by decide +kernel) ⟨by decide, by decide⟩) rfl rfl (Nat.le_of_ble_eq_true rfl) dX7_goBack_2 ⟨Nat.zero_le _, Nat.zero_le _⟩ (ci := 7) rfl 0 rfl [0, 1] [] [0, 1] rfl (by decide) (ws2 := (wX7_goBack cI cJ cZ h_o h_o_im h_o_re h_o_wasRe h_o_wasIm h_o_halved o_exp o_done o_backward o_im_1)) rfl (fun H locs hP hD hS => ?_)
  refine W.eq (g2 := F0 m 5 ls []) rfl ?_
  refine lv_aload_n hx hb dX7_goBack_5 rfl (lv_at hl 0 rfl) ?_
  refine lv_iconst (v := (1 : Int32)) hx hb dX7_goBack_6 (by decide) ?_
  refine wr (ci := 7) (C := RX7) (T := TX7) (N := 8) hx hb hts inX7 tyX7 tyX7_ok nmX7 hown hK hP hD hS 0 7 rfl rfl (by decide) (hts _ q_fX7_34) rfl rfl rfl (by decide) dX7_goBack_7 (ws2 := (wX7_goBack cI cJ cZ h_o h_o_im h_o_re h_o_wasRe h_o_wasIm h_o_halved o_exp o_done (1 : Int32) o_im_1)) rfl (fun H locs hP hD hS => ?_)
  refine lv_aload_n hx hb dX7_goBack_10 rfl (lv_at hl 0 rfl) ?_
  refine lv_iconst (v := (0 : Int32)) hx hb dX7_goBack_11 (by decide) ?_
  refine wr (ci := 7) (C := RX7) (T := TX7) (N := 8) hx hb hts inX7 tyX7 tyX7_ok nmX7 hown hK hP hD hS 0 6 rfl rfl (by decide) (hts _ q_fX7_31) rfl rfl rfl (by decide) dX7_goBack_12 (ws2 := (wX7_goBack cI cJ cZ h_o h_o_im h_o_re h_o_wasRe h_o_wasIm h_o_halved o_exp (0 : Int32) (1 : Int32) o_im_1)) rfl (fun H locs hP hD hS => ?_)
  cases hf
  exact hret _ _ _ _ dX7_goBack_15 hP hD hS
def wX8_takeBits (cI cJ cZ : ClassId) (h_o h_o_shifts : Nat) (o_size : Int32) (o_log : Int32) (o_wordBits : Int32) (o_limit : Int32) (o_radix : Int32) (o_order : Int32) (o_near : Int32) (o_seed : Int32) (o_stages : Int32) : va_W := [(h_o, .inr (8, [.int o_size, .int o_log, .int o_wordBits, .int o_limit, .int o_radix, .int o_order, .int o_near, .int o_seed, .int o_stages, .ref h_o_shifts]))]
def fX8_takeBits (o_wordBits : Int32) (o_limit : Int32) (p1 : Int32) : Option (Int32 × Int32) :=
  nm (((1 : Int32) <<< ((p1 - (1 : Int32)) &&& 31)) - (1 : Int32)) (fun u_1 =>
  some (p1, u_1))
set_option maxHeartbeats 4000000 in
set_option maxRecDepth 100000 in
theorem tX8_takeBits (l : Launch) (G : va_G) (cI cJ cZ : ClassId) (sz : Nat) (h_o h_o_shifts : Nat) (o_size : Int32) (o_log : Int32) (o_wordBits : Int32) (o_limit : Int32) (o_radix : Int32) (o_order : Int32) (o_near : Int32) (o_seed : Int32) (o_stages : Int32) (p1 : Int32) (out_o_wordBits : Int32) (out_o_limit : Int32) (hf : fX8_takeBits o_wordBits o_limit p1 = some (out_o_wordBits, out_o_limit)) : Met l yX8_takeBits (Cond.code yX8_takeBits cX8_takeBits 2 none :: BIG) ({ frames := 0, cells := 0, slots := 0, locals := 0 } : Room) (cP G (TY3 cI cJ cZ) [.ref h_o, .int p1] sz (wX8_takeBits cI cJ cZ h_o h_o_shifts o_size o_log o_wordBits o_limit o_radix o_order o_near o_seed o_stages)) (cQ G (TY3 cI cJ cZ) sz (wX8_takeBits cI cJ cZ h_o h_o_shifts o_size o_log o_wordBits o_limit o_radix o_order o_near o_seed o_stages) (wX8_takeBits cI cJ cZ h_o h_o_shifts o_size o_log out_o_wordBits out_o_limit o_radix o_order o_near o_seed o_stages) none) 0 0 (va_A (wX8_takeBits cI cJ cZ h_o h_o_shifts o_size o_log o_wordBits o_limit o_radix o_order o_near o_seed o_stages) sz) := by
  refine met_v (cc := cX8_takeBits) (maxL := 2) (by decide) (by decide) (fun p e s m below meth c A ls Q hx hb hml hts hown hK hP hD hS hA hl hret => ?_)
  have hown : s.vm.findClass RX8 = some m.cls := hown
  have hl : lv_has ls 2 [(0, .ref h_o), (1, .int p1)] := hl
  unfold fX8_takeBits at hf
  obtain ⟨H, eH⟩ : ∃ H, H = s.heap := ⟨_, rfl⟩
  obtain ⟨locs, elocs⟩ : ∃ z : List Loc, z = [] := ⟨_, rfl⟩
  have hP : va_P G vwCl (wX8_takeBits cI cJ cZ h_o h_o_shifts o_size o_log o_wordBits o_limit o_radix o_order o_near o_seed o_stages) H := by rw [eH]; exact hP
  have hS : va_S A s.heap H locs := by rw [eH, elocs]; exact hS
  suffices hgo : W p l e ({ frames := 0, cells := 0, slots := 0, locals := 0 } : Room) s m ([.ref h_o, .int p1] : List Value).toArray below meth c H locs 0 0 Q (F0 m 0 ls []) by rw [eH, elocs] at hgo; exact hgo
  clear eH elocs
  refine lv_aload_n hx hb dX8_takeBits_0 rfl (lv_at hl 0 rfl) ?_
  refine lv_iload_n hx hb dX8_takeBits_1 rfl (lv_at hl 1 rfl) ?_
  refine wr (ci := 8) (C := RX8) (T := TX8) (N := 10) hx hb hts inX8 tyX8 tyX8_ok nmX8 hown hK hP hD hS 0 2 rfl rfl (by decide) (hts _ q_fX8_42) rfl rfl rfl (by decide) dX8_takeBits_2 (ws2 := (wX8_takeBits cI cJ cZ h_o h_o_shifts o_size o_log p1 o_limit o_radix o_order o_near o_seed o_stages)) rfl (fun H locs hP hD hS => ?_)
  refine lv_aload_n hx hb dX8_takeBits_5 rfl (lv_at hl 0 rfl) ?_
  refine lv_iconst (v := (1 : Int32)) hx hb dX8_takeBits_6 (by decide) ?_
  refine lv_iload_n hx hb dX8_takeBits_7 rfl (lv_at hl 1 rfl) ?_
  refine lv_iconst (v := (1 : Int32)) hx hb dX8_takeBits_8 (by decide) ?_
  refine lv_isub hx hb dX8_takeBits_9 ?_
  refine lv_ishl hx hb dX8_takeBits_10 ?_
  refine lv_iconst (v := (1 : Int32)) hx hb dX8_takeBits_11 (by decide) ?_
  refine lv_isub hx hb dX8_takeBits_12 ?_
  refine lv_topi (fun u_1 eu_1 => ?_)
  have hf := nm_x eu_1 hf
  refine wr (ci := 8) (C := RX8) (T := TX8) (N := 10) hx hb hts inX8 tyX8 tyX8_ok nmX8 hown hK hP hD hS 0 3 rfl rfl (by decide) (hts _ q_fX8_45) rfl rfl rfl (by decide) dX8_takeBits_13 (ws2 := (wX8_takeBits cI cJ cZ h_o h_o_shifts o_size o_log p1 u_1 o_radix o_order o_near o_seed o_stages)) rfl (fun H locs hP hD hS => ?_)
  cases hf
  exact hret _ _ _ _ dX8_takeBits_16 hP hD hS
def wX8_addStage (cI cJ cZ : ClassId) (h_o h_o_shifts : Nat) (o_size : Int32) (o_log : Int32) (o_wordBits : Int32) (o_limit : Int32) (o_radix : Int32) (o_order : Int32) (o_near : Int32) (o_seed : Int32) (o_stages : Int32) (o_shifts : Nat → Int32) : va_W := [(h_o, .inr (8, [.int o_size, .int o_log, .int o_wordBits, .int o_limit, .int o_radix, .int o_order, .int o_near, .int o_seed, .int o_stages, .ref h_o_shifts])), (h_o_shifts, .inl (cI, 5, .inl o_shifts))]
def fX8_addStage (o_stages : Int32) (o_shifts : Nat → Int32) (p1 : Int32) : Option (Int32 × (Nat → Int32)) :=
  if (5 : Int32) ≤ o_stages then (
    some (o_stages, o_shifts)
  ) else (
    gd (inb o_stages 5) (
    nm (upd o_shifts (Int32.toNatClampNeg o_stages) p1) (fun o_shifts_3 =>
    nm (o_stages + (1 : Int32)) (fun u_4 =>
    some (u_4, o_shifts_3))))
  )
set_option maxHeartbeats 4000000 in
set_option maxRecDepth 100000 in
theorem tX8_addStage (l : Launch) (G : va_G) (cI cJ cZ : ClassId) (sz : Nat) (h_o h_o_shifts : Nat) (o_size : Int32) (o_log : Int32) (o_wordBits : Int32) (o_limit : Int32) (o_radix : Int32) (o_order : Int32) (o_near : Int32) (o_seed : Int32) (o_stages : Int32) (o_shifts : Nat → Int32) (p1 : Int32) (out_o_stages : Int32) (out_o_shifts : Nat → Int32) (hf : fX8_addStage o_stages o_shifts p1 = some (out_o_stages, out_o_shifts)) : Met l yX8_addStage (Cond.code yX8_addStage cX8_addStage 2 none :: BIG) ({ frames := 0, cells := 0, slots := 0, locals := 0 } : Room) (cP G (TY3 cI cJ cZ) [.ref h_o, .int p1] sz (wX8_addStage cI cJ cZ h_o h_o_shifts o_size o_log o_wordBits o_limit o_radix o_order o_near o_seed o_stages o_shifts)) (cQ G (TY3 cI cJ cZ) sz (wX8_addStage cI cJ cZ h_o h_o_shifts o_size o_log o_wordBits o_limit o_radix o_order o_near o_seed o_stages o_shifts) (wX8_addStage cI cJ cZ h_o h_o_shifts o_size o_log o_wordBits o_limit o_radix o_order o_near o_seed out_o_stages out_o_shifts) none) 0 0 (va_A (wX8_addStage cI cJ cZ h_o h_o_shifts o_size o_log o_wordBits o_limit o_radix o_order o_near o_seed o_stages o_shifts) sz) := by
  refine met_v (cc := cX8_addStage) (maxL := 2) (by decide) (by decide) (fun p e s m below meth c A ls Q hx hb hml hts hown hK hP hD hS hA hl hret => ?_)
  have hown : s.vm.findClass RX8 = some m.cls := hown
  have hl : lv_has ls 2 [(0, .ref h_o), (1, .int p1)] := hl
  unfold fX8_addStage at hf
  obtain ⟨H, eH⟩ : ∃ H, H = s.heap := ⟨_, rfl⟩
  obtain ⟨locs, elocs⟩ : ∃ z : List Loc, z = [] := ⟨_, rfl⟩
  have hP : va_P G vwCl (wX8_addStage cI cJ cZ h_o h_o_shifts o_size o_log o_wordBits o_limit o_radix o_order o_near o_seed o_stages o_shifts) H := by rw [eH]; exact hP
  have hS : va_S A s.heap H locs := by rw [eH, elocs]; exact hS
  suffices hgo : W p l e ({ frames := 0, cells := 0, slots := 0, locals := 0 } : Room) s m ([.ref h_o, .int p1] : List Value).toArray below meth c H locs 0 0 Q (F0 m 0 ls []) by rw [eH, elocs] at hgo; exact hgo
  clear eH elocs
  refine lv_aload_n hx hb dX8_addStage_0 rfl (lv_at hl 0 rfl) ?_
  refine rd (ci := 8) (C := RX8) (T := TX8) (N := 10) hx hb hts inX8 hown hK hP 0 8 rfl rfl (by decide) (hts _ q_fX8_54) rfl dX8_addStage_1 ?_
  refine lv_iconst (v := (5 : Int32)) hx hb dX8_addStage_4 (by decide) ?_
  refine lv_icmp_ge (tgt := 28) hx hb dX8_addStage_5 (by decide) (fun c_1 => ?_) (fun c_1 => ?_)
  · have hf := it_t c_1 hf
    cases hf
    exact hret _ _ _ _ dX8_addStage_28 hP hD hS
  · have hf := it_f c_1 hf
    refine lv_aload_n hx hb dX8_addStage_8 rfl (lv_at hl 0 rfl) ?_
    refine rd (ci := 8) (C := RX8) (T := TX8) (N := 10) hx hb hts inX8 hown hK hP 0 9 rfl rfl (by decide) (hts _ q_fX8_9) rfl dX8_addStage_9 ?_
    refine lv_aload_n hx hb dX8_addStage_12 rfl (lv_at hl 0 rfl) ?_
    refine rd (ci := 8) (C := RX8) (T := TX8) (N := 10) hx hb hts inX8 hown hK hP 0 8 rfl rfl (by decide) (hts _ q_fX8_54) rfl dX8_addStage_13 ?_
    refine lv_iload_n hx hb dX8_addStage_16 rfl (lv_at hl 1 rfl) ?_
    obtain ⟨g_2, hf⟩ := gd_x hf
    obtain ⟨o_shifts_3, eo_shifts_3⟩ : ∃ y : Nat → Int32, y = upd o_shifts (Int32.toNatClampNeg o_stages) p1 := ⟨_, rfl⟩
    have hf := nm_x eo_shifts_3 hf
    refine ist hx hb hK hP hD hS 1 0 rfl rfl (inb_x g_2) dX8_addStage_17 eo_shifts_3 (ws2 := (wX8_addStage cI cJ cZ h_o h_o_shifts o_size o_log o_wordBits o_limit o_radix o_order o_near o_seed o_stages o_shifts_3)) rfl (fun H locs hP hD hS => ?_)
    refine lv_aload_n hx hb dX8_addStage_18 rfl (lv_at hl 0 rfl) ?_
    refine lv_dup hx hb dX8_addStage_19 rfl ?_
    refine rd (ci := 8) (C := RX8) (T := TX8) (N := 10) hx hb hts inX8 hown hK hP 0 8 rfl rfl (by decide) (hts _ q_fX8_54) rfl dX8_addStage_20 ?_
    refine lv_iconst (v := (1 : Int32)) hx hb dX8_addStage_23 (by decide) ?_
    refine lv_iadd hx hb dX8_addStage_24 ?_
    refine lv_topi (fun u_4 eu_4 => ?_)
    have hf := nm_x eu_4 hf
    refine wr (ci := 8) (C := RX8) (T := TX8) (N := 10) hx hb hts inX8 tyX8 tyX8_ok nmX8 hown hK hP hD hS 0 8 rfl rfl (by decide) (hts _ q_fX8_54) rfl rfl rfl (by decide) dX8_addStage_25 (ws2 := (wX8_addStage cI cJ cZ h_o h_o_shifts o_size o_log o_wordBits o_limit o_radix o_order o_near o_seed u_4 o_shifts_3)) rfl (fun H locs hP hD hS => ?_)
    cases hf
    exact hret _ _ _ _ dX8_addStage_28 hP hD hS
def wX8_takeShape (cI cJ cZ : ClassId) (h_o h_o_shifts : Nat) (o_size : Int32) (o_log : Int32) (o_wordBits : Int32) (o_limit : Int32) (o_radix : Int32) (o_order : Int32) (o_near : Int32) (o_seed : Int32) (o_stages : Int32) (o_shifts : Nat → Int32) : va_W := [(h_o, .inr (8, [.int o_size, .int o_log, .int o_wordBits, .int o_limit, .int o_radix, .int o_order, .int o_near, .int o_seed, .int o_stages, .ref h_o_shifts])), (h_o_shifts, .inl (cI, 5, .inl o_shifts))]
def fX8_takeShape_111 (o_radix : Int32) (o_order : Int32) (o_stages : Int32) (o_shifts : Nat → Int32) (v3 : Int32) : Option (Int32 × Int32 × Int32 × (Nat → Int32)) :=
  if v3 = 0 then (
    some (o_radix, o_order, o_stages, o_shifts)
  ) else (
    if o_order = 0 then (
      some (o_radix, o_order, o_stages, o_shifts)
    ) else (
      bd2 (fX8_addStage o_stages o_shifts (1 : Int32)) (fun o_stages_17 o_shifts_18 =>
      some (o_radix, o_order, o_stages_17, o_shifts_18))
    )
  )
def fX8_takeShape_102 (k81 : Int32 → Int32 → Int32 → (Nat → Int32) → Int32 → Int32 → Int32 → Option (Int32 × Int32 × Int32 × (Nat → Int32))) (o_radix : Int32) (o_order : Int32) (o_stages : Int32) (o_shifts : Nat → Int32) (v3 : Int32) (v4 : Int32) (v5 : Int32) (s1 : Int32) : Option (Int32 × Int32 × Int32 × (Nat → Int32)) :=
  bd2 (fX8_addStage o_stages o_shifts s1) (fun o_stages_11 o_shifts_12 =>
  nm (v5 + (1 : Int32)) (fun v5_14 =>
  k81 o_radix o_order o_stages_11 o_shifts_12 v3 v4 v5_14))
def fX8_takeShape_81 : Nat → Int32 → Int32 → Int32 → (Nat → Int32) → Int32 → Int32 → Int32 → Option (Int32 × Int32 × Int32 × (Nat → Int32))
  | 0, _, _, _, _, _, _, _ => none
  | n + 1, o_radix, o_order, o_stages, o_shifts, v3, v4, v5 =>
    if v4 ≤ v5 then (
      fX8_takeShape_111 o_radix o_order o_stages o_shifts v3
    ) else (
      if o_radix = (4 : Int32) then (
        fX8_takeShape_102 (fX8_takeShape_81 n) o_radix o_order o_stages o_shifts v3 v4 v5 (2 : Int32)
      ) else (
        fX8_takeShape_102 (fX8_takeShape_81 n) o_radix o_order o_stages o_shifts v3 v4 v5 (1 : Int32)
      )
    )
def fX8_takeShape_78 (o_radix : Int32) (o_order : Int32) (o_stages : Int32) (o_shifts : Nat → Int32) (v3 : Int32) (v4 : Int32) : Option (Int32 × Int32 × Int32 × (Nat → Int32)) :=
  fX8_takeShape_81 FU o_radix o_order o_stages o_shifts v3 v4 (0 : Int32)
def fX8_takeShape_55 (o_radix : Int32) (o_order : Int32) (o_stages : Int32) (o_shifts : Nat → Int32) (v3 : Int32) (s0 : Int32) : Option (Int32 × Int32 × Int32 × (Nat → Int32)) :=
  if v3 = 0 then (
    fX8_takeShape_78 o_radix o_order (0 : Int32) o_shifts v3 s0
  ) else (
    if o_order = 0 then (
      bd2 (fX8_addStage (0 : Int32) o_shifts (1 : Int32)) (fun o_stages_6 o_shifts_7 =>
      fX8_takeShape_78 o_radix o_order o_stages_6 o_shifts_7 v3 s0)
    ) else (
      fX8_takeShape_78 o_radix o_order (0 : Int32) o_shifts v3 s0
    )
  )
def fX8_takeShape_33 (o_log : Int32) (o_radix : Int32) (o_order : Int32) (o_stages : Int32) (o_shifts : Nat → Int32) (s0 : Int32) : Option (Int32 × Int32 × Int32 × (Nat → Int32)) :=
  if o_radix = (4 : Int32) then (
    fX8_takeShape_55 o_radix o_order o_stages o_shifts s0 (o_log >>> ((1 : Int32) &&& 31))
  ) else (
    fX8_takeShape_55 o_radix o_order o_stages o_shifts s0 o_log
  )
def fX8_takeShape_32 (o_log : Int32) (o_radix : Int32) (o_order : Int32) (o_stages : Int32) (o_shifts : Nat → Int32) : Option (Int32 × Int32 × Int32 × (Nat → Int32)) :=
  fX8_takeShape_33 o_log o_radix o_order o_stages o_shifts (0 : Int32)
def fX8_takeShape (o_log : Int32) (o_radix : Int32) (o_order : Int32) (o_stages : Int32) (o_shifts : Nat → Int32) (p1 : Int32) (p2 : Int32) : Option (Int32 × Int32 × Int32 × (Nat → Int32)) :=
  if p1 = (4 : Int32) then (
    if (o_log &&& (1 : Int32)) = (1 : Int32) then (
      fX8_takeShape_33 o_log p1 p2 o_stages o_shifts (1 : Int32)
    ) else (
      fX8_takeShape_32 o_log p1 p2 o_stages o_shifts
    )
  ) else (
    fX8_takeShape_32 o_log p1 p2 o_stages o_shifts
  )
set_option maxHeartbeats 4000000 in
set_option maxRecDepth 100000 in
theorem tX8_takeShape (l : Launch) (G : va_G) (cI cJ cZ : ClassId) (sz : Nat) (h_o h_o_shifts : Nat) (o_size : Int32) (o_log : Int32) (o_wordBits : Int32) (o_limit : Int32) (o_radix : Int32) (o_order : Int32) (o_near : Int32) (o_seed : Int32) (o_stages : Int32) (o_shifts : Nat → Int32) (p1 : Int32) (p2 : Int32) (out_o_radix : Int32) (out_o_order : Int32) (out_o_stages : Int32) (out_o_shifts : Nat → Int32) (hf : fX8_takeShape o_log o_radix o_order o_stages o_shifts p1 p2 = some (out_o_radix, out_o_order, out_o_stages, out_o_shifts)) : Met l yX8_takeShape (Cond.code yX8_takeShape cX8_takeShape 6 none :: BIG) ({ frames := 1, cells := 0, slots := 0, locals := 21 } : Room) (cP G (TY3 cI cJ cZ) [.ref h_o, .int p1, .int p2] sz (wX8_takeShape cI cJ cZ h_o h_o_shifts o_size o_log o_wordBits o_limit o_radix o_order o_near o_seed o_stages o_shifts)) (cQ G (TY3 cI cJ cZ) sz (wX8_takeShape cI cJ cZ h_o h_o_shifts o_size o_log o_wordBits o_limit o_radix o_order o_near o_seed o_stages o_shifts) (wX8_takeShape cI cJ cZ h_o h_o_shifts o_size o_log o_wordBits o_limit out_o_radix out_o_order o_near o_seed out_o_stages out_o_shifts) none) 0 0 (va_A (wX8_takeShape cI cJ cZ h_o h_o_shifts o_size o_log o_wordBits o_limit o_radix o_order o_near o_seed o_stages o_shifts) sz) := by
  refine met_v (cc := cX8_takeShape) (maxL := 6) (by decide) (by decide) (fun p e s m below meth c A ls Q hx hb hml hts hown hK hP hD hS hA hl hret => ?_)
  have hown : s.vm.findClass RX8 = some m.cls := hown
  have hl : lv_has ls 6 [(0, .ref h_o), (1, .int p1), (2, .int p2)] := hl
  have j111 : ∀ (o_radix : Int32) (o_order : Int32) (o_stages : Int32) (o_shifts : Nat → Int32) (v3 : Int32) (H : Heap) (locs : List Loc) (ls : Array Slot), fX8_takeShape_111 o_radix o_order o_stages o_shifts v3 = some (out_o_radix, out_o_order, out_o_stages, out_o_shifts) → va_P G vwCl (wX8_takeShape cI cJ cZ h_o h_o_shifts o_size o_log o_wordBits o_limit o_radix o_order o_near o_seed o_stages o_shifts) H → va_D A (wX8_takeShape cI cJ cZ h_o h_o_shifts o_size o_log o_wordBits o_limit o_radix o_order o_near o_seed o_stages o_shifts) → va_S A s.heap H locs → lv_has ls 6 [(0, .ref h_o), (3, .int v3)] → W p l e ({ frames := 1, cells := 0, slots := 0, locals := 21 } : Room) s m ([.ref h_o, .int p1, .int p2] : List Value).toArray below meth c H locs 0 0 Q (F0 m 111 ls []) := by
    intro o_radix o_order o_stages o_shifts v3 H locs ls hf hP hD hS hl
    unfold fX8_takeShape_111 at hf
    refine lv_iload_n hx hb dX8_takeShape_111 rfl (lv_at hl 1 rfl) ?_
    refine lv_if_eq (tgt := 127) hx hb dX8_takeShape_112 (by decide) (fun c_15 => ?_) (fun c_15 => ?_)
    · have hf := it_t c_15 hf
      cases hf
      exact hret _ _ _ _ dX8_takeShape_127 hP hD hS
    · have hf := it_f c_15 hf
      refine lv_aload_n hx hb dX8_takeShape_115 rfl (lv_at hl 0 rfl) ?_
      refine rd (ci := 8) (C := RX8) (T := TX8) (N := 10) hx hb hts inX8 hown hK hP 0 5 rfl rfl (by decide) (hts _ q_fX8_51) rfl dX8_takeShape_116 ?_
      refine lv_if_eq (tgt := 127) hx hb dX8_takeShape_119 (by decide) (fun c_16 => ?_) (fun c_16 => ?_)
      · have hf := it_t c_16 hf
        cases hf
        exact hret _ _ _ _ dX8_takeShape_127 hP hD hS
      · have hf := it_f c_16 hf
        refine lv_aload_n hx hb dX8_takeShape_122 rfl (lv_at hl 0 rfl) ?_
        refine lv_iconst (v := (1 : Int32)) hx hb dX8_takeShape_123 (by decide) ?_
        obtain ⟨o_stages_17, o_shifts_18, e_19, hf⟩ := bd2_x hf
        refine call_v [.int (1 : Int32)] [] ⟨hx, hb, hml, hown, hts⟩ hK hP hD hS hA hl.1 (tX8_addStage l G cI cJ cZ H.size h_o h_o_shifts o_size o_log o_wordBits o_limit o_radix o_order o_near o_seed o_stages o_shifts (1 : Int32) o_stages_17 o_shifts_18 e_19) (cwV 1 hts (gv q_mX8_57 q_i_yX8_addStage q_s_yX8_addStage q_n_RX8 q_k_yX8_addStage) rfl rfl rfl (by decide +kernel) ⟨by decide, by decide⟩) rfl rfl (Nat.le_of_ble_eq_true rfl) dX8_takeShape_124 ⟨Nat.zero_le _, Nat.zero_le _⟩ (ci := 8) rfl 0 rfl [0, 1] [] [0, 1] rfl (by decide) (ws2 := (wX8_takeShape cI cJ cZ h_o h_o_shifts o_size o_log o_wordBits o_limit o_radix o_order o_near o_seed o_stages_17 o_shifts_18)) rfl (fun H locs hP hD hS => ?_)
        refine W.eq (g2 := F0 m 127 ls []) rfl ?_
        cases hf
        exact hret _ _ _ _ dX8_takeShape_127 hP hD hS
  have j102 : ∀ (k81 : Int32 → Int32 → Int32 → (Nat → Int32) → Int32 → Int32 → Int32 → Option (Int32 × Int32 × Int32 × (Nat → Int32))), (∀ (o_radix : Int32) (o_order : Int32) (o_stages : Int32) (o_shifts : Nat → Int32) (v3 : Int32) (v4 : Int32) (v5 : Int32) (H : Heap) (locs : List Loc) (ls : Array Slot), k81 o_radix o_order o_stages o_shifts v3 v4 v5 = some (out_o_radix, out_o_order, out_o_stages, out_o_shifts) → va_P G vwCl (wX8_takeShape cI cJ cZ h_o h_o_shifts o_size o_log o_wordBits o_limit o_radix o_order o_near o_seed o_stages o_shifts) H → va_D A (wX8_takeShape cI cJ cZ h_o h_o_shifts o_size o_log o_wordBits o_limit o_radix o_order o_near o_seed o_stages o_shifts) → va_S A s.heap H locs → lv_has ls 6 [(0, .ref h_o), (3, .int v3), (4, .int v4), (5, .int v5)] → W p l e ({ frames := 1, cells := 0, slots := 0, locals := 21 } : Room) s m ([.ref h_o, .int p1, .int p2] : List Value).toArray below meth c H locs 0 0 Q (F0 m 81 ls [])) → ∀ (o_radix : Int32) (o_order : Int32) (o_stages : Int32) (o_shifts : Nat → Int32) (v3 : Int32) (v4 : Int32) (v5 : Int32) (s1 : Int32) (H : Heap) (locs : List Loc) (ls : Array Slot), fX8_takeShape_102 k81 o_radix o_order o_stages o_shifts v3 v4 v5 s1 = some (out_o_radix, out_o_order, out_o_stages, out_o_shifts) → va_P G vwCl (wX8_takeShape cI cJ cZ h_o h_o_shifts o_size o_log o_wordBits o_limit o_radix o_order o_near o_seed o_stages o_shifts) H → va_D A (wX8_takeShape cI cJ cZ h_o h_o_shifts o_size o_log o_wordBits o_limit o_radix o_order o_near o_seed o_stages o_shifts) → va_S A s.heap H locs → lv_has ls 6 [(0, .ref h_o), (3, .int v3), (4, .int v4), (5, .int v5)] → W p l e ({ frames := 1, cells := 0, slots := 0, locals := 21 } : Room) s m ([.ref h_o, .int p1, .int p2] : List Value).toArray below meth c H locs 0 0 Q (F0 m 102 ls [.int s1, .ref h_o]) := by
    intro k81 hk81 o_radix o_order o_stages o_shifts v3 v4 v5 s1 H locs ls hf hP hD hS hl
    unfold fX8_takeShape_102 at hf
    obtain ⟨o_stages_11, o_shifts_12, e_13, hf⟩ := bd2_x hf
    refine call_v [.int s1] [] ⟨hx, hb, hml, hown, hts⟩ hK hP hD hS hA hl.1 (tX8_addStage l G cI cJ cZ H.size h_o h_o_shifts o_size o_log o_wordBits o_limit o_radix o_order o_near o_seed o_stages o_shifts s1 o_stages_11 o_shifts_12 e_13) (cwV 1 hts (gv q_mX8_57 q_i_yX8_addStage q_s_yX8_addStage q_n_RX8 q_k_yX8_addStage) rfl rfl rfl (by decide +kernel) ⟨by decide, by decide⟩) rfl rfl (Nat.le_of_ble_eq_true rfl) dX8_takeShape_102 ⟨Nat.zero_le _, Nat.zero_le _⟩ (ci := 8) rfl 0 rfl [0, 1] [] [0, 1] rfl (by decide) (ws2 := (wX8_takeShape cI cJ cZ h_o h_o_shifts o_size o_log o_wordBits o_limit o_radix o_order o_near o_seed o_stages_11 o_shifts_12)) rfl (fun H locs hP hD hS => ?_)
    refine W.eq (g2 := F0 m 105 ls []) rfl ?_
    obtain ⟨v5_14, ev5_14⟩ : ∃ y : Int32, y = v5 + (1 : Int32) := ⟨_, rfl⟩
    have hf := nm_x ev5_14 hf
    refine lv_iinc (v := v5_14) (lv' := [(5, .int v5_14), (0, .ref h_o), (3, .int v3), (4, .int v4)]) hx hb dX8_takeShape_105 hl (k := 3) rfl (by rw [ev5_14]; rfl) (by decide) rfl (fun ls hl => ?_)
    refine lv_goto (tgt := 81) hx hb dX8_takeShape_108 (by decide) ?_
    exact hk81 o_radix o_order o_stages_11 o_shifts_12 v3 v4 v5_14 H locs ls hf hP hD hS (lv_sub hl [1, 2, 3, 0] rfl)
  have j81 : ∀ (n : Nat) (o_radix : Int32) (o_order : Int32) (o_stages : Int32) (o_shifts : Nat → Int32) (v3 : Int32) (v4 : Int32) (v5 : Int32) (H : Heap) (locs : List Loc) (ls : Array Slot), fX8_takeShape_81 n o_radix o_order o_stages o_shifts v3 v4 v5 = some (out_o_radix, out_o_order, out_o_stages, out_o_shifts) → va_P G vwCl (wX8_takeShape cI cJ cZ h_o h_o_shifts o_size o_log o_wordBits o_limit o_radix o_order o_near o_seed o_stages o_shifts) H → va_D A (wX8_takeShape cI cJ cZ h_o h_o_shifts o_size o_log o_wordBits o_limit o_radix o_order o_near o_seed o_stages o_shifts) → va_S A s.heap H locs → lv_has ls 6 [(0, .ref h_o), (3, .int v3), (4, .int v4), (5, .int v5)] → W p l e ({ frames := 1, cells := 0, slots := 0, locals := 21 } : Room) s m ([.ref h_o, .int p1, .int p2] : List Value).toArray below meth c H locs 0 0 Q (F0 m 81 ls []) := by
    intro n
    induction n with
    | zero =>
      intro o_radix o_order o_stages o_shifts v3 v4 v5 H locs ls hf
      have hf : (none : Option (Int32 × Int32 × Int32 × (Nat → Int32))) = some (out_o_radix, out_o_order, out_o_stages, out_o_shifts) := hf
      cases hf
    | succ n ih =>
      intro o_radix o_order o_stages o_shifts v3 v4 v5 H locs ls hf hP hD hS hl
      rw [fX8_takeShape_81.eq_2] at hf
      refine lv_iload hx hb dX8_takeShape_81 (lv_at hl 3 rfl) ?_
      refine lv_iload hx hb dX8_takeShape_83 (lv_at hl 2 rfl) ?_
      refine lv_icmp_ge (tgt := 111) hx hb dX8_takeShape_85 (by decide) (fun c_9 => ?_) (fun c_9 => ?_)
      · have hf := it_t c_9 hf
        exact j111 o_radix o_order o_stages o_shifts v3 H locs ls hf hP hD hS (lv_sub hl [0, 1] rfl)
      · have hf := it_f c_9 hf
        refine lv_aload_n hx hb dX8_takeShape_88 rfl (lv_at hl 0 rfl) ?_
        refine lv_aload_n hx hb dX8_takeShape_89 rfl (lv_at hl 0 rfl) ?_
        refine rd (ci := 8) (C := RX8) (T := TX8) (N := 10) hx hb hts inX8 hown hK hP 0 4 rfl rfl (by decide) (hts _ q_fX8_48) rfl dX8_takeShape_90 ?_
        refine lv_iconst (v := (4 : Int32)) hx hb dX8_takeShape_93 (by decide) ?_
        refine lv_icmp_ne (tgt := 101) hx hb dX8_takeShape_94 (by decide) (fun c_10 => ?_) (fun c_10 => ?_)
        · have hf := it_f c_10 hf
          refine lv_iconst (v := (1 : Int32)) hx hb dX8_takeShape_101 (by decide) ?_
          exact j102 (fX8_takeShape_81 n) ih o_radix o_order o_stages o_shifts v3 v4 v5 (1 : Int32) H locs ls hf hP hD hS (lv_sub hl [0, 1, 2, 3] rfl)
        · have hf := it_t c_10 hf
          refine lv_iconst (v := (2 : Int32)) hx hb dX8_takeShape_97 (by decide) ?_
          refine lv_goto (tgt := 102) hx hb dX8_takeShape_98 (by decide) ?_
          exact j102 (fX8_takeShape_81 n) ih o_radix o_order o_stages o_shifts v3 v4 v5 (2 : Int32) H locs ls hf hP hD hS (lv_sub hl [0, 1, 2, 3] rfl)
  have j78 : ∀ (o_radix : Int32) (o_order : Int32) (o_stages : Int32) (o_shifts : Nat → Int32) (v3 : Int32) (v4 : Int32) (H : Heap) (locs : List Loc) (ls : Array Slot), fX8_takeShape_78 o_radix o_order o_stages o_shifts v3 v4 = some (out_o_radix, out_o_order, out_o_stages, out_o_shifts) → va_P G vwCl (wX8_takeShape cI cJ cZ h_o h_o_shifts o_size o_log o_wordBits o_limit o_radix o_order o_near o_seed o_stages o_shifts) H → va_D A (wX8_takeShape cI cJ cZ h_o h_o_shifts o_size o_log o_wordBits o_limit o_radix o_order o_near o_seed o_stages o_shifts) → va_S A s.heap H locs → lv_has ls 6 [(0, .ref h_o), (3, .int v3), (4, .int v4)] → W p l e ({ frames := 1, cells := 0, slots := 0, locals := 21 } : Room) s m ([.ref h_o, .int p1, .int p2] : List Value).toArray below meth c H locs 0 0 Q (F0 m 78 ls []) := by
    intro o_radix o_order o_stages o_shifts v3 v4 H locs ls hf hP hD hS hl
    unfold fX8_takeShape_78 at hf
    refine lv_iconst (v := (0 : Int32)) hx hb dX8_takeShape_78 (by decide) ?_
    refine lv_istore (lv' := [(5, .int (0 : Int32)), (0, .ref h_o), (3, .int v3), (4, .int v4)]) hx hb dX8_takeShape_79 hl (by decide) rfl (fun ls hl => ?_)
    exact j81 FU o_radix o_order o_stages o_shifts v3 v4 (0 : Int32) H locs ls hf hP hD hS (lv_sub hl [1, 2, 3, 0] rfl)
  have j55 : ∀ (o_radix : Int32) (o_order : Int32) (o_stages : Int32) (o_shifts : Nat → Int32) (v3 : Int32) (s0 : Int32) (H : Heap) (locs : List Loc) (ls : Array Slot), fX8_takeShape_55 o_radix o_order o_stages o_shifts v3 s0 = some (out_o_radix, out_o_order, out_o_stages, out_o_shifts) → va_P G vwCl (wX8_takeShape cI cJ cZ h_o h_o_shifts o_size o_log o_wordBits o_limit o_radix o_order o_near o_seed o_stages o_shifts) H → va_D A (wX8_takeShape cI cJ cZ h_o h_o_shifts o_size o_log o_wordBits o_limit o_radix o_order o_near o_seed o_stages o_shifts) → va_S A s.heap H locs → lv_has ls 6 [(0, .ref h_o), (3, .int v3)] → W p l e ({ frames := 1, cells := 0, slots := 0, locals := 21 } : Room) s m ([.ref h_o, .int p1, .int p2] : List Value).toArray below meth c H locs 0 0 Q (F0 m 55 ls [.int s0]) := by
    intro o_radix o_order o_stages o_shifts v3 s0 H locs ls hf hP hD hS hl
    unfold fX8_takeShape_55 at hf
    refine lv_istore (lv' := [(4, .int s0), (0, .ref h_o), (3, .int v3)]) hx hb dX8_takeShape_55 hl (by decide) rfl (fun ls hl => ?_)
    refine lv_aload_n hx hb dX8_takeShape_57 rfl (lv_at hl 1 rfl) ?_
    refine lv_iconst (v := (0 : Int32)) hx hb dX8_takeShape_58 (by decide) ?_
    refine wr (ci := 8) (C := RX8) (T := TX8) (N := 10) hx hb hts inX8 tyX8 tyX8_ok nmX8 hown hK hP hD hS 0 8 rfl rfl (by decide) (hts _ q_fX8_54) rfl rfl rfl (by decide) dX8_takeShape_59 (ws2 := (wX8_takeShape cI cJ cZ h_o h_o_shifts o_size o_log o_wordBits o_limit o_radix o_order o_near o_seed (0 : Int32) o_shifts)) rfl (fun H locs hP hD hS => ?_)
    refine lv_iload_n hx hb dX8_takeShape_62 rfl (lv_at hl 2 rfl) ?_
    refine lv_if_eq (tgt := 78) hx hb dX8_takeShape_63 (by decide) (fun c_4 => ?_) (fun c_4 => ?_)
    · have hf := it_t c_4 hf
      exact j78 o_radix o_order (0 : Int32) o_shifts v3 s0 H locs ls hf hP hD hS (lv_sub hl [1, 2, 0] rfl)
    · have hf := it_f c_4 hf
      refine lv_aload_n hx hb dX8_takeShape_66 rfl (lv_at hl 1 rfl) ?_
      refine rd (ci := 8) (C := RX8) (T := TX8) (N := 10) hx hb hts inX8 hown hK hP 0 5 rfl rfl (by decide) (hts _ q_fX8_51) rfl dX8_takeShape_67 ?_
      refine lv_if_ne (tgt := 78) hx hb dX8_takeShape_70 (by decide) (fun c_5 => ?_) (fun c_5 => ?_)
      · have hf := it_f c_5 hf
        exact j78 o_radix o_order (0 : Int32) o_shifts v3 s0 H locs ls hf hP hD hS (lv_sub hl [1, 2, 0] rfl)
      · have hf := it_t c_5 hf
        refine lv_aload_n hx hb dX8_takeShape_73 rfl (lv_at hl 1 rfl) ?_
        refine lv_iconst (v := (1 : Int32)) hx hb dX8_takeShape_74 (by decide) ?_
        obtain ⟨o_stages_6, o_shifts_7, e_8, hf⟩ := bd2_x hf
        refine call_v [.int (1 : Int32)] [] ⟨hx, hb, hml, hown, hts⟩ hK hP hD hS hA hl.1 (tX8_addStage l G cI cJ cZ H.size h_o h_o_shifts o_size o_log o_wordBits o_limit o_radix o_order o_near o_seed (0 : Int32) o_shifts (1 : Int32) o_stages_6 o_shifts_7 e_8) (cwV 1 hts (gv q_mX8_57 q_i_yX8_addStage q_s_yX8_addStage q_n_RX8 q_k_yX8_addStage) rfl rfl rfl (by decide +kernel) ⟨by decide, by decide⟩) rfl rfl (Nat.le_of_ble_eq_true rfl) dX8_takeShape_75 ⟨Nat.zero_le _, Nat.zero_le _⟩ (ci := 8) rfl 0 rfl [0, 1] [] [0, 1] rfl (by decide) (ws2 := (wX8_takeShape cI cJ cZ h_o h_o_shifts o_size o_log o_wordBits o_limit o_radix o_order o_near o_seed o_stages_6 o_shifts_7)) rfl (fun H locs hP hD hS => ?_)
        refine W.eq (g2 := F0 m 78 ls []) rfl ?_
        exact j78 o_radix o_order o_stages_6 o_shifts_7 v3 s0 H locs ls hf hP hD hS (lv_sub hl [1, 2, 0] rfl)
  have j33 : ∀ (o_radix : Int32) (o_order : Int32) (o_stages : Int32) (o_shifts : Nat → Int32) (s0 : Int32) (H : Heap) (locs : List Loc) (ls : Array Slot), fX8_takeShape_33 o_log o_radix o_order o_stages o_shifts s0 = some (out_o_radix, out_o_order, out_o_stages, out_o_shifts) → va_P G vwCl (wX8_takeShape cI cJ cZ h_o h_o_shifts o_size o_log o_wordBits o_limit o_radix o_order o_near o_seed o_stages o_shifts) H → va_D A (wX8_takeShape cI cJ cZ h_o h_o_shifts o_size o_log o_wordBits o_limit o_radix o_order o_near o_seed o_stages o_shifts) → va_S A s.heap H locs → lv_has ls 6 [(0, .ref h_o)] → W p l e ({ frames := 1, cells := 0, slots := 0, locals := 21 } : Room) s m ([.ref h_o, .int p1, .int p2] : List Value).toArray below meth c H locs 0 0 Q (F0 m 33 ls [.int s0]) := by
    intro o_radix o_order o_stages o_shifts s0 H locs ls hf hP hD hS hl
    unfold fX8_takeShape_33 at hf
    refine lv_istore_n (lv' := [(3, .int s0), (0, .ref h_o)]) hx hb dX8_takeShape_33 rfl hl (by decide) rfl (fun ls hl => ?_)
    refine lv_aload_n hx hb dX8_takeShape_34 rfl (lv_at hl 1 rfl) ?_
    refine rd (ci := 8) (C := RX8) (T := TX8) (N := 10) hx hb hts inX8 hown hK hP 0 4 rfl rfl (by decide) (hts _ q_fX8_48) rfl dX8_takeShape_35 ?_
    refine lv_iconst (v := (4 : Int32)) hx hb dX8_takeShape_38 (by decide) ?_
    refine lv_icmp_ne (tgt := 51) hx hb dX8_takeShape_39 (by decide) (fun c_3 => ?_) (fun c_3 => ?_)
    · have hf := it_f c_3 hf
      refine lv_aload_n hx hb dX8_takeShape_51 rfl (lv_at hl 1 rfl) ?_
      refine rd (ci := 8) (C := RX8) (T := TX8) (N := 10) hx hb hts inX8 hown hK hP 0 1 rfl rfl (by decide) (hts _ q_fX8_39) rfl dX8_takeShape_52 ?_
      exact j55 o_radix o_order o_stages o_shifts s0 o_log H locs ls hf hP hD hS (lv_sub hl [1, 0] rfl)
    · have hf := it_t c_3 hf
      refine lv_aload_n hx hb dX8_takeShape_42 rfl (lv_at hl 1 rfl) ?_
      refine rd (ci := 8) (C := RX8) (T := TX8) (N := 10) hx hb hts inX8 hown hK hP 0 1 rfl rfl (by decide) (hts _ q_fX8_39) rfl dX8_takeShape_43 ?_
      refine lv_iconst (v := (1 : Int32)) hx hb dX8_takeShape_46 (by decide) ?_
      refine lv_ishr hx hb dX8_takeShape_47 ?_
      refine lv_goto (tgt := 55) hx hb dX8_takeShape_48 (by decide) ?_
      exact j55 o_radix o_order o_stages o_shifts s0 (o_log >>> ((1 : Int32) &&& 31)) H locs ls hf hP hD hS (lv_sub hl [1, 0] rfl)
  have j32 : ∀ (o_radix : Int32) (o_order : Int32) (o_stages : Int32) (o_shifts : Nat → Int32) (H : Heap) (locs : List Loc) (ls : Array Slot), fX8_takeShape_32 o_log o_radix o_order o_stages o_shifts = some (out_o_radix, out_o_order, out_o_stages, out_o_shifts) → va_P G vwCl (wX8_takeShape cI cJ cZ h_o h_o_shifts o_size o_log o_wordBits o_limit o_radix o_order o_near o_seed o_stages o_shifts) H → va_D A (wX8_takeShape cI cJ cZ h_o h_o_shifts o_size o_log o_wordBits o_limit o_radix o_order o_near o_seed o_stages o_shifts) → va_S A s.heap H locs → lv_has ls 6 [(0, .ref h_o)] → W p l e ({ frames := 1, cells := 0, slots := 0, locals := 21 } : Room) s m ([.ref h_o, .int p1, .int p2] : List Value).toArray below meth c H locs 0 0 Q (F0 m 32 ls []) := by
    intro o_radix o_order o_stages o_shifts H locs ls hf hP hD hS hl
    unfold fX8_takeShape_32 at hf
    refine lv_iconst (v := (0 : Int32)) hx hb dX8_takeShape_32 (by decide) ?_
    exact j33 o_radix o_order o_stages o_shifts (0 : Int32) H locs ls hf hP hD hS (lv_sub hl [0] rfl)
  unfold fX8_takeShape at hf
  obtain ⟨H, eH⟩ : ∃ H, H = s.heap := ⟨_, rfl⟩
  obtain ⟨locs, elocs⟩ : ∃ z : List Loc, z = [] := ⟨_, rfl⟩
  have hP : va_P G vwCl (wX8_takeShape cI cJ cZ h_o h_o_shifts o_size o_log o_wordBits o_limit o_radix o_order o_near o_seed o_stages o_shifts) H := by rw [eH]; exact hP
  have hS : va_S A s.heap H locs := by rw [eH, elocs]; exact hS
  suffices hgo : W p l e ({ frames := 1, cells := 0, slots := 0, locals := 21 } : Room) s m ([.ref h_o, .int p1, .int p2] : List Value).toArray below meth c H locs 0 0 Q (F0 m 0 ls []) by rw [eH, elocs] at hgo; exact hgo
  clear eH elocs
  refine lv_aload_n hx hb dX8_takeShape_0 rfl (lv_at hl 0 rfl) ?_
  refine lv_iload_n hx hb dX8_takeShape_1 rfl (lv_at hl 1 rfl) ?_
  refine wr (ci := 8) (C := RX8) (T := TX8) (N := 10) hx hb hts inX8 tyX8 tyX8_ok nmX8 hown hK hP hD hS 0 4 rfl rfl (by decide) (hts _ q_fX8_48) rfl rfl rfl (by decide) dX8_takeShape_2 (ws2 := (wX8_takeShape cI cJ cZ h_o h_o_shifts o_size o_log o_wordBits o_limit p1 o_order o_near o_seed o_stages o_shifts)) rfl (fun H locs hP hD hS => ?_)
  refine lv_aload_n hx hb dX8_takeShape_5 rfl (lv_at hl 0 rfl) ?_
  refine lv_iload_n hx hb dX8_takeShape_6 rfl (lv_at hl 2 rfl) ?_
  refine wr (ci := 8) (C := RX8) (T := TX8) (N := 10) hx hb hts inX8 tyX8 tyX8_ok nmX8 hown hK hP hD hS 0 5 rfl rfl (by decide) (hts _ q_fX8_51) rfl rfl rfl (by decide) dX8_takeShape_7 (ws2 := (wX8_takeShape cI cJ cZ h_o h_o_shifts o_size o_log o_wordBits o_limit p1 p2 o_near o_seed o_stages o_shifts)) rfl (fun H locs hP hD hS => ?_)
  refine lv_aload_n hx hb dX8_takeShape_10 rfl (lv_at hl 0 rfl) ?_
  refine rd (ci := 8) (C := RX8) (T := TX8) (N := 10) hx hb hts inX8 hown hK hP 0 4 rfl rfl (by decide) (hts _ q_fX8_48) rfl dX8_takeShape_11 ?_
  refine lv_iconst (v := (4 : Int32)) hx hb dX8_takeShape_14 (by decide) ?_
  refine lv_icmp_ne (tgt := 32) hx hb dX8_takeShape_15 (by decide) (fun c_1 => ?_) (fun c_1 => ?_)
  · have hf := it_f c_1 hf
    exact j32 p1 p2 o_stages o_shifts H locs ls hf hP hD hS (lv_sub hl [0] rfl)
  · have hf := it_t c_1 hf
    refine lv_aload_n hx hb dX8_takeShape_18 rfl (lv_at hl 0 rfl) ?_
    refine rd (ci := 8) (C := RX8) (T := TX8) (N := 10) hx hb hts inX8 hown hK hP 0 1 rfl rfl (by decide) (hts _ q_fX8_39) rfl dX8_takeShape_19 ?_
    refine lv_iconst (v := (1 : Int32)) hx hb dX8_takeShape_22 (by decide) ?_
    refine lv_iand hx hb dX8_takeShape_23 ?_
    refine lv_iconst (v := (1 : Int32)) hx hb dX8_takeShape_24 (by decide) ?_
    refine lv_icmp_ne (tgt := 32) hx hb dX8_takeShape_25 (by decide) (fun c_2 => ?_) (fun c_2 => ?_)
    · have hf := it_f c_2 hf
      exact j32 p1 p2 o_stages o_shifts H locs ls hf hP hD hS (lv_sub hl [0] rfl)
    · have hf := it_t c_2 hf
      refine lv_iconst (v := (1 : Int32)) hx hb dX8_takeShape_28 (by decide) ?_
      refine lv_goto (tgt := 33) hx hb dX8_takeShape_29 (by decide) ?_
      exact j33 p1 p2 o_stages o_shifts (1 : Int32) H locs ls hf hP hD hS (lv_sub hl [0] rfl)
def wX4_isSetting (cI cJ cZ : ClassId) (h_o h_o_way h_o_re h_o_im : Nat) (o_fault : Int32) (o_faultPlace : Int32) (o_toldWords : Int32) (o_toldRe : Int32) (o_toldIm : Int32) (o_length : Int32) (o_place : Int32) (o_kind : Int32) (o_start : Int32) (o_number : Int32) : va_W := [(h_o, .inr (4, [.ref h_o_way, .ref h_o_re, .ref h_o_im, .int o_fault, .int o_faultPlace, .int o_toldWords, .int o_toldRe, .int o_toldIm, .int o_length, .int o_place, .int o_kind, .int o_start, .int o_number]))]
def fX4_isSetting (o_number : Int32) (p1 : Int32) : Option (Int32) :=
  if p1 = (0 : Int32) then (
    if o_number = (2 : Int32) then (
      some (1 : Int32)
    ) else (
      if o_number = (4 : Int32) then (
        some (1 : Int32)
      ) else (
        if o_number = (8 : Int32) then (
          some (1 : Int32)
        ) else (
          if o_number = (16 : Int32) then (
            some (1 : Int32)
          ) else (
            if o_number = (32 : Int32) then (
              some (1 : Int32)
            ) else (
              some (0 : Int32)
            )
          )
        )
      )
    )
  ) else (
  if p1 = (1 : Int32) then (
    if o_number < (8 : Int32) then (
      some (0 : Int32)
    ) else (
      if (16 : Int32) < o_number then (
        some (0 : Int32)
      ) else (
        some (1 : Int32)
      )
    )
  ) else (
  if p1 = (2 : Int32) then (
    if o_number = (2 : Int32) then (
      some (1 : Int32)
    ) else (
      if o_number = (4 : Int32) then (
        some (1 : Int32)
      ) else (
        some (0 : Int32)
      )
    )
  ) else (
  if p1 = (3 : Int32) then (
    if (1 : Int32) < o_number then (
      some (0 : Int32)
    ) else (
      some (1 : Int32)
    )
  ) else (
  if p1 = (4 : Int32) then (
    if (1 : Int32) < o_number then (
      some (0 : Int32)
    ) else (
      some (1 : Int32)
    )
  ) else (
  if (99999 : Int32) < o_number then (
    some (0 : Int32)
  ) else (
    some (1 : Int32)
  ))))))
set_option maxHeartbeats 4000000 in
set_option maxRecDepth 100000 in
theorem tX4_isSetting (l : Launch) (G : va_G) (cI cJ cZ : ClassId) (sz : Nat) (h_o h_o_way h_o_re h_o_im : Nat) (o_fault : Int32) (o_faultPlace : Int32) (o_toldWords : Int32) (o_toldRe : Int32) (o_toldIm : Int32) (o_length : Int32) (o_place : Int32) (o_kind : Int32) (o_start : Int32) (o_number : Int32) (p1 : Int32) (r : Int32) (hf : fX4_isSetting o_number p1 = some r) : Met l yX4_isSetting (Cond.code yX4_isSetting cX4_isSetting 2 (some .boolean) :: BIG) ({ frames := 0, cells := 0, slots := 0, locals := 0 } : Room) (cP G (TY3 cI cJ cZ) [.ref h_o, .int p1] sz (wX4_isSetting cI cJ cZ h_o h_o_way h_o_re h_o_im o_fault o_faultPlace o_toldWords o_toldRe o_toldIm o_length o_place o_kind o_start o_number)) (cQ G (TY3 cI cJ cZ) sz (wX4_isSetting cI cJ cZ h_o h_o_way h_o_re h_o_im o_fault o_faultPlace o_toldWords o_toldRe o_toldIm o_length o_place o_kind o_start o_number) (wX4_isSetting cI cJ cZ h_o h_o_way h_o_re h_o_im o_fault o_faultPlace o_toldWords o_toldRe o_toldIm o_length o_place o_kind o_start o_number) (some (.int r))) 0 0 (va_A (wX4_isSetting cI cJ cZ h_o h_o_way h_o_re h_o_im o_fault o_faultPlace o_toldWords o_toldRe o_toldIm o_length o_place o_kind o_start o_number) sz) := by
  refine met_z (cc := cX4_isSetting) (maxL := 2) (by decide) (by decide) (fun p e s m below meth c A ls Q hx hb hml hts hown hK hP hD hS hA hl hret => ?_)
  have hown : s.vm.findClass RX4 = some m.cls := hown
  have hl : lv_has ls 2 [(0, .ref h_o), (1, .int p1)] := hl
  unfold fX4_isSetting at hf
  obtain ⟨H, eH⟩ : ∃ H, H = s.heap := ⟨_, rfl⟩
  obtain ⟨locs, elocs⟩ : ∃ z : List Loc, z = [] := ⟨_, rfl⟩
  have hP : va_P G vwCl (wX4_isSetting cI cJ cZ h_o h_o_way h_o_re h_o_im o_fault o_faultPlace o_toldWords o_toldRe o_toldIm o_length o_place o_kind o_start o_number) H := by rw [eH]; exact hP
  have hS : va_S A s.heap H locs := by rw [eH, elocs]; exact hS
  suffices hgo : W p l e ({ frames := 0, cells := 0, slots := 0, locals := 0 } : Room) s m ([.ref h_o, .int p1] : List Value).toArray below meth c H locs 0 0 Q (F0 m 0 ls []) by rw [eH, elocs] at hgo; exact hgo
  clear eH elocs
  refine lv_iload_n hx hb dX4_isSetting_0 rfl (lv_at hl 1 rfl) ?_
  by_cases c_1 : p1 = (0 : Int32)
  · have hf := it_t c_1 hf
    refine lv_tableIn (tgt := 36) hx hb dX4_isSetting_1 (by rw [c_1]; decide) (by rw [c_1]; decide) (by rw [c_1]; rfl) (by decide) ?_
    refine lv_aload_n hx hb dX4_isSetting_36 rfl (lv_at hl 0 rfl) ?_
    refine rd (ci := 4) (C := RX4) (T := TX4) (N := 13) hx hb hts inX4 hown hK hP 0 12 rfl rfl (by decide) (hts _ q_fX4_89) rfl dX4_isSetting_37 ?_
    refine lv_iconst (v := (2 : Int32)) hx hb dX4_isSetting_40 (by decide) ?_
    refine lv_icmp_eq (tgt := 79) hx hb dX4_isSetting_41 (by decide) (fun c_2 => ?_) (fun c_2 => ?_)
    · have hf := it_t c_2 hf
      refine lv_iconst (v := (1 : Int32)) hx hb dX4_isSetting_79 (by decide) ?_
      refine lv_goto (tgt := 84) hx hb dX4_isSetting_80 (by decide) ?_
      cases hf
      exact hret _ _ _ _ dX4_isSetting_84 rfl hP hD hS
    · have hf := it_f c_2 hf
      refine lv_aload_n hx hb dX4_isSetting_44 rfl (lv_at hl 0 rfl) ?_
      refine rd (ci := 4) (C := RX4) (T := TX4) (N := 13) hx hb hts inX4 hown hK hP 0 12 rfl rfl (by decide) (hts _ q_fX4_89) rfl dX4_isSetting_45 ?_
      refine lv_iconst (v := (4 : Int32)) hx hb dX4_isSetting_48 (by decide) ?_
      refine lv_icmp_eq (tgt := 79) hx hb dX4_isSetting_49 (by decide) (fun c_3 => ?_) (fun c_3 => ?_)
      · have hf := it_t c_3 hf
        refine lv_iconst (v := (1 : Int32)) hx hb dX4_isSetting_79 (by decide) ?_
        refine lv_goto (tgt := 84) hx hb dX4_isSetting_80 (by decide) ?_
        cases hf
        exact hret _ _ _ _ dX4_isSetting_84 rfl hP hD hS
      · have hf := it_f c_3 hf
        refine lv_aload_n hx hb dX4_isSetting_52 rfl (lv_at hl 0 rfl) ?_
        refine rd (ci := 4) (C := RX4) (T := TX4) (N := 13) hx hb hts inX4 hown hK hP 0 12 rfl rfl (by decide) (hts _ q_fX4_89) rfl dX4_isSetting_53 ?_
        refine lv_bipush (v := (8 : Int32)) hx hb dX4_isSetting_56 (by decide) ?_
        refine lv_icmp_eq (tgt := 79) hx hb dX4_isSetting_58 (by decide) (fun c_4 => ?_) (fun c_4 => ?_)
        · have hf := it_t c_4 hf
          refine lv_iconst (v := (1 : Int32)) hx hb dX4_isSetting_79 (by decide) ?_
          refine lv_goto (tgt := 84) hx hb dX4_isSetting_80 (by decide) ?_
          cases hf
          exact hret _ _ _ _ dX4_isSetting_84 rfl hP hD hS
        · have hf := it_f c_4 hf
          refine lv_aload_n hx hb dX4_isSetting_61 rfl (lv_at hl 0 rfl) ?_
          refine rd (ci := 4) (C := RX4) (T := TX4) (N := 13) hx hb hts inX4 hown hK hP 0 12 rfl rfl (by decide) (hts _ q_fX4_89) rfl dX4_isSetting_62 ?_
          refine lv_bipush (v := (16 : Int32)) hx hb dX4_isSetting_65 (by decide) ?_
          refine lv_icmp_eq (tgt := 79) hx hb dX4_isSetting_67 (by decide) (fun c_5 => ?_) (fun c_5 => ?_)
          · have hf := it_t c_5 hf
            refine lv_iconst (v := (1 : Int32)) hx hb dX4_isSetting_79 (by decide) ?_
            refine lv_goto (tgt := 84) hx hb dX4_isSetting_80 (by decide) ?_
            cases hf
            exact hret _ _ _ _ dX4_isSetting_84 rfl hP hD hS
          · have hf := it_f c_5 hf
            refine lv_aload_n hx hb dX4_isSetting_70 rfl (lv_at hl 0 rfl) ?_
            refine rd (ci := 4) (C := RX4) (T := TX4) (N := 13) hx hb hts inX4 hown hK hP 0 12 rfl rfl (by decide) (hts _ q_fX4_89) rfl dX4_isSetting_71 ?_
            refine lv_bipush (v := (32 : Int32)) hx hb dX4_isSetting_74 (by decide) ?_
            refine lv_icmp_ne (tgt := 83) hx hb dX4_isSetting_76 (by decide) (fun c_6 => ?_) (fun c_6 => ?_)
            · have hf := it_f c_6 hf
              refine lv_iconst (v := (0 : Int32)) hx hb dX4_isSetting_83 (by decide) ?_
              cases hf
              exact hret _ _ _ _ dX4_isSetting_84 rfl hP hD hS
            · have hf := it_t c_6 hf
              refine lv_iconst (v := (1 : Int32)) hx hb dX4_isSetting_79 (by decide) ?_
              refine lv_goto (tgt := 84) hx hb dX4_isSetting_80 (by decide) ?_
              cases hf
              exact hret _ _ _ _ dX4_isSetting_84 rfl hP hD hS
  have hf := it_f c_1 hf
  by_cases c_7 : p1 = (1 : Int32)
  · have hf := it_t c_7 hf
    refine lv_tableIn (tgt := 85) hx hb dX4_isSetting_1 (by rw [c_7]; decide) (by rw [c_7]; decide) (by rw [c_7]; rfl) (by decide) ?_
    refine lv_aload_n hx hb dX4_isSetting_85 rfl (lv_at hl 0 rfl) ?_
    refine rd (ci := 4) (C := RX4) (T := TX4) (N := 13) hx hb hts inX4 hown hK hP 0 12 rfl rfl (by decide) (hts _ q_fX4_89) rfl dX4_isSetting_86 ?_
    refine lv_bipush (v := (8 : Int32)) hx hb dX4_isSetting_89 (by decide) ?_
    refine lv_icmp_lt (tgt := 107) hx hb dX4_isSetting_91 (by decide) (fun c_8 => ?_) (fun c_8 => ?_)
    · have hf := it_t c_8 hf
      refine lv_iconst (v := (0 : Int32)) hx hb dX4_isSetting_107 (by decide) ?_
      cases hf
      exact hret _ _ _ _ dX4_isSetting_108 rfl hP hD hS
    · have hf := it_f c_8 hf
      refine lv_aload_n hx hb dX4_isSetting_94 rfl (lv_at hl 0 rfl) ?_
      refine rd (ci := 4) (C := RX4) (T := TX4) (N := 13) hx hb hts inX4 hown hK hP 0 12 rfl rfl (by decide) (hts _ q_fX4_89) rfl dX4_isSetting_95 ?_
      refine lv_bipush (v := (16 : Int32)) hx hb dX4_isSetting_98 (by decide) ?_
      refine lv_icmp_gt (tgt := 107) hx hb dX4_isSetting_100 (by decide) (fun c_9 => ?_) (fun c_9 => ?_)
      · have hf := it_t c_9 hf
        refine lv_iconst (v := (0 : Int32)) hx hb dX4_isSetting_107 (by decide) ?_
        cases hf
        exact hret _ _ _ _ dX4_isSetting_108 rfl hP hD hS
      · have hf := it_f c_9 hf
        refine lv_iconst (v := (1 : Int32)) hx hb dX4_isSetting_103 (by decide) ?_
        refine lv_goto (tgt := 108) hx hb dX4_isSetting_104 (by decide) ?_
        cases hf
        exact hret _ _ _ _ dX4_isSetting_108 rfl hP hD hS
  have hf := it_f c_7 hf
  by_cases c_10 : p1 = (2 : Int32)
  · have hf := it_t c_10 hf
    refine lv_tableIn (tgt := 109) hx hb dX4_isSetting_1 (by rw [c_10]; decide) (by rw [c_10]; decide) (by rw [c_10]; rfl) (by decide) ?_
    refine lv_aload_n hx hb dX4_isSetting_109 rfl (lv_at hl 0 rfl) ?_
    refine rd (ci := 4) (C := RX4) (T := TX4) (N := 13) hx hb hts inX4 hown hK hP 0 12 rfl rfl (by decide) (hts _ q_fX4_89) rfl dX4_isSetting_110 ?_
    refine lv_iconst (v := (2 : Int32)) hx hb dX4_isSetting_113 (by decide) ?_
    refine lv_icmp_eq (tgt := 125) hx hb dX4_isSetting_114 (by decide) (fun c_11 => ?_) (fun c_11 => ?_)
    · have hf := it_t c_11 hf
      refine lv_iconst (v := (1 : Int32)) hx hb dX4_isSetting_125 (by decide) ?_
      refine lv_goto (tgt := 130) hx hb dX4_isSetting_126 (by decide) ?_
      cases hf
      exact hret _ _ _ _ dX4_isSetting_130 rfl hP hD hS
    · have hf := it_f c_11 hf
      refine lv_aload_n hx hb dX4_isSetting_117 rfl (lv_at hl 0 rfl) ?_
      refine rd (ci := 4) (C := RX4) (T := TX4) (N := 13) hx hb hts inX4 hown hK hP 0 12 rfl rfl (by decide) (hts _ q_fX4_89) rfl dX4_isSetting_118 ?_
      refine lv_iconst (v := (4 : Int32)) hx hb dX4_isSetting_121 (by decide) ?_
      refine lv_icmp_ne (tgt := 129) hx hb dX4_isSetting_122 (by decide) (fun c_12 => ?_) (fun c_12 => ?_)
      · have hf := it_f c_12 hf
        refine lv_iconst (v := (0 : Int32)) hx hb dX4_isSetting_129 (by decide) ?_
        cases hf
        exact hret _ _ _ _ dX4_isSetting_130 rfl hP hD hS
      · have hf := it_t c_12 hf
        refine lv_iconst (v := (1 : Int32)) hx hb dX4_isSetting_125 (by decide) ?_
        refine lv_goto (tgt := 130) hx hb dX4_isSetting_126 (by decide) ?_
        cases hf
        exact hret _ _ _ _ dX4_isSetting_130 rfl hP hD hS
  have hf := it_f c_10 hf
  by_cases c_13 : p1 = (3 : Int32)
  · have hf := it_t c_13 hf
    refine lv_tableIn (tgt := 131) hx hb dX4_isSetting_1 (by rw [c_13]; decide) (by rw [c_13]; decide) (by rw [c_13]; rfl) (by decide) ?_
    refine lv_aload_n hx hb dX4_isSetting_131 rfl (lv_at hl 0 rfl) ?_
    refine rd (ci := 4) (C := RX4) (T := TX4) (N := 13) hx hb hts inX4 hown hK hP 0 12 rfl rfl (by decide) (hts _ q_fX4_89) rfl dX4_isSetting_132 ?_
    refine lv_iconst (v := (1 : Int32)) hx hb dX4_isSetting_135 (by decide) ?_
    refine lv_icmp_gt (tgt := 143) hx hb dX4_isSetting_136 (by decide) (fun c_14 => ?_) (fun c_14 => ?_)
    · have hf := it_t c_14 hf
      refine lv_iconst (v := (0 : Int32)) hx hb dX4_isSetting_143 (by decide) ?_
      cases hf
      exact hret _ _ _ _ dX4_isSetting_144 rfl hP hD hS
    · have hf := it_f c_14 hf
      refine lv_iconst (v := (1 : Int32)) hx hb dX4_isSetting_139 (by decide) ?_
      refine lv_goto (tgt := 144) hx hb dX4_isSetting_140 (by decide) ?_
      cases hf
      exact hret _ _ _ _ dX4_isSetting_144 rfl hP hD hS
  have hf := it_f c_13 hf
  by_cases c_15 : p1 = (4 : Int32)
  · have hf := it_t c_15 hf
    refine lv_tableIn (tgt := 131) hx hb dX4_isSetting_1 (by rw [c_15]; decide) (by rw [c_15]; decide) (by rw [c_15]; rfl) (by decide) ?_
    refine lv_aload_n hx hb dX4_isSetting_131 rfl (lv_at hl 0 rfl) ?_
    refine rd (ci := 4) (C := RX4) (T := TX4) (N := 13) hx hb hts inX4 hown hK hP 0 12 rfl rfl (by decide) (hts _ q_fX4_89) rfl dX4_isSetting_132 ?_
    refine lv_iconst (v := (1 : Int32)) hx hb dX4_isSetting_135 (by decide) ?_
    refine lv_icmp_gt (tgt := 143) hx hb dX4_isSetting_136 (by decide) (fun c_16 => ?_) (fun c_16 => ?_)
    · have hf := it_t c_16 hf
      refine lv_iconst (v := (0 : Int32)) hx hb dX4_isSetting_143 (by decide) ?_
      cases hf
      exact hret _ _ _ _ dX4_isSetting_144 rfl hP hD hS
    · have hf := it_f c_16 hf
      refine lv_iconst (v := (1 : Int32)) hx hb dX4_isSetting_139 (by decide) ?_
      refine lv_goto (tgt := 144) hx hb dX4_isSetting_140 (by decide) ?_
      cases hf
      exact hret _ _ _ _ dX4_isSetting_144 rfl hP hD hS
  have hf := it_f c_15 hf
  refine lv_tableOut (tgt := 145) hx hb dX4_isSetting_1 (by have q0 := lv_neT (a := 0) c_1 rfl; have q1 := lv_neT (a := 1) c_7 rfl; have q2 := lv_neT (a := 2) c_10 rfl; have q3 := lv_neT (a := 3) c_13 rfl; have q4 := lv_neT (a := 4) c_15 rfl; omega) (by decide) ?_
  refine lv_aload_n hx hb dX4_isSetting_145 rfl (lv_at hl 0 rfl) ?_
  refine rd (ci := 4) (C := RX4) (T := TX4) (N := 13) hx hb hts inX4 hown hK hP 0 12 rfl rfl (by decide) (hts _ q_fX4_89) rfl dX4_isSetting_146 ?_
  refine lv_ldc (v := (99999 : Int32)) hx hb hown (hts _ q_cX4_92) dX4_isSetting_149 ?_
  refine lv_icmp_gt (tgt := 158) hx hb dX4_isSetting_151 (by decide) (fun c_17 => ?_) (fun c_17 => ?_)
  · have hf := it_t c_17 hf
    refine lv_iconst (v := (0 : Int32)) hx hb dX4_isSetting_158 (by decide) ?_
    cases hf
    exact hret _ _ _ _ dX4_isSetting_159 rfl hP hD hS
  · have hf := it_f c_17 hf
    refine lv_iconst (v := (1 : Int32)) hx hb dX4_isSetting_154 (by decide) ?_
    refine lv_goto (tgt := 159) hx hb dX4_isSetting_155 (by decide) ?_
    cases hf
    exact hret _ _ _ _ dX4_isSetting_159 rfl hP hD hS
def wX2_knownNow (cI cJ cZ : ClassId) (h_o h_o_kinds h_o_targets h_o_bins : Nat) (o_total : Int32) (o_knownBy : Int32) : va_W := [(h_o, .inr (2, [.ref h_o_kinds, .ref h_o_targets, .ref h_o_bins, .int o_total, .int o_knownBy]))]
def fX2_knownNow (o_total : Int32) (o_knownBy : Int32) : Option (Int32) :=
  if 0 ≤ o_knownBy then (
    some o_knownBy
  ) else (
    some o_total
  )
set_option maxHeartbeats 4000000 in
set_option maxRecDepth 100000 in
theorem tX2_knownNow (l : Launch) (G : va_G) (cI cJ cZ : ClassId) (sz : Nat) (h_o h_o_kinds h_o_targets h_o_bins : Nat) (o_total : Int32) (o_knownBy : Int32) (r : Int32) (hf : fX2_knownNow o_total o_knownBy = some r) : Met l yX2_knownNow (Cond.code yX2_knownNow cX2_knownNow 1 (some .int) :: BIG) ({ frames := 0, cells := 0, slots := 0, locals := 0 } : Room) (cP G (TY3 cI cJ cZ) [.ref h_o] sz (wX2_knownNow cI cJ cZ h_o h_o_kinds h_o_targets h_o_bins o_total o_knownBy)) (cQ G (TY3 cI cJ cZ) sz (wX2_knownNow cI cJ cZ h_o h_o_kinds h_o_targets h_o_bins o_total o_knownBy) (wX2_knownNow cI cJ cZ h_o h_o_kinds h_o_targets h_o_bins o_total o_knownBy) (some (.int r))) 0 0 (va_A (wX2_knownNow cI cJ cZ h_o h_o_kinds h_o_targets h_o_bins o_total o_knownBy) sz) := by
  refine met_i (cc := cX2_knownNow) (maxL := 1) (by decide) (by decide) (fun p e s m below meth c A ls Q hx hb hml hts hown hK hP hD hS hA hl hret => ?_)
  have hown : s.vm.findClass RX2 = some m.cls := hown
  have hl : lv_has ls 1 [(0, .ref h_o)] := hl
  unfold fX2_knownNow at hf
  obtain ⟨H, eH⟩ : ∃ H, H = s.heap := ⟨_, rfl⟩
  obtain ⟨locs, elocs⟩ : ∃ z : List Loc, z = [] := ⟨_, rfl⟩
  have hP : va_P G vwCl (wX2_knownNow cI cJ cZ h_o h_o_kinds h_o_targets h_o_bins o_total o_knownBy) H := by rw [eH]; exact hP
  have hS : va_S A s.heap H locs := by rw [eH, elocs]; exact hS
  suffices hgo : W p l e ({ frames := 0, cells := 0, slots := 0, locals := 0 } : Room) s m ([.ref h_o] : List Value).toArray below meth c H locs 0 0 Q (F0 m 0 ls []) by rw [eH, elocs] at hgo; exact hgo
  clear eH elocs
  refine lv_aload_n hx hb dX2_knownNow_0 rfl (lv_at hl 0 rfl) ?_
  refine rd (ci := 2) (C := RX2) (T := TX2) (N := 5) hx hb hts inX2 hown hK hP 0 4 rfl rfl (by decide) (hts _ q_fX2_25) rfl dX2_knownNow_1 ?_
  refine lv_if_ge (tgt := 14) hx hb dX2_knownNow_4 (by decide) (fun c_1 => ?_) (fun c_1 => ?_)
  · have hf := it_t c_1 hf
    refine lv_aload_n hx hb dX2_knownNow_14 rfl (lv_at hl 0 rfl) ?_
    refine rd (ci := 2) (C := RX2) (T := TX2) (N := 5) hx hb hts inX2 hown hK hP 0 4 rfl rfl (by decide) (hts _ q_fX2_25) rfl dX2_knownNow_15 ?_
    cases hf
    exact hret _ _ _ _ dX2_knownNow_18 hP hD hS
  · have hf := it_f c_1 hf
    refine lv_aload_n hx hb dX2_knownNow_7 rfl (lv_at hl 0 rfl) ?_
    refine rd (ci := 2) (C := RX2) (T := TX2) (N := 5) hx hb hts inX2 hown hK hP 0 3 rfl rfl (by decide) (hts _ q_fX2_21) rfl dX2_knownNow_8 ?_
    refine lv_goto (tgt := 18) hx hb dX2_knownNow_11 (by decide) ?_
    cases hf
    exact hret _ _ _ _ dX2_knownNow_18 hP hD hS
def wX2_standing (cI cJ cZ : ClassId) (h_o h_o_kinds h_o_targets h_o_bins : Nat) (o_total : Int32) (o_knownBy : Int32) (o_kinds : Nat → Int32) (o_targets : Nat → Int32) : va_W := [(h_o, .inr (2, [.ref h_o_kinds, .ref h_o_targets, .ref h_o_bins, .int o_total, .int o_knownBy])), (h_o_kinds, .inl (cI, 24, .inl o_kinds)), (h_o_targets, .inl (cI, 24, .inl o_targets))]
def fX2_standing_52 (o_kinds : Nat → Int32) (o_targets : Nat → Int32) (k16 : Int32 → Int32 → Option (Int32)) (v1 : Int32) (v2 : Int32) : Option (Int32) :=
  nm (v2 + (-1 : Int32)) (fun v2_13 =>
  k16 v1 v2_13)
def fX2_standing_16 (o_kinds : Nat → Int32) (o_targets : Nat → Int32) : Nat → Int32 → Int32 → Option (Int32)
  | 0, _, _ => none
  | n + 1, v1, v2 =>
    if v2 < 0 then (
      some v1
    ) else (
      gd (inb v2 24) (
      if (o_kinds (Int32.toNatClampNeg v2)) = (2 : Int32) then (
        if ((v1 >>> (v2 &&& 31)) &&& (1 : Int32)) = (1 : Int32) then (
          gd (inb v2 24) (
          nm (v1 &&& (((1 : Int32) <<< ((o_targets (Int32.toNatClampNeg v2)) &&& 31)) ^^^ (-1 : Int32))) (fun v1_12 =>
          fX2_standing_52 o_kinds o_targets (fX2_standing_16 o_kinds o_targets n) v1_12 v2))
        ) else (
          fX2_standing_52 o_kinds o_targets (fX2_standing_16 o_kinds o_targets n) v1 v2
        )
      ) else (
        fX2_standing_52 o_kinds o_targets (fX2_standing_16 o_kinds o_targets n) v1 v2
      ))
    )
def fX2_standing (o_total : Int32) (o_knownBy : Int32) (o_kinds : Nat → Int32) (o_targets : Nat → Int32) : Option (Int32) :=
  bd1 (fX2_knownNow o_total o_knownBy) (fun r_1 =>
  nm (((1 : Int32) <<< (r_1 &&& 31)) - (1 : Int32)) (fun v1_3 =>
  bd1 (fX2_knownNow o_total o_knownBy) (fun r_4 =>
  nm (r_4 - (1 : Int32)) (fun v2_6 =>
  fX2_standing_16 o_kinds o_targets FU v1_3 v2_6))))
set_option maxHeartbeats 4000000 in
set_option maxRecDepth 100000 in
theorem tX2_standing (l : Launch) (G : va_G) (cI cJ cZ : ClassId) (sz : Nat) (h_o h_o_kinds h_o_targets h_o_bins : Nat) (o_total : Int32) (o_knownBy : Int32) (o_kinds : Nat → Int32) (o_targets : Nat → Int32) (r : Int32) (hf : fX2_standing o_total o_knownBy o_kinds o_targets = some r) : Met l yX2_standing (Cond.code yX2_standing cX2_standing 3 (some .int) :: BIG) ({ frames := 1, cells := 0, slots := 0, locals := 20 } : Room) (cP G (TY3 cI cJ cZ) [.ref h_o] sz (wX2_standing cI cJ cZ h_o h_o_kinds h_o_targets h_o_bins o_total o_knownBy o_kinds o_targets)) (cQ G (TY3 cI cJ cZ) sz (wX2_standing cI cJ cZ h_o h_o_kinds h_o_targets h_o_bins o_total o_knownBy o_kinds o_targets) (wX2_standing cI cJ cZ h_o h_o_kinds h_o_targets h_o_bins o_total o_knownBy o_kinds o_targets) (some (.int r))) 0 0 (va_A (wX2_standing cI cJ cZ h_o h_o_kinds h_o_targets h_o_bins o_total o_knownBy o_kinds o_targets) sz) := by
  refine met_i (cc := cX2_standing) (maxL := 3) (by decide) (by decide) (fun p e s m below meth c A ls Q hx hb hml hts hown hK hP hD hS hA hl hret => ?_)
  have hown : s.vm.findClass RX2 = some m.cls := hown
  have hl : lv_has ls 3 [(0, .ref h_o)] := hl
  have j52 : ∀ (k16 : Int32 → Int32 → Option (Int32)), (∀ (v1 : Int32) (v2 : Int32) (H : Heap) (locs : List Loc) (ls : Array Slot), k16 v1 v2 = some r → va_P G vwCl (wX2_standing cI cJ cZ h_o h_o_kinds h_o_targets h_o_bins o_total o_knownBy o_kinds o_targets) H → va_D A (wX2_standing cI cJ cZ h_o h_o_kinds h_o_targets h_o_bins o_total o_knownBy o_kinds o_targets) → va_S A s.heap H locs → lv_has ls 3 [(0, .ref h_o), (1, .int v1), (2, .int v2)] → W p l e ({ frames := 1, cells := 0, slots := 0, locals := 20 } : Room) s m ([.ref h_o] : List Value).toArray below meth c H locs 0 0 Q (F0 m 16 ls [])) → ∀ (v1 : Int32) (v2 : Int32) (H : Heap) (locs : List Loc) (ls : Array Slot), fX2_standing_52 o_kinds o_targets k16 v1 v2 = some r → va_P G vwCl (wX2_standing cI cJ cZ h_o h_o_kinds h_o_targets h_o_bins o_total o_knownBy o_kinds o_targets) H → va_D A (wX2_standing cI cJ cZ h_o h_o_kinds h_o_targets h_o_bins o_total o_knownBy o_kinds o_targets) → va_S A s.heap H locs → lv_has ls 3 [(0, .ref h_o), (1, .int v1), (2, .int v2)] → W p l e ({ frames := 1, cells := 0, slots := 0, locals := 20 } : Room) s m ([.ref h_o] : List Value).toArray below meth c H locs 0 0 Q (F0 m 52 ls []) := by
    intro k16 hk16 v1 v2 H locs ls hf hP hD hS hl
    unfold fX2_standing_52 at hf
    obtain ⟨v2_13, ev2_13⟩ : ∃ y : Int32, y = v2 + (-1 : Int32) := ⟨_, rfl⟩
    have hf := nm_x ev2_13 hf
    refine lv_iinc (v := v2_13) (lv' := [(2, .int v2_13), (0, .ref h_o), (1, .int v1)]) hx hb dX2_standing_52 hl (k := 2) rfl (by rw [ev2_13]; rfl) (by decide) rfl (fun ls hl => ?_)
    refine lv_goto (tgt := 16) hx hb dX2_standing_55 (by decide) ?_
    exact hk16 v1 v2_13 H locs ls hf hP hD hS (lv_sub hl [1, 2, 0] rfl)
  have j16 : ∀ (n : Nat) (v1 : Int32) (v2 : Int32) (H : Heap) (locs : List Loc) (ls : Array Slot), fX2_standing_16 o_kinds o_targets n v1 v2 = some r → va_P G vwCl (wX2_standing cI cJ cZ h_o h_o_kinds h_o_targets h_o_bins o_total o_knownBy o_kinds o_targets) H → va_D A (wX2_standing cI cJ cZ h_o h_o_kinds h_o_targets h_o_bins o_total o_knownBy o_kinds o_targets) → va_S A s.heap H locs → lv_has ls 3 [(0, .ref h_o), (1, .int v1), (2, .int v2)] → W p l e ({ frames := 1, cells := 0, slots := 0, locals := 20 } : Room) s m ([.ref h_o] : List Value).toArray below meth c H locs 0 0 Q (F0 m 16 ls []) := by
    intro n
    induction n with
    | zero =>
      intro v1 v2 H locs ls hf
      have hf : (none : Option (Int32)) = some r := hf
      cases hf
    | succ n ih =>
      intro v1 v2 H locs ls hf hP hD hS hl
      rw [fX2_standing_16.eq_2] at hf
      refine lv_iload_n hx hb dX2_standing_16 rfl (lv_at hl 2 rfl) ?_
      refine lv_if_lt (tgt := 58) hx hb dX2_standing_17 (by decide) (fun c_7 => ?_) (fun c_7 => ?_)
      · have hf := it_t c_7 hf
        refine lv_iload_n hx hb dX2_standing_58 rfl (lv_at hl 1 rfl) ?_
        cases hf
        exact hret _ _ _ _ dX2_standing_59 hP hD hS
      · have hf := it_f c_7 hf
        refine lv_aload_n hx hb dX2_standing_20 rfl (lv_at hl 0 rfl) ?_
        refine rd (ci := 2) (C := RX2) (T := TX2) (N := 5) hx hb hts inX2 hown hK hP 0 0 rfl rfl (by decide) (hts _ q_fX2_11) rfl dX2_standing_21 ?_
        refine lv_iload_n hx hb dX2_standing_24 rfl (lv_at hl 2 rfl) ?_
        obtain ⟨g_8, hf⟩ := gd_x hf
        refine va_iald hx hb hK hP 1 0 rfl rfl (inb_x g_8) dX2_standing_25 ?_
        refine lv_iconst (v := (2 : Int32)) hx hb dX2_standing_26 (by decide) ?_
        refine lv_icmp_ne (tgt := 52) hx hb dX2_standing_27 (by decide) (fun c_9 => ?_) (fun c_9 => ?_)
        · have hf := it_f c_9 hf
          exact j52 (fX2_standing_16 o_kinds o_targets n) ih v1 v2 H locs ls hf hP hD hS (lv_sub hl [0, 1, 2] rfl)
        · have hf := it_t c_9 hf
          refine lv_iload_n hx hb dX2_standing_30 rfl (lv_at hl 1 rfl) ?_
          refine lv_iload_n hx hb dX2_standing_31 rfl (lv_at hl 2 rfl) ?_
          refine lv_ishr hx hb dX2_standing_32 ?_
          refine lv_iconst (v := (1 : Int32)) hx hb dX2_standing_33 (by decide) ?_
          refine lv_iand hx hb dX2_standing_34 ?_
          refine lv_iconst (v := (1 : Int32)) hx hb dX2_standing_35 (by decide) ?_
          refine lv_icmp_ne (tgt := 52) hx hb dX2_standing_36 (by decide) (fun c_10 => ?_) (fun c_10 => ?_)
          · have hf := it_f c_10 hf
            exact j52 (fX2_standing_16 o_kinds o_targets n) ih v1 v2 H locs ls hf hP hD hS (lv_sub hl [0, 1, 2] rfl)
          · have hf := it_t c_10 hf
            refine lv_iload_n hx hb dX2_standing_39 rfl (lv_at hl 1 rfl) ?_
            refine lv_iconst (v := (1 : Int32)) hx hb dX2_standing_40 (by decide) ?_
            refine lv_aload_n hx hb dX2_standing_41 rfl (lv_at hl 0 rfl) ?_
            refine rd (ci := 2) (C := RX2) (T := TX2) (N := 5) hx hb hts inX2 hown hK hP 0 1 rfl rfl (by decide) (hts _ q_fX2_15) rfl dX2_standing_42 ?_
            refine lv_iload_n hx hb dX2_standing_45 rfl (lv_at hl 2 rfl) ?_
            obtain ⟨g_11, hf⟩ := gd_x hf
            refine va_iald hx hb hK hP 2 0 rfl rfl (inb_x g_11) dX2_standing_46 ?_
            refine lv_ishl hx hb dX2_standing_47 ?_
            refine lv_iconst (v := (-1 : Int32)) hx hb dX2_standing_48 (by decide) ?_
            refine lv_ixor hx hb dX2_standing_49 ?_
            refine lv_iand hx hb dX2_standing_50 ?_
            refine lv_topi (fun v1_12 ev1_12 => ?_)
            have hf := nm_x ev1_12 hf
            refine lv_istore_n (lv' := [(1, .int v1_12), (0, .ref h_o), (2, .int v2)]) hx hb dX2_standing_51 rfl hl (by decide) rfl (fun ls hl => ?_)
            exact j52 (fX2_standing_16 o_kinds o_targets n) ih v1_12 v2 H locs ls hf hP hD hS (lv_sub hl [1, 0, 2] rfl)
  unfold fX2_standing at hf
  obtain ⟨H, eH⟩ : ∃ H, H = s.heap := ⟨_, rfl⟩
  obtain ⟨locs, elocs⟩ : ∃ z : List Loc, z = [] := ⟨_, rfl⟩
  have hP : va_P G vwCl (wX2_standing cI cJ cZ h_o h_o_kinds h_o_targets h_o_bins o_total o_knownBy o_kinds o_targets) H := by rw [eH]; exact hP
  have hS : va_S A s.heap H locs := by rw [eH, elocs]; exact hS
  suffices hgo : W p l e ({ frames := 1, cells := 0, slots := 0, locals := 20 } : Room) s m ([.ref h_o] : List Value).toArray below meth c H locs 0 0 Q (F0 m 0 ls []) by rw [eH, elocs] at hgo; exact hgo
  clear eH elocs
  refine lv_iconst (v := (1 : Int32)) hx hb dX2_standing_0 (by decide) ?_
  refine lv_aload_n hx hb dX2_standing_1 rfl (lv_at hl 0 rfl) ?_
  obtain ⟨r_1, e_2, hf⟩ := bd1_x hf
  refine call_v [] [.int (1 : Int32)] ⟨hx, hb, hml, hown, hts⟩ hK hP hD hS hA hl.1 (tX2_knownNow l G cI cJ cZ H.size h_o h_o_kinds h_o_targets h_o_bins o_total o_knownBy r_1 e_2) (cwV 0 hts (gv q_mX2_28 q_i_yX2_knownNow q_s_yX2_knownNow q_n_RX2 q_k_yX2_knownNow) rfl rfl rfl (by decide +kernel) ⟨by decide, by decide⟩) rfl rfl (Nat.le_of_ble_eq_true rfl) dX2_standing_2 ⟨Nat.zero_le _, Nat.zero_le _⟩ (ci := 2) rfl 0 rfl [0] [1, 2] [2, 0, 1] rfl (by decide) (ws2 := (wX2_standing cI cJ cZ h_o h_o_kinds h_o_targets h_o_bins o_total o_knownBy o_kinds o_targets)) rfl (fun H locs hP hD hS => ?_)
  refine W.eq (g2 := F0 m 5 ls [.int r_1, .int (1 : Int32)]) rfl ?_
  refine lv_ishl hx hb dX2_standing_5 ?_
  refine lv_iconst (v := (1 : Int32)) hx hb dX2_standing_6 (by decide) ?_
  refine lv_isub hx hb dX2_standing_7 ?_
  refine lv_topi (fun v1_3 ev1_3 => ?_)
  have hf := nm_x ev1_3 hf
  refine lv_istore_n (lv' := [(1, .int v1_3), (0, .ref h_o)]) hx hb dX2_standing_8 rfl hl (by decide) rfl (fun ls hl => ?_)
  refine lv_aload_n hx hb dX2_standing_9 rfl (lv_at hl 1 rfl) ?_
  obtain ⟨r_4, e_5, hf⟩ := bd1_x hf
  refine call_v [] [] ⟨hx, hb, hml, hown, hts⟩ hK hP hD hS hA hl.1 (tX2_knownNow l G cI cJ cZ H.size h_o h_o_kinds h_o_targets h_o_bins o_total o_knownBy r_4 e_5) (cwV 0 hts (gv q_mX2_28 q_i_yX2_knownNow q_s_yX2_knownNow q_n_RX2 q_k_yX2_knownNow) rfl rfl rfl (by decide +kernel) ⟨by decide, by decide⟩) rfl rfl (Nat.le_of_ble_eq_true rfl) dX2_standing_10 ⟨Nat.zero_le _, Nat.zero_le _⟩ (ci := 2) rfl 0 rfl [0] [1, 2] [2, 0, 1] rfl (by decide) (ws2 := (wX2_standing cI cJ cZ h_o h_o_kinds h_o_targets h_o_bins o_total o_knownBy o_kinds o_targets)) rfl (fun H locs hP hD hS => ?_)
  refine W.eq (g2 := F0 m 13 ls [.int r_4]) rfl ?_
  refine lv_iconst (v := (1 : Int32)) hx hb dX2_standing_13 (by decide) ?_
  refine lv_isub hx hb dX2_standing_14 ?_
  refine lv_topi (fun v2_6 ev2_6 => ?_)
  have hf := nm_x ev2_6 hf
  refine lv_istore_n (lv' := [(2, .int v2_6), (1, .int v1_3), (0, .ref h_o)]) hx hb dX2_standing_15 rfl hl (by decide) rfl (fun ls hl => ?_)
  exact j16 FU v1_3 v2_6 H locs ls hf hP hD hS (lv_sub hl [2, 1, 0] rfl)
