def wX6_cosine (cI cJ cZ : ClassId) : va_W := []
def fX6_cosine_19 (s0 : Int32) : Option (Int32) :=
  if (8 : Int32) < s0 then (
    nm ((16 : Int32) - s0) (fun i_4 =>
    gd (inb i_4 9) (
    some (-(qtr.getD (Int32.toNatClampNeg i_4) 0))))
  ) else (
    gd (inb s0 9) (
    some (qtr.getD (Int32.toNatClampNeg s0) 0))
  )
def fX6_cosine (p1 : Int32) : Option (Int32) :=
  nm (p1 &&& (31 : Int32)) (fun v1_1 =>
  if (16 : Int32) < v1_1 then (
    fX6_cosine_19 ((32 : Int32) - v1_1)
  ) else (
    fX6_cosine_19 v1_1
  ))
set_option maxHeartbeats 4000000 in
set_option maxRecDepth 100000 in
theorem tX6_cosine (l : Launch) (G : va_G) (cI cJ cZ : ClassId) (sz : Nat) (p1 : Int32) (r : Int32) (hf : fX6_cosine p1 = some r) : Met l yX6_cosine (Cond.code yX6_cosine cX6_cosine 3 (some .int) :: BIG) ({ frames := 0, cells := 0, slots := 0, locals := 0 } : Room) (cPX SX G (TY3 cI cJ cZ) [.int p1] sz (wX6_cosine cI cJ cZ)) (cQ G (TY3 cI cJ cZ) sz (wX6_cosine cI cJ cZ) (wX6_cosine cI cJ cZ) (some (.int r))) 0 0 (va_A (wX6_cosine cI cJ cZ) sz) := by
  refine met_iX (cc := cX6_cosine) (maxL := 3) (plainFor_of_name (by decide)) (Nat.le_of_ble_eq_true rfl) (fun p e s m below meth c A ls Q hx hb hml hts hown hK hP hD hS hA hX hl hret => ?_)
  obtain ⟨⟨tQ, hQ⟩, ⟨tR, hR⟩, sa, sv, hW⟩ := id hX
  have hownS : s.vm.findClass "BlockWave$Turns" = some m.cls := hown
  have hown : s.vm.findClass RX6 = some m.cls := hown
  have hl : lv_has ls 3 [(0, .int p1)] := hl
  have j19 : ∀ (s0 : Int32) (H : Heap) (locs : List Loc) (ls : Array Slot), fX6_cosine_19 s0 = some r → va_P G vwCl (wX6_cosine cI cJ cZ) H → va_D A (wX6_cosine cI cJ cZ) → va_S A s.heap H locs → lv_has ls 3 [] → W p l e ({ frames := 0, cells := 0, slots := 0, locals := 0 } : Room) s m ([.int p1] : List Value).toArray below meth c H locs 0 0 Q (F0 m 19 ls [.int s0]) := by
    intro s0 H locs ls hf hP hD hS hl
    unfold fX6_cosine_19 at hf
    refine lv_istore_n (lv' := [(2, .int s0)]) hx hb dX6_cosine_19 rfl hl (by decide) rfl (fun ls hl => ?_)
    refine lv_iload_n hx hb dX6_cosine_20 rfl (lv_at hl 0 rfl) ?_
    refine lv_bipush (v := (8 : Int32)) hx hb dX6_cosine_21 (by decide) ?_
    refine lv_icmp_gt (tgt := 34) hx hb dX6_cosine_23 (by decide) (fun c_3 => ?_) (fun c_3 => ?_)
    · have hf := it_t c_3 hf
      refine va_gets hx hb hQ.1 hS hown (hts _ q_fX6_22) (fun _ h => h) dX6_cosine_34 ?_
      refine lv_bipush (v := (16 : Int32)) hx hb dX6_cosine_37 (by decide) ?_
      refine lv_iload_n hx hb dX6_cosine_39 rfl (lv_at hl 0 rfl) ?_
      refine lv_isub hx hb dX6_cosine_40 ?_
      refine lv_topi (fun i_4 ei_4 => ?_)
      have hf := nm_x ei_4 hf
      obtain ⟨g_5, hf⟩ := gd_x hf
      refine va_ti hx hb hQ.2 hS (inb_x g_5) rfl dX6_cosine_41 ?_
      refine lv_ineg hx hb dX6_cosine_42 ?_
      cases hf
      exact hret _ _ _ _ dX6_cosine_43 hP hD hS
    · have hf := it_f c_3 hf
      refine va_gets hx hb hQ.1 hS hown (hts _ q_fX6_22) (fun _ h => h) dX6_cosine_26 ?_
      refine lv_iload_n hx hb dX6_cosine_29 rfl (lv_at hl 0 rfl) ?_
      obtain ⟨g_6, hf⟩ := gd_x hf
      refine va_ti hx hb hQ.2 hS (inb_x g_6) rfl dX6_cosine_30 ?_
      refine lv_goto (tgt := 43) hx hb dX6_cosine_31 (by decide) ?_
      cases hf
      exact hret _ _ _ _ dX6_cosine_43 hP hD hS
  unfold fX6_cosine at hf
  obtain ⟨H, eH⟩ : ∃ H, H = s.heap := ⟨_, rfl⟩
  obtain ⟨locs, elocs⟩ : ∃ z : List Loc, z = [] := ⟨_, rfl⟩
  have hP : va_P G vwCl (wX6_cosine cI cJ cZ) H := by rw [eH]; exact hP
  have hS : va_S A s.heap H locs := by rw [eH, elocs]; exact hS
  suffices hgo : W p l e ({ frames := 0, cells := 0, slots := 0, locals := 0 } : Room) s m ([.int p1] : List Value).toArray below meth c H locs 0 0 Q (F0 m 0 ls []) by rw [eH, elocs] at hgo; exact hgo
  clear eH elocs
  refine lv_iload_n hx hb dX6_cosine_0 rfl (lv_at hl 0 rfl) ?_
  refine lv_bipush (v := (31 : Int32)) hx hb dX6_cosine_1 (by decide) ?_
  refine lv_iand hx hb dX6_cosine_3 ?_
  refine lv_topi (fun v1_1 ev1_1 => ?_)
  have hf := nm_x ev1_1 hf
  refine lv_istore_n (lv' := [(1, .int v1_1), (0, .int p1)]) hx hb dX6_cosine_4 rfl hl (by decide) rfl (fun ls hl => ?_)
  refine lv_iload_n hx hb dX6_cosine_5 rfl (lv_at hl 0 rfl) ?_
  refine lv_bipush (v := (16 : Int32)) hx hb dX6_cosine_6 (by decide) ?_
  refine lv_icmp_gt (tgt := 15) hx hb dX6_cosine_8 (by decide) (fun c_2 => ?_) (fun c_2 => ?_)
  · have hf := it_t c_2 hf
    refine lv_bipush (v := (32 : Int32)) hx hb dX6_cosine_15 (by decide) ?_
    refine lv_iload_n hx hb dX6_cosine_17 rfl (lv_at hl 0 rfl) ?_
    refine lv_isub hx hb dX6_cosine_18 ?_
    exact j19 ((32 : Int32) - v1_1) H locs ls hf hP hD hS (lv_sub hl [] rfl)
  · have hf := it_f c_2 hf
    refine lv_iload_n hx hb dX6_cosine_11 rfl (lv_at hl 0 rfl) ?_
    refine lv_goto (tgt := 19) hx hb dX6_cosine_12 (by decide) ?_
    exact j19 v1_1 H locs ls hf hP hD hS (lv_sub hl [] rfl)
def wX6_fit (cI cJ cZ : ClassId) (h_o h_o_cos h_o_sin : Nat) (o_cos : Nat → Int32) (o_sin : Nat → Int32) : va_W := [(h_o, .inr (6, [.ref h_o_cos, .ref h_o_sin])), (h_o_cos, .inl (cI, 32, .inl o_cos)), (h_o_sin, .inl (cI, 32, .inl o_sin))]
def fX6_fit_2 : Nat → (Nat → Int32) → (Nat → Int32) → Int32 → Int32 → Option ((Nat → Int32) × (Nat → Int32))
  | 0, _, _, _, _ => none
  | n + 1, o_cos, o_sin, v1, v2 =>
    if (32 : Int32) ≤ v2 then (
      some (o_cos, o_sin)
    ) else (
      nm (v2 <<< (((5 : Int32) - v1) &&& 31)) (fun v3_2 =>
      bd1 (fX6_cosine v3_2) (fun r_3 =>
      gd (inb v2 32) (
      nm (upd o_cos (Int32.toNatClampNeg v2) r_3) (fun o_cos_6 =>
      bd1 (fX6_cosine (v3_2 + (24 : Int32))) (fun r_7 =>
      gd (inb v2 32) (
      nm (upd o_sin (Int32.toNatClampNeg v2) r_7) (fun o_sin_10 =>
      nm (v2 + (1 : Int32)) (fun v2_11 =>
      fX6_fit_2 n o_cos_6 o_sin_10 v1 v2_11))))))))
    )
def fX6_fit (o_cos : Nat → Int32) (o_sin : Nat → Int32) (p1 : Int32) : Option ((Nat → Int32) × (Nat → Int32)) :=
  fX6_fit_2 FU o_cos o_sin p1 (0 : Int32)
set_option maxHeartbeats 4000000 in
set_option maxRecDepth 100000 in
theorem tX6_fit (l : Launch) (G : va_G) (cI cJ cZ : ClassId) (sz : Nat) (h_o h_o_cos h_o_sin : Nat) (o_cos : Nat → Int32) (o_sin : Nat → Int32) (p1 : Int32) (out_o_cos : Nat → Int32) (out_o_sin : Nat → Int32) (hf : fX6_fit o_cos o_sin p1 = some (out_o_cos, out_o_sin)) : Met l yX6_fit (Cond.code yX6_fit cX6_fit 4 none :: BIG) ({ frames := 1, cells := 0, slots := 0, locals := 22 } : Room) (cPX SX G (TY3 cI cJ cZ) [.ref h_o, .int p1] sz (wX6_fit cI cJ cZ h_o h_o_cos h_o_sin o_cos o_sin)) (cQ G (TY3 cI cJ cZ) sz (wX6_fit cI cJ cZ h_o h_o_cos h_o_sin o_cos o_sin) (wX6_fit cI cJ cZ h_o h_o_cos h_o_sin out_o_cos out_o_sin) none) 0 0 (va_A (wX6_fit cI cJ cZ h_o h_o_cos h_o_sin o_cos o_sin) sz) := by
  refine met_vX (cc := cX6_fit) (maxL := 4) (plainFor_of_name (by decide)) (Nat.le_of_ble_eq_true rfl) (fun p e s m below meth c A ls Q hx hb hml hts hown hK hP hD hS hA hX hl hret => ?_)
  obtain ⟨⟨tQ, hQ⟩, ⟨tR, hR⟩, sa, sv, hW⟩ := id hX
  have hownS : s.vm.findClass "BlockWave$Turns" = some m.cls := hown
  have hown : s.vm.findClass RX6 = some m.cls := hown
  have hl : lv_has ls 4 [(0, .ref h_o), (1, .int p1)] := hl
  have j2 : ∀ (n : Nat) (o_cos : Nat → Int32) (o_sin : Nat → Int32) (v1 : Int32) (v2 : Int32) (H : Heap) (locs : List Loc) (ls : Array Slot), fX6_fit_2 n o_cos o_sin v1 v2 = some (out_o_cos, out_o_sin) → va_P G vwCl (wX6_fit cI cJ cZ h_o h_o_cos h_o_sin o_cos o_sin) H → va_D A (wX6_fit cI cJ cZ h_o h_o_cos h_o_sin o_cos o_sin) → va_S A s.heap H locs → lv_has ls 4 [(0, .ref h_o), (1, .int v1), (2, .int v2)] → W p l e ({ frames := 1, cells := 0, slots := 0, locals := 22 } : Room) s m ([.ref h_o, .int p1] : List Value).toArray below meth c H locs 0 0 Q (F0 m 2 ls []) := by
    intro n
    induction n with
    | zero =>
      intro o_cos o_sin v1 v2 H locs ls hf
      have hf : (none : Option ((Nat → Int32) × (Nat → Int32))) = some (out_o_cos, out_o_sin) := hf
      cases hf
    | succ n ih =>
      intro o_cos o_sin v1 v2 H locs ls hf hP hD hS hl
      rw [fX6_fit_2.eq_2] at hf
      refine lv_iload_n hx hb dX6_fit_2 rfl (lv_at hl 2 rfl) ?_
      refine lv_bipush (v := (32 : Int32)) hx hb dX6_fit_3 (by decide) ?_
      refine lv_icmp_ge (tgt := 43) hx hb dX6_fit_5 (by decide) (fun c_1 => ?_) (fun c_1 => ?_)
      · have hf := it_t c_1 hf
        cases hf
        exact hret _ _ _ _ dX6_fit_43 hP hD hS
      · have hf := it_f c_1 hf
        refine lv_iload_n hx hb dX6_fit_8 rfl (lv_at hl 2 rfl) ?_
        refine lv_iconst (v := (5 : Int32)) hx hb dX6_fit_9 (by decide) ?_
        refine lv_iload_n hx hb dX6_fit_10 rfl (lv_at hl 1 rfl) ?_
        refine lv_isub hx hb dX6_fit_11 ?_
        refine lv_ishl hx hb dX6_fit_12 ?_
        refine lv_topi (fun v3_2 ev3_2 => ?_)
        have hf := nm_x ev3_2 hf
        refine lv_istore_n (lv' := [(3, .int v3_2), (0, .ref h_o), (1, .int v1), (2, .int v2)]) hx hb dX6_fit_13 rfl hl (by decide) rfl (fun ls hl => ?_)
        refine lv_aload_n hx hb dX6_fit_14 rfl (lv_at hl 1 rfl) ?_
        refine rd (ci := 6) (C := RX6) (T := TX6) (N := 2) hx hb hts inX6 hown hK hP 0 0 rfl rfl (by decide) (hts _ q_fX6_9) rfl dX6_fit_15 ?_
        refine lv_iload_n hx hb dX6_fit_18 rfl (lv_at hl 3 rfl) ?_
        refine lv_iload_n hx hb dX6_fit_19 rfl (lv_at hl 0 rfl) ?_
        obtain ⟨r_3, e_4, hf⟩ := bd1_x hf
        refine call_sX SX_c hX [.int v3_2] [.int v2, .ref h_o_cos] ⟨hx, hb, hml, hown, hts⟩ hK hP hD hS hA hl.1 (tX6_cosine l G cI cJ cZ H.size v3_2 r_3 e_4) (va_cwS 1 hts (gs q_mX6_18 q_s_yX6_cosine q_n_RX6 q_k_yX6_cosine) rfl rfl rfl (by decide +kernel) ⟨by decide, by decide⟩) rfl rfl (Nat.le_of_ble_eq_true rfl) dX6_fit_20 ⟨Nat.zero_le _, Nat.zero_le _⟩ [] [0, 1, 2] [0, 1, 2] rfl rfl (ws2 := (wX6_fit cI cJ cZ h_o h_o_cos h_o_sin o_cos o_sin)) rfl (fun H locs hP hD hS => ?_)
        refine W.eq (g2 := F0 m 23 ls [.int r_3, .int v2, .ref h_o_cos]) rfl ?_
        obtain ⟨g_5, hf⟩ := gd_x hf
        obtain ⟨o_cos_6, eo_cos_6⟩ : ∃ y : Nat → Int32, y = upd o_cos (Int32.toNatClampNeg v2) r_3 := ⟨_, rfl⟩
        have hf := nm_x eo_cos_6 hf
        refine ist hx hb hK hP hD hS 1 0 rfl rfl (inb_x g_5) dX6_fit_23 eo_cos_6 (ws2 := (wX6_fit cI cJ cZ h_o h_o_cos h_o_sin o_cos_6 o_sin)) rfl (fun H locs hP hD hS => ?_)
        refine lv_aload_n hx hb dX6_fit_24 rfl (lv_at hl 1 rfl) ?_
        refine rd (ci := 6) (C := RX6) (T := TX6) (N := 2) hx hb hts inX6 hown hK hP 0 1 rfl rfl (by decide) (hts _ q_fX6_15) rfl dX6_fit_25 ?_
        refine lv_iload_n hx hb dX6_fit_28 rfl (lv_at hl 3 rfl) ?_
        refine lv_iload_n hx hb dX6_fit_29 rfl (lv_at hl 0 rfl) ?_
        refine lv_bipush (v := (24 : Int32)) hx hb dX6_fit_30 (by decide) ?_
        refine lv_iadd hx hb dX6_fit_32 ?_
        obtain ⟨r_7, e_8, hf⟩ := bd1_x hf
        refine call_sX SX_c hX [.int (v3_2 + (24 : Int32))] [.int v2, .ref h_o_sin] ⟨hx, hb, hml, hown, hts⟩ hK hP hD hS hA hl.1 (tX6_cosine l G cI cJ cZ H.size (v3_2 + (24 : Int32)) r_7 e_8) (va_cwS 1 hts (gs q_mX6_18 q_s_yX6_cosine q_n_RX6 q_k_yX6_cosine) rfl rfl rfl (by decide +kernel) ⟨by decide, by decide⟩) rfl rfl (Nat.le_of_ble_eq_true rfl) dX6_fit_33 ⟨Nat.zero_le _, Nat.zero_le _⟩ [] [0, 1, 2] [0, 1, 2] rfl rfl (ws2 := (wX6_fit cI cJ cZ h_o h_o_cos h_o_sin o_cos_6 o_sin)) rfl (fun H locs hP hD hS => ?_)
        refine W.eq (g2 := F0 m 36 ls [.int r_7, .int v2, .ref h_o_sin]) rfl ?_
        obtain ⟨g_9, hf⟩ := gd_x hf
        obtain ⟨o_sin_10, eo_sin_10⟩ : ∃ y : Nat → Int32, y = upd o_sin (Int32.toNatClampNeg v2) r_7 := ⟨_, rfl⟩
        have hf := nm_x eo_sin_10 hf
        refine ist hx hb hK hP hD hS 2 0 rfl rfl (inb_x g_9) dX6_fit_36 eo_sin_10 (ws2 := (wX6_fit cI cJ cZ h_o h_o_cos h_o_sin o_cos_6 o_sin_10)) rfl (fun H locs hP hD hS => ?_)
        obtain ⟨v2_11, ev2_11⟩ : ∃ y : Int32, y = v2 + (1 : Int32) := ⟨_, rfl⟩
        have hf := nm_x ev2_11 hf
        refine lv_iinc (v := v2_11) (lv' := [(2, .int v2_11), (3, .int v3_2), (0, .ref h_o), (1, .int v1)]) hx hb dX6_fit_37 hl (k := 3) rfl (by rw [ev2_11]; rfl) (by decide) rfl (fun ls hl => ?_)
        refine lv_goto (tgt := 2) hx hb dX6_fit_40 (by decide) ?_
        exact ih o_cos_6 o_sin_10 v1 v2_11 H locs ls hf hP hD hS (lv_sub hl [2, 3, 0] rfl)
  unfold fX6_fit at hf
  obtain ⟨H, eH⟩ : ∃ H, H = s.heap := ⟨_, rfl⟩
  obtain ⟨locs, elocs⟩ : ∃ z : List Loc, z = [] := ⟨_, rfl⟩
  have hP : va_P G vwCl (wX6_fit cI cJ cZ h_o h_o_cos h_o_sin o_cos o_sin) H := by rw [eH]; exact hP
  have hS : va_S A s.heap H locs := by rw [eH, elocs]; exact hS
  suffices hgo : W p l e ({ frames := 1, cells := 0, slots := 0, locals := 22 } : Room) s m ([.ref h_o, .int p1] : List Value).toArray below meth c H locs 0 0 Q (F0 m 0 ls []) by rw [eH, elocs] at hgo; exact hgo
  clear eH elocs
  refine lv_iconst (v := (0 : Int32)) hx hb dX6_fit_0 (by decide) ?_
  refine lv_istore_n (lv' := [(2, .int (0 : Int32)), (0, .ref h_o), (1, .int p1)]) hx hb dX6_fit_1 rfl hl (by decide) rfl (fun ls hl => ?_)
  exact j2 FU o_cos o_sin p1 (0 : Int32) H locs ls hf hP hD hS (lv_sub hl [1, 2, 0] rfl)
def wX5_fit (cI cJ cZ : ClassId) (h_o h_o_powers : Nat) (o_size : Int32) (o_log : Int32) (o_powers : Nat → Int32) : va_W := [(h_o, .inr (5, [.ref h_o_powers, .int o_size, .int o_log])), (h_o_powers, .inl (cI, 32, .inl o_powers))]
def fX5_fit_50 : Nat → Int32 → Int32 → (Nat → Int32) → Int32 → Int32 → Int32 → Option (Int32 × Int32 × (Nat → Int32))
  | 0, _, _, _, _, _, _ => none
  | n + 1, o_size, o_log, o_powers, v3, v4, v5 =>
    if (32 : Int32) ≤ v5 then (
      some (o_size, o_log, o_powers)
    ) else (
      gd (inb v5 32) (
      nm (upd o_powers (Int32.toNatClampNeg v5) v4) (fun o_powers_7 =>
      nm ((v4 * v3) - (v4 * v3) / (97 : Int32) * (97 : Int32)) (fun v4_8 =>
      nm (v5 + (1 : Int32)) (fun v5_9 =>
      fX5_fit_50 n o_size o_log o_powers_7 v3 v4_8 v5_9))))
    )
def fX5_fit_43 (o_size : Int32) (o_log : Int32) (o_powers : Nat → Int32) (s0 : Int32) : Option (Int32 × Int32 × (Nat → Int32)) :=
  fX5_fit_50 FU o_size o_log o_powers s0 (1 : Int32) (0 : Int32)
def fX5_fit_42 (o_size : Int32) (o_log : Int32) (o_powers : Nat → Int32) : Option (Int32 × Int32 × (Nat → Int32)) :=
  fX5_fit_43 o_size o_log o_powers (1 : Int32)
def fX5_fit (o_size : Int32) (o_log : Int32) (o_powers : Nat → Int32) (p1 : Int32) (p2 : Int32) : Option (Int32 × Int32 × (Nat → Int32)) :=
  if p2 < (1 : Int32) then (
    fX5_fit_42 p1 p2 o_powers
  ) else (
    if (5 : Int32) < p2 then (
      fX5_fit_42 p1 p2 o_powers
    ) else (
      nm (p2 - (1 : Int32)) (fun i_3 =>
      gd (inb i_3 5) (
      fX5_fit_43 p1 p2 o_powers (rts.getD (Int32.toNatClampNeg i_3) 0)))
    )
  )
set_option maxHeartbeats 4000000 in
set_option maxRecDepth 100000 in
theorem tX5_fit (l : Launch) (G : va_G) (cI cJ cZ : ClassId) (sz : Nat) (h_o h_o_powers : Nat) (o_size : Int32) (o_log : Int32) (o_powers : Nat → Int32) (p1 : Int32) (p2 : Int32) (out_o_size : Int32) (out_o_log : Int32) (out_o_powers : Nat → Int32) (hf : fX5_fit o_size o_log o_powers p1 p2 = some (out_o_size, out_o_log, out_o_powers)) : Met l yX5_fit (Cond.code yX5_fit cX5_fit 6 none :: BIG) ({ frames := 0, cells := 0, slots := 0, locals := 0 } : Room) (cPX SX G (TY3 cI cJ cZ) [.ref h_o, .int p1, .int p2] sz (wX5_fit cI cJ cZ h_o h_o_powers o_size o_log o_powers)) (cQ G (TY3 cI cJ cZ) sz (wX5_fit cI cJ cZ h_o h_o_powers o_size o_log o_powers) (wX5_fit cI cJ cZ h_o h_o_powers out_o_size out_o_log out_o_powers) none) 0 0 (va_A (wX5_fit cI cJ cZ h_o h_o_powers o_size o_log o_powers) sz) := by
  refine met_vX (cc := cX5_fit) (maxL := 6) (plainFor_of_name (by decide)) (Nat.le_of_ble_eq_true rfl) (fun p e s m below meth c A ls Q hx hb hml hts hown hK hP hD hS hA hX hl hret => ?_)
  obtain ⟨⟨tQ, hQ⟩, ⟨tR, hR⟩, sa, sv, hW⟩ := id hX
  have hownS : s.vm.findClass "BlockWave$Ring" = some m.cls := hown
  have hown : s.vm.findClass RX5 = some m.cls := hown
  have hl : lv_has ls 6 [(0, .ref h_o), (1, .int p1), (2, .int p2)] := hl
  have j50 : ∀ (n : Nat) (o_size : Int32) (o_log : Int32) (o_powers : Nat → Int32) (v3 : Int32) (v4 : Int32) (v5 : Int32) (H : Heap) (locs : List Loc) (ls : Array Slot), fX5_fit_50 n o_size o_log o_powers v3 v4 v5 = some (out_o_size, out_o_log, out_o_powers) → va_P G vwCl (wX5_fit cI cJ cZ h_o h_o_powers o_size o_log o_powers) H → va_D A (wX5_fit cI cJ cZ h_o h_o_powers o_size o_log o_powers) → va_S A s.heap H locs → lv_has ls 6 [(0, .ref h_o), (3, .int v3), (4, .int v4), (5, .int v5)] → W p l e ({ frames := 0, cells := 0, slots := 0, locals := 0 } : Room) s m ([.ref h_o, .int p1, .int p2] : List Value).toArray below meth c H locs 0 0 Q (F0 m 50 ls []) := by
    intro n
    induction n with
    | zero =>
      intro o_size o_log o_powers v3 v4 v5 H locs ls hf
      have hf : (none : Option (Int32 × Int32 × (Nat → Int32))) = some (out_o_size, out_o_log, out_o_powers) := hf
      cases hf
    | succ n ih =>
      intro o_size o_log o_powers v3 v4 v5 H locs ls hf hP hD hS hl
      rw [fX5_fit_50.eq_2] at hf
      refine lv_iload hx hb dX5_fit_50 (lv_at hl 3 rfl) ?_
      refine lv_bipush (v := (32 : Int32)) hx hb dX5_fit_52 (by decide) ?_
      refine lv_icmp_ge (tgt := 81) hx hb dX5_fit_54 (by decide) (fun c_5 => ?_) (fun c_5 => ?_)
      · have hf := it_t c_5 hf
        cases hf
        exact hret _ _ _ _ dX5_fit_81 hP hD hS
      · have hf := it_f c_5 hf
        refine lv_aload_n hx hb dX5_fit_57 rfl (lv_at hl 0 rfl) ?_
        refine rd (ci := 5) (C := RX5) (T := TX5) (N := 3) hx hb hts inX5 hown hK hP 0 0 rfl rfl (by decide) (hts _ q_fX5_9) rfl dX5_fit_58 ?_
        refine lv_iload hx hb dX5_fit_61 (lv_at hl 3 rfl) ?_
        refine lv_iload hx hb dX5_fit_63 (lv_at hl 2 rfl) ?_
        obtain ⟨g_6, hf⟩ := gd_x hf
        obtain ⟨o_powers_7, eo_powers_7⟩ : ∃ y : Nat → Int32, y = upd o_powers (Int32.toNatClampNeg v5) v4 := ⟨_, rfl⟩
        have hf := nm_x eo_powers_7 hf
        refine ist hx hb hK hP hD hS 1 0 rfl rfl (inb_x g_6) dX5_fit_65 eo_powers_7 (ws2 := (wX5_fit cI cJ cZ h_o h_o_powers o_size o_log o_powers_7)) rfl (fun H locs hP hD hS => ?_)
        refine lv_iload hx hb dX5_fit_66 (lv_at hl 2 rfl) ?_
        refine lv_iload_n hx hb dX5_fit_68 rfl (lv_at hl 1 rfl) ?_
        refine lv_imul hx hb dX5_fit_69 ?_
        refine lv_bipush (v := (97 : Int32)) hx hb dX5_fit_70 (by decide) ?_
        refine lv_irem hx hb dX5_fit_72 (by decide) ?_
        refine lv_topi (fun v4_8 ev4_8 => ?_)
        have hf := nm_x ev4_8 hf
        refine lv_istore (lv' := [(4, .int v4_8), (0, .ref h_o), (3, .int v3), (5, .int v5)]) hx hb dX5_fit_73 hl (by decide) rfl (fun ls hl => ?_)
        obtain ⟨v5_9, ev5_9⟩ : ∃ y : Int32, y = v5 + (1 : Int32) := ⟨_, rfl⟩
        have hf := nm_x ev5_9 hf
        refine lv_iinc (v := v5_9) (lv' := [(5, .int v5_9), (4, .int v4_8), (0, .ref h_o), (3, .int v3)]) hx hb dX5_fit_75 hl (k := 3) rfl (by rw [ev5_9]; rfl) (by decide) rfl (fun ls hl => ?_)
        refine lv_goto (tgt := 50) hx hb dX5_fit_78 (by decide) ?_
        exact ih o_size o_log o_powers_7 v3 v4_8 v5_9 H locs ls hf hP hD hS (lv_sub hl [2, 3, 1, 0] rfl)
  have j43 : ∀ (o_size : Int32) (o_log : Int32) (o_powers : Nat → Int32) (s0 : Int32) (H : Heap) (locs : List Loc) (ls : Array Slot), fX5_fit_43 o_size o_log o_powers s0 = some (out_o_size, out_o_log, out_o_powers) → va_P G vwCl (wX5_fit cI cJ cZ h_o h_o_powers o_size o_log o_powers) H → va_D A (wX5_fit cI cJ cZ h_o h_o_powers o_size o_log o_powers) → va_S A s.heap H locs → lv_has ls 6 [(0, .ref h_o)] → W p l e ({ frames := 0, cells := 0, slots := 0, locals := 0 } : Room) s m ([.ref h_o, .int p1, .int p2] : List Value).toArray below meth c H locs 0 0 Q (F0 m 43 ls [.int s0]) := by
    intro o_size o_log o_powers s0 H locs ls hf hP hD hS hl
    unfold fX5_fit_43 at hf
    refine lv_istore_n (lv' := [(3, .int s0), (0, .ref h_o)]) hx hb dX5_fit_43 rfl hl (by decide) rfl (fun ls hl => ?_)
    refine lv_iconst (v := (1 : Int32)) hx hb dX5_fit_44 (by decide) ?_
    refine lv_istore (lv' := [(4, .int (1 : Int32)), (3, .int s0), (0, .ref h_o)]) hx hb dX5_fit_45 hl (by decide) rfl (fun ls hl => ?_)
    refine lv_iconst (v := (0 : Int32)) hx hb dX5_fit_47 (by decide) ?_
    refine lv_istore (lv' := [(5, .int (0 : Int32)), (4, .int (1 : Int32)), (3, .int s0), (0, .ref h_o)]) hx hb dX5_fit_48 hl (by decide) rfl (fun ls hl => ?_)
    exact j50 FU o_size o_log o_powers s0 (1 : Int32) (0 : Int32) H locs ls hf hP hD hS (lv_sub hl [3, 2, 1, 0] rfl)
  have j42 : ∀ (o_size : Int32) (o_log : Int32) (o_powers : Nat → Int32) (H : Heap) (locs : List Loc) (ls : Array Slot), fX5_fit_42 o_size o_log o_powers = some (out_o_size, out_o_log, out_o_powers) → va_P G vwCl (wX5_fit cI cJ cZ h_o h_o_powers o_size o_log o_powers) H → va_D A (wX5_fit cI cJ cZ h_o h_o_powers o_size o_log o_powers) → va_S A s.heap H locs → lv_has ls 6 [(0, .ref h_o)] → W p l e ({ frames := 0, cells := 0, slots := 0, locals := 0 } : Room) s m ([.ref h_o, .int p1, .int p2] : List Value).toArray below meth c H locs 0 0 Q (F0 m 42 ls []) := by
    intro o_size o_log o_powers H locs ls hf hP hD hS hl
    unfold fX5_fit_42 at hf
    refine lv_iconst (v := (1 : Int32)) hx hb dX5_fit_42 (by decide) ?_
    exact j43 o_size o_log o_powers (1 : Int32) H locs ls hf hP hD hS (lv_sub hl [0] rfl)
  unfold fX5_fit at hf
  obtain ⟨H, eH⟩ : ∃ H, H = s.heap := ⟨_, rfl⟩
  obtain ⟨locs, elocs⟩ : ∃ z : List Loc, z = [] := ⟨_, rfl⟩
  have hP : va_P G vwCl (wX5_fit cI cJ cZ h_o h_o_powers o_size o_log o_powers) H := by rw [eH]; exact hP
  have hS : va_S A s.heap H locs := by rw [eH, elocs]; exact hS
  suffices hgo : W p l e ({ frames := 0, cells := 0, slots := 0, locals := 0 } : Room) s m ([.ref h_o, .int p1, .int p2] : List Value).toArray below meth c H locs 0 0 Q (F0 m 0 ls []) by rw [eH, elocs] at hgo; exact hgo
  clear eH elocs
  refine lv_aload_n hx hb dX5_fit_0 rfl (lv_at hl 0 rfl) ?_
  refine lv_iload_n hx hb dX5_fit_1 rfl (lv_at hl 1 rfl) ?_
  refine wr (ci := 5) (C := RX5) (T := TX5) (N := 3) hx hb hts inX5 tyX5 tyX5_ok nmX5 hown hK hP hD hS 0 1 rfl rfl (by decide) (hts _ q_fX5_15) rfl rfl rfl (Nat.le_of_ble_eq_true rfl) dX5_fit_2 (ws2 := (wX5_fit cI cJ cZ h_o h_o_powers p1 o_log o_powers)) rfl (fun H locs hP hD hS => ?_)
  refine lv_aload_n hx hb dX5_fit_5 rfl (lv_at hl 0 rfl) ?_
  refine lv_iload_n hx hb dX5_fit_6 rfl (lv_at hl 2 rfl) ?_
  refine wr (ci := 5) (C := RX5) (T := TX5) (N := 3) hx hb hts inX5 tyX5 tyX5_ok nmX5 hown hK hP hD hS 0 2 rfl rfl (by decide) (hts _ q_fX5_19) rfl rfl rfl (Nat.le_of_ble_eq_true rfl) dX5_fit_7 (ws2 := (wX5_fit cI cJ cZ h_o h_o_powers p1 p2 o_powers)) rfl (fun H locs hP hD hS => ?_)
  refine lv_aload_n hx hb dX5_fit_10 rfl (lv_at hl 0 rfl) ?_
  refine rd (ci := 5) (C := RX5) (T := TX5) (N := 3) hx hb hts inX5 hown hK hP 0 2 rfl rfl (by decide) (hts _ q_fX5_19) rfl dX5_fit_11 ?_
  refine lv_iconst (v := (1 : Int32)) hx hb dX5_fit_14 (by decide) ?_
  refine lv_icmp_lt (tgt := 42) hx hb dX5_fit_15 (by decide) (fun c_1 => ?_) (fun c_1 => ?_)
  · have hf := it_t c_1 hf
    exact j42 p1 p2 o_powers H locs ls hf hP hD hS (lv_sub hl [0] rfl)
  · have hf := it_f c_1 hf
    refine lv_aload_n hx hb dX5_fit_18 rfl (lv_at hl 0 rfl) ?_
    refine rd (ci := 5) (C := RX5) (T := TX5) (N := 3) hx hb hts inX5 hown hK hP 0 2 rfl rfl (by decide) (hts _ q_fX5_19) rfl dX5_fit_19 ?_
    refine va_gets hx hb hR.1 hS hown (hts _ q_fX5_22) (fun _ h => h) dX5_fit_22 ?_
    refine va_tlen (v := (5 : Int32)) hx hb hR.2 hS rfl dX5_fit_25 ?_
    refine lv_icmp_gt (tgt := 42) hx hb dX5_fit_26 (by decide) (fun c_2 => ?_) (fun c_2 => ?_)
    · have hf := it_t c_2 hf
      exact j42 p1 p2 o_powers H locs ls hf hP hD hS (lv_sub hl [0] rfl)
    · have hf := it_f c_2 hf
      refine va_gets hx hb hR.1 hS hown (hts _ q_fX5_22) (fun _ h => h) dX5_fit_29 ?_
      refine lv_aload_n hx hb dX5_fit_32 rfl (lv_at hl 0 rfl) ?_
      refine rd (ci := 5) (C := RX5) (T := TX5) (N := 3) hx hb hts inX5 hown hK hP 0 2 rfl rfl (by decide) (hts _ q_fX5_19) rfl dX5_fit_33 ?_
      refine lv_iconst (v := (1 : Int32)) hx hb dX5_fit_36 (by decide) ?_
      refine lv_isub hx hb dX5_fit_37 ?_
      refine lv_topi (fun i_3 ei_3 => ?_)
      have hf := nm_x ei_3 hf
      obtain ⟨g_4, hf⟩ := gd_x hf
      refine va_ti hx hb hR.2 hS (inb_x g_4) rfl dX5_fit_38 ?_
      refine lv_goto (tgt := 43) hx hb dX5_fit_39 (by decide) ?_
      exact j43 p1 p2 o_powers (rts.getD (Int32.toNatClampNeg i_3) 0) H locs ls hf hP hD hS (lv_sub hl [0] rfl)
def wX4_isWordHere (cI cJ cZ : ClassId) (h_o h_a1 h_o_way h_o_re h_o_im : Nat) (o_fault : Int32) (o_faultPlace : Int32) (o_toldWords : Int32) (o_toldRe : Int32) (o_toldIm : Int32) (o_length : Int32) (o_place : Int32) (o_kind : Int32) (o_start : Int32) (o_number : Int32) (a1 : Nat → Int32) : va_W := [(h_o, .inr (4, [.ref h_o_way, .ref h_o_re, .ref h_o_im, .int o_fault, .int o_faultPlace, .int o_toldWords, .int o_toldRe, .int o_toldIm, .int o_length, .int o_place, .int o_kind, .int o_start, .int o_number])), (h_a1, .inl (cI, 700, .inl a1))]
def fX4_isWordHere_48 (o_place : Int32) (o_start : Int32) (a1 : Nat → Int32) (k17 : Int32 → Int32 → Option (Int32)) (v2 : Int32) (v3 : Int32) (s0 : Int32) : Option (Int32) :=
  nm (v2 + v3) (fun i_6 =>
  gd (inb i_6 50) (
  if s0 = (chr i_6) then (
    nm (v3 + (1 : Int32)) (fun v3_9 =>
    k17 v2 v3_9)
  ) else (
    some (0 : Int32)
  )))
def fX4_isWordHere_17 (o_place : Int32) (o_start : Int32) (a1 : Nat → Int32) : Nat → Int32 → Int32 → Option (Int32)
  | 0, _, _ => none
  | n + 1, v2, v3 =>
    if (5 : Int32) ≤ v3 then (
      some (1 : Int32)
    ) else (
      if o_place ≤ (o_start + v3) then (
        fX4_isWordHere_48 o_place o_start a1 (fX4_isWordHere_17 o_place o_start a1 n) v2 v3 (32 : Int32)
      ) else (
        nm (o_start + v3) (fun i_4 =>
        gd (inb i_4 700) (
        fX4_isWordHere_48 o_place o_start a1 (fX4_isWordHere_17 o_place o_start a1 n) v2 v3 (a1 (Int32.toNatClampNeg i_4))))
      )
    )
def fX4_isWordHere (o_place : Int32) (o_start : Int32) (a1 : Nat → Int32) (p2 : Int32) : Option (Int32) :=
  if (o_place - o_start) ≤ (5 : Int32) then (
    fX4_isWordHere_17 o_place o_start a1 FU p2 (0 : Int32)
  ) else (
    some (0 : Int32)
  )
set_option maxHeartbeats 4000000 in
set_option maxRecDepth 100000 in
theorem tX4_isWordHere (l : Launch) (G : va_G) (cI cJ cZ : ClassId) (sz : Nat) (h_o h_a1 h_o_way h_o_re h_o_im : Nat) (o_fault : Int32) (o_faultPlace : Int32) (o_toldWords : Int32) (o_toldRe : Int32) (o_toldIm : Int32) (o_length : Int32) (o_place : Int32) (o_kind : Int32) (o_start : Int32) (o_number : Int32) (a1 : Nat → Int32) (p2 : Int32) (r : Int32) (hf : fX4_isWordHere o_place o_start a1 p2 = some r) : Met l yX4_isWordHere (Cond.code yX4_isWordHere cX4_isWordHere 5 (some .boolean) :: BIG) ({ frames := 4, cells := 0, slots := 0, locals := 85 } : Room) (cPX SX G (TY3 cI cJ cZ) [.ref h_o, .ref h_a1, .int p2] sz (wX4_isWordHere cI cJ cZ h_o h_a1 h_o_way h_o_re h_o_im o_fault o_faultPlace o_toldWords o_toldRe o_toldIm o_length o_place o_kind o_start o_number a1)) (cQ G (TY3 cI cJ cZ) sz (wX4_isWordHere cI cJ cZ h_o h_a1 h_o_way h_o_re h_o_im o_fault o_faultPlace o_toldWords o_toldRe o_toldIm o_length o_place o_kind o_start o_number a1) (wX4_isWordHere cI cJ cZ h_o h_a1 h_o_way h_o_re h_o_im o_fault o_faultPlace o_toldWords o_toldRe o_toldIm o_length o_place o_kind o_start o_number a1) (some (.int r))) 0 0 (va_A (wX4_isWordHere cI cJ cZ h_o h_a1 h_o_way h_o_re h_o_im o_fault o_faultPlace o_toldWords o_toldRe o_toldIm o_length o_place o_kind o_start o_number a1) sz) := by
  refine met_zX (cc := cX4_isWordHere) (maxL := 5) (plainFor_of_name (by decide)) (Nat.le_of_ble_eq_true rfl) (fun p e s m below meth c A ls Q hx hb hml hts hown hK hP hD hS hA hX hl hret => ?_)
  obtain ⟨⟨tQ, hQ⟩, ⟨tR, hR⟩, sa, sv, hW⟩ := id hX
  have hownS : s.vm.findClass "BlockWave$Reader" = some m.cls := hown
  have hown : s.vm.findClass RX4 = some m.cls := hown
  have hl : lv_has ls 5 [(0, .ref h_o), (1, .ref h_a1), (2, .int p2)] := hl
  have j48 : ∀ (k17 : Int32 → Int32 → Option (Int32)), (∀ (v2 : Int32) (v3 : Int32) (H : Heap) (locs : List Loc) (ls : Array Slot), k17 v2 v3 = some r → va_P G vwCl (wX4_isWordHere cI cJ cZ h_o h_a1 h_o_way h_o_re h_o_im o_fault o_faultPlace o_toldWords o_toldRe o_toldIm o_length o_place o_kind o_start o_number a1) H → va_D A (wX4_isWordHere cI cJ cZ h_o h_a1 h_o_way h_o_re h_o_im o_fault o_faultPlace o_toldWords o_toldRe o_toldIm o_length o_place o_kind o_start o_number a1) → va_S A s.heap H locs → lv_has ls 5 [(0, .ref h_o), (1, .ref h_a1), (2, .int v2), (3, .int v3)] → W p l e ({ frames := 4, cells := 0, slots := 0, locals := 85 } : Room) s m ([.ref h_o, .ref h_a1, .int p2] : List Value).toArray below meth c H locs 0 0 Q (F0 m 17 ls [])) → ∀ (v2 : Int32) (v3 : Int32) (s0 : Int32) (H : Heap) (locs : List Loc) (ls : Array Slot), fX4_isWordHere_48 o_place o_start a1 k17 v2 v3 s0 = some r → va_P G vwCl (wX4_isWordHere cI cJ cZ h_o h_a1 h_o_way h_o_re h_o_im o_fault o_faultPlace o_toldWords o_toldRe o_toldIm o_length o_place o_kind o_start o_number a1) H → va_D A (wX4_isWordHere cI cJ cZ h_o h_a1 h_o_way h_o_re h_o_im o_fault o_faultPlace o_toldWords o_toldRe o_toldIm o_length o_place o_kind o_start o_number a1) → va_S A s.heap H locs → lv_has ls 5 [(0, .ref h_o), (1, .ref h_a1), (2, .int v2), (3, .int v3)] → W p l e ({ frames := 4, cells := 0, slots := 0, locals := 85 } : Room) s m ([.ref h_o, .ref h_a1, .int p2] : List Value).toArray below meth c H locs 0 0 Q (F0 m 48 ls [.int s0]) := by
    intro k17 hk17 v2 v3 s0 H locs ls hf hP hD hS hl
    unfold fX4_isWordHere_48 at hf
    refine lv_istore (lv' := [(4, .int s0), (0, .ref h_o), (1, .ref h_a1), (2, .int v2), (3, .int v3)]) hx hb dX4_isWordHere_48 hl (by decide) rfl (fun ls hl => ?_)
    refine lv_iload hx hb dX4_isWordHere_50 (lv_at hl 0 rfl) ?_
    refine va_ldcS hx hb hownS hW.1 dX4_isWordHere_52 ?_
    refine lv_iload_n hx hb dX4_isWordHere_54 rfl (lv_at hl 3 rfl) ?_
    refine lv_iload_n hx hb dX4_isWordHere_55 rfl (lv_at hl 4 rfl) ?_
    refine lv_iadd hx hb dX4_isWordHere_56 ?_
    refine lv_topi (fun i_6 ei_6 => ?_)
    have hf := nm_x ei_6 hf
    obtain ⟨g_7, hf⟩ := gd_x hf
    refine call_vX (STR_c sa sv) hW [.int i_6] [.int s0] ⟨hx, hb, hml, hown, hts⟩ hK hP hD hS hA hl.1 (tJ0_charAt l G cI cJ cZ H.size sa sv i_6 g_7) (cwV 1 hts (gv q_mX4_142 q_i_yJ0_charAt_5068e q_s_yJ0_charAt_5068e q_n_RJ0 q_k_yJ0_charAt_5068e) rfl rfl rfl (by decide +kernel) ⟨by decide, by decide⟩) rfl rfl (Nat.le_of_ble_eq_true rfl) dX4_isWordHere_57 ⟨Nat.zero_le _, Nat.zero_le _⟩ (STR_r hW.2.1 hS) [] [0, 1] [0, 1] rfl rfl (ws2 := (wX4_isWordHere cI cJ cZ h_o h_a1 h_o_way h_o_re h_o_im o_fault o_faultPlace o_toldWords o_toldRe o_toldIm o_length o_place o_kind o_start o_number a1)) rfl (fun H locs hP hD hS => ?_)
    refine W.eq (g2 := F0 m 60 ls [.int (chr i_6), .int s0]) rfl ?_
    refine lv_icmp_eq (tgt := 65) hx hb dX4_isWordHere_60 (by decide) (fun c_8 => ?_) (fun c_8 => ?_)
    · have hf := it_t c_8 hf
      obtain ⟨v3_9, ev3_9⟩ : ∃ y : Int32, y = v3 + (1 : Int32) := ⟨_, rfl⟩
      have hf := nm_x ev3_9 hf
      refine lv_iinc (v := v3_9) (lv' := [(3, .int v3_9), (4, .int s0), (0, .ref h_o), (1, .ref h_a1), (2, .int v2)]) hx hb dX4_isWordHere_65 hl (k := 4) rfl (by rw [ev3_9]; rfl) (by decide) rfl (fun ls hl => ?_)
      refine lv_goto (tgt := 17) hx hb dX4_isWordHere_68 (by decide) ?_
      exact hk17 v2 v3_9 H locs ls hf hP hD hS (lv_sub hl [2, 3, 4, 0] rfl)
    · have hf := it_f c_8 hf
      refine lv_iconst (v := (0 : Int32)) hx hb dX4_isWordHere_63 (by decide) ?_
      cases hf
      exact hret _ _ _ _ dX4_isWordHere_64 rfl hP hD hS
  have j17 : ∀ (n : Nat) (v2 : Int32) (v3 : Int32) (H : Heap) (locs : List Loc) (ls : Array Slot), fX4_isWordHere_17 o_place o_start a1 n v2 v3 = some r → va_P G vwCl (wX4_isWordHere cI cJ cZ h_o h_a1 h_o_way h_o_re h_o_im o_fault o_faultPlace o_toldWords o_toldRe o_toldIm o_length o_place o_kind o_start o_number a1) H → va_D A (wX4_isWordHere cI cJ cZ h_o h_a1 h_o_way h_o_re h_o_im o_fault o_faultPlace o_toldWords o_toldRe o_toldIm o_length o_place o_kind o_start o_number a1) → va_S A s.heap H locs → lv_has ls 5 [(0, .ref h_o), (1, .ref h_a1), (2, .int v2), (3, .int v3)] → W p l e ({ frames := 4, cells := 0, slots := 0, locals := 85 } : Room) s m ([.ref h_o, .ref h_a1, .int p2] : List Value).toArray below meth c H locs 0 0 Q (F0 m 17 ls []) := by
    intro n
    induction n with
    | zero =>
      intro v2 v3 H locs ls hf
      have hf : (none : Option (Int32)) = some r := hf
      cases hf
    | succ n ih =>
      intro v2 v3 H locs ls hf hP hD hS hl
      rw [fX4_isWordHere_17.eq_2] at hf
      refine lv_iload_n hx hb dX4_isWordHere_17 rfl (lv_at hl 3 rfl) ?_
      refine lv_iconst (v := (5 : Int32)) hx hb dX4_isWordHere_18 (by decide) ?_
      refine lv_icmp_ge (tgt := 71) hx hb dX4_isWordHere_19 (by decide) (fun c_2 => ?_) (fun c_2 => ?_)
      · have hf := it_t c_2 hf
        refine lv_iconst (v := (1 : Int32)) hx hb dX4_isWordHere_71 (by decide) ?_
        cases hf
        exact hret _ _ _ _ dX4_isWordHere_72 rfl hP hD hS
      · have hf := it_f c_2 hf
        refine lv_aload_n hx hb dX4_isWordHere_22 rfl (lv_at hl 0 rfl) ?_
        refine rd (ci := 4) (C := RX4) (T := TX4) (N := 13) hx hb hts inX4 hown hK hP 0 11 rfl rfl (by decide) (hts _ q_fX4_65) rfl dX4_isWordHere_23 ?_
        refine lv_iload_n hx hb dX4_isWordHere_26 rfl (lv_at hl 3 rfl) ?_
        refine lv_iadd hx hb dX4_isWordHere_27 ?_
        refine lv_aload_n hx hb dX4_isWordHere_28 rfl (lv_at hl 0 rfl) ?_
        refine rd (ci := 4) (C := RX4) (T := TX4) (N := 13) hx hb hts inX4 hown hK hP 0 9 rfl rfl (by decide) (hts _ q_fX4_62) rfl dX4_isWordHere_29 ?_
        refine lv_icmp_ge (tgt := 46) hx hb dX4_isWordHere_32 (by decide) (fun c_3 => ?_) (fun c_3 => ?_)
        · have hf := it_t c_3 hf
          refine lv_bipush (v := (32 : Int32)) hx hb dX4_isWordHere_46 (by decide) ?_
          exact j48 (fX4_isWordHere_17 o_place o_start a1 n) ih v2 v3 (32 : Int32) H locs ls hf hP hD hS (lv_sub hl [0, 1, 2, 3] rfl)
        · have hf := it_f c_3 hf
          refine lv_aload_n hx hb dX4_isWordHere_35 rfl (lv_at hl 1 rfl) ?_
          refine lv_aload_n hx hb dX4_isWordHere_36 rfl (lv_at hl 0 rfl) ?_
          refine rd (ci := 4) (C := RX4) (T := TX4) (N := 13) hx hb hts inX4 hown hK hP 0 11 rfl rfl (by decide) (hts _ q_fX4_65) rfl dX4_isWordHere_37 ?_
          refine lv_iload_n hx hb dX4_isWordHere_40 rfl (lv_at hl 3 rfl) ?_
          refine lv_iadd hx hb dX4_isWordHere_41 ?_
          refine lv_topi (fun i_4 ei_4 => ?_)
          have hf := nm_x ei_4 hf
          obtain ⟨g_5, hf⟩ := gd_x hf
          refine va_iald hx hb hK hP 1 0 rfl rfl (inb_x g_5) dX4_isWordHere_42 ?_
          refine lv_goto (tgt := 48) hx hb dX4_isWordHere_43 (by decide) ?_
          exact j48 (fX4_isWordHere_17 o_place o_start a1 n) ih v2 v3 (a1 (Int32.toNatClampNeg i_4)) H locs ls hf hP hD hS (lv_sub hl [0, 1, 2, 3] rfl)
  unfold fX4_isWordHere at hf
  obtain ⟨H, eH⟩ : ∃ H, H = s.heap := ⟨_, rfl⟩
  obtain ⟨locs, elocs⟩ : ∃ z : List Loc, z = [] := ⟨_, rfl⟩
  have hP : va_P G vwCl (wX4_isWordHere cI cJ cZ h_o h_a1 h_o_way h_o_re h_o_im o_fault o_faultPlace o_toldWords o_toldRe o_toldIm o_length o_place o_kind o_start o_number a1) H := by rw [eH]; exact hP
  have hS : va_S A s.heap H locs := by rw [eH, elocs]; exact hS
  suffices hgo : W p l e ({ frames := 4, cells := 0, slots := 0, locals := 85 } : Room) s m ([.ref h_o, .ref h_a1, .int p2] : List Value).toArray below meth c H locs 0 0 Q (F0 m 0 ls []) by rw [eH, elocs] at hgo; exact hgo
  clear eH elocs
  refine lv_aload_n hx hb dX4_isWordHere_0 rfl (lv_at hl 0 rfl) ?_
  refine rd (ci := 4) (C := RX4) (T := TX4) (N := 13) hx hb hts inX4 hown hK hP 0 9 rfl rfl (by decide) (hts _ q_fX4_62) rfl dX4_isWordHere_1 ?_
  refine lv_aload_n hx hb dX4_isWordHere_4 rfl (lv_at hl 0 rfl) ?_
  refine rd (ci := 4) (C := RX4) (T := TX4) (N := 13) hx hb hts inX4 hown hK hP 0 11 rfl rfl (by decide) (hts _ q_fX4_65) rfl dX4_isWordHere_5 ?_
  refine lv_isub hx hb dX4_isWordHere_8 ?_
  refine lv_iconst (v := (5 : Int32)) hx hb dX4_isWordHere_9 (by decide) ?_
  refine lv_icmp_le (tgt := 15) hx hb dX4_isWordHere_10 (by decide) (fun c_1 => ?_) (fun c_1 => ?_)
  · have hf := it_t c_1 hf
    refine lv_iconst (v := (0 : Int32)) hx hb dX4_isWordHere_15 (by decide) ?_
    refine lv_istore_n (lv' := [(3, .int (0 : Int32)), (0, .ref h_o), (1, .ref h_a1), (2, .int p2)]) hx hb dX4_isWordHere_16 rfl hl (by decide) rfl (fun ls hl => ?_)
    exact j17 FU p2 (0 : Int32) H locs ls hf hP hD hS (lv_sub hl [1, 2, 3, 0] rfl)
  · have hf := it_f c_1 hf
    refine lv_iconst (v := (0 : Int32)) hx hb dX4_isWordHere_13 (by decide) ?_
    cases hf
    exact hret _ _ _ _ dX4_isWordHere_14 rfl hP hD hS
def wX4_wordHere (cI cJ cZ : ClassId) (h_o h_a1 h_o_way h_o_re h_o_im : Nat) (o_fault : Int32) (o_faultPlace : Int32) (o_toldWords : Int32) (o_toldRe : Int32) (o_toldIm : Int32) (o_length : Int32) (o_place : Int32) (o_kind : Int32) (o_start : Int32) (o_number : Int32) (a1 : Nat → Int32) : va_W := [(h_o, .inr (4, [.ref h_o_way, .ref h_o_re, .ref h_o_im, .int o_fault, .int o_faultPlace, .int o_toldWords, .int o_toldRe, .int o_toldIm, .int o_length, .int o_place, .int o_kind, .int o_start, .int o_number])), (h_a1, .inl (cI, 700, .inl a1))]
def fX4_wordHere_2 (o_place : Int32) (o_start : Int32) (a1 : Nat → Int32) : Nat → Int32 → Option (Int32)
  | 0, _ => none
  | n + 1, v2 =>
    if (10 : Int32) ≤ v2 then (
      some (-1 : Int32)
    ) else (
      bd1 (fX4_isWordHere o_place o_start a1 (v2 * (5 : Int32))) (fun r_2 =>
      if r_2 = 0 then (
        nm (v2 + (1 : Int32)) (fun v2_5 =>
        fX4_wordHere_2 o_place o_start a1 n v2_5)
      ) else (
        some v2
      ))
    )
def fX4_wordHere (o_place : Int32) (o_start : Int32) (a1 : Nat → Int32) : Option (Int32) :=
  fX4_wordHere_2 o_place o_start a1 FU (0 : Int32)
set_option maxHeartbeats 4000000 in
set_option maxRecDepth 100000 in
theorem tX4_wordHere (l : Launch) (G : va_G) (cI cJ cZ : ClassId) (sz : Nat) (h_o h_a1 h_o_way h_o_re h_o_im : Nat) (o_fault : Int32) (o_faultPlace : Int32) (o_toldWords : Int32) (o_toldRe : Int32) (o_toldIm : Int32) (o_length : Int32) (o_place : Int32) (o_kind : Int32) (o_start : Int32) (o_number : Int32) (a1 : Nat → Int32) (r : Int32) (hf : fX4_wordHere o_place o_start a1 = some r) : Met l yX4_wordHere (Cond.code yX4_wordHere cX4_wordHere 3 (some .int) :: BIG) ({ frames := 5, cells := 0, slots := 0, locals := 109 } : Room) (cPX SX G (TY3 cI cJ cZ) [.ref h_o, .ref h_a1] sz (wX4_wordHere cI cJ cZ h_o h_a1 h_o_way h_o_re h_o_im o_fault o_faultPlace o_toldWords o_toldRe o_toldIm o_length o_place o_kind o_start o_number a1)) (cQ G (TY3 cI cJ cZ) sz (wX4_wordHere cI cJ cZ h_o h_a1 h_o_way h_o_re h_o_im o_fault o_faultPlace o_toldWords o_toldRe o_toldIm o_length o_place o_kind o_start o_number a1) (wX4_wordHere cI cJ cZ h_o h_a1 h_o_way h_o_re h_o_im o_fault o_faultPlace o_toldWords o_toldRe o_toldIm o_length o_place o_kind o_start o_number a1) (some (.int r))) 0 0 (va_A (wX4_wordHere cI cJ cZ h_o h_a1 h_o_way h_o_re h_o_im o_fault o_faultPlace o_toldWords o_toldRe o_toldIm o_length o_place o_kind o_start o_number a1) sz) := by
  refine met_iX (cc := cX4_wordHere) (maxL := 3) (plainFor_of_name (by decide)) (Nat.le_of_ble_eq_true rfl) (fun p e s m below meth c A ls Q hx hb hml hts hown hK hP hD hS hA hX hl hret => ?_)
  obtain ⟨⟨tQ, hQ⟩, ⟨tR, hR⟩, sa, sv, hW⟩ := id hX
  have hownS : s.vm.findClass "BlockWave$Reader" = some m.cls := hown
  have hown : s.vm.findClass RX4 = some m.cls := hown
  have hl : lv_has ls 3 [(0, .ref h_o), (1, .ref h_a1)] := hl
  have j2 : ∀ (n : Nat) (v2 : Int32) (H : Heap) (locs : List Loc) (ls : Array Slot), fX4_wordHere_2 o_place o_start a1 n v2 = some r → va_P G vwCl (wX4_wordHere cI cJ cZ h_o h_a1 h_o_way h_o_re h_o_im o_fault o_faultPlace o_toldWords o_toldRe o_toldIm o_length o_place o_kind o_start o_number a1) H → va_D A (wX4_wordHere cI cJ cZ h_o h_a1 h_o_way h_o_re h_o_im o_fault o_faultPlace o_toldWords o_toldRe o_toldIm o_length o_place o_kind o_start o_number a1) → va_S A s.heap H locs → lv_has ls 3 [(0, .ref h_o), (1, .ref h_a1), (2, .int v2)] → W p l e ({ frames := 5, cells := 0, slots := 0, locals := 109 } : Room) s m ([.ref h_o, .ref h_a1] : List Value).toArray below meth c H locs 0 0 Q (F0 m 2 ls []) := by
    intro n
    induction n with
    | zero =>
      intro v2 H locs ls hf
      have hf : (none : Option (Int32)) = some r := hf
      cases hf
    | succ n ih =>
      intro v2 H locs ls hf hP hD hS hl
      rw [fX4_wordHere_2.eq_2] at hf
      refine lv_iload_n hx hb dX4_wordHere_2 rfl (lv_at hl 2 rfl) ?_
      refine lv_bipush (v := (10 : Int32)) hx hb dX4_wordHere_3 (by decide) ?_
      refine lv_icmp_ge (tgt := 27) hx hb dX4_wordHere_5 (by decide) (fun c_1 => ?_) (fun c_1 => ?_)
      · have hf := it_t c_1 hf
        refine lv_iconst (v := (-1 : Int32)) hx hb dX4_wordHere_27 (by decide) ?_
        cases hf
        exact hret _ _ _ _ dX4_wordHere_28 hP hD hS
      · have hf := it_f c_1 hf
        refine lv_aload_n hx hb dX4_wordHere_8 rfl (lv_at hl 0 rfl) ?_
        refine lv_aload_n hx hb dX4_wordHere_9 rfl (lv_at hl 1 rfl) ?_
        refine lv_iload_n hx hb dX4_wordHere_10 rfl (lv_at hl 2 rfl) ?_
        refine lv_iconst (v := (5 : Int32)) hx hb dX4_wordHere_11 (by decide) ?_
        refine lv_imul hx hb dX4_wordHere_12 ?_
        obtain ⟨r_2, e_3, hf⟩ := bd1_x hf
        refine call_vX SX_c hX [.ref h_a1, .int (v2 * (5 : Int32))] [] ⟨hx, hb, hml, hown, hts⟩ hK hP hD hS hA hl.1 (tX4_isWordHere l G cI cJ cZ H.size h_o h_a1 h_o_way h_o_re h_o_im o_fault o_faultPlace o_toldWords o_toldRe o_toldIm o_length o_place o_kind o_start o_number a1 (v2 * (5 : Int32)) r_2 e_3) (cwV 2 hts (gv q_mX4_137 q_i_yX4_isWordHere q_s_yX4_isWordHere q_n_RX4 q_k_yX4_isWordHere) rfl rfl rfl (by decide +kernel) ⟨by decide, by decide⟩) rfl rfl (Nat.le_of_ble_eq_true rfl) dX4_wordHere_13 ⟨Nat.zero_le _, Nat.zero_le _⟩ (va_recv hK hP (ci := 4) (q0 := 0) rfl rfl) [0, 1] [] [0, 1] rfl rfl (ws2 := (wX4_wordHere cI cJ cZ h_o h_a1 h_o_way h_o_re h_o_im o_fault o_faultPlace o_toldWords o_toldRe o_toldIm o_length o_place o_kind o_start o_number a1)) rfl (fun H locs hP hD hS => ?_)
        refine W.eq (g2 := F0 m 16 ls [.int r_2]) rfl ?_
        refine lv_if_eq (tgt := 21) hx hb dX4_wordHere_16 (by decide) (fun c_4 => ?_) (fun c_4 => ?_)
        · have hf := it_t c_4 hf
          obtain ⟨v2_5, ev2_5⟩ : ∃ y : Int32, y = v2 + (1 : Int32) := ⟨_, rfl⟩
          have hf := nm_x ev2_5 hf
          refine lv_iinc (v := v2_5) (lv' := [(2, .int v2_5), (0, .ref h_o), (1, .ref h_a1)]) hx hb dX4_wordHere_21 hl (k := 2) rfl (by rw [ev2_5]; rfl) (by decide) rfl (fun ls hl => ?_)
          refine lv_goto (tgt := 2) hx hb dX4_wordHere_24 (by decide) ?_
          exact ih v2_5 H locs ls hf hP hD hS (lv_sub hl [1, 2, 0] rfl)
        · have hf := it_f c_4 hf
          refine lv_iload_n hx hb dX4_wordHere_19 rfl (lv_at hl 2 rfl) ?_
          cases hf
          exact hret _ _ _ _ dX4_wordHere_20 hP hD hS
  unfold fX4_wordHere at hf
  obtain ⟨H, eH⟩ : ∃ H, H = s.heap := ⟨_, rfl⟩
  obtain ⟨locs, elocs⟩ : ∃ z : List Loc, z = [] := ⟨_, rfl⟩
  have hP : va_P G vwCl (wX4_wordHere cI cJ cZ h_o h_a1 h_o_way h_o_re h_o_im o_fault o_faultPlace o_toldWords o_toldRe o_toldIm o_length o_place o_kind o_start o_number a1) H := by rw [eH]; exact hP
  have hS : va_S A s.heap H locs := by rw [eH, elocs]; exact hS
  suffices hgo : W p l e ({ frames := 5, cells := 0, slots := 0, locals := 109 } : Room) s m ([.ref h_o, .ref h_a1] : List Value).toArray below meth c H locs 0 0 Q (F0 m 0 ls []) by rw [eH, elocs] at hgo; exact hgo
  clear eH elocs
  refine lv_iconst (v := (0 : Int32)) hx hb dX4_wordHere_0 (by decide) ?_
  refine lv_istore_n (lv' := [(2, .int (0 : Int32)), (0, .ref h_o), (1, .ref h_a1)]) hx hb dX4_wordHere_1 rfl hl (by decide) rfl (fun ls hl => ?_)
  exact j2 FU (0 : Int32) H locs ls hf hP hD hS (lv_sub hl [1, 2, 0] rfl)
def wX4_readLine (cI cJ cZ : ClassId) (h_o h_a1 h_o_im h_o_re h_o_way h_o_way_shifts : Nat) (o_fault : Int32) (o_faultPlace : Int32) (o_toldWords : Int32) (o_toldRe : Int32) (o_toldIm : Int32) (o_length : Int32) (o_place : Int32) (o_kind : Int32) (o_start : Int32) (o_number : Int32) (a1 : Nat → Int32) (o_im : Nat → Int32) (o_re : Nat → Int32) (o_way_size : Int32) (o_way_log : Int32) (o_way_wordBits : Int32) (o_way_limit : Int32) (o_way_radix : Int32) (o_way_order : Int32) (o_way_near : Int32) (o_way_seed : Int32) (o_way_stages : Int32) : va_W := [(h_o, .inr (4, [.ref h_o_way, .ref h_o_re, .ref h_o_im, .int o_fault, .int o_faultPlace, .int o_toldWords, .int o_toldRe, .int o_toldIm, .int o_length, .int o_place, .int o_kind, .int o_start, .int o_number])), (h_a1, .inl (cI, 700, .inl a1)), (h_o_im, .inl (cI, 32, .inl o_im)), (h_o_re, .inl (cI, 32, .inl o_re)), (h_o_way, .inr (8, [.int o_way_size, .int o_way_log, .int o_way_wordBits, .int o_way_limit, .int o_way_radix, .int o_way_order, .int o_way_near, .int o_way_seed, .int o_way_stages, .ref h_o_way_shifts]))]
def fX4_readLine_54 (o_fault : Int32) (o_faultPlace : Int32) (o_toldWords : Int32) (o_toldRe : Int32) (o_toldIm : Int32) (o_place : Int32) (o_kind : Int32) (o_start : Int32) (o_number : Int32) (o_im : Nat → Int32) (o_re : Nat → Int32) (o_way_size : Int32) (o_way_log : Int32) (o_way_wordBits : Int32) (o_way_limit : Int32) (o_way_radix : Int32) (o_way_order : Int32) (o_way_near : Int32) (o_way_seed : Int32) : Option (Int32 × Int32 × Int32 × Int32 × Int32 × Int32 × Int32 × Int32 × Int32 × Int32 × (Nat → Int32) × (Nat → Int32) × Int32 × Int32 × Int32 × Int32 × Int32 × Int32 × Int32 × Int32) :=
  bd3 (fX4_failAtToken o_fault o_faultPlace o_start (1 : Int32)) (fun r_9 o_fault_10 o_faultPlace_11 =>
  gd (bl r_9) (
  some (r_9, o_fault_10, o_faultPlace_11, o_toldWords, o_toldRe, o_toldIm, o_place, o_kind, o_start, o_number, o_im, o_re, o_way_size, o_way_log, o_way_wordBits, o_way_limit, o_way_radix, o_way_order, o_way_near, o_way_seed)))
def fX4_readLine_80 (o_length : Int32) (a1 : Nat → Int32) (o_fault : Int32) (o_faultPlace : Int32) (o_toldWords : Int32) (o_toldRe : Int32) (o_toldIm : Int32) (o_place : Int32) (o_kind : Int32) (o_start : Int32) (o_number : Int32) (o_im : Nat → Int32) (o_re : Nat → Int32) (o_way_size : Int32) (o_way_log : Int32) (o_way_wordBits : Int32) (o_way_limit : Int32) (o_way_radix : Int32) (o_way_order : Int32) (o_way_near : Int32) (o_way_seed : Int32) (s0 : Int32) : Option (Int32 × Int32 × Int32 × Int32 × Int32 × Int32 × Int32 × Int32 × Int32 × Int32 × (Nat → Int32) × (Nat → Int32) × Int32 × Int32 × Int32 × Int32 × Int32 × Int32 × Int32 × Int32) :=
  if s0 = 0 then (
    some ((0 : Int32), o_fault, o_faultPlace, o_toldWords, o_toldRe, o_toldIm, o_place, o_kind, o_start, o_number, o_im, o_re, o_way_size, o_way_log, o_way_wordBits, o_way_limit, o_way_radix, o_way_order, o_way_near, o_way_seed)
  ) else (
    bd4 (fX4_nextToken o_length o_place o_kind o_start o_number a1) (fun o_place_45 o_kind_46 o_start_47 o_number_48 =>
    if o_kind_46 = (3 : Int32) then (
      some ((1 : Int32), o_fault, o_faultPlace, o_toldWords, o_toldRe, o_toldIm, o_place_45, o_kind_46, o_start_47, o_number_48, o_im, o_re, o_way_size, o_way_log, o_way_wordBits, o_way_limit, o_way_radix, o_way_order, o_way_near, o_way_seed)
    ) else (
      bd3 (fX4_failAtToken o_fault o_faultPlace o_start_47 (1 : Int32)) (fun r_51 o_fault_52 o_faultPlace_53 =>
      if r_51 = 0 then (
        some ((0 : Int32), o_fault_52, o_faultPlace_53, o_toldWords, o_toldRe, o_toldIm, o_place_45, o_kind_46, o_start_47, o_number_48, o_im, o_re, o_way_size, o_way_log, o_way_wordBits, o_way_limit, o_way_radix, o_way_order, o_way_near, o_way_seed)
      ) else (
        some ((1 : Int32), o_fault_52, o_faultPlace_53, o_toldWords, o_toldRe, o_toldIm, o_place_45, o_kind_46, o_start_47, o_number_48, o_im, o_re, o_way_size, o_way_log, o_way_wordBits, o_way_limit, o_way_radix, o_way_order, o_way_near, o_way_seed)
      ))
    ))
  )
def fX4_readLine_60 (o_length : Int32) (a1 : Nat → Int32) (o_fault : Int32) (o_faultPlace : Int32) (o_toldWords : Int32) (o_toldRe : Int32) (o_toldIm : Int32) (o_place : Int32) (o_kind : Int32) (o_start : Int32) (o_number : Int32) (o_im : Nat → Int32) (o_re : Nat → Int32) (o_way_size : Int32) (o_way_log : Int32) (o_way_wordBits : Int32) (o_way_limit : Int32) (o_way_radix : Int32) (o_way_order : Int32) (o_way_near : Int32) (o_way_seed : Int32) (v2 : Int32) : Option (Int32 × Int32 × Int32 × Int32 × Int32 × Int32 × Int32 × Int32 × Int32 × Int32 × (Nat → Int32) × (Nat → Int32) × Int32 × Int32 × Int32 × Int32 × Int32 × Int32 × Int32 × Int32) :=
  if (5 : Int32) < v2 then (
    bd11 (fX4_readPoint o_fault o_faultPlace o_toldRe o_toldIm o_length o_place o_kind o_start o_number a1 o_im o_re o_way_size o_way_limit v2) (fun r_15 o_fault_16 o_faultPlace_17 o_toldRe_18 o_toldIm_19 o_place_20 o_kind_21 o_start_22 o_number_23 o_im_24 o_re_25 =>
    fX4_readLine_80 o_length a1 o_fault_16 o_faultPlace_17 o_toldWords o_toldRe_18 o_toldIm_19 o_place_20 o_kind_21 o_start_22 o_number_23 o_im_24 o_re_25 o_way_size o_way_log o_way_wordBits o_way_limit o_way_radix o_way_order o_way_near o_way_seed r_15)
  ) else (
    bd16 (fX4_readSetting o_fault o_faultPlace o_toldWords o_length o_place o_kind o_start o_number a1 o_way_size o_way_log o_way_wordBits o_way_limit o_way_radix o_way_order o_way_near o_way_seed v2) (fun r_27 o_fault_28 o_faultPlace_29 o_toldWords_30 o_place_31 o_kind_32 o_start_33 o_number_34 o_way_size_35 o_way_log_36 o_way_wordBits_37 o_way_limit_38 o_way_radix_39 o_way_order_40 o_way_near_41 o_way_seed_42 =>
    fX4_readLine_80 o_length a1 o_fault_28 o_faultPlace_29 o_toldWords_30 o_toldRe o_toldIm o_place_31 o_kind_32 o_start_33 o_number_34 o_im o_re o_way_size_35 o_way_log_36 o_way_wordBits_37 o_way_limit_38 o_way_radix_39 o_way_order_40 o_way_near_41 o_way_seed_42 r_27)
  )
def fX4_readLine_35 (o_length : Int32) (a1 : Nat → Int32) (o_fault : Int32) (o_faultPlace : Int32) (o_toldWords : Int32) (o_toldRe : Int32) (o_toldIm : Int32) (o_place : Int32) (o_kind : Int32) (o_start : Int32) (o_number : Int32) (o_im : Nat → Int32) (o_re : Nat → Int32) (o_way_size : Int32) (o_way_log : Int32) (o_way_wordBits : Int32) (o_way_limit : Int32) (o_way_radix : Int32) (o_way_order : Int32) (o_way_near : Int32) (o_way_seed : Int32) (v2 : Int32) (s0 : Int32) : Option (Int32 × Int32 × Int32 × Int32 × Int32 × Int32 × Int32 × Int32 × Int32 × Int32 × (Nat → Int32) × (Nat → Int32) × Int32 × Int32 × Int32 × Int32 × Int32 × Int32 × Int32 × Int32) :=
  if v2 = (-1 : Int32) then (
    fX4_readLine_54 o_fault o_faultPlace o_toldWords o_toldRe o_toldIm o_place o_kind o_start o_number o_im o_re o_way_size o_way_log o_way_wordBits o_way_limit o_way_radix o_way_order o_way_near o_way_seed
  ) else (
    if s0 = 0 then (
      fX4_readLine_60 o_length a1 o_fault o_faultPlace o_toldWords o_toldRe o_toldIm o_place o_kind o_start o_number o_im o_re o_way_size o_way_log o_way_wordBits o_way_limit o_way_radix o_way_order o_way_near o_way_seed v2
    ) else (
      if v2 = 0 then (
        fX4_readLine_54 o_fault o_faultPlace o_toldWords o_toldRe o_toldIm o_place o_kind o_start o_number o_im o_re o_way_size o_way_log o_way_wordBits o_way_limit o_way_radix o_way_order o_way_near o_way_seed
      ) else (
        if v2 = (1 : Int32) then (
          fX4_readLine_54 o_fault o_faultPlace o_toldWords o_toldRe o_toldIm o_place o_kind o_start o_number o_im o_re o_way_size o_way_log o_way_wordBits o_way_limit o_way_radix o_way_order o_way_near o_way_seed
        ) else (
          fX4_readLine_60 o_length a1 o_fault o_faultPlace o_toldWords o_toldRe o_toldIm o_place o_kind o_start o_number o_im o_re o_way_size o_way_log o_way_wordBits o_way_limit o_way_radix o_way_order o_way_near o_way_seed v2
        )
      )
    )
  )
def fX4_readLine_17 (o_length : Int32) (a1 : Nat → Int32) (o_fault : Int32) (o_faultPlace : Int32) (o_toldWords : Int32) (o_toldRe : Int32) (o_toldIm : Int32) (o_place : Int32) (o_kind : Int32) (o_start : Int32) (o_number : Int32) (o_im : Nat → Int32) (o_re : Nat → Int32) (o_way_size : Int32) (o_way_log : Int32) (o_way_wordBits : Int32) (o_way_limit : Int32) (o_way_radix : Int32) (o_way_order : Int32) (o_way_near : Int32) (o_way_seed : Int32) (s0 : Int32) : Option (Int32 × Int32 × Int32 × Int32 × Int32 × Int32 × Int32 × Int32 × Int32 × Int32 × (Nat → Int32) × (Nat → Int32) × Int32 × Int32 × Int32 × Int32 × Int32 × Int32 × Int32 × Int32) :=
  if (o_toldRe ||| o_toldIm) = 0 then (
    fX4_readLine_35 o_length a1 o_fault o_faultPlace o_toldWords o_toldRe o_toldIm o_place o_kind o_start o_number o_im o_re o_way_size o_way_log o_way_wordBits o_way_limit o_way_radix o_way_order o_way_near o_way_seed s0 (0 : Int32)
  ) else (
    fX4_readLine_35 o_length a1 o_fault o_faultPlace o_toldWords o_toldRe o_toldIm o_place o_kind o_start o_number o_im o_re o_way_size o_way_log o_way_wordBits o_way_limit o_way_radix o_way_order o_way_near o_way_seed s0 (1 : Int32)
  )
def fX4_readLine (o_fault : Int32) (o_faultPlace : Int32) (o_toldWords : Int32) (o_toldRe : Int32) (o_toldIm : Int32) (o_length : Int32) (o_place : Int32) (o_kind : Int32) (o_start : Int32) (o_number : Int32) (a1 : Nat → Int32) (o_im : Nat → Int32) (o_re : Nat → Int32) (o_way_size : Int32) (o_way_log : Int32) (o_way_wordBits : Int32) (o_way_limit : Int32) (o_way_radix : Int32) (o_way_order : Int32) (o_way_near : Int32) (o_way_seed : Int32) : Option (Int32 × Int32 × Int32 × Int32 × Int32 × Int32 × Int32 × Int32 × Int32 × Int32 × (Nat → Int32) × (Nat → Int32) × Int32 × Int32 × Int32 × Int32 × Int32 × Int32 × Int32 × Int32) :=
  if o_kind = (1 : Int32) then (
    bd1 (fX4_wordHere o_place o_start a1) (fun r_2 =>
    fX4_readLine_17 o_length a1 o_fault o_faultPlace o_toldWords o_toldRe o_toldIm o_place o_kind o_start o_number o_im o_re o_way_size o_way_log o_way_wordBits o_way_limit o_way_radix o_way_order o_way_near o_way_seed r_2)
  ) else (
    fX4_readLine_17 o_length a1 o_fault o_faultPlace o_toldWords o_toldRe o_toldIm o_place o_kind o_start o_number o_im o_re o_way_size o_way_log o_way_wordBits o_way_limit o_way_radix o_way_order o_way_near o_way_seed (-1 : Int32)
  )
set_option maxHeartbeats 4000000 in
set_option maxRecDepth 100000 in
theorem tX4_readLine (l : Launch) (G : va_G) (cI cJ cZ : ClassId) (sz : Nat) (h_o h_a1 h_o_im h_o_re h_o_way h_o_way_shifts : Nat) (o_fault : Int32) (o_faultPlace : Int32) (o_toldWords : Int32) (o_toldRe : Int32) (o_toldIm : Int32) (o_length : Int32) (o_place : Int32) (o_kind : Int32) (o_start : Int32) (o_number : Int32) (a1 : Nat → Int32) (o_im : Nat → Int32) (o_re : Nat → Int32) (o_way_size : Int32) (o_way_log : Int32) (o_way_wordBits : Int32) (o_way_limit : Int32) (o_way_radix : Int32) (o_way_order : Int32) (o_way_near : Int32) (o_way_seed : Int32) (o_way_stages : Int32) (r : Int32) (out_o_fault : Int32) (out_o_faultPlace : Int32) (out_o_toldWords : Int32) (out_o_toldRe : Int32) (out_o_toldIm : Int32) (out_o_place : Int32) (out_o_kind : Int32) (out_o_start : Int32) (out_o_number : Int32) (out_o_im : Nat → Int32) (out_o_re : Nat → Int32) (out_o_way_size : Int32) (out_o_way_log : Int32) (out_o_way_wordBits : Int32) (out_o_way_limit : Int32) (out_o_way_radix : Int32) (out_o_way_order : Int32) (out_o_way_near : Int32) (out_o_way_seed : Int32) (hf : fX4_readLine o_fault o_faultPlace o_toldWords o_toldRe o_toldIm o_length o_place o_kind o_start o_number a1 o_im o_re o_way_size o_way_log o_way_wordBits o_way_limit o_way_radix o_way_order o_way_near o_way_seed = some (r, out_o_fault, out_o_faultPlace, out_o_toldWords, out_o_toldRe, out_o_toldIm, out_o_place, out_o_kind, out_o_start, out_o_number, out_o_im, out_o_re, out_o_way_size, out_o_way_log, out_o_way_wordBits, out_o_way_limit, out_o_way_radix, out_o_way_order, out_o_way_near, out_o_way_seed)) : Met l yX4_readLine (Cond.code yX4_readLine cX4_readLine 5 (some .boolean) :: BIG) ({ frames := 6, cells := 0, slots := 0, locals := 131 } : Room) (cPX SX G (TY3 cI cJ cZ) [.ref h_o, .ref h_a1] sz (wX4_readLine cI cJ cZ h_o h_a1 h_o_im h_o_re h_o_way h_o_way_shifts o_fault o_faultPlace o_toldWords o_toldRe o_toldIm o_length o_place o_kind o_start o_number a1 o_im o_re o_way_size o_way_log o_way_wordBits o_way_limit o_way_radix o_way_order o_way_near o_way_seed o_way_stages)) (cQ G (TY3 cI cJ cZ) sz (wX4_readLine cI cJ cZ h_o h_a1 h_o_im h_o_re h_o_way h_o_way_shifts o_fault o_faultPlace o_toldWords o_toldRe o_toldIm o_length o_place o_kind o_start o_number a1 o_im o_re o_way_size o_way_log o_way_wordBits o_way_limit o_way_radix o_way_order o_way_near o_way_seed o_way_stages) (wX4_readLine cI cJ cZ h_o h_a1 h_o_im h_o_re h_o_way h_o_way_shifts out_o_fault out_o_faultPlace out_o_toldWords out_o_toldRe out_o_toldIm o_length out_o_place out_o_kind out_o_start out_o_number a1 out_o_im out_o_re out_o_way_size out_o_way_log out_o_way_wordBits out_o_way_limit out_o_way_radix out_o_way_order out_o_way_near out_o_way_seed o_way_stages) (some (.int r))) 0 0 (va_A (wX4_readLine cI cJ cZ h_o h_a1 h_o_im h_o_re h_o_way h_o_way_shifts o_fault o_faultPlace o_toldWords o_toldRe o_toldIm o_length o_place o_kind o_start o_number a1 o_im o_re o_way_size o_way_log o_way_wordBits o_way_limit o_way_radix o_way_order o_way_near o_way_seed o_way_stages) sz) := by
  refine met_zX (cc := cX4_readLine) (maxL := 5) (plainFor_of_name (by decide)) (Nat.le_of_ble_eq_true rfl) (fun p e s m below meth c A ls Q hx hb hml hts hown hK hP hD hS hA hX hl hret => ?_)
  obtain ⟨⟨tQ, hQ⟩, ⟨tR, hR⟩, sa, sv, hW⟩ := id hX
  have hownS : s.vm.findClass "BlockWave$Reader" = some m.cls := hown
  have hown : s.vm.findClass RX4 = some m.cls := hown
  have hl : lv_has ls 5 [(0, .ref h_o), (1, .ref h_a1)] := hl
  have j54 : ∀ (o_fault : Int32) (o_faultPlace : Int32) (o_toldWords : Int32) (o_toldRe : Int32) (o_toldIm : Int32) (o_place : Int32) (o_kind : Int32) (o_start : Int32) (o_number : Int32) (o_im : Nat → Int32) (o_re : Nat → Int32) (o_way_size : Int32) (o_way_log : Int32) (o_way_wordBits : Int32) (o_way_limit : Int32) (o_way_radix : Int32) (o_way_order : Int32) (o_way_near : Int32) (o_way_seed : Int32) (H : Heap) (locs : List Loc) (ls : Array Slot), fX4_readLine_54 o_fault o_faultPlace o_toldWords o_toldRe o_toldIm o_place o_kind o_start o_number o_im o_re o_way_size o_way_log o_way_wordBits o_way_limit o_way_radix o_way_order o_way_near o_way_seed = some (r, out_o_fault, out_o_faultPlace, out_o_toldWords, out_o_toldRe, out_o_toldIm, out_o_place, out_o_kind, out_o_start, out_o_number, out_o_im, out_o_re, out_o_way_size, out_o_way_log, out_o_way_wordBits, out_o_way_limit, out_o_way_radix, out_o_way_order, out_o_way_near, out_o_way_seed) → va_P G vwCl (wX4_readLine cI cJ cZ h_o h_a1 h_o_im h_o_re h_o_way h_o_way_shifts o_fault o_faultPlace o_toldWords o_toldRe o_toldIm o_length o_place o_kind o_start o_number a1 o_im o_re o_way_size o_way_log o_way_wordBits o_way_limit o_way_radix o_way_order o_way_near o_way_seed o_way_stages) H → va_D A (wX4_readLine cI cJ cZ h_o h_a1 h_o_im h_o_re h_o_way h_o_way_shifts o_fault o_faultPlace o_toldWords o_toldRe o_toldIm o_length o_place o_kind o_start o_number a1 o_im o_re o_way_size o_way_log o_way_wordBits o_way_limit o_way_radix o_way_order o_way_near o_way_seed o_way_stages) → va_S A s.heap H locs → lv_has ls 5 [(0, .ref h_o)] → W p l e ({ frames := 6, cells := 0, slots := 0, locals := 131 } : Room) s m ([.ref h_o, .ref h_a1] : List Value).toArray below meth c H locs 0 0 Q (F0 m 54 ls []) := by
    intro o_fault o_faultPlace o_toldWords o_toldRe o_toldIm o_place o_kind o_start o_number o_im o_re o_way_size o_way_log o_way_wordBits o_way_limit o_way_radix o_way_order o_way_near o_way_seed H locs ls hf hP hD hS hl
    unfold fX4_readLine_54 at hf
    refine lv_aload_n hx hb dX4_readLine_54 rfl (lv_at hl 0 rfl) ?_
    refine lv_iconst (v := (1 : Int32)) hx hb dX4_readLine_55 (by decide) ?_
    obtain ⟨r_9, o_fault_10, o_faultPlace_11, e_12, hf⟩ := bd3_x hf
    refine call_v [.int (1 : Int32)] [] ⟨hx, hb, hml, hown, hts⟩ hK hP hD hS hA hl.1 (tX4_failAtToken l G cI cJ cZ H.size h_o h_o_way h_o_re h_o_im o_fault o_faultPlace o_toldWords o_toldRe o_toldIm o_length o_place o_kind o_start o_number (1 : Int32) r_9 o_fault_10 o_faultPlace_11 e_12) (cwV 1 hts (gv q_mX4_72 q_i_yX4_failAtToken q_s_yX4_failAtToken q_n_RX4 q_k_yX4_failAtToken) rfl rfl rfl (by decide +kernel) ⟨by decide, by decide⟩) rfl rfl (Nat.le_of_ble_eq_true rfl) dX4_readLine_56 ⟨Nat.zero_le _, Nat.zero_le _⟩ (ci := 4) rfl 0 rfl [0] [1, 2, 3, 4] [4, 0, 1, 2, 3] rfl rfl (ws2 := (wX4_readLine cI cJ cZ h_o h_a1 h_o_im h_o_re h_o_way h_o_way_shifts o_fault_10 o_faultPlace_11 o_toldWords o_toldRe o_toldIm o_length o_place o_kind o_start o_number a1 o_im o_re o_way_size o_way_log o_way_wordBits o_way_limit o_way_radix o_way_order o_way_near o_way_seed o_way_stages)) rfl (fun H locs hP hD hS => ?_)
    refine W.eq (g2 := F0 m 59 ls [.int r_9]) rfl ?_
    obtain ⟨g_13, hf⟩ := gd_x hf
    cases hf
    exact hret _ _ _ _ dX4_readLine_59 (bl_n g_13) hP hD hS
  have j80 : ∀ (o_fault : Int32) (o_faultPlace : Int32) (o_toldWords : Int32) (o_toldRe : Int32) (o_toldIm : Int32) (o_place : Int32) (o_kind : Int32) (o_start : Int32) (o_number : Int32) (o_im : Nat → Int32) (o_re : Nat → Int32) (o_way_size : Int32) (o_way_log : Int32) (o_way_wordBits : Int32) (o_way_limit : Int32) (o_way_radix : Int32) (o_way_order : Int32) (o_way_near : Int32) (o_way_seed : Int32) (s0 : Int32) (H : Heap) (locs : List Loc) (ls : Array Slot), fX4_readLine_80 o_length a1 o_fault o_faultPlace o_toldWords o_toldRe o_toldIm o_place o_kind o_start o_number o_im o_re o_way_size o_way_log o_way_wordBits o_way_limit o_way_radix o_way_order o_way_near o_way_seed s0 = some (r, out_o_fault, out_o_faultPlace, out_o_toldWords, out_o_toldRe, out_o_toldIm, out_o_place, out_o_kind, out_o_start, out_o_number, out_o_im, out_o_re, out_o_way_size, out_o_way_log, out_o_way_wordBits, out_o_way_limit, out_o_way_radix, out_o_way_order, out_o_way_near, out_o_way_seed) → va_P G vwCl (wX4_readLine cI cJ cZ h_o h_a1 h_o_im h_o_re h_o_way h_o_way_shifts o_fault o_faultPlace o_toldWords o_toldRe o_toldIm o_length o_place o_kind o_start o_number a1 o_im o_re o_way_size o_way_log o_way_wordBits o_way_limit o_way_radix o_way_order o_way_near o_way_seed o_way_stages) H → va_D A (wX4_readLine cI cJ cZ h_o h_a1 h_o_im h_o_re h_o_way h_o_way_shifts o_fault o_faultPlace o_toldWords o_toldRe o_toldIm o_length o_place o_kind o_start o_number a1 o_im o_re o_way_size o_way_log o_way_wordBits o_way_limit o_way_radix o_way_order o_way_near o_way_seed o_way_stages) → va_S A s.heap H locs → lv_has ls 5 [(0, .ref h_o), (1, .ref h_a1)] → W p l e ({ frames := 6, cells := 0, slots := 0, locals := 131 } : Room) s m ([.ref h_o, .ref h_a1] : List Value).toArray below meth c H locs 0 0 Q (F0 m 80 ls [.int s0]) := by
    intro o_fault o_faultPlace o_toldWords o_toldRe o_toldIm o_place o_kind o_start o_number o_im o_re o_way_size o_way_log o_way_wordBits o_way_limit o_way_radix o_way_order o_way_near o_way_seed s0 H locs ls hf hP hD hS hl
    unfold fX4_readLine_80 at hf
    refine lv_istore (lv' := [(4, .int s0), (0, .ref h_o), (1, .ref h_a1)]) hx hb dX4_readLine_80 hl (by decide) rfl (fun ls hl => ?_)
    refine lv_iload hx hb dX4_readLine_82 (lv_at hl 0 rfl) ?_
    refine lv_if_ne (tgt := 89) hx hb dX4_readLine_84 (by decide) (fun c_44 => ?_) (fun c_44 => ?_)
    · have hf := it_f c_44 hf
      refine lv_aload_n hx hb dX4_readLine_89 rfl (lv_at hl 1 rfl) ?_
      refine lv_aload_n hx hb dX4_readLine_90 rfl (lv_at hl 2 rfl) ?_
      obtain ⟨o_place_45, o_kind_46, o_start_47, o_number_48, e_49, hf⟩ := bd4_x hf
      refine call_v [.ref h_a1] [] ⟨hx, hb, hml, hown, hts⟩ hK hP hD hS hA hl.1 (tX4_nextToken l G cI cJ cZ H.size h_o h_a1 h_o_way h_o_re h_o_im o_fault o_faultPlace o_toldWords o_toldRe o_toldIm o_length o_place o_kind o_start o_number a1 o_place_45 o_kind_46 o_start_47 o_number_48 e_49) (cwV 1 hts (gv q_mX4_36 q_i_yX4_nextToken q_s_yX4_nextToken q_n_RX4 q_k_yX4_nextToken) rfl rfl rfl (by decide +kernel) ⟨by decide, by decide⟩) rfl rfl (Nat.le_of_ble_eq_true rfl) dX4_readLine_91 ⟨Nat.zero_le _, Nat.zero_le _⟩ (ci := 4) rfl 0 rfl [0, 1] [2, 3, 4] [3, 4, 0, 1, 2] rfl rfl (ws2 := (wX4_readLine cI cJ cZ h_o h_a1 h_o_im h_o_re h_o_way h_o_way_shifts o_fault o_faultPlace o_toldWords o_toldRe o_toldIm o_length o_place_45 o_kind_46 o_start_47 o_number_48 a1 o_im o_re o_way_size o_way_log o_way_wordBits o_way_limit o_way_radix o_way_order o_way_near o_way_seed o_way_stages)) rfl (fun H locs hP hD hS => ?_)
      refine W.eq (g2 := F0 m 94 ls []) rfl ?_
      refine lv_aload_n hx hb dX4_readLine_94 rfl (lv_at hl 1 rfl) ?_
      refine rd (ci := 4) (C := RX4) (T := TX4) (N := 13) hx hb hts inX4 hown hK hP 0 10 rfl rfl (by decide) (hts _ q_fX4_40) rfl dX4_readLine_95 ?_
      refine lv_iconst (v := (3 : Int32)) hx hb dX4_readLine_98 (by decide) ?_
      refine lv_icmp_eq (tgt := 110) hx hb dX4_readLine_99 (by decide) (fun c_50 => ?_) (fun c_50 => ?_)
      · have hf := it_t c_50 hf
        refine lv_iconst (v := (1 : Int32)) hx hb dX4_readLine_110 (by decide) ?_
        refine lv_goto (tgt := 115) hx hb dX4_readLine_111 (by decide) ?_
        cases hf
        exact hret _ _ _ _ dX4_readLine_115 rfl hP hD hS
      · have hf := it_f c_50 hf
        refine lv_aload_n hx hb dX4_readLine_102 rfl (lv_at hl 1 rfl) ?_
        refine lv_iconst (v := (1 : Int32)) hx hb dX4_readLine_103 (by decide) ?_
        obtain ⟨r_51, o_fault_52, o_faultPlace_53, e_54, hf⟩ := bd3_x hf
        refine call_v [.int (1 : Int32)] [] ⟨hx, hb, hml, hown, hts⟩ hK hP hD hS hA hl.1 (tX4_failAtToken l G cI cJ cZ H.size h_o h_o_way h_o_re h_o_im o_fault o_faultPlace o_toldWords o_toldRe o_toldIm o_length o_place_45 o_kind_46 o_start_47 o_number_48 (1 : Int32) r_51 o_fault_52 o_faultPlace_53 e_54) (cwV 1 hts (gv q_mX4_72 q_i_yX4_failAtToken q_s_yX4_failAtToken q_n_RX4 q_k_yX4_failAtToken) rfl rfl rfl (by decide +kernel) ⟨by decide, by decide⟩) rfl rfl (Nat.le_of_ble_eq_true rfl) dX4_readLine_104 ⟨Nat.zero_le _, Nat.zero_le _⟩ (ci := 4) rfl 0 rfl [0] [1, 2, 3, 4] [4, 0, 1, 2, 3] rfl rfl (ws2 := (wX4_readLine cI cJ cZ h_o h_a1 h_o_im h_o_re h_o_way h_o_way_shifts o_fault_52 o_faultPlace_53 o_toldWords o_toldRe o_toldIm o_length o_place_45 o_kind_46 o_start_47 o_number_48 a1 o_im o_re o_way_size o_way_log o_way_wordBits o_way_limit o_way_radix o_way_order o_way_near o_way_seed o_way_stages)) rfl (fun H locs hP hD hS => ?_)
        refine W.eq (g2 := F0 m 107 ls [.int r_51]) rfl ?_
        refine lv_if_eq (tgt := 114) hx hb dX4_readLine_107 (by decide) (fun c_55 => ?_) (fun c_55 => ?_)
        · have hf := it_t c_55 hf
          refine lv_iconst (v := (0 : Int32)) hx hb dX4_readLine_114 (by decide) ?_
          cases hf
          exact hret _ _ _ _ dX4_readLine_115 rfl hP hD hS
        · have hf := it_f c_55 hf
          refine lv_iconst (v := (1 : Int32)) hx hb dX4_readLine_110 (by decide) ?_
          refine lv_goto (tgt := 115) hx hb dX4_readLine_111 (by decide) ?_
          cases hf
          exact hret _ _ _ _ dX4_readLine_115 rfl hP hD hS
    · have hf := it_t c_44 hf
      refine lv_iconst (v := (0 : Int32)) hx hb dX4_readLine_87 (by decide) ?_
      cases hf
      exact hret _ _ _ _ dX4_readLine_88 rfl hP hD hS
  have j60 : ∀ (o_fault : Int32) (o_faultPlace : Int32) (o_toldWords : Int32) (o_toldRe : Int32) (o_toldIm : Int32) (o_place : Int32) (o_kind : Int32) (o_start : Int32) (o_number : Int32) (o_im : Nat → Int32) (o_re : Nat → Int32) (o_way_size : Int32) (o_way_log : Int32) (o_way_wordBits : Int32) (o_way_limit : Int32) (o_way_radix : Int32) (o_way_order : Int32) (o_way_near : Int32) (o_way_seed : Int32) (v2 : Int32) (H : Heap) (locs : List Loc) (ls : Array Slot), fX4_readLine_60 o_length a1 o_fault o_faultPlace o_toldWords o_toldRe o_toldIm o_place o_kind o_start o_number o_im o_re o_way_size o_way_log o_way_wordBits o_way_limit o_way_radix o_way_order o_way_near o_way_seed v2 = some (r, out_o_fault, out_o_faultPlace, out_o_toldWords, out_o_toldRe, out_o_toldIm, out_o_place, out_o_kind, out_o_start, out_o_number, out_o_im, out_o_re, out_o_way_size, out_o_way_log, out_o_way_wordBits, out_o_way_limit, out_o_way_radix, out_o_way_order, out_o_way_near, out_o_way_seed) → va_P G vwCl (wX4_readLine cI cJ cZ h_o h_a1 h_o_im h_o_re h_o_way h_o_way_shifts o_fault o_faultPlace o_toldWords o_toldRe o_toldIm o_length o_place o_kind o_start o_number a1 o_im o_re o_way_size o_way_log o_way_wordBits o_way_limit o_way_radix o_way_order o_way_near o_way_seed o_way_stages) H → va_D A (wX4_readLine cI cJ cZ h_o h_a1 h_o_im h_o_re h_o_way h_o_way_shifts o_fault o_faultPlace o_toldWords o_toldRe o_toldIm o_length o_place o_kind o_start o_number a1 o_im o_re o_way_size o_way_log o_way_wordBits o_way_limit o_way_radix o_way_order o_way_near o_way_seed o_way_stages) → va_S A s.heap H locs → lv_has ls 5 [(0, .ref h_o), (1, .ref h_a1), (2, .int v2)] → W p l e ({ frames := 6, cells := 0, slots := 0, locals := 131 } : Room) s m ([.ref h_o, .ref h_a1] : List Value).toArray below meth c H locs 0 0 Q (F0 m 60 ls []) := by
    intro o_fault o_faultPlace o_toldWords o_toldRe o_toldIm o_place o_kind o_start o_number o_im o_re o_way_size o_way_log o_way_wordBits o_way_limit o_way_radix o_way_order o_way_near o_way_seed v2 H locs ls hf hP hD hS hl
    unfold fX4_readLine_60 at hf
    refine lv_iload_n hx hb dX4_readLine_60 rfl (lv_at hl 2 rfl) ?_
    refine lv_iconst (v := (5 : Int32)) hx hb dX4_readLine_61 (by decide) ?_
    refine lv_icmp_gt (tgt := 74) hx hb dX4_readLine_62 (by decide) (fun c_14 => ?_) (fun c_14 => ?_)
    · have hf := it_t c_14 hf
      refine lv_aload_n hx hb dX4_readLine_74 rfl (lv_at hl 0 rfl) ?_
      refine lv_aload_n hx hb dX4_readLine_75 rfl (lv_at hl 1 rfl) ?_
      refine lv_iload_n hx hb dX4_readLine_76 rfl (lv_at hl 2 rfl) ?_
      obtain ⟨r_15, o_fault_16, o_faultPlace_17, o_toldRe_18, o_toldIm_19, o_place_20, o_kind_21, o_start_22, o_number_23, o_im_24, o_re_25, e_26, hf⟩ := bd11_x hf
      refine call_v [.ref h_a1, .int v2] [] ⟨hx, hb, hml, hown, hts⟩ hK hP hD hS hA hl.1 (tX4_readPoint l G cI cJ cZ H.size h_o h_a1 h_o_im h_o_re h_o_way h_o_way_shifts o_fault o_faultPlace o_toldWords o_toldRe o_toldIm o_length o_place o_kind o_start o_number a1 o_im o_re o_way_size o_way_log o_way_wordBits o_way_limit o_way_radix o_way_order o_way_near o_way_seed o_way_stages v2 r_15 o_fault_16 o_faultPlace_17 o_toldRe_18 o_toldIm_19 o_place_20 o_kind_21 o_start_22 o_number_23 o_im_24 o_re_25 e_26) (cwV 2 hts (gv q_mX4_80 q_i_yX4_readPoint q_s_yX4_readPoint q_n_RX4 q_k_yX4_readPoint) rfl rfl rfl (by decide +kernel) ⟨by decide, by decide⟩) rfl rfl (Nat.le_of_ble_eq_true rfl) dX4_readLine_77 ⟨Nat.zero_le _, Nat.zero_le _⟩ (ci := 4) rfl 0 rfl [0, 1, 2, 3, 4] [] [0, 1, 2, 3, 4] rfl rfl (ws2 := (wX4_readLine cI cJ cZ h_o h_a1 h_o_im h_o_re h_o_way h_o_way_shifts o_fault_16 o_faultPlace_17 o_toldWords o_toldRe_18 o_toldIm_19 o_length o_place_20 o_kind_21 o_start_22 o_number_23 a1 o_im_24 o_re_25 o_way_size o_way_log o_way_wordBits o_way_limit o_way_radix o_way_order o_way_near o_way_seed o_way_stages)) rfl (fun H locs hP hD hS => ?_)
      refine W.eq (g2 := F0 m 80 ls [.int r_15]) rfl ?_
      exact j80 o_fault_16 o_faultPlace_17 o_toldWords o_toldRe_18 o_toldIm_19 o_place_20 o_kind_21 o_start_22 o_number_23 o_im_24 o_re_25 o_way_size o_way_log o_way_wordBits o_way_limit o_way_radix o_way_order o_way_near o_way_seed r_15 H locs ls hf hP hD hS (lv_sub hl [0, 1] rfl)
    · have hf := it_f c_14 hf
      refine lv_aload_n hx hb dX4_readLine_65 rfl (lv_at hl 0 rfl) ?_
      refine lv_aload_n hx hb dX4_readLine_66 rfl (lv_at hl 1 rfl) ?_
      refine lv_iload_n hx hb dX4_readLine_67 rfl (lv_at hl 2 rfl) ?_
      obtain ⟨r_27, o_fault_28, o_faultPlace_29, o_toldWords_30, o_place_31, o_kind_32, o_start_33, o_number_34, o_way_size_35, o_way_log_36, o_way_wordBits_37, o_way_limit_38, o_way_radix_39, o_way_order_40, o_way_near_41, o_way_seed_42, e_43, hf⟩ := bd16_x hf
      refine call_v [.ref h_a1, .int v2] [] ⟨hx, hb, hml, hown, hts⟩ hK hP hD hS hA hl.1 (tX4_readSetting l G cI cJ cZ H.size h_o h_a1 h_o_way h_o_re h_o_im h_o_way_shifts o_fault o_faultPlace o_toldWords o_toldRe o_toldIm o_length o_place o_kind o_start o_number a1 o_way_size o_way_log o_way_wordBits o_way_limit o_way_radix o_way_order o_way_near o_way_seed o_way_stages v2 r_27 o_fault_28 o_faultPlace_29 o_toldWords_30 o_place_31 o_kind_32 o_start_33 o_number_34 o_way_size_35 o_way_log_36 o_way_wordBits_37 o_way_limit_38 o_way_radix_39 o_way_order_40 o_way_near_41 o_way_seed_42 e_43) (cwV 2 hts (gv q_mX4_76 q_i_yX4_readSetting q_s_yX4_readSetting q_n_RX4 q_k_yX4_readSetting) rfl rfl rfl (by decide +kernel) ⟨by decide, by decide⟩) rfl rfl (Nat.le_of_ble_eq_true rfl) dX4_readLine_68 ⟨Nat.zero_le _, Nat.zero_le _⟩ (ci := 4) rfl 0 rfl [0, 1, 4] [2, 3] [2, 3, 0, 1, 4] rfl rfl (ws2 := (wX4_readLine cI cJ cZ h_o h_a1 h_o_im h_o_re h_o_way h_o_way_shifts o_fault_28 o_faultPlace_29 o_toldWords_30 o_toldRe o_toldIm o_length o_place_31 o_kind_32 o_start_33 o_number_34 a1 o_im o_re o_way_size_35 o_way_log_36 o_way_wordBits_37 o_way_limit_38 o_way_radix_39 o_way_order_40 o_way_near_41 o_way_seed_42 o_way_stages)) rfl (fun H locs hP hD hS => ?_)
      refine W.eq (g2 := F0 m 71 ls [.int r_27]) rfl ?_
      refine lv_goto (tgt := 80) hx hb dX4_readLine_71 (by decide) ?_
      exact j80 o_fault_28 o_faultPlace_29 o_toldWords_30 o_toldRe o_toldIm o_place_31 o_kind_32 o_start_33 o_number_34 o_im o_re o_way_size_35 o_way_log_36 o_way_wordBits_37 o_way_limit_38 o_way_radix_39 o_way_order_40 o_way_near_41 o_way_seed_42 r_27 H locs ls hf hP hD hS (lv_sub hl [0, 1] rfl)
  have j35 : ∀ (o_fault : Int32) (o_faultPlace : Int32) (o_toldWords : Int32) (o_toldRe : Int32) (o_toldIm : Int32) (o_place : Int32) (o_kind : Int32) (o_start : Int32) (o_number : Int32) (o_im : Nat → Int32) (o_re : Nat → Int32) (o_way_size : Int32) (o_way_log : Int32) (o_way_wordBits : Int32) (o_way_limit : Int32) (o_way_radix : Int32) (o_way_order : Int32) (o_way_near : Int32) (o_way_seed : Int32) (v2 : Int32) (s0 : Int32) (H : Heap) (locs : List Loc) (ls : Array Slot), fX4_readLine_35 o_length a1 o_fault o_faultPlace o_toldWords o_toldRe o_toldIm o_place o_kind o_start o_number o_im o_re o_way_size o_way_log o_way_wordBits o_way_limit o_way_radix o_way_order o_way_near o_way_seed v2 s0 = some (r, out_o_fault, out_o_faultPlace, out_o_toldWords, out_o_toldRe, out_o_toldIm, out_o_place, out_o_kind, out_o_start, out_o_number, out_o_im, out_o_re, out_o_way_size, out_o_way_log, out_o_way_wordBits, out_o_way_limit, out_o_way_radix, out_o_way_order, out_o_way_near, out_o_way_seed) → va_P G vwCl (wX4_readLine cI cJ cZ h_o h_a1 h_o_im h_o_re h_o_way h_o_way_shifts o_fault o_faultPlace o_toldWords o_toldRe o_toldIm o_length o_place o_kind o_start o_number a1 o_im o_re o_way_size o_way_log o_way_wordBits o_way_limit o_way_radix o_way_order o_way_near o_way_seed o_way_stages) H → va_D A (wX4_readLine cI cJ cZ h_o h_a1 h_o_im h_o_re h_o_way h_o_way_shifts o_fault o_faultPlace o_toldWords o_toldRe o_toldIm o_length o_place o_kind o_start o_number a1 o_im o_re o_way_size o_way_log o_way_wordBits o_way_limit o_way_radix o_way_order o_way_near o_way_seed o_way_stages) → va_S A s.heap H locs → lv_has ls 5 [(0, .ref h_o), (1, .ref h_a1), (2, .int v2)] → W p l e ({ frames := 6, cells := 0, slots := 0, locals := 131 } : Room) s m ([.ref h_o, .ref h_a1] : List Value).toArray below meth c H locs 0 0 Q (F0 m 35 ls [.int s0]) := by
    intro o_fault o_faultPlace o_toldWords o_toldRe o_toldIm o_place o_kind o_start o_number o_im o_re o_way_size o_way_log o_way_wordBits o_way_limit o_way_radix o_way_order o_way_near o_way_seed v2 s0 H locs ls hf hP hD hS hl
    unfold fX4_readLine_35 at hf
    refine lv_istore_n (lv' := [(3, .int s0), (0, .ref h_o), (1, .ref h_a1), (2, .int v2)]) hx hb dX4_readLine_35 rfl hl (by decide) rfl (fun ls hl => ?_)
    refine lv_iload_n hx hb dX4_readLine_36 rfl (lv_at hl 3 rfl) ?_
    refine lv_iconst (v := (-1 : Int32)) hx hb dX4_readLine_37 (by decide) ?_
    refine lv_icmp_eq (tgt := 54) hx hb dX4_readLine_38 (by decide) (fun c_5 => ?_) (fun c_5 => ?_)
    · have hf := it_t c_5 hf
      exact j54 o_fault o_faultPlace o_toldWords o_toldRe o_toldIm o_place o_kind o_start o_number o_im o_re o_way_size o_way_log o_way_wordBits o_way_limit o_way_radix o_way_order o_way_near o_way_seed H locs ls hf hP hD hS (lv_sub hl [1] rfl)
    · have hf := it_f c_5 hf
      refine lv_iload_n hx hb dX4_readLine_41 rfl (lv_at hl 0 rfl) ?_
      refine lv_if_eq (tgt := 60) hx hb dX4_readLine_42 (by decide) (fun c_6 => ?_) (fun c_6 => ?_)
      · have hf := it_t c_6 hf
        exact j60 o_fault o_faultPlace o_toldWords o_toldRe o_toldIm o_place o_kind o_start o_number o_im o_re o_way_size o_way_log o_way_wordBits o_way_limit o_way_radix o_way_order o_way_near o_way_seed v2 H locs ls hf hP hD hS (lv_sub hl [1, 2, 3] rfl)
      · have hf := it_f c_6 hf
        refine lv_iload_n hx hb dX4_readLine_45 rfl (lv_at hl 3 rfl) ?_
        refine lv_if_eq (tgt := 54) hx hb dX4_readLine_46 (by decide) (fun c_7 => ?_) (fun c_7 => ?_)
        · have hf := it_t c_7 hf
          exact j54 o_fault o_faultPlace o_toldWords o_toldRe o_toldIm o_place o_kind o_start o_number o_im o_re o_way_size o_way_log o_way_wordBits o_way_limit o_way_radix o_way_order o_way_near o_way_seed H locs ls hf hP hD hS (lv_sub hl [1] rfl)
        · have hf := it_f c_7 hf
          refine lv_iload_n hx hb dX4_readLine_49 rfl (lv_at hl 3 rfl) ?_
          refine lv_iconst (v := (1 : Int32)) hx hb dX4_readLine_50 (by decide) ?_
          refine lv_icmp_ne (tgt := 60) hx hb dX4_readLine_51 (by decide) (fun c_8 => ?_) (fun c_8 => ?_)
          · have hf := it_f c_8 hf
            exact j60 o_fault o_faultPlace o_toldWords o_toldRe o_toldIm o_place o_kind o_start o_number o_im o_re o_way_size o_way_log o_way_wordBits o_way_limit o_way_radix o_way_order o_way_near o_way_seed v2 H locs ls hf hP hD hS (lv_sub hl [1, 2, 3] rfl)
          · have hf := it_t c_8 hf
            exact j54 o_fault o_faultPlace o_toldWords o_toldRe o_toldIm o_place o_kind o_start o_number o_im o_re o_way_size o_way_log o_way_wordBits o_way_limit o_way_radix o_way_order o_way_near o_way_seed H locs ls hf hP hD hS (lv_sub hl [1] rfl)
  have j17 : ∀ (o_fault : Int32) (o_faultPlace : Int32) (o_toldWords : Int32) (o_toldRe : Int32) (o_toldIm : Int32) (o_place : Int32) (o_kind : Int32) (o_start : Int32) (o_number : Int32) (o_im : Nat → Int32) (o_re : Nat → Int32) (o_way_size : Int32) (o_way_log : Int32) (o_way_wordBits : Int32) (o_way_limit : Int32) (o_way_radix : Int32) (o_way_order : Int32) (o_way_near : Int32) (o_way_seed : Int32) (s0 : Int32) (H : Heap) (locs : List Loc) (ls : Array Slot), fX4_readLine_17 o_length a1 o_fault o_faultPlace o_toldWords o_toldRe o_toldIm o_place o_kind o_start o_number o_im o_re o_way_size o_way_log o_way_wordBits o_way_limit o_way_radix o_way_order o_way_near o_way_seed s0 = some (r, out_o_fault, out_o_faultPlace, out_o_toldWords, out_o_toldRe, out_o_toldIm, out_o_place, out_o_kind, out_o_start, out_o_number, out_o_im, out_o_re, out_o_way_size, out_o_way_log, out_o_way_wordBits, out_o_way_limit, out_o_way_radix, out_o_way_order, out_o_way_near, out_o_way_seed) → va_P G vwCl (wX4_readLine cI cJ cZ h_o h_a1 h_o_im h_o_re h_o_way h_o_way_shifts o_fault o_faultPlace o_toldWords o_toldRe o_toldIm o_length o_place o_kind o_start o_number a1 o_im o_re o_way_size o_way_log o_way_wordBits o_way_limit o_way_radix o_way_order o_way_near o_way_seed o_way_stages) H → va_D A (wX4_readLine cI cJ cZ h_o h_a1 h_o_im h_o_re h_o_way h_o_way_shifts o_fault o_faultPlace o_toldWords o_toldRe o_toldIm o_length o_place o_kind o_start o_number a1 o_im o_re o_way_size o_way_log o_way_wordBits o_way_limit o_way_radix o_way_order o_way_near o_way_seed o_way_stages) → va_S A s.heap H locs → lv_has ls 5 [(0, .ref h_o), (1, .ref h_a1)] → W p l e ({ frames := 6, cells := 0, slots := 0, locals := 131 } : Room) s m ([.ref h_o, .ref h_a1] : List Value).toArray below meth c H locs 0 0 Q (F0 m 17 ls [.int s0]) := by
    intro o_fault o_faultPlace o_toldWords o_toldRe o_toldIm o_place o_kind o_start o_number o_im o_re o_way_size o_way_log o_way_wordBits o_way_limit o_way_radix o_way_order o_way_near o_way_seed s0 H locs ls hf hP hD hS hl
    unfold fX4_readLine_17 at hf
    refine lv_istore_n (lv' := [(2, .int s0), (0, .ref h_o), (1, .ref h_a1)]) hx hb dX4_readLine_17 rfl hl (by decide) rfl (fun ls hl => ?_)
    refine lv_aload_n hx hb dX4_readLine_18 rfl (lv_at hl 1 rfl) ?_
    refine rd (ci := 4) (C := RX4) (T := TX4) (N := 13) hx hb hts inX4 hown hK hP 0 6 rfl rfl (by decide) (hts _ q_fX4_53) rfl dX4_readLine_19 ?_
    refine lv_aload_n hx hb dX4_readLine_22 rfl (lv_at hl 1 rfl) ?_
    refine rd (ci := 4) (C := RX4) (T := TX4) (N := 13) hx hb hts inX4 hown hK hP 0 7 rfl rfl (by decide) (hts _ q_fX4_56) rfl dX4_readLine_23 ?_
    refine lv_ior hx hb dX4_readLine_26 ?_
    refine lv_if_eq (tgt := 34) hx hb dX4_readLine_27 (by decide) (fun c_4 => ?_) (fun c_4 => ?_)
    · have hf := it_t c_4 hf
      refine lv_iconst (v := (0 : Int32)) hx hb dX4_readLine_34 (by decide) ?_
      exact j35 o_fault o_faultPlace o_toldWords o_toldRe o_toldIm o_place o_kind o_start o_number o_im o_re o_way_size o_way_log o_way_wordBits o_way_limit o_way_radix o_way_order o_way_near o_way_seed s0 (0 : Int32) H locs ls hf hP hD hS (lv_sub hl [1, 2, 0] rfl)
    · have hf := it_f c_4 hf
      refine lv_iconst (v := (1 : Int32)) hx hb dX4_readLine_30 (by decide) ?_
      refine lv_goto (tgt := 35) hx hb dX4_readLine_31 (by decide) ?_
      exact j35 o_fault o_faultPlace o_toldWords o_toldRe o_toldIm o_place o_kind o_start o_number o_im o_re o_way_size o_way_log o_way_wordBits o_way_limit o_way_radix o_way_order o_way_near o_way_seed s0 (1 : Int32) H locs ls hf hP hD hS (lv_sub hl [1, 2, 0] rfl)
  unfold fX4_readLine at hf
  obtain ⟨H, eH⟩ : ∃ H, H = s.heap := ⟨_, rfl⟩
  obtain ⟨locs, elocs⟩ : ∃ z : List Loc, z = [] := ⟨_, rfl⟩
  have hP : va_P G vwCl (wX4_readLine cI cJ cZ h_o h_a1 h_o_im h_o_re h_o_way h_o_way_shifts o_fault o_faultPlace o_toldWords o_toldRe o_toldIm o_length o_place o_kind o_start o_number a1 o_im o_re o_way_size o_way_log o_way_wordBits o_way_limit o_way_radix o_way_order o_way_near o_way_seed o_way_stages) H := by rw [eH]; exact hP
  have hS : va_S A s.heap H locs := by rw [eH, elocs]; exact hS
  suffices hgo : W p l e ({ frames := 6, cells := 0, slots := 0, locals := 131 } : Room) s m ([.ref h_o, .ref h_a1] : List Value).toArray below meth c H locs 0 0 Q (F0 m 0 ls []) by rw [eH, elocs] at hgo; exact hgo
  clear eH elocs
  refine lv_aload_n hx hb dX4_readLine_0 rfl (lv_at hl 0 rfl) ?_
  refine rd (ci := 4) (C := RX4) (T := TX4) (N := 13) hx hb hts inX4 hown hK hP 0 10 rfl rfl (by decide) (hts _ q_fX4_40) rfl dX4_readLine_1 ?_
  refine lv_iconst (v := (1 : Int32)) hx hb dX4_readLine_4 (by decide) ?_
  refine lv_icmp_ne (tgt := 16) hx hb dX4_readLine_5 (by decide) (fun c_1 => ?_) (fun c_1 => ?_)
  · have hf := it_f c_1 hf
    refine lv_iconst (v := (-1 : Int32)) hx hb dX4_readLine_16 (by decide) ?_
    exact j17 o_fault o_faultPlace o_toldWords o_toldRe o_toldIm o_place o_kind o_start o_number o_im o_re o_way_size o_way_log o_way_wordBits o_way_limit o_way_radix o_way_order o_way_near o_way_seed (-1 : Int32) H locs ls hf hP hD hS (lv_sub hl [0, 1] rfl)
  · have hf := it_t c_1 hf
    refine lv_aload_n hx hb dX4_readLine_8 rfl (lv_at hl 0 rfl) ?_
    refine lv_aload_n hx hb dX4_readLine_9 rfl (lv_at hl 1 rfl) ?_
    obtain ⟨r_2, e_3, hf⟩ := bd1_x hf
    refine call_vX SX_c hX [.ref h_a1] [] ⟨hx, hb, hml, hown, hts⟩ hK hP hD hS hA hl.1 (tX4_wordHere l G cI cJ cZ H.size h_o h_a1 h_o_way h_o_re h_o_im o_fault o_faultPlace o_toldWords o_toldRe o_toldIm o_length o_place o_kind o_start o_number a1 r_2 e_3) (cwV 1 hts (gv q_mX4_68 q_i_yX4_wordHere q_s_yX4_wordHere q_n_RX4 q_k_yX4_wordHere) rfl rfl rfl (by decide +kernel) ⟨by decide, by decide⟩) rfl rfl (Nat.le_of_ble_eq_true rfl) dX4_readLine_10 ⟨Nat.zero_le _, Nat.zero_le _⟩ (va_recv hK hP (ci := 4) (q0 := 0) rfl rfl) [0, 1] [2, 3, 4] [3, 4, 0, 1, 2] rfl rfl (ws2 := (wX4_readLine cI cJ cZ h_o h_a1 h_o_im h_o_re h_o_way h_o_way_shifts o_fault o_faultPlace o_toldWords o_toldRe o_toldIm o_length o_place o_kind o_start o_number a1 o_im o_re o_way_size o_way_log o_way_wordBits o_way_limit o_way_radix o_way_order o_way_near o_way_seed o_way_stages)) rfl (fun H locs hP hD hS => ?_)
    refine W.eq (g2 := F0 m 13 ls [.int r_2]) rfl ?_
    refine lv_goto (tgt := 17) hx hb dX4_readLine_13 (by decide) ?_
    exact j17 o_fault o_faultPlace o_toldWords o_toldRe o_toldIm o_place o_kind o_start o_number o_im o_re o_way_size o_way_log o_way_wordBits o_way_limit o_way_radix o_way_order o_way_near o_way_seed r_2 H locs ls hf hP hD hS (lv_sub hl [0, 1] rfl)
def wX4_readAll (cI cJ cZ : ClassId) (h_o h_a1 h_o_im h_o_re h_o_way h_o_way_shifts : Nat) (o_fault : Int32) (o_faultPlace : Int32) (o_toldWords : Int32) (o_toldRe : Int32) (o_toldIm : Int32) (o_length : Int32) (o_place : Int32) (o_kind : Int32) (o_start : Int32) (o_number : Int32) (a1 : Nat → Int32) (o_im : Nat → Int32) (o_re : Nat → Int32) (o_way_size : Int32) (o_way_log : Int32) (o_way_wordBits : Int32) (o_way_limit : Int32) (o_way_radix : Int32) (o_way_order : Int32) (o_way_near : Int32) (o_way_seed : Int32) (o_way_stages : Int32) (o_way_shifts : Nat → Int32) : va_W := [(h_o, .inr (4, [.ref h_o_way, .ref h_o_re, .ref h_o_im, .int o_fault, .int o_faultPlace, .int o_toldWords, .int o_toldRe, .int o_toldIm, .int o_length, .int o_place, .int o_kind, .int o_start, .int o_number])), (h_a1, .inl (cI, 700, .inl a1)), (h_o_im, .inl (cI, 32, .inl o_im)), (h_o_re, .inl (cI, 32, .inl o_re)), (h_o_way, .inr (8, [.int o_way_size, .int o_way_log, .int o_way_wordBits, .int o_way_limit, .int o_way_radix, .int o_way_order, .int o_way_near, .int o_way_seed, .int o_way_stages, .ref h_o_way_shifts])), (h_o_way_shifts, .inl (cI, 5, .inl o_way_shifts))]
def fX4_readAll_12 (a1 : Nat → Int32) : Nat → Int32 → Int32 → Int32 → Int32 → Int32 → Int32 → Int32 → Int32 → Int32 → Int32 → (Nat → Int32) → (Nat → Int32) → Int32 → Int32 → Int32 → Int32 → Int32 → Int32 → Int32 → Int32 → Int32 → (Nat → Int32) → Int32 → Option (Int32 × Int32 × Int32 × Int32 × Int32 × Int32 × Int32 × Int32 × Int32 × Int32 × Int32 × (Nat → Int32) × (Nat → Int32) × Int32 × Int32 × Int32 × Int32 × Int32 × Int32 × Int32 × Int32 × Int32 × (Nat → Int32))
  | 0, _, _, _, _, _, _, _, _, _, _, _, _, _, _, _, _, _, _, _, _, _, _, _ => none
  | n + 1, o_fault, o_faultPlace, o_toldWords, o_toldRe, o_toldIm, o_length, o_place, o_kind, o_start, o_number, o_im, o_re, o_way_size, o_way_log, o_way_wordBits, o_way_limit, o_way_radix, o_way_order, o_way_near, o_way_seed, o_way_stages, o_way_shifts, v3 =>
    if (700 : Int32) ≤ v3 then (
      some (v3, o_fault, o_faultPlace, o_toldWords, o_toldRe, o_toldIm, o_length, o_place, o_kind, o_start, o_number, o_im, o_re, o_way_size, o_way_log, o_way_wordBits, o_way_limit, o_way_radix, o_way_order, o_way_near, o_way_seed, o_way_stages, o_way_shifts)
    ) else (
      if o_kind = 0 then (
        some (v3, o_fault, o_faultPlace, o_toldWords, o_toldRe, o_toldIm, o_length, o_place, o_kind, o_start, o_number, o_im, o_re, o_way_size, o_way_log, o_way_wordBits, o_way_limit, o_way_radix, o_way_order, o_way_near, o_way_seed, o_way_stages, o_way_shifts)
      ) else (
        bd20 (fX4_readLine o_fault o_faultPlace o_toldWords o_toldRe o_toldIm o_length o_place o_kind o_start o_number a1 o_im o_re o_way_size o_way_log o_way_wordBits o_way_limit o_way_radix o_way_order o_way_near o_way_seed) (fun r_28 o_fault_29 o_faultPlace_30 o_toldWords_31 o_toldRe_32 o_toldIm_33 o_place_34 o_kind_35 o_start_36 o_number_37 o_im_38 o_re_39 o_way_size_40 o_way_log_41 o_way_wordBits_42 o_way_limit_43 o_way_radix_44 o_way_order_45 o_way_near_46 o_way_seed_47 =>
        if r_28 = 0 then (
          some ((-1 : Int32), o_fault_29, o_faultPlace_30, o_toldWords_31, o_toldRe_32, o_toldIm_33, o_length, o_place_34, o_kind_35, o_start_36, o_number_37, o_im_38, o_re_39, o_way_size_40, o_way_log_41, o_way_wordBits_42, o_way_limit_43, o_way_radix_44, o_way_order_45, o_way_near_46, o_way_seed_47, o_way_stages, o_way_shifts)
        ) else (
          nm (v3 + (1 : Int32)) (fun v3_50 =>
          bd4 (fX4_nextToken o_length o_place_34 o_kind_35 o_start_36 o_number_37 a1) (fun o_place_51 o_kind_52 o_start_53 o_number_54 =>
          fX4_readAll_12 a1 n o_fault_29 o_faultPlace_30 o_toldWords_31 o_toldRe_32 o_toldIm_33 o_length o_place_51 o_kind_52 o_start_53 o_number_54 o_im_38 o_re_39 o_way_size_40 o_way_log_41 o_way_wordBits_42 o_way_limit_43 o_way_radix_44 o_way_order_45 o_way_near_46 o_way_seed_47 o_way_stages o_way_shifts v3_50))
        ))
      )
    )
def fX4_readAll (o_fault : Int32) (o_faultPlace : Int32) (o_toldWords : Int32) (o_toldRe : Int32) (o_toldIm : Int32) (o_length : Int32) (o_place : Int32) (o_kind : Int32) (o_start : Int32) (o_number : Int32) (a1 : Nat → Int32) (o_im : Nat → Int32) (o_re : Nat → Int32) (o_way_size : Int32) (o_way_log : Int32) (o_way_wordBits : Int32) (o_way_limit : Int32) (o_way_radix : Int32) (o_way_order : Int32) (o_way_near : Int32) (o_way_seed : Int32) (o_way_stages : Int32) (o_way_shifts : Nat → Int32) (p2 : Int32) : Option (Int32 × Int32 × Int32 × Int32 × Int32 × Int32 × Int32 × Int32 × Int32 × Int32 × Int32 × (Nat → Int32) × (Nat → Int32) × Int32 × Int32 × Int32 × Int32 × Int32 × Int32 × Int32 × Int32 × Int32 × (Nat → Int32)) :=
  bd19 (fX4_begin o_fault o_faultPlace o_toldWords o_toldRe o_toldIm o_length o_place o_im o_re o_way_size o_way_log o_way_wordBits o_way_limit o_way_radix o_way_order o_way_near o_way_seed o_way_stages o_way_shifts p2) (fun o_fault_1 o_faultPlace_2 o_toldWords_3 o_toldRe_4 o_toldIm_5 o_length_6 o_place_7 o_im_8 o_re_9 o_way_size_10 o_way_log_11 o_way_wordBits_12 o_way_limit_13 o_way_radix_14 o_way_order_15 o_way_near_16 o_way_seed_17 o_way_stages_18 o_way_shifts_19 =>
  bd4 (fX4_nextToken o_length_6 o_place_7 o_kind o_start o_number a1) (fun o_place_21 o_kind_22 o_start_23 o_number_24 =>
  fX4_readAll_12 a1 FU o_fault_1 o_faultPlace_2 o_toldWords_3 o_toldRe_4 o_toldIm_5 o_length_6 o_place_21 o_kind_22 o_start_23 o_number_24 o_im_8 o_re_9 o_way_size_10 o_way_log_11 o_way_wordBits_12 o_way_limit_13 o_way_radix_14 o_way_order_15 o_way_near_16 o_way_seed_17 o_way_stages_18 o_way_shifts_19 (0 : Int32)))
set_option maxHeartbeats 4000000 in
set_option maxRecDepth 100000 in
theorem tX4_readAll (l : Launch) (G : va_G) (cI cJ cZ : ClassId) (sz : Nat) (h_o h_a1 h_o_im h_o_re h_o_way h_o_way_shifts : Nat) (o_fault : Int32) (o_faultPlace : Int32) (o_toldWords : Int32) (o_toldRe : Int32) (o_toldIm : Int32) (o_length : Int32) (o_place : Int32) (o_kind : Int32) (o_start : Int32) (o_number : Int32) (a1 : Nat → Int32) (o_im : Nat → Int32) (o_re : Nat → Int32) (o_way_size : Int32) (o_way_log : Int32) (o_way_wordBits : Int32) (o_way_limit : Int32) (o_way_radix : Int32) (o_way_order : Int32) (o_way_near : Int32) (o_way_seed : Int32) (o_way_stages : Int32) (o_way_shifts : Nat → Int32) (p2 : Int32) (r : Int32) (out_o_fault : Int32) (out_o_faultPlace : Int32) (out_o_toldWords : Int32) (out_o_toldRe : Int32) (out_o_toldIm : Int32) (out_o_length : Int32) (out_o_place : Int32) (out_o_kind : Int32) (out_o_start : Int32) (out_o_number : Int32) (out_o_im : Nat → Int32) (out_o_re : Nat → Int32) (out_o_way_size : Int32) (out_o_way_log : Int32) (out_o_way_wordBits : Int32) (out_o_way_limit : Int32) (out_o_way_radix : Int32) (out_o_way_order : Int32) (out_o_way_near : Int32) (out_o_way_seed : Int32) (out_o_way_stages : Int32) (out_o_way_shifts : Nat → Int32) (hf : fX4_readAll o_fault o_faultPlace o_toldWords o_toldRe o_toldIm o_length o_place o_kind o_start o_number a1 o_im o_re o_way_size o_way_log o_way_wordBits o_way_limit o_way_radix o_way_order o_way_near o_way_seed o_way_stages o_way_shifts p2 = some (r, out_o_fault, out_o_faultPlace, out_o_toldWords, out_o_toldRe, out_o_toldIm, out_o_length, out_o_place, out_o_kind, out_o_start, out_o_number, out_o_im, out_o_re, out_o_way_size, out_o_way_log, out_o_way_wordBits, out_o_way_limit, out_o_way_radix, out_o_way_order, out_o_way_near, out_o_way_seed, out_o_way_stages, out_o_way_shifts)) : Met l yX4_readAll (Cond.code yX4_readAll cX4_readAll 4 (some .int) :: BIG) ({ frames := 7, cells := 0, slots := 0, locals := 155 } : Room) (cPX SX G (TY3 cI cJ cZ) [.ref h_o, .ref h_a1, .int p2] sz (wX4_readAll cI cJ cZ h_o h_a1 h_o_im h_o_re h_o_way h_o_way_shifts o_fault o_faultPlace o_toldWords o_toldRe o_toldIm o_length o_place o_kind o_start o_number a1 o_im o_re o_way_size o_way_log o_way_wordBits o_way_limit o_way_radix o_way_order o_way_near o_way_seed o_way_stages o_way_shifts)) (cQ G (TY3 cI cJ cZ) sz (wX4_readAll cI cJ cZ h_o h_a1 h_o_im h_o_re h_o_way h_o_way_shifts o_fault o_faultPlace o_toldWords o_toldRe o_toldIm o_length o_place o_kind o_start o_number a1 o_im o_re o_way_size o_way_log o_way_wordBits o_way_limit o_way_radix o_way_order o_way_near o_way_seed o_way_stages o_way_shifts) (wX4_readAll cI cJ cZ h_o h_a1 h_o_im h_o_re h_o_way h_o_way_shifts out_o_fault out_o_faultPlace out_o_toldWords out_o_toldRe out_o_toldIm out_o_length out_o_place out_o_kind out_o_start out_o_number a1 out_o_im out_o_re out_o_way_size out_o_way_log out_o_way_wordBits out_o_way_limit out_o_way_radix out_o_way_order out_o_way_near out_o_way_seed out_o_way_stages out_o_way_shifts) (some (.int r))) 0 0 (va_A (wX4_readAll cI cJ cZ h_o h_a1 h_o_im h_o_re h_o_way h_o_way_shifts o_fault o_faultPlace o_toldWords o_toldRe o_toldIm o_length o_place o_kind o_start o_number a1 o_im o_re o_way_size o_way_log o_way_wordBits o_way_limit o_way_radix o_way_order o_way_near o_way_seed o_way_stages o_way_shifts) sz) := by
  refine met_iX (cc := cX4_readAll) (maxL := 4) (plainFor_of_name (by decide)) (Nat.le_of_ble_eq_true rfl) (fun p e s m below meth c A ls Q hx hb hml hts hown hK hP hD hS hA hX hl hret => ?_)
  obtain ⟨⟨tQ, hQ⟩, ⟨tR, hR⟩, sa, sv, hW⟩ := id hX
  have hownS : s.vm.findClass "BlockWave$Reader" = some m.cls := hown
  have hown : s.vm.findClass RX4 = some m.cls := hown
  have hl : lv_has ls 4 [(0, .ref h_o), (1, .ref h_a1), (2, .int p2)] := hl
  have j12 : ∀ (n : Nat) (o_fault : Int32) (o_faultPlace : Int32) (o_toldWords : Int32) (o_toldRe : Int32) (o_toldIm : Int32) (o_length : Int32) (o_place : Int32) (o_kind : Int32) (o_start : Int32) (o_number : Int32) (o_im : Nat → Int32) (o_re : Nat → Int32) (o_way_size : Int32) (o_way_log : Int32) (o_way_wordBits : Int32) (o_way_limit : Int32) (o_way_radix : Int32) (o_way_order : Int32) (o_way_near : Int32) (o_way_seed : Int32) (o_way_stages : Int32) (o_way_shifts : Nat → Int32) (v3 : Int32) (H : Heap) (locs : List Loc) (ls : Array Slot), fX4_readAll_12 a1 n o_fault o_faultPlace o_toldWords o_toldRe o_toldIm o_length o_place o_kind o_start o_number o_im o_re o_way_size o_way_log o_way_wordBits o_way_limit o_way_radix o_way_order o_way_near o_way_seed o_way_stages o_way_shifts v3 = some (r, out_o_fault, out_o_faultPlace, out_o_toldWords, out_o_toldRe, out_o_toldIm, out_o_length, out_o_place, out_o_kind, out_o_start, out_o_number, out_o_im, out_o_re, out_o_way_size, out_o_way_log, out_o_way_wordBits, out_o_way_limit, out_o_way_radix, out_o_way_order, out_o_way_near, out_o_way_seed, out_o_way_stages, out_o_way_shifts) → va_P G vwCl (wX4_readAll cI cJ cZ h_o h_a1 h_o_im h_o_re h_o_way h_o_way_shifts o_fault o_faultPlace o_toldWords o_toldRe o_toldIm o_length o_place o_kind o_start o_number a1 o_im o_re o_way_size o_way_log o_way_wordBits o_way_limit o_way_radix o_way_order o_way_near o_way_seed o_way_stages o_way_shifts) H → va_D A (wX4_readAll cI cJ cZ h_o h_a1 h_o_im h_o_re h_o_way h_o_way_shifts o_fault o_faultPlace o_toldWords o_toldRe o_toldIm o_length o_place o_kind o_start o_number a1 o_im o_re o_way_size o_way_log o_way_wordBits o_way_limit o_way_radix o_way_order o_way_near o_way_seed o_way_stages o_way_shifts) → va_S A s.heap H locs → lv_has ls 4 [(0, .ref h_o), (1, .ref h_a1), (3, .int v3)] → W p l e ({ frames := 7, cells := 0, slots := 0, locals := 155 } : Room) s m ([.ref h_o, .ref h_a1, .int p2] : List Value).toArray below meth c H locs 0 0 Q (F0 m 12 ls []) := by
    intro n
    induction n with
    | zero =>
      intro o_fault o_faultPlace o_toldWords o_toldRe o_toldIm o_length o_place o_kind o_start o_number o_im o_re o_way_size o_way_log o_way_wordBits o_way_limit o_way_radix o_way_order o_way_near o_way_seed o_way_stages o_way_shifts v3 H locs ls hf
      have hf : (none : Option (Int32 × Int32 × Int32 × Int32 × Int32 × Int32 × Int32 × Int32 × Int32 × Int32 × Int32 × (Nat → Int32) × (Nat → Int32) × Int32 × Int32 × Int32 × Int32 × Int32 × Int32 × Int32 × Int32 × Int32 × (Nat → Int32))) = some (r, out_o_fault, out_o_faultPlace, out_o_toldWords, out_o_toldRe, out_o_toldIm, out_o_length, out_o_place, out_o_kind, out_o_start, out_o_number, out_o_im, out_o_re, out_o_way_size, out_o_way_log, out_o_way_wordBits, out_o_way_limit, out_o_way_radix, out_o_way_order, out_o_way_near, out_o_way_seed, out_o_way_stages, out_o_way_shifts) := hf
      cases hf
    | succ n ih =>
      intro o_fault o_faultPlace o_toldWords o_toldRe o_toldIm o_length o_place o_kind o_start o_number o_im o_re o_way_size o_way_log o_way_wordBits o_way_limit o_way_radix o_way_order o_way_near o_way_seed o_way_stages o_way_shifts v3 H locs ls hf hP hD hS hl
      rw [fX4_readAll_12.eq_2] at hf
      refine lv_iload_n hx hb dX4_readAll_12 rfl (lv_at hl 2 rfl) ?_
      refine lv_sipush (v := (700 : Int32)) hx hb dX4_readAll_13 (by decide) ?_
      refine lv_icmp_ge (tgt := 47) hx hb dX4_readAll_16 (by decide) (fun c_26 => ?_) (fun c_26 => ?_)
      · have hf := it_t c_26 hf
        refine lv_iload_n hx hb dX4_readAll_47 rfl (lv_at hl 2 rfl) ?_
        cases hf
        exact hret _ _ _ _ dX4_readAll_48 hP hD hS
      · have hf := it_f c_26 hf
        refine lv_aload_n hx hb dX4_readAll_19 rfl (lv_at hl 0 rfl) ?_
        refine rd (ci := 4) (C := RX4) (T := TX4) (N := 13) hx hb hts inX4 hown hK hP 0 10 rfl rfl (by decide) (hts _ q_fX4_40) rfl dX4_readAll_20 ?_
        refine lv_if_eq (tgt := 47) hx hb dX4_readAll_23 (by decide) (fun c_27 => ?_) (fun c_27 => ?_)
        · have hf := it_t c_27 hf
          refine lv_iload_n hx hb dX4_readAll_47 rfl (lv_at hl 2 rfl) ?_
          cases hf
          exact hret _ _ _ _ dX4_readAll_48 hP hD hS
        · have hf := it_f c_27 hf
          refine lv_aload_n hx hb dX4_readAll_26 rfl (lv_at hl 0 rfl) ?_
          refine lv_aload_n hx hb dX4_readAll_27 rfl (lv_at hl 1 rfl) ?_
          obtain ⟨r_28, o_fault_29, o_faultPlace_30, o_toldWords_31, o_toldRe_32, o_toldIm_33, o_place_34, o_kind_35, o_start_36, o_number_37, o_im_38, o_re_39, o_way_size_40, o_way_log_41, o_way_wordBits_42, o_way_limit_43, o_way_radix_44, o_way_order_45, o_way_near_46, o_way_seed_47, e_48, hf⟩ := bd20_x hf
          refine call_vX SX_c hX [.ref h_a1] [] ⟨hx, hb, hml, hown, hts⟩ hK hP hD hS hA hl.1 (tX4_readLine l G cI cJ cZ H.size h_o h_a1 h_o_im h_o_re h_o_way h_o_way_shifts o_fault o_faultPlace o_toldWords o_toldRe o_toldIm o_length o_place o_kind o_start o_number a1 o_im o_re o_way_size o_way_log o_way_wordBits o_way_limit o_way_radix o_way_order o_way_near o_way_seed o_way_stages r_28 o_fault_29 o_faultPlace_30 o_toldWords_31 o_toldRe_32 o_toldIm_33 o_place_34 o_kind_35 o_start_36 o_number_37 o_im_38 o_re_39 o_way_size_40 o_way_log_41 o_way_wordBits_42 o_way_limit_43 o_way_radix_44 o_way_order_45 o_way_near_46 o_way_seed_47 e_48) (cwV 1 hts (gv q_mX4_43 q_i_yX4_readLine q_s_yX4_readLine q_n_RX4 q_k_yX4_readLine) rfl rfl rfl (by decide +kernel) ⟨by decide, by decide⟩) rfl rfl (Nat.le_of_ble_eq_true rfl) dX4_readAll_28 ⟨Nat.zero_le _, Nat.zero_le _⟩ (va_recv hK hP (ci := 4) (q0 := 0) rfl rfl) [0, 1, 2, 3, 4] [5] [1, 2, 3, 4, 5, 0] rfl rfl (ws2 := (wX4_readAll cI cJ cZ h_o h_a1 h_o_im h_o_re h_o_way h_o_way_shifts o_fault_29 o_faultPlace_30 o_toldWords_31 o_toldRe_32 o_toldIm_33 o_length o_place_34 o_kind_35 o_start_36 o_number_37 a1 o_im_38 o_re_39 o_way_size_40 o_way_log_41 o_way_wordBits_42 o_way_limit_43 o_way_radix_44 o_way_order_45 o_way_near_46 o_way_seed_47 o_way_stages o_way_shifts)) rfl (fun H locs hP hD hS => ?_)
          refine W.eq (g2 := F0 m 31 ls [.int r_28]) rfl ?_
          refine lv_if_ne (tgt := 36) hx hb dX4_readAll_31 (by decide) (fun c_49 => ?_) (fun c_49 => ?_)
          · have hf := it_f c_49 hf
            obtain ⟨v3_50, ev3_50⟩ : ∃ y : Int32, y = v3 + (1 : Int32) := ⟨_, rfl⟩
            have hf := nm_x ev3_50 hf
            refine lv_iinc (v := v3_50) (lv' := [(3, .int v3_50), (0, .ref h_o), (1, .ref h_a1)]) hx hb dX4_readAll_36 hl (k := 2) rfl (by rw [ev3_50]; rfl) (by decide) rfl (fun ls hl => ?_)
            refine lv_aload_n hx hb dX4_readAll_39 rfl (lv_at hl 1 rfl) ?_
            refine lv_aload_n hx hb dX4_readAll_40 rfl (lv_at hl 2 rfl) ?_
            obtain ⟨o_place_51, o_kind_52, o_start_53, o_number_54, e_55, hf⟩ := bd4_x hf
            refine call_v [.ref h_a1] [] ⟨hx, hb, hml, hown, hts⟩ hK hP hD hS hA hl.1 (tX4_nextToken l G cI cJ cZ H.size h_o h_a1 h_o_way h_o_re h_o_im o_fault_29 o_faultPlace_30 o_toldWords_31 o_toldRe_32 o_toldIm_33 o_length o_place_34 o_kind_35 o_start_36 o_number_37 a1 o_place_51 o_kind_52 o_start_53 o_number_54 e_55) (cwV 1 hts (gv q_mX4_36 q_i_yX4_nextToken q_s_yX4_nextToken q_n_RX4 q_k_yX4_nextToken) rfl rfl rfl (by decide +kernel) ⟨by decide, by decide⟩) rfl rfl (Nat.le_of_ble_eq_true rfl) dX4_readAll_41 ⟨Nat.zero_le _, Nat.zero_le _⟩ (ci := 4) rfl 0 rfl [0, 1] [2, 3, 4, 5] [4, 5, 0, 1, 2, 3] rfl rfl (ws2 := (wX4_readAll cI cJ cZ h_o h_a1 h_o_im h_o_re h_o_way h_o_way_shifts o_fault_29 o_faultPlace_30 o_toldWords_31 o_toldRe_32 o_toldIm_33 o_length o_place_51 o_kind_52 o_start_53 o_number_54 a1 o_im_38 o_re_39 o_way_size_40 o_way_log_41 o_way_wordBits_42 o_way_limit_43 o_way_radix_44 o_way_order_45 o_way_near_46 o_way_seed_47 o_way_stages o_way_shifts)) rfl (fun H locs hP hD hS => ?_)
            refine W.eq (g2 := F0 m 44 ls []) rfl ?_
            refine lv_goto (tgt := 12) hx hb dX4_readAll_44 (by decide) ?_
            exact ih o_fault_29 o_faultPlace_30 o_toldWords_31 o_toldRe_32 o_toldIm_33 o_length o_place_51 o_kind_52 o_start_53 o_number_54 o_im_38 o_re_39 o_way_size_40 o_way_log_41 o_way_wordBits_42 o_way_limit_43 o_way_radix_44 o_way_order_45 o_way_near_46 o_way_seed_47 o_way_stages o_way_shifts v3_50 H locs ls hf hP hD hS (lv_sub hl [1, 2, 0] rfl)
          · have hf := it_t c_49 hf
            refine lv_iconst (v := (-1 : Int32)) hx hb dX4_readAll_34 (by decide) ?_
            cases hf
            exact hret _ _ _ _ dX4_readAll_35 hP hD hS
  unfold fX4_readAll at hf
  obtain ⟨H, eH⟩ : ∃ H, H = s.heap := ⟨_, rfl⟩
  obtain ⟨locs, elocs⟩ : ∃ z : List Loc, z = [] := ⟨_, rfl⟩
  have hP : va_P G vwCl (wX4_readAll cI cJ cZ h_o h_a1 h_o_im h_o_re h_o_way h_o_way_shifts o_fault o_faultPlace o_toldWords o_toldRe o_toldIm o_length o_place o_kind o_start o_number a1 o_im o_re o_way_size o_way_log o_way_wordBits o_way_limit o_way_radix o_way_order o_way_near o_way_seed o_way_stages o_way_shifts) H := by rw [eH]; exact hP
  have hS : va_S A s.heap H locs := by rw [eH, elocs]; exact hS
  suffices hgo : W p l e ({ frames := 7, cells := 0, slots := 0, locals := 155 } : Room) s m ([.ref h_o, .ref h_a1, .int p2] : List Value).toArray below meth c H locs 0 0 Q (F0 m 0 ls []) by rw [eH, elocs] at hgo; exact hgo
  clear eH elocs
  refine lv_aload_n hx hb dX4_readAll_0 rfl (lv_at hl 0 rfl) ?_
  refine lv_iload_n hx hb dX4_readAll_1 rfl (lv_at hl 2 rfl) ?_
  obtain ⟨o_fault_1, o_faultPlace_2, o_toldWords_3, o_toldRe_4, o_toldIm_5, o_length_6, o_place_7, o_im_8, o_re_9, o_way_size_10, o_way_log_11, o_way_wordBits_12, o_way_limit_13, o_way_radix_14, o_way_order_15, o_way_near_16, o_way_seed_17, o_way_stages_18, o_way_shifts_19, e_20, hf⟩ := bd19_x hf
  refine call_v [.int p2] [] ⟨hx, hb, hml, hown, hts⟩ hK hP hD hS hA hl.1 (tX4_begin l G cI cJ cZ H.size h_o h_o_im h_o_re h_o_way h_o_way_shifts o_fault o_faultPlace o_toldWords o_toldRe o_toldIm o_length o_place o_kind o_start o_number o_im o_re o_way_size o_way_log o_way_wordBits o_way_limit o_way_radix o_way_order o_way_near o_way_seed o_way_stages o_way_shifts p2 o_fault_1 o_faultPlace_2 o_toldWords_3 o_toldRe_4 o_toldIm_5 o_length_6 o_place_7 o_im_8 o_re_9 o_way_size_10 o_way_log_11 o_way_wordBits_12 o_way_limit_13 o_way_radix_14 o_way_order_15 o_way_near_16 o_way_seed_17 o_way_stages_18 o_way_shifts_19 e_20) (cwV 1 hts (gv q_mX4_32 q_i_yX4_begin q_s_yX4_begin q_n_RX4 q_k_yX4_begin) rfl rfl rfl (by decide +kernel) ⟨by decide, by decide⟩) rfl rfl (Nat.le_of_ble_eq_true rfl) dX4_readAll_2 ⟨Nat.zero_le _, Nat.zero_le _⟩ (ci := 4) rfl 0 rfl [0, 2, 3, 4, 5] [1] [1, 0, 2, 3, 4, 5] rfl rfl (ws2 := (wX4_readAll cI cJ cZ h_o h_a1 h_o_im h_o_re h_o_way h_o_way_shifts o_fault_1 o_faultPlace_2 o_toldWords_3 o_toldRe_4 o_toldIm_5 o_length_6 o_place_7 o_kind o_start o_number a1 o_im_8 o_re_9 o_way_size_10 o_way_log_11 o_way_wordBits_12 o_way_limit_13 o_way_radix_14 o_way_order_15 o_way_near_16 o_way_seed_17 o_way_stages_18 o_way_shifts_19)) rfl (fun H locs hP hD hS => ?_)
  refine W.eq (g2 := F0 m 5 ls []) rfl ?_
  refine lv_iconst (v := (0 : Int32)) hx hb dX4_readAll_5 (by decide) ?_
  refine lv_istore_n (lv' := [(3, .int (0 : Int32)), (0, .ref h_o), (1, .ref h_a1), (2, .int p2)]) hx hb dX4_readAll_6 rfl hl (by decide) rfl (fun ls hl => ?_)
  refine lv_aload_n hx hb dX4_readAll_7 rfl (lv_at hl 1 rfl) ?_
  refine lv_aload_n hx hb dX4_readAll_8 rfl (lv_at hl 2 rfl) ?_
  obtain ⟨o_place_21, o_kind_22, o_start_23, o_number_24, e_25, hf⟩ := bd4_x hf
  refine call_v [.ref h_a1] [] ⟨hx, hb, hml, hown, hts⟩ hK hP hD hS hA hl.1 (tX4_nextToken l G cI cJ cZ H.size h_o h_a1 h_o_way h_o_re h_o_im o_fault_1 o_faultPlace_2 o_toldWords_3 o_toldRe_4 o_toldIm_5 o_length_6 o_place_7 o_kind o_start o_number a1 o_place_21 o_kind_22 o_start_23 o_number_24 e_25) (cwV 1 hts (gv q_mX4_36 q_i_yX4_nextToken q_s_yX4_nextToken q_n_RX4 q_k_yX4_nextToken) rfl rfl rfl (by decide +kernel) ⟨by decide, by decide⟩) rfl rfl (Nat.le_of_ble_eq_true rfl) dX4_readAll_9 ⟨Nat.zero_le _, Nat.zero_le _⟩ (ci := 4) rfl 0 rfl [0, 1] [2, 3, 4, 5] [4, 5, 0, 1, 2, 3] rfl rfl (ws2 := (wX4_readAll cI cJ cZ h_o h_a1 h_o_im h_o_re h_o_way h_o_way_shifts o_fault_1 o_faultPlace_2 o_toldWords_3 o_toldRe_4 o_toldIm_5 o_length_6 o_place_21 o_kind_22 o_start_23 o_number_24 a1 o_im_8 o_re_9 o_way_size_10 o_way_log_11 o_way_wordBits_12 o_way_limit_13 o_way_radix_14 o_way_order_15 o_way_near_16 o_way_seed_17 o_way_stages_18 o_way_shifts_19)) rfl (fun H locs hP hD hS => ?_)
  refine W.eq (g2 := F0 m 12 ls []) rfl ?_
  exact j12 FU o_fault_1 o_faultPlace_2 o_toldWords_3 o_toldRe_4 o_toldIm_5 o_length_6 o_place_21 o_kind_22 o_start_23 o_number_24 o_im_8 o_re_9 o_way_size_10 o_way_log_11 o_way_wordBits_12 o_way_limit_13 o_way_radix_14 o_way_order_15 o_way_near_16 o_way_seed_17 o_way_stages_18 o_way_shifts_19 (0 : Int32) H locs ls hf hP hD hS (lv_sub hl [1, 2, 0] rfl)
def wX9_takeOver (cI cJ cZ : ClassId) (h_o h_o_notes h_o_past h_o_reader h_o_ring h_o_turns h_o_wave h_o_way h_o_reader_im h_o_reader_re h_o_reader_way h_o_ring_powers h_o_turns_cos h_o_turns_sin h_o_wave_im h_o_wave_re h_o_wave_wasIm h_o_wave_wasRe h_o_way_shifts h_o_beater h_o_dice h_o_trialWay h_o_trial h_o_otherTrial h_o_sumsRe h_o_sumsIm h_o_tally h_o_image h_o_tape h_o_notes_kinds h_o_notes_targets h_o_notes_bins h_o_past_cells h_o_wave_halved h_o_reader_way_shifts : Nat) (o_imageKept : Int32) (o_taped : Int32) (o_notes_total : Int32) (o_notes_knownBy : Int32) (o_past_next : Int32) (o_past_held : Int32) (o_reader_fault : Int32) (o_reader_faultPlace : Int32) (o_reader_toldWords : Int32) (o_reader_toldRe : Int32) (o_reader_toldIm : Int32) (o_reader_length : Int32) (o_reader_place : Int32) (o_reader_kind : Int32) (o_reader_start : Int32) (o_reader_number : Int32) (o_ring_size : Int32) (o_ring_log : Int32) (o_wave_exp : Int32) (o_wave_done : Int32) (o_wave_backward : Int32) (o_way_size : Int32) (o_way_log : Int32) (o_way_wordBits : Int32) (o_way_limit : Int32) (o_way_radix : Int32) (o_way_order : Int32) (o_way_near : Int32) (o_way_seed : Int32) (o_way_stages : Int32) (o_reader_im : Nat → Int32) (o_reader_re : Nat → Int32) (o_reader_way_size : Int32) (o_reader_way_log : Int32) (o_reader_way_wordBits : Int32) (o_reader_way_limit : Int32) (o_reader_way_radix : Int32) (o_reader_way_order : Int32) (o_reader_way_near : Int32) (o_reader_way_seed : Int32) (o_reader_way_stages : Int32) (o_ring_powers : Nat → Int32) (o_turns_cos : Nat → Int32) (o_turns_sin : Nat → Int32) (o_wave_im : Nat → Int32) (o_wave_re : Nat → Int32) (o_wave_wasIm : Nat → Int32) (o_wave_wasRe : Nat → Int32) (o_way_shifts : Nat → Int32) : va_W := [(h_o, .inr (9, [.ref h_o_way, .ref h_o_wave, .ref h_o_past, .ref h_o_notes, .ref h_o_ring, .ref h_o_turns, .ref h_o_beater, .ref h_o_reader, .ref h_o_dice, .ref h_o_trialWay, .ref h_o_trial, .ref h_o_otherTrial, .ref h_o_sumsRe, .ref h_o_sumsIm, .ref h_o_tally, .ref h_o_image, .int o_imageKept, .ref h_o_tape, .int o_taped])), (h_o_notes, .inr (2, [.ref h_o_notes_kinds, .ref h_o_notes_targets, .ref h_o_notes_bins, .int o_notes_total, .int o_notes_knownBy])), (h_o_past, .inr (3, [.ref h_o_past_cells, .int o_past_next, .int o_past_held])), (h_o_reader, .inr (4, [.ref h_o_reader_way, .ref h_o_reader_re, .ref h_o_reader_im, .int o_reader_fault, .int o_reader_faultPlace, .int o_reader_toldWords, .int o_reader_toldRe, .int o_reader_toldIm, .int o_reader_length, .int o_reader_place, .int o_reader_kind, .int o_reader_start, .int o_reader_number])), (h_o_ring, .inr (5, [.ref h_o_ring_powers, .int o_ring_size, .int o_ring_log])), (h_o_turns, .inr (6, [.ref h_o_turns_cos, .ref h_o_turns_sin])), (h_o_wave, .inr (7, [.ref h_o_wave_re, .ref h_o_wave_im, .ref h_o_wave_wasRe, .ref h_o_wave_wasIm, .ref h_o_wave_halved, .int o_wave_exp, .int o_wave_done, .int o_wave_backward])), (h_o_way, .inr (8, [.int o_way_size, .int o_way_log, .int o_way_wordBits, .int o_way_limit, .int o_way_radix, .int o_way_order, .int o_way_near, .int o_way_seed, .int o_way_stages, .ref h_o_way_shifts])), (h_o_reader_im, .inl (cI, 32, .inl o_reader_im)), (h_o_reader_re, .inl (cI, 32, .inl o_reader_re)), (h_o_reader_way, .inr (8, [.int o_reader_way_size, .int o_reader_way_log, .int o_reader_way_wordBits, .int o_reader_way_limit, .int o_reader_way_radix, .int o_reader_way_order, .int o_reader_way_near, .int o_reader_way_seed, .int o_reader_way_stages, .ref h_o_reader_way_shifts])), (h_o_ring_powers, .inl (cI, 32, .inl o_ring_powers)), (h_o_turns_cos, .inl (cI, 32, .inl o_turns_cos)), (h_o_turns_sin, .inl (cI, 32, .inl o_turns_sin)), (h_o_wave_im, .inl (cI, 32, .inl o_wave_im)), (h_o_wave_re, .inl (cI, 32, .inl o_wave_re)), (h_o_wave_wasIm, .inl (cI, 32, .inl o_wave_wasIm)), (h_o_wave_wasRe, .inl (cI, 32, .inl o_wave_wasRe)), (h_o_way_shifts, .inl (cI, 5, .inl o_way_shifts))]
def fX9_takeOver (o_imageKept : Int32) (o_notes_total : Int32) (o_notes_knownBy : Int32) (o_past_held : Int32) (o_ring_size : Int32) (o_ring_log : Int32) (o_wave_exp : Int32) (o_wave_done : Int32) (o_wave_backward : Int32) (o_way_size : Int32) (o_way_log : Int32) (o_way_wordBits : Int32) (o_way_limit : Int32) (o_way_radix : Int32) (o_way_order : Int32) (o_way_near : Int32) (o_way_seed : Int32) (o_way_stages : Int32) (o_reader_im : Nat → Int32) (o_reader_re : Nat → Int32) (o_reader_way_size : Int32) (o_reader_way_log : Int32) (o_reader_way_wordBits : Int32) (o_reader_way_radix : Int32) (o_reader_way_order : Int32) (o_reader_way_near : Int32) (o_reader_way_seed : Int32) (o_ring_powers : Nat → Int32) (o_turns_cos : Nat → Int32) (o_turns_sin : Nat → Int32) (o_wave_im : Nat → Int32) (o_wave_re : Nat → Int32) (o_wave_wasIm : Nat → Int32) (o_wave_wasRe : Nat → Int32) (o_way_shifts : Nat → Int32) : Option (Int32 × Int32 × Int32 × Int32 × Int32 × Int32 × Int32 × Int32 × Int32 × Int32 × Int32 × Int32 × Int32 × Int32 × Int32 × Int32 × Int32 × Int32 × (Nat → Int32) × (Nat → Int32) × (Nat → Int32) × (Nat → Int32) × (Nat → Int32) × (Nat → Int32) × (Nat → Int32) × (Nat → Int32)) :=
  bd10 (fX8_copyFrom o_way_size o_way_log o_way_wordBits o_way_limit o_way_radix o_way_order o_way_near o_way_seed o_way_stages o_reader_way_size o_reader_way_log o_reader_way_wordBits o_reader_way_radix o_reader_way_order o_reader_way_near o_reader_way_seed o_way_shifts) (fun o_way_size_1 o_way_log_2 o_way_wordBits_3 o_way_limit_4 o_way_radix_5 o_way_order_6 o_way_near_7 o_way_seed_8 o_way_stages_9 o_way_shifts_10 =>
  bd2 (fX6_fit o_turns_cos o_turns_sin o_way_log_2) (fun o_turns_cos_12 o_turns_sin_13 =>
  bd3 (fX5_fit o_ring_size o_ring_log o_ring_powers o_way_size_1 o_way_log_2) (fun o_ring_size_15 o_ring_log_16 o_ring_powers_17 =>
  bd5 (fX7_begin o_wave_exp o_wave_done o_wave_backward o_reader_re o_reader_im o_wave_im o_wave_re) (fun o_wave_exp_19 o_wave_done_20 o_wave_backward_21 o_wave_im_22 o_wave_re_23 =>
  bd2 (fX7_settle o_wave_im_22 o_wave_re_23 o_wave_wasIm o_wave_wasRe) (fun o_wave_wasIm_25 o_wave_wasRe_26 =>
  bd2 (fX2_forgetAll o_notes_total o_notes_knownBy) (fun o_notes_total_28 o_notes_knownBy_29 =>
  bd1 (fX3_forgetAll o_past_held) (fun o_past_held_31 =>
  some ((0 : Int32), o_notes_total_28, o_notes_knownBy_29, o_past_held_31, o_ring_size_15, o_ring_log_16, o_wave_exp_19, o_wave_done_20, o_wave_backward_21, o_way_size_1, o_way_log_2, o_way_wordBits_3, o_way_limit_4, o_way_radix_5, o_way_order_6, o_way_near_7, o_way_seed_8, o_way_stages_9, o_ring_powers_17, o_turns_cos_12, o_turns_sin_13, o_wave_im_22, o_wave_re_23, o_wave_wasIm_25, o_wave_wasRe_26, o_way_shifts_10))))))))
set_option maxHeartbeats 4000000 in
set_option maxRecDepth 100000 in
theorem tX9_takeOver (l : Launch) (G : va_G) (cI cJ cZ : ClassId) (sz : Nat) (h_o h_o_notes h_o_past h_o_reader h_o_ring h_o_turns h_o_wave h_o_way h_o_reader_im h_o_reader_re h_o_reader_way h_o_ring_powers h_o_turns_cos h_o_turns_sin h_o_wave_im h_o_wave_re h_o_wave_wasIm h_o_wave_wasRe h_o_way_shifts h_o_beater h_o_dice h_o_trialWay h_o_trial h_o_otherTrial h_o_sumsRe h_o_sumsIm h_o_tally h_o_image h_o_tape h_o_notes_kinds h_o_notes_targets h_o_notes_bins h_o_past_cells h_o_wave_halved h_o_reader_way_shifts : Nat) (o_imageKept : Int32) (o_taped : Int32) (o_notes_total : Int32) (o_notes_knownBy : Int32) (o_past_next : Int32) (o_past_held : Int32) (o_reader_fault : Int32) (o_reader_faultPlace : Int32) (o_reader_toldWords : Int32) (o_reader_toldRe : Int32) (o_reader_toldIm : Int32) (o_reader_length : Int32) (o_reader_place : Int32) (o_reader_kind : Int32) (o_reader_start : Int32) (o_reader_number : Int32) (o_ring_size : Int32) (o_ring_log : Int32) (o_wave_exp : Int32) (o_wave_done : Int32) (o_wave_backward : Int32) (o_way_size : Int32) (o_way_log : Int32) (o_way_wordBits : Int32) (o_way_limit : Int32) (o_way_radix : Int32) (o_way_order : Int32) (o_way_near : Int32) (o_way_seed : Int32) (o_way_stages : Int32) (o_reader_im : Nat → Int32) (o_reader_re : Nat → Int32) (o_reader_way_size : Int32) (o_reader_way_log : Int32) (o_reader_way_wordBits : Int32) (o_reader_way_limit : Int32) (o_reader_way_radix : Int32) (o_reader_way_order : Int32) (o_reader_way_near : Int32) (o_reader_way_seed : Int32) (o_reader_way_stages : Int32) (o_ring_powers : Nat → Int32) (o_turns_cos : Nat → Int32) (o_turns_sin : Nat → Int32) (o_wave_im : Nat → Int32) (o_wave_re : Nat → Int32) (o_wave_wasIm : Nat → Int32) (o_wave_wasRe : Nat → Int32) (o_way_shifts : Nat → Int32) (out_o_imageKept : Int32) (out_o_notes_total : Int32) (out_o_notes_knownBy : Int32) (out_o_past_held : Int32) (out_o_ring_size : Int32) (out_o_ring_log : Int32) (out_o_wave_exp : Int32) (out_o_wave_done : Int32) (out_o_wave_backward : Int32) (out_o_way_size : Int32) (out_o_way_log : Int32) (out_o_way_wordBits : Int32) (out_o_way_limit : Int32) (out_o_way_radix : Int32) (out_o_way_order : Int32) (out_o_way_near : Int32) (out_o_way_seed : Int32) (out_o_way_stages : Int32) (out_o_ring_powers : Nat → Int32) (out_o_turns_cos : Nat → Int32) (out_o_turns_sin : Nat → Int32) (out_o_wave_im : Nat → Int32) (out_o_wave_re : Nat → Int32) (out_o_wave_wasIm : Nat → Int32) (out_o_wave_wasRe : Nat → Int32) (out_o_way_shifts : Nat → Int32) (hf : fX9_takeOver o_imageKept o_notes_total o_notes_knownBy o_past_held o_ring_size o_ring_log o_wave_exp o_wave_done o_wave_backward o_way_size o_way_log o_way_wordBits o_way_limit o_way_radix o_way_order o_way_near o_way_seed o_way_stages o_reader_im o_reader_re o_reader_way_size o_reader_way_log o_reader_way_wordBits o_reader_way_radix o_reader_way_order o_reader_way_near o_reader_way_seed o_ring_powers o_turns_cos o_turns_sin o_wave_im o_wave_re o_wave_wasIm o_wave_wasRe o_way_shifts = some (out_o_imageKept, out_o_notes_total, out_o_notes_knownBy, out_o_past_held, out_o_ring_size, out_o_ring_log, out_o_wave_exp, out_o_wave_done, out_o_wave_backward, out_o_way_size, out_o_way_log, out_o_way_wordBits, out_o_way_limit, out_o_way_radix, out_o_way_order, out_o_way_near, out_o_way_seed, out_o_way_stages, out_o_ring_powers, out_o_turns_cos, out_o_turns_sin, out_o_wave_im, out_o_wave_re, out_o_wave_wasIm, out_o_wave_wasRe, out_o_way_shifts)) : Met l yX9_takeOver (Cond.code yX9_takeOver cX9_takeOver 1 none :: BIG) ({ frames := 3, cells := 0, slots := 0, locals := 67 } : Room) (cPX SX G (TY3 cI cJ cZ) [.ref h_o] sz (wX9_takeOver cI cJ cZ h_o h_o_notes h_o_past h_o_reader h_o_ring h_o_turns h_o_wave h_o_way h_o_reader_im h_o_reader_re h_o_reader_way h_o_ring_powers h_o_turns_cos h_o_turns_sin h_o_wave_im h_o_wave_re h_o_wave_wasIm h_o_wave_wasRe h_o_way_shifts h_o_beater h_o_dice h_o_trialWay h_o_trial h_o_otherTrial h_o_sumsRe h_o_sumsIm h_o_tally h_o_image h_o_tape h_o_notes_kinds h_o_notes_targets h_o_notes_bins h_o_past_cells h_o_wave_halved h_o_reader_way_shifts o_imageKept o_taped o_notes_total o_notes_knownBy o_past_next o_past_held o_reader_fault o_reader_faultPlace o_reader_toldWords o_reader_toldRe o_reader_toldIm o_reader_length o_reader_place o_reader_kind o_reader_start o_reader_number o_ring_size o_ring_log o_wave_exp o_wave_done o_wave_backward o_way_size o_way_log o_way_wordBits o_way_limit o_way_radix o_way_order o_way_near o_way_seed o_way_stages o_reader_im o_reader_re o_reader_way_size o_reader_way_log o_reader_way_wordBits o_reader_way_limit o_reader_way_radix o_reader_way_order o_reader_way_near o_reader_way_seed o_reader_way_stages o_ring_powers o_turns_cos o_turns_sin o_wave_im o_wave_re o_wave_wasIm o_wave_wasRe o_way_shifts)) (cQ G (TY3 cI cJ cZ) sz (wX9_takeOver cI cJ cZ h_o h_o_notes h_o_past h_o_reader h_o_ring h_o_turns h_o_wave h_o_way h_o_reader_im h_o_reader_re h_o_reader_way h_o_ring_powers h_o_turns_cos h_o_turns_sin h_o_wave_im h_o_wave_re h_o_wave_wasIm h_o_wave_wasRe h_o_way_shifts h_o_beater h_o_dice h_o_trialWay h_o_trial h_o_otherTrial h_o_sumsRe h_o_sumsIm h_o_tally h_o_image h_o_tape h_o_notes_kinds h_o_notes_targets h_o_notes_bins h_o_past_cells h_o_wave_halved h_o_reader_way_shifts o_imageKept o_taped o_notes_total o_notes_knownBy o_past_next o_past_held o_reader_fault o_reader_faultPlace o_reader_toldWords o_reader_toldRe o_reader_toldIm o_reader_length o_reader_place o_reader_kind o_reader_start o_reader_number o_ring_size o_ring_log o_wave_exp o_wave_done o_wave_backward o_way_size o_way_log o_way_wordBits o_way_limit o_way_radix o_way_order o_way_near o_way_seed o_way_stages o_reader_im o_reader_re o_reader_way_size o_reader_way_log o_reader_way_wordBits o_reader_way_limit o_reader_way_radix o_reader_way_order o_reader_way_near o_reader_way_seed o_reader_way_stages o_ring_powers o_turns_cos o_turns_sin o_wave_im o_wave_re o_wave_wasIm o_wave_wasRe o_way_shifts) (wX9_takeOver cI cJ cZ h_o h_o_notes h_o_past h_o_reader h_o_ring h_o_turns h_o_wave h_o_way h_o_reader_im h_o_reader_re h_o_reader_way h_o_ring_powers h_o_turns_cos h_o_turns_sin h_o_wave_im h_o_wave_re h_o_wave_wasIm h_o_wave_wasRe h_o_way_shifts h_o_beater h_o_dice h_o_trialWay h_o_trial h_o_otherTrial h_o_sumsRe h_o_sumsIm h_o_tally h_o_image h_o_tape h_o_notes_kinds h_o_notes_targets h_o_notes_bins h_o_past_cells h_o_wave_halved h_o_reader_way_shifts out_o_imageKept o_taped out_o_notes_total out_o_notes_knownBy o_past_next out_o_past_held o_reader_fault o_reader_faultPlace o_reader_toldWords o_reader_toldRe o_reader_toldIm o_reader_length o_reader_place o_reader_kind o_reader_start o_reader_number out_o_ring_size out_o_ring_log out_o_wave_exp out_o_wave_done out_o_wave_backward out_o_way_size out_o_way_log out_o_way_wordBits out_o_way_limit out_o_way_radix out_o_way_order out_o_way_near out_o_way_seed out_o_way_stages o_reader_im o_reader_re o_reader_way_size o_reader_way_log o_reader_way_wordBits o_reader_way_limit o_reader_way_radix o_reader_way_order o_reader_way_near o_reader_way_seed o_reader_way_stages out_o_ring_powers out_o_turns_cos out_o_turns_sin out_o_wave_im out_o_wave_re out_o_wave_wasIm out_o_wave_wasRe out_o_way_shifts) none) 0 0 (va_A (wX9_takeOver cI cJ cZ h_o h_o_notes h_o_past h_o_reader h_o_ring h_o_turns h_o_wave h_o_way h_o_reader_im h_o_reader_re h_o_reader_way h_o_ring_powers h_o_turns_cos h_o_turns_sin h_o_wave_im h_o_wave_re h_o_wave_wasIm h_o_wave_wasRe h_o_way_shifts h_o_beater h_o_dice h_o_trialWay h_o_trial h_o_otherTrial h_o_sumsRe h_o_sumsIm h_o_tally h_o_image h_o_tape h_o_notes_kinds h_o_notes_targets h_o_notes_bins h_o_past_cells h_o_wave_halved h_o_reader_way_shifts o_imageKept o_taped o_notes_total o_notes_knownBy o_past_next o_past_held o_reader_fault o_reader_faultPlace o_reader_toldWords o_reader_toldRe o_reader_toldIm o_reader_length o_reader_place o_reader_kind o_reader_start o_reader_number o_ring_size o_ring_log o_wave_exp o_wave_done o_wave_backward o_way_size o_way_log o_way_wordBits o_way_limit o_way_radix o_way_order o_way_near o_way_seed o_way_stages o_reader_im o_reader_re o_reader_way_size o_reader_way_log o_reader_way_wordBits o_reader_way_limit o_reader_way_radix o_reader_way_order o_reader_way_near o_reader_way_seed o_reader_way_stages o_ring_powers o_turns_cos o_turns_sin o_wave_im o_wave_re o_wave_wasIm o_wave_wasRe o_way_shifts) sz) := by
  refine met_vX (cc := cX9_takeOver) (maxL := 1) (plainFor_of_name (by decide)) (Nat.le_of_ble_eq_true rfl) (fun p e s m below meth c A ls Q hx hb hml hts hown hK hP hD hS hA hX hl hret => ?_)
  obtain ⟨⟨tQ, hQ⟩, ⟨tR, hR⟩, sa, sv, hW⟩ := id hX
  have hownS : s.vm.findClass "BlockWave" = some m.cls := hown
  have hown : s.vm.findClass RX9 = some m.cls := hown
  have hl : lv_has ls 1 [(0, .ref h_o)] := hl
  unfold fX9_takeOver at hf
  obtain ⟨H, eH⟩ : ∃ H, H = s.heap := ⟨_, rfl⟩
  obtain ⟨locs, elocs⟩ : ∃ z : List Loc, z = [] := ⟨_, rfl⟩
  have hP : va_P G vwCl (wX9_takeOver cI cJ cZ h_o h_o_notes h_o_past h_o_reader h_o_ring h_o_turns h_o_wave h_o_way h_o_reader_im h_o_reader_re h_o_reader_way h_o_ring_powers h_o_turns_cos h_o_turns_sin h_o_wave_im h_o_wave_re h_o_wave_wasIm h_o_wave_wasRe h_o_way_shifts h_o_beater h_o_dice h_o_trialWay h_o_trial h_o_otherTrial h_o_sumsRe h_o_sumsIm h_o_tally h_o_image h_o_tape h_o_notes_kinds h_o_notes_targets h_o_notes_bins h_o_past_cells h_o_wave_halved h_o_reader_way_shifts o_imageKept o_taped o_notes_total o_notes_knownBy o_past_next o_past_held o_reader_fault o_reader_faultPlace o_reader_toldWords o_reader_toldRe o_reader_toldIm o_reader_length o_reader_place o_reader_kind o_reader_start o_reader_number o_ring_size o_ring_log o_wave_exp o_wave_done o_wave_backward o_way_size o_way_log o_way_wordBits o_way_limit o_way_radix o_way_order o_way_near o_way_seed o_way_stages o_reader_im o_reader_re o_reader_way_size o_reader_way_log o_reader_way_wordBits o_reader_way_limit o_reader_way_radix o_reader_way_order o_reader_way_near o_reader_way_seed o_reader_way_stages o_ring_powers o_turns_cos o_turns_sin o_wave_im o_wave_re o_wave_wasIm o_wave_wasRe o_way_shifts) H := by rw [eH]; exact hP
  have hS : va_S A s.heap H locs := by rw [eH, elocs]; exact hS
  suffices hgo : W p l e ({ frames := 3, cells := 0, slots := 0, locals := 67 } : Room) s m ([.ref h_o] : List Value).toArray below meth c H locs 0 0 Q (F0 m 0 ls []) by rw [eH, elocs] at hgo; exact hgo
  clear eH elocs
  refine lv_aload_n hx hb dX9_takeOver_0 rfl (lv_at hl 0 rfl) ?_
  refine rd (ci := 9) (C := RX9) (T := TX9) (N := 19) hx hb hts inX9 hown hK hP 0 0 rfl rfl (by decide) (hts _ q_fX9_10) rfl dX9_takeOver_1 ?_
  refine lv_aload_n hx hb dX9_takeOver_4 rfl (lv_at hl 0 rfl) ?_
  refine rd (ci := 9) (C := RX9) (T := TX9) (N := 19) hx hb hts inX9 hown hK hP 0 7 rfl rfl (by decide) (hts _ q_fX9_63) rfl dX9_takeOver_5 ?_
  refine rd (ci := 4) (C := RX4) (T := TX4) (N := 13) hx hb hts inX4 hown hK hP 3 0 rfl rfl (by decide) (hts _ q_fX9_131) rfl dX9_takeOver_8 ?_
  obtain ⟨o_way_size_1, o_way_log_2, o_way_wordBits_3, o_way_limit_4, o_way_radix_5, o_way_order_6, o_way_near_7, o_way_seed_8, o_way_stages_9, o_way_shifts_10, e_11, hf⟩ := bd10_x hf
  refine call_v [.ref h_o_reader_way] [] ⟨hx, hb, hml, hown, hts⟩ hK hP hD hS hA hl.1 (tX8_copyFrom l G cI cJ cZ H.size h_o_way h_o_reader_way h_o_way_shifts h_o_reader_way_shifts o_way_size o_way_log o_way_wordBits o_way_limit o_way_radix o_way_order o_way_near o_way_seed o_way_stages o_reader_way_size o_reader_way_log o_reader_way_wordBits o_reader_way_limit o_reader_way_radix o_reader_way_order o_reader_way_near o_reader_way_seed o_reader_way_stages o_way_shifts o_way_size_1 o_way_log_2 o_way_wordBits_3 o_way_limit_4 o_way_radix_5 o_way_order_6 o_way_near_7 o_way_seed_8 o_way_stages_9 o_way_shifts_10 e_11) (cwV 1 hts (gv q_mX9_132 q_i_yX8_copyFrom q_s_yX8_copyFrom q_n_RX8 q_k_yX8_copyFrom) rfl rfl rfl (by decide +kernel) ⟨by decide, by decide⟩) rfl rfl (Nat.le_of_ble_eq_true rfl) dX9_takeOver_11 ⟨Nat.zero_le _, Nat.zero_le _⟩ (ci := 8) rfl 0 rfl [7, 10, 18] [0, 1, 2, 3, 4, 5, 6, 8, 9, 11, 12, 13, 14, 15, 16, 17] [0, 1, 2, 3, 4, 5, 6, 16, 7, 8, 17, 9, 10, 11, 12, 13, 14, 15, 18] rfl rfl (ws2 := (wX9_takeOver cI cJ cZ h_o h_o_notes h_o_past h_o_reader h_o_ring h_o_turns h_o_wave h_o_way h_o_reader_im h_o_reader_re h_o_reader_way h_o_ring_powers h_o_turns_cos h_o_turns_sin h_o_wave_im h_o_wave_re h_o_wave_wasIm h_o_wave_wasRe h_o_way_shifts h_o_beater h_o_dice h_o_trialWay h_o_trial h_o_otherTrial h_o_sumsRe h_o_sumsIm h_o_tally h_o_image h_o_tape h_o_notes_kinds h_o_notes_targets h_o_notes_bins h_o_past_cells h_o_wave_halved h_o_reader_way_shifts o_imageKept o_taped o_notes_total o_notes_knownBy o_past_next o_past_held o_reader_fault o_reader_faultPlace o_reader_toldWords o_reader_toldRe o_reader_toldIm o_reader_length o_reader_place o_reader_kind o_reader_start o_reader_number o_ring_size o_ring_log o_wave_exp o_wave_done o_wave_backward o_way_size_1 o_way_log_2 o_way_wordBits_3 o_way_limit_4 o_way_radix_5 o_way_order_6 o_way_near_7 o_way_seed_8 o_way_stages_9 o_reader_im o_reader_re o_reader_way_size o_reader_way_log o_reader_way_wordBits o_reader_way_limit o_reader_way_radix o_reader_way_order o_reader_way_near o_reader_way_seed o_reader_way_stages o_ring_powers o_turns_cos o_turns_sin o_wave_im o_wave_re o_wave_wasIm o_wave_wasRe o_way_shifts_10)) rfl (fun H locs hP hD hS => ?_)
  refine W.eq (g2 := F0 m 14 ls []) rfl ?_
  refine lv_aload_n hx hb dX9_takeOver_14 rfl (lv_at hl 0 rfl) ?_
  refine rd (ci := 9) (C := RX9) (T := TX9) (N := 19) hx hb hts inX9 hown hK hP 0 5 rfl rfl (by decide) (hts _ q_fX9_47) rfl dX9_takeOver_15 ?_
  refine lv_aload_n hx hb dX9_takeOver_18 rfl (lv_at hl 0 rfl) ?_
  refine rd (ci := 9) (C := RX9) (T := TX9) (N := 19) hx hb hts inX9 hown hK hP 0 0 rfl rfl (by decide) (hts _ q_fX9_10) rfl dX9_takeOver_19 ?_
  refine rd (ci := 8) (C := RX8) (T := TX8) (N := 10) hx hb hts inX8 hown hK hP 7 1 rfl rfl (by decide) (hts _ q_fX9_108) rfl dX9_takeOver_22 ?_
  obtain ⟨o_turns_cos_12, o_turns_sin_13, e_14, hf⟩ := bd2_x hf
  refine call_vX SX_c hX [.int o_way_log_2] [] ⟨hx, hb, hml, hown, hts⟩ hK hP hD hS hA hl.1 (tX6_fit l G cI cJ cZ H.size h_o_turns h_o_turns_cos h_o_turns_sin o_turns_cos o_turns_sin o_way_log_2 o_turns_cos_12 o_turns_sin_13 e_14) (cwV 1 hts (gv q_mX9_111 q_i_yX6_fit q_s_yX6_fit q_n_RX6 q_k_yX6_fit) rfl rfl rfl (by decide +kernel) ⟨by decide, by decide⟩) rfl rfl (Nat.le_of_ble_eq_true rfl) dX9_takeOver_25 ⟨Nat.zero_le _, Nat.zero_le _⟩ (va_recv hK hP (ci := 6) (q0 := 5) rfl rfl) [5, 12, 13] [0, 1, 2, 3, 4, 6, 7, 8, 9, 10, 11, 14, 15, 16, 17, 18] [0, 1, 2, 3, 4, 16, 5, 6, 7, 8, 9, 10, 17, 18, 11, 12, 13, 14, 15] rfl rfl (ws2 := (wX9_takeOver cI cJ cZ h_o h_o_notes h_o_past h_o_reader h_o_ring h_o_turns h_o_wave h_o_way h_o_reader_im h_o_reader_re h_o_reader_way h_o_ring_powers h_o_turns_cos h_o_turns_sin h_o_wave_im h_o_wave_re h_o_wave_wasIm h_o_wave_wasRe h_o_way_shifts h_o_beater h_o_dice h_o_trialWay h_o_trial h_o_otherTrial h_o_sumsRe h_o_sumsIm h_o_tally h_o_image h_o_tape h_o_notes_kinds h_o_notes_targets h_o_notes_bins h_o_past_cells h_o_wave_halved h_o_reader_way_shifts o_imageKept o_taped o_notes_total o_notes_knownBy o_past_next o_past_held o_reader_fault o_reader_faultPlace o_reader_toldWords o_reader_toldRe o_reader_toldIm o_reader_length o_reader_place o_reader_kind o_reader_start o_reader_number o_ring_size o_ring_log o_wave_exp o_wave_done o_wave_backward o_way_size_1 o_way_log_2 o_way_wordBits_3 o_way_limit_4 o_way_radix_5 o_way_order_6 o_way_near_7 o_way_seed_8 o_way_stages_9 o_reader_im o_reader_re o_reader_way_size o_reader_way_log o_reader_way_wordBits o_reader_way_limit o_reader_way_radix o_reader_way_order o_reader_way_near o_reader_way_seed o_reader_way_stages o_ring_powers o_turns_cos_12 o_turns_sin_13 o_wave_im o_wave_re o_wave_wasIm o_wave_wasRe o_way_shifts_10)) rfl (fun H locs hP hD hS => ?_)
  refine W.eq (g2 := F0 m 28 ls []) rfl ?_
  refine lv_aload_n hx hb dX9_takeOver_28 rfl (lv_at hl 0 rfl) ?_
  refine rd (ci := 9) (C := RX9) (T := TX9) (N := 19) hx hb hts inX9 hown hK hP 0 4 rfl rfl (by decide) (hts _ q_fX9_40) rfl dX9_takeOver_29 ?_
  refine lv_aload_n hx hb dX9_takeOver_32 rfl (lv_at hl 0 rfl) ?_
  refine rd (ci := 9) (C := RX9) (T := TX9) (N := 19) hx hb hts inX9 hown hK hP 0 0 rfl rfl (by decide) (hts _ q_fX9_10) rfl dX9_takeOver_33 ?_
  refine rd (ci := 8) (C := RX8) (T := TX8) (N := 10) hx hb hts inX8 hown hK hP 7 0 rfl rfl (by decide) (hts _ q_fX9_115) rfl dX9_takeOver_36 ?_
  refine lv_aload_n hx hb dX9_takeOver_39 rfl (lv_at hl 0 rfl) ?_
  refine rd (ci := 9) (C := RX9) (T := TX9) (N := 19) hx hb hts inX9 hown hK hP 0 0 rfl rfl (by decide) (hts _ q_fX9_10) rfl dX9_takeOver_40 ?_
  refine rd (ci := 8) (C := RX8) (T := TX8) (N := 10) hx hb hts inX8 hown hK hP 7 1 rfl rfl (by decide) (hts _ q_fX9_108) rfl dX9_takeOver_43 ?_
  obtain ⟨o_ring_size_15, o_ring_log_16, o_ring_powers_17, e_18, hf⟩ := bd3_x hf
  refine call_vX SX_c hX [.int o_way_size_1, .int o_way_log_2] [] ⟨hx, hb, hml, hown, hts⟩ hK hP hD hS hA hl.1 (tX5_fit l G cI cJ cZ H.size h_o_ring h_o_ring_powers o_ring_size o_ring_log o_ring_powers o_way_size_1 o_way_log_2 o_ring_size_15 o_ring_log_16 o_ring_powers_17 e_18) (cwV 2 hts (gv q_mX9_118 q_i_yX5_fit q_s_yX5_fit q_n_RX5 q_k_yX5_fit) rfl rfl rfl (by decide +kernel) ⟨by decide, by decide⟩) rfl rfl (Nat.le_of_ble_eq_true rfl) dX9_takeOver_46 ⟨Nat.zero_le _, Nat.zero_le _⟩ (va_recv hK hP (ci := 5) (q0 := 4) rfl rfl) [4, 11] [0, 1, 2, 3, 5, 6, 7, 8, 9, 10, 12, 13, 14, 15, 16, 17, 18] [0, 1, 2, 3, 17, 4, 5, 6, 7, 8, 9, 18, 10, 11, 12, 13, 14, 15, 16] rfl rfl (ws2 := (wX9_takeOver cI cJ cZ h_o h_o_notes h_o_past h_o_reader h_o_ring h_o_turns h_o_wave h_o_way h_o_reader_im h_o_reader_re h_o_reader_way h_o_ring_powers h_o_turns_cos h_o_turns_sin h_o_wave_im h_o_wave_re h_o_wave_wasIm h_o_wave_wasRe h_o_way_shifts h_o_beater h_o_dice h_o_trialWay h_o_trial h_o_otherTrial h_o_sumsRe h_o_sumsIm h_o_tally h_o_image h_o_tape h_o_notes_kinds h_o_notes_targets h_o_notes_bins h_o_past_cells h_o_wave_halved h_o_reader_way_shifts o_imageKept o_taped o_notes_total o_notes_knownBy o_past_next o_past_held o_reader_fault o_reader_faultPlace o_reader_toldWords o_reader_toldRe o_reader_toldIm o_reader_length o_reader_place o_reader_kind o_reader_start o_reader_number o_ring_size_15 o_ring_log_16 o_wave_exp o_wave_done o_wave_backward o_way_size_1 o_way_log_2 o_way_wordBits_3 o_way_limit_4 o_way_radix_5 o_way_order_6 o_way_near_7 o_way_seed_8 o_way_stages_9 o_reader_im o_reader_re o_reader_way_size o_reader_way_log o_reader_way_wordBits o_reader_way_limit o_reader_way_radix o_reader_way_order o_reader_way_near o_reader_way_seed o_reader_way_stages o_ring_powers_17 o_turns_cos_12 o_turns_sin_13 o_wave_im o_wave_re o_wave_wasIm o_wave_wasRe o_way_shifts_10)) rfl (fun H locs hP hD hS => ?_)
  refine W.eq (g2 := F0 m 49 ls []) rfl ?_
  refine lv_aload_n hx hb dX9_takeOver_49 rfl (lv_at hl 0 rfl) ?_
  refine rd (ci := 9) (C := RX9) (T := TX9) (N := 19) hx hb hts inX9 hown hK hP 0 1 rfl rfl (by decide) (hts _ q_fX9_19) rfl dX9_takeOver_50 ?_
  refine lv_aload_n hx hb dX9_takeOver_53 rfl (lv_at hl 0 rfl) ?_
  refine rd (ci := 9) (C := RX9) (T := TX9) (N := 19) hx hb hts inX9 hown hK hP 0 7 rfl rfl (by decide) (hts _ q_fX9_63) rfl dX9_takeOver_54 ?_
  refine rd (ci := 4) (C := RX4) (T := TX4) (N := 13) hx hb hts inX4 hown hK hP 3 1 rfl rfl (by decide) (hts _ q_fX9_136) rfl dX9_takeOver_57 ?_
  refine lv_aload_n hx hb dX9_takeOver_60 rfl (lv_at hl 0 rfl) ?_
  refine rd (ci := 9) (C := RX9) (T := TX9) (N := 19) hx hb hts inX9 hown hK hP 0 7 rfl rfl (by decide) (hts _ q_fX9_63) rfl dX9_takeOver_61 ?_
  refine rd (ci := 4) (C := RX4) (T := TX4) (N := 13) hx hb hts inX4 hown hK hP 3 2 rfl rfl (by decide) (hts _ q_fX9_139) rfl dX9_takeOver_64 ?_
  obtain ⟨o_wave_exp_19, o_wave_done_20, o_wave_backward_21, o_wave_im_22, o_wave_re_23, e_24, hf⟩ := bd5_x hf
  refine call_v [.ref h_o_reader_re, .ref h_o_reader_im] [] ⟨hx, hb, hml, hown, hts⟩ hK hP hD hS hA hl.1 (tX7_begin l G cI cJ cZ H.size h_o_wave h_o_reader_re h_o_reader_im h_o_wave_im h_o_wave_re h_o_wave_wasRe h_o_wave_wasIm h_o_wave_halved o_wave_exp o_wave_done o_wave_backward o_reader_re o_reader_im o_wave_im o_wave_re o_wave_exp_19 o_wave_done_20 o_wave_backward_21 o_wave_im_22 o_wave_re_23 e_24) (cwV 2 hts (gv q_mX9_142 q_i_yX7_begin q_s_yX7_begin q_n_RX7 q_k_yX7_begin) rfl rfl rfl (by decide +kernel) ⟨by decide, by decide⟩) rfl rfl (Nat.le_of_ble_eq_true rfl) dX9_takeOver_67 ⟨Nat.zero_le _, Nat.zero_le _⟩ (ci := 7) rfl 0 rfl [6, 9, 8, 14, 15] [0, 1, 2, 3, 4, 5, 7, 10, 11, 12, 13, 16, 17, 18] [0, 1, 2, 3, 4, 5, 14, 6, 16, 15, 7, 8, 9, 10, 17, 18, 11, 12, 13] rfl rfl (ws2 := (wX9_takeOver cI cJ cZ h_o h_o_notes h_o_past h_o_reader h_o_ring h_o_turns h_o_wave h_o_way h_o_reader_im h_o_reader_re h_o_reader_way h_o_ring_powers h_o_turns_cos h_o_turns_sin h_o_wave_im h_o_wave_re h_o_wave_wasIm h_o_wave_wasRe h_o_way_shifts h_o_beater h_o_dice h_o_trialWay h_o_trial h_o_otherTrial h_o_sumsRe h_o_sumsIm h_o_tally h_o_image h_o_tape h_o_notes_kinds h_o_notes_targets h_o_notes_bins h_o_past_cells h_o_wave_halved h_o_reader_way_shifts o_imageKept o_taped o_notes_total o_notes_knownBy o_past_next o_past_held o_reader_fault o_reader_faultPlace o_reader_toldWords o_reader_toldRe o_reader_toldIm o_reader_length o_reader_place o_reader_kind o_reader_start o_reader_number o_ring_size_15 o_ring_log_16 o_wave_exp_19 o_wave_done_20 o_wave_backward_21 o_way_size_1 o_way_log_2 o_way_wordBits_3 o_way_limit_4 o_way_radix_5 o_way_order_6 o_way_near_7 o_way_seed_8 o_way_stages_9 o_reader_im o_reader_re o_reader_way_size o_reader_way_log o_reader_way_wordBits o_reader_way_limit o_reader_way_radix o_reader_way_order o_reader_way_near o_reader_way_seed o_reader_way_stages o_ring_powers_17 o_turns_cos_12 o_turns_sin_13 o_wave_im_22 o_wave_re_23 o_wave_wasIm o_wave_wasRe o_way_shifts_10)) rfl (fun H locs hP hD hS => ?_)
  refine W.eq (g2 := F0 m 70 ls []) rfl ?_
  refine lv_aload_n hx hb dX9_takeOver_70 rfl (lv_at hl 0 rfl) ?_
  refine rd (ci := 9) (C := RX9) (T := TX9) (N := 19) hx hb hts inX9 hown hK hP 0 1 rfl rfl (by decide) (hts _ q_fX9_19) rfl dX9_takeOver_71 ?_
  obtain ⟨o_wave_wasIm_25, o_wave_wasRe_26, e_27, hf⟩ := bd2_x hf
  refine call_v [] [] ⟨hx, hb, hml, hown, hts⟩ hK hP hD hS hA hl.1 (tX7_settle l G cI cJ cZ H.size h_o_wave h_o_wave_im h_o_wave_re h_o_wave_wasIm h_o_wave_wasRe h_o_wave_halved o_wave_exp_19 o_wave_done_20 o_wave_backward_21 o_wave_im_22 o_wave_re_23 o_wave_wasIm o_wave_wasRe o_wave_wasIm_25 o_wave_wasRe_26 e_27) (cwV 0 hts (gv q_mX9_146 q_i_yX7_settle q_s_yX7_settle q_n_RX7 q_k_yX7_settle) rfl rfl rfl (by decide +kernel) ⟨by decide, by decide⟩) rfl rfl (Nat.le_of_ble_eq_true rfl) dX9_takeOver_74 ⟨Nat.zero_le _, Nat.zero_le _⟩ (ci := 7) rfl 0 rfl [6, 14, 15, 16, 17] [0, 1, 2, 3, 4, 5, 7, 8, 9, 10, 11, 12, 13, 18] [0, 1, 2, 3, 4, 5, 14, 6, 7, 8, 9, 10, 11, 12, 15, 16, 17, 18, 13] rfl rfl (ws2 := (wX9_takeOver cI cJ cZ h_o h_o_notes h_o_past h_o_reader h_o_ring h_o_turns h_o_wave h_o_way h_o_reader_im h_o_reader_re h_o_reader_way h_o_ring_powers h_o_turns_cos h_o_turns_sin h_o_wave_im h_o_wave_re h_o_wave_wasIm h_o_wave_wasRe h_o_way_shifts h_o_beater h_o_dice h_o_trialWay h_o_trial h_o_otherTrial h_o_sumsRe h_o_sumsIm h_o_tally h_o_image h_o_tape h_o_notes_kinds h_o_notes_targets h_o_notes_bins h_o_past_cells h_o_wave_halved h_o_reader_way_shifts o_imageKept o_taped o_notes_total o_notes_knownBy o_past_next o_past_held o_reader_fault o_reader_faultPlace o_reader_toldWords o_reader_toldRe o_reader_toldIm o_reader_length o_reader_place o_reader_kind o_reader_start o_reader_number o_ring_size_15 o_ring_log_16 o_wave_exp_19 o_wave_done_20 o_wave_backward_21 o_way_size_1 o_way_log_2 o_way_wordBits_3 o_way_limit_4 o_way_radix_5 o_way_order_6 o_way_near_7 o_way_seed_8 o_way_stages_9 o_reader_im o_reader_re o_reader_way_size o_reader_way_log o_reader_way_wordBits o_reader_way_limit o_reader_way_radix o_reader_way_order o_reader_way_near o_reader_way_seed o_reader_way_stages o_ring_powers_17 o_turns_cos_12 o_turns_sin_13 o_wave_im_22 o_wave_re_23 o_wave_wasIm_25 o_wave_wasRe_26 o_way_shifts_10)) rfl (fun H locs hP hD hS => ?_)
  refine W.eq (g2 := F0 m 77 ls []) rfl ?_
  refine lv_aload_n hx hb dX9_takeOver_77 rfl (lv_at hl 0 rfl) ?_
  refine rd (ci := 9) (C := RX9) (T := TX9) (N := 19) hx hb hts inX9 hown hK hP 0 3 rfl rfl (by decide) (hts _ q_fX9_33) rfl dX9_takeOver_78 ?_
  obtain ⟨o_notes_total_28, o_notes_knownBy_29, e_30, hf⟩ := bd2_x hf
  refine call_v [] [] ⟨hx, hb, hml, hown, hts⟩ hK hP hD hS hA hl.1 (tX2_forgetAll l G cI cJ cZ H.size h_o_notes h_o_notes_kinds h_o_notes_targets h_o_notes_bins o_notes_total o_notes_knownBy o_notes_total_28 o_notes_knownBy_29 e_30) (cwV 0 hts (gv q_mX9_149 q_i_yX2_forgetAll q_s_yX2_forgetAll q_n_RX2 q_k_yX2_forgetAll) rfl rfl rfl (by decide +kernel) ⟨by decide, by decide⟩) rfl rfl (Nat.le_of_ble_eq_true rfl) dX9_takeOver_81 ⟨Nat.zero_le _, Nat.zero_le _⟩ (ci := 2) rfl 0 rfl [1] [0, 2, 3, 4, 5, 6, 7, 8, 9, 10, 11, 12, 13, 14, 15, 16, 17, 18] [0, 18, 1, 2, 3, 4, 5, 6, 7, 8, 9, 10, 11, 12, 13, 14, 15, 16, 17] rfl rfl (ws2 := (wX9_takeOver cI cJ cZ h_o h_o_notes h_o_past h_o_reader h_o_ring h_o_turns h_o_wave h_o_way h_o_reader_im h_o_reader_re h_o_reader_way h_o_ring_powers h_o_turns_cos h_o_turns_sin h_o_wave_im h_o_wave_re h_o_wave_wasIm h_o_wave_wasRe h_o_way_shifts h_o_beater h_o_dice h_o_trialWay h_o_trial h_o_otherTrial h_o_sumsRe h_o_sumsIm h_o_tally h_o_image h_o_tape h_o_notes_kinds h_o_notes_targets h_o_notes_bins h_o_past_cells h_o_wave_halved h_o_reader_way_shifts o_imageKept o_taped o_notes_total_28 o_notes_knownBy_29 o_past_next o_past_held o_reader_fault o_reader_faultPlace o_reader_toldWords o_reader_toldRe o_reader_toldIm o_reader_length o_reader_place o_reader_kind o_reader_start o_reader_number o_ring_size_15 o_ring_log_16 o_wave_exp_19 o_wave_done_20 o_wave_backward_21 o_way_size_1 o_way_log_2 o_way_wordBits_3 o_way_limit_4 o_way_radix_5 o_way_order_6 o_way_near_7 o_way_seed_8 o_way_stages_9 o_reader_im o_reader_re o_reader_way_size o_reader_way_log o_reader_way_wordBits o_reader_way_limit o_reader_way_radix o_reader_way_order o_reader_way_near o_reader_way_seed o_reader_way_stages o_ring_powers_17 o_turns_cos_12 o_turns_sin_13 o_wave_im_22 o_wave_re_23 o_wave_wasIm_25 o_wave_wasRe_26 o_way_shifts_10)) rfl (fun H locs hP hD hS => ?_)
  refine W.eq (g2 := F0 m 84 ls []) rfl ?_
  refine lv_aload_n hx hb dX9_takeOver_84 rfl (lv_at hl 0 rfl) ?_
  refine rd (ci := 9) (C := RX9) (T := TX9) (N := 19) hx hb hts inX9 hown hK hP 0 2 rfl rfl (by decide) (hts _ q_fX9_26) rfl dX9_takeOver_85 ?_
  obtain ⟨o_past_held_31, e_32, hf⟩ := bd1_x hf
  refine call_v [] [] ⟨hx, hb, hml, hown, hts⟩ hK hP hD hS hA hl.1 (tX3_forgetAll l G cI cJ cZ H.size h_o_past h_o_past_cells o_past_next o_past_held o_past_held_31 e_32) (cwV 0 hts (gv q_mX9_152 q_i_yX3_forgetAll q_s_yX3_forgetAll q_n_RX3 q_k_yX3_forgetAll) rfl rfl rfl (by decide +kernel) ⟨by decide, by decide⟩) rfl rfl (Nat.le_of_ble_eq_true rfl) dX9_takeOver_88 ⟨Nat.zero_le _, Nat.zero_le _⟩ (ci := 3) rfl 0 rfl [2] [0, 1, 3, 4, 5, 6, 7, 8, 9, 10, 11, 12, 13, 14, 15, 16, 17, 18] [0, 1, 18, 2, 3, 4, 5, 6, 7, 8, 9, 10, 11, 12, 13, 14, 15, 16, 17] rfl rfl (ws2 := (wX9_takeOver cI cJ cZ h_o h_o_notes h_o_past h_o_reader h_o_ring h_o_turns h_o_wave h_o_way h_o_reader_im h_o_reader_re h_o_reader_way h_o_ring_powers h_o_turns_cos h_o_turns_sin h_o_wave_im h_o_wave_re h_o_wave_wasIm h_o_wave_wasRe h_o_way_shifts h_o_beater h_o_dice h_o_trialWay h_o_trial h_o_otherTrial h_o_sumsRe h_o_sumsIm h_o_tally h_o_image h_o_tape h_o_notes_kinds h_o_notes_targets h_o_notes_bins h_o_past_cells h_o_wave_halved h_o_reader_way_shifts o_imageKept o_taped o_notes_total_28 o_notes_knownBy_29 o_past_next o_past_held_31 o_reader_fault o_reader_faultPlace o_reader_toldWords o_reader_toldRe o_reader_toldIm o_reader_length o_reader_place o_reader_kind o_reader_start o_reader_number o_ring_size_15 o_ring_log_16 o_wave_exp_19 o_wave_done_20 o_wave_backward_21 o_way_size_1 o_way_log_2 o_way_wordBits_3 o_way_limit_4 o_way_radix_5 o_way_order_6 o_way_near_7 o_way_seed_8 o_way_stages_9 o_reader_im o_reader_re o_reader_way_size o_reader_way_log o_reader_way_wordBits o_reader_way_limit o_reader_way_radix o_reader_way_order o_reader_way_near o_reader_way_seed o_reader_way_stages o_ring_powers_17 o_turns_cos_12 o_turns_sin_13 o_wave_im_22 o_wave_re_23 o_wave_wasIm_25 o_wave_wasRe_26 o_way_shifts_10)) rfl (fun H locs hP hD hS => ?_)
  refine W.eq (g2 := F0 m 91 ls []) rfl ?_
  refine lv_aload_n hx hb dX9_takeOver_91 rfl (lv_at hl 0 rfl) ?_
  refine lv_iconst (v := (0 : Int32)) hx hb dX9_takeOver_92 (by decide) ?_
  refine wr (ci := 9) (C := RX9) (T := TX9) (N := 19) hx hb hts inX9 tyX9 tyX9_ok nmX9 hown hK hP hD hS 0 16 rfl rfl (by decide) (hts _ q_fX9_97) rfl rfl rfl (Nat.le_of_ble_eq_true rfl) dX9_takeOver_93 (ws2 := (wX9_takeOver cI cJ cZ h_o h_o_notes h_o_past h_o_reader h_o_ring h_o_turns h_o_wave h_o_way h_o_reader_im h_o_reader_re h_o_reader_way h_o_ring_powers h_o_turns_cos h_o_turns_sin h_o_wave_im h_o_wave_re h_o_wave_wasIm h_o_wave_wasRe h_o_way_shifts h_o_beater h_o_dice h_o_trialWay h_o_trial h_o_otherTrial h_o_sumsRe h_o_sumsIm h_o_tally h_o_image h_o_tape h_o_notes_kinds h_o_notes_targets h_o_notes_bins h_o_past_cells h_o_wave_halved h_o_reader_way_shifts (0 : Int32) o_taped o_notes_total_28 o_notes_knownBy_29 o_past_next o_past_held_31 o_reader_fault o_reader_faultPlace o_reader_toldWords o_reader_toldRe o_reader_toldIm o_reader_length o_reader_place o_reader_kind o_reader_start o_reader_number o_ring_size_15 o_ring_log_16 o_wave_exp_19 o_wave_done_20 o_wave_backward_21 o_way_size_1 o_way_log_2 o_way_wordBits_3 o_way_limit_4 o_way_radix_5 o_way_order_6 o_way_near_7 o_way_seed_8 o_way_stages_9 o_reader_im o_reader_re o_reader_way_size o_reader_way_log o_reader_way_wordBits o_reader_way_limit o_reader_way_radix o_reader_way_order o_reader_way_near o_reader_way_seed o_reader_way_stages o_ring_powers_17 o_turns_cos_12 o_turns_sin_13 o_wave_im_22 o_wave_re_23 o_wave_wasIm_25 o_wave_wasRe_26 o_way_shifts_10)) rfl (fun H locs hP hD hS => ?_)
  cases hf
  exact hret _ _ _ _ dX9_takeOver_96 hP hD hS
def wX9_text (cI cJ cZ : ClassId) (h_o h_o_notes h_o_past h_o_reader h_o_ring h_o_tape h_o_turns h_o_wave h_o_way h_o_reader_im h_o_reader_re h_o_reader_way h_o_ring_powers h_o_turns_cos h_o_turns_sin h_o_wave_im h_o_wave_re h_o_wave_wasIm h_o_wave_wasRe h_o_way_shifts h_o_reader_way_shifts h_o_beater h_o_dice h_o_trialWay h_o_trial h_o_otherTrial h_o_sumsRe h_o_sumsIm h_o_tally h_o_image h_o_notes_kinds h_o_notes_targets h_o_notes_bins h_o_past_cells h_o_wave_halved : Nat) (o_imageKept : Int32) (o_taped : Int32) (o_notes_total : Int32) (o_notes_knownBy : Int32) (o_past_next : Int32) (o_past_held : Int32) (o_reader_fault : Int32) (o_reader_faultPlace : Int32) (o_reader_toldWords : Int32) (o_reader_toldRe : Int32) (o_reader_toldIm : Int32) (o_reader_length : Int32) (o_reader_place : Int32) (o_reader_kind : Int32) (o_reader_start : Int32) (o_reader_number : Int32) (o_ring_size : Int32) (o_ring_log : Int32) (o_tape : Nat → Int32) (o_wave_exp : Int32) (o_wave_done : Int32) (o_wave_backward : Int32) (o_way_size : Int32) (o_way_log : Int32) (o_way_wordBits : Int32) (o_way_limit : Int32) (o_way_radix : Int32) (o_way_order : Int32) (o_way_near : Int32) (o_way_seed : Int32) (o_way_stages : Int32) (o_reader_im : Nat → Int32) (o_reader_re : Nat → Int32) (o_reader_way_size : Int32) (o_reader_way_log : Int32) (o_reader_way_wordBits : Int32) (o_reader_way_limit : Int32) (o_reader_way_radix : Int32) (o_reader_way_order : Int32) (o_reader_way_near : Int32) (o_reader_way_seed : Int32) (o_reader_way_stages : Int32) (o_ring_powers : Nat → Int32) (o_turns_cos : Nat → Int32) (o_turns_sin : Nat → Int32) (o_wave_im : Nat → Int32) (o_wave_re : Nat → Int32) (o_wave_wasIm : Nat → Int32) (o_wave_wasRe : Nat → Int32) (o_way_shifts : Nat → Int32) (o_reader_way_shifts : Nat → Int32) : va_W := [(h_o, .inr (9, [.ref h_o_way, .ref h_o_wave, .ref h_o_past, .ref h_o_notes, .ref h_o_ring, .ref h_o_turns, .ref h_o_beater, .ref h_o_reader, .ref h_o_dice, .ref h_o_trialWay, .ref h_o_trial, .ref h_o_otherTrial, .ref h_o_sumsRe, .ref h_o_sumsIm, .ref h_o_tally, .ref h_o_image, .int o_imageKept, .ref h_o_tape, .int o_taped])), (h_o_notes, .inr (2, [.ref h_o_notes_kinds, .ref h_o_notes_targets, .ref h_o_notes_bins, .int o_notes_total, .int o_notes_knownBy])), (h_o_past, .inr (3, [.ref h_o_past_cells, .int o_past_next, .int o_past_held])), (h_o_reader, .inr (4, [.ref h_o_reader_way, .ref h_o_reader_re, .ref h_o_reader_im, .int o_reader_fault, .int o_reader_faultPlace, .int o_reader_toldWords, .int o_reader_toldRe, .int o_reader_toldIm, .int o_reader_length, .int o_reader_place, .int o_reader_kind, .int o_reader_start, .int o_reader_number])), (h_o_ring, .inr (5, [.ref h_o_ring_powers, .int o_ring_size, .int o_ring_log])), (h_o_tape, .inl (cI, 700, .inl o_tape)), (h_o_turns, .inr (6, [.ref h_o_turns_cos, .ref h_o_turns_sin])), (h_o_wave, .inr (7, [.ref h_o_wave_re, .ref h_o_wave_im, .ref h_o_wave_wasRe, .ref h_o_wave_wasIm, .ref h_o_wave_halved, .int o_wave_exp, .int o_wave_done, .int o_wave_backward])), (h_o_way, .inr (8, [.int o_way_size, .int o_way_log, .int o_way_wordBits, .int o_way_limit, .int o_way_radix, .int o_way_order, .int o_way_near, .int o_way_seed, .int o_way_stages, .ref h_o_way_shifts])), (h_o_reader_im, .inl (cI, 32, .inl o_reader_im)), (h_o_reader_re, .inl (cI, 32, .inl o_reader_re)), (h_o_reader_way, .inr (8, [.int o_reader_way_size, .int o_reader_way_log, .int o_reader_way_wordBits, .int o_reader_way_limit, .int o_reader_way_radix, .int o_reader_way_order, .int o_reader_way_near, .int o_reader_way_seed, .int o_reader_way_stages, .ref h_o_reader_way_shifts])), (h_o_ring_powers, .inl (cI, 32, .inl o_ring_powers)), (h_o_turns_cos, .inl (cI, 32, .inl o_turns_cos)), (h_o_turns_sin, .inl (cI, 32, .inl o_turns_sin)), (h_o_wave_im, .inl (cI, 32, .inl o_wave_im)), (h_o_wave_re, .inl (cI, 32, .inl o_wave_re)), (h_o_wave_wasIm, .inl (cI, 32, .inl o_wave_wasIm)), (h_o_wave_wasRe, .inl (cI, 32, .inl o_wave_wasRe)), (h_o_way_shifts, .inl (cI, 5, .inl o_way_shifts)), (h_o_reader_way_shifts, .inl (cI, 5, .inl o_reader_way_shifts))]
def fX9_text (o_imageKept : Int32) (o_taped : Int32) (o_notes_total : Int32) (o_notes_knownBy : Int32) (o_past_held : Int32) (o_reader_fault : Int32) (o_reader_faultPlace : Int32) (o_reader_toldWords : Int32) (o_reader_toldRe : Int32) (o_reader_toldIm : Int32) (o_reader_length : Int32) (o_reader_place : Int32) (o_reader_kind : Int32) (o_reader_start : Int32) (o_reader_number : Int32) (o_ring_size : Int32) (o_ring_log : Int32) (o_tape : Nat → Int32) (o_wave_exp : Int32) (o_wave_done : Int32) (o_wave_backward : Int32) (o_way_size : Int32) (o_way_log : Int32) (o_way_wordBits : Int32) (o_way_limit : Int32) (o_way_radix : Int32) (o_way_order : Int32) (o_way_near : Int32) (o_way_seed : Int32) (o_way_stages : Int32) (o_reader_im : Nat → Int32) (o_reader_re : Nat → Int32) (o_reader_way_size : Int32) (o_reader_way_log : Int32) (o_reader_way_wordBits : Int32) (o_reader_way_limit : Int32) (o_reader_way_radix : Int32) (o_reader_way_order : Int32) (o_reader_way_near : Int32) (o_reader_way_seed : Int32) (o_reader_way_stages : Int32) (o_ring_powers : Nat → Int32) (o_turns_cos : Nat → Int32) (o_turns_sin : Nat → Int32) (o_wave_im : Nat → Int32) (o_wave_re : Nat → Int32) (o_wave_wasIm : Nat → Int32) (o_wave_wasRe : Nat → Int32) (o_way_shifts : Nat → Int32) (o_reader_way_shifts : Nat → Int32) (p1 : Int32) : Option (Int32 × Int32 × Int32 × Int32 × Int32 × Int32 × Int32 × Int32 × Int32 × Int32 × Int32 × Int32 × Int32 × Int32 × Int32 × Int32 × Int32 × Int32 × Int32 × Int32 × Int32 × Int32 × Int32 × Int32 × Int32 × Int32 × Int32 × Int32 × Int32 × Int32 × (Nat → Int32) × (Nat → Int32) × Int32 × Int32 × Int32 × Int32 × Int32 × Int32 × Int32 × Int32 × Int32 × (Nat → Int32) × (Nat → Int32) × (Nat → Int32) × (Nat → Int32) × (Nat → Int32) × (Nat → Int32) × (Nat → Int32) × (Nat → Int32) × (Nat → Int32)) :=
  if p1 < 0 then (
    some ((-2 : Int32), o_imageKept, o_taped, o_notes_total, o_notes_knownBy, o_past_held, o_reader_fault, o_reader_faultPlace, o_reader_toldWords, o_reader_toldRe, o_reader_toldIm, o_reader_length, o_reader_place, o_reader_kind, o_reader_start, o_reader_number, o_ring_size, o_ring_log, o_wave_exp, o_wave_done, o_wave_backward, o_way_size, o_way_log, o_way_wordBits, o_way_limit, o_way_radix, o_way_order, o_way_near, o_way_seed, o_way_stages, o_reader_im, o_reader_re, o_reader_way_size, o_reader_way_log, o_reader_way_wordBits, o_reader_way_limit, o_reader_way_radix, o_reader_way_order, o_reader_way_near, o_reader_way_seed, o_reader_way_stages, o_ring_powers, o_turns_cos, o_turns_sin, o_wave_im, o_wave_re, o_wave_wasIm, o_wave_wasRe, o_way_shifts, o_reader_way_shifts)
  ) else (
    if p1 ≤ o_taped then (
      bd23 (fX4_readAll o_reader_fault o_reader_faultPlace o_reader_toldWords o_reader_toldRe o_reader_toldIm o_reader_length o_reader_place o_reader_kind o_reader_start o_reader_number o_tape o_reader_im o_reader_re o_reader_way_size o_reader_way_log o_reader_way_wordBits o_reader_way_limit o_reader_way_radix o_reader_way_order o_reader_way_near o_reader_way_seed o_reader_way_stages o_reader_way_shifts p1) (fun r_3 o_reader_fault_4 o_reader_faultPlace_5 o_reader_toldWords_6 o_reader_toldRe_7 o_reader_toldIm_8 o_reader_length_9 o_reader_place_10 o_reader_kind_11 o_reader_start_12 o_reader_number_13 o_reader_im_14 o_reader_re_15 o_reader_way_size_16 o_reader_way_log_17 o_reader_way_wordBits_18 o_reader_way_limit_19 o_reader_way_radix_20 o_reader_way_order_21 o_reader_way_near_22 o_reader_way_seed_23 o_reader_way_stages_24 o_reader_way_shifts_25 =>
      if r_3 = (-1 : Int32) then (
        some (r_3, o_imageKept, (0 : Int32), o_notes_total, o_notes_knownBy, o_past_held, o_reader_fault_4, o_reader_faultPlace_5, o_reader_toldWords_6, o_reader_toldRe_7, o_reader_toldIm_8, o_reader_length_9, o_reader_place_10, o_reader_kind_11, o_reader_start_12, o_reader_number_13, o_ring_size, o_ring_log, o_wave_exp, o_wave_done, o_wave_backward, o_way_size, o_way_log, o_way_wordBits, o_way_limit, o_way_radix, o_way_order, o_way_near, o_way_seed, o_way_stages, o_reader_im_14, o_reader_re_15, o_reader_way_size_16, o_reader_way_log_17, o_reader_way_wordBits_18, o_reader_way_limit_19, o_reader_way_radix_20, o_reader_way_order_21, o_reader_way_near_22, o_reader_way_seed_23, o_reader_way_stages_24, o_ring_powers, o_turns_cos, o_turns_sin, o_wave_im, o_wave_re, o_wave_wasIm, o_wave_wasRe, o_way_shifts, o_reader_way_shifts_25)
      ) else (
        bd26 (fX9_takeOver o_imageKept o_notes_total o_notes_knownBy o_past_held o_ring_size o_ring_log o_wave_exp o_wave_done o_wave_backward o_way_size o_way_log o_way_wordBits o_way_limit o_way_radix o_way_order o_way_near o_way_seed o_way_stages o_reader_im_14 o_reader_re_15 o_reader_way_size_16 o_reader_way_log_17 o_reader_way_wordBits_18 o_reader_way_radix_20 o_reader_way_order_21 o_reader_way_near_22 o_reader_way_seed_23 o_ring_powers o_turns_cos o_turns_sin o_wave_im o_wave_re o_wave_wasIm o_wave_wasRe o_way_shifts) (fun o_imageKept_28 o_notes_total_29 o_notes_knownBy_30 o_past_held_31 o_ring_size_32 o_ring_log_33 o_wave_exp_34 o_wave_done_35 o_wave_backward_36 o_way_size_37 o_way_log_38 o_way_wordBits_39 o_way_limit_40 o_way_radix_41 o_way_order_42 o_way_near_43 o_way_seed_44 o_way_stages_45 o_ring_powers_46 o_turns_cos_47 o_turns_sin_48 o_wave_im_49 o_wave_re_50 o_wave_wasIm_51 o_wave_wasRe_52 o_way_shifts_53 =>
        some (r_3, o_imageKept_28, (0 : Int32), o_notes_total_29, o_notes_knownBy_30, o_past_held_31, o_reader_fault_4, o_reader_faultPlace_5, o_reader_toldWords_6, o_reader_toldRe_7, o_reader_toldIm_8, o_reader_length_9, o_reader_place_10, o_reader_kind_11, o_reader_start_12, o_reader_number_13, o_ring_size_32, o_ring_log_33, o_wave_exp_34, o_wave_done_35, o_wave_backward_36, o_way_size_37, o_way_log_38, o_way_wordBits_39, o_way_limit_40, o_way_radix_41, o_way_order_42, o_way_near_43, o_way_seed_44, o_way_stages_45, o_reader_im_14, o_reader_re_15, o_reader_way_size_16, o_reader_way_log_17, o_reader_way_wordBits_18, o_reader_way_limit_19, o_reader_way_radix_20, o_reader_way_order_21, o_reader_way_near_22, o_reader_way_seed_23, o_reader_way_stages_24, o_ring_powers_46, o_turns_cos_47, o_turns_sin_48, o_wave_im_49, o_wave_re_50, o_wave_wasIm_51, o_wave_wasRe_52, o_way_shifts_53, o_reader_way_shifts_25))
      ))
    ) else (
      some ((-2 : Int32), o_imageKept, o_taped, o_notes_total, o_notes_knownBy, o_past_held, o_reader_fault, o_reader_faultPlace, o_reader_toldWords, o_reader_toldRe, o_reader_toldIm, o_reader_length, o_reader_place, o_reader_kind, o_reader_start, o_reader_number, o_ring_size, o_ring_log, o_wave_exp, o_wave_done, o_wave_backward, o_way_size, o_way_log, o_way_wordBits, o_way_limit, o_way_radix, o_way_order, o_way_near, o_way_seed, o_way_stages, o_reader_im, o_reader_re, o_reader_way_size, o_reader_way_log, o_reader_way_wordBits, o_reader_way_limit, o_reader_way_radix, o_reader_way_order, o_reader_way_near, o_reader_way_seed, o_reader_way_stages, o_ring_powers, o_turns_cos, o_turns_sin, o_wave_im, o_wave_re, o_wave_wasIm, o_wave_wasRe, o_way_shifts, o_reader_way_shifts)
    )
  )
set_option maxHeartbeats 4000000 in
set_option maxRecDepth 100000 in
theorem tX9_text (l : Launch) (G : va_G) (cI cJ cZ : ClassId) (sz : Nat) (h_o h_o_notes h_o_past h_o_reader h_o_ring h_o_tape h_o_turns h_o_wave h_o_way h_o_reader_im h_o_reader_re h_o_reader_way h_o_ring_powers h_o_turns_cos h_o_turns_sin h_o_wave_im h_o_wave_re h_o_wave_wasIm h_o_wave_wasRe h_o_way_shifts h_o_reader_way_shifts h_o_beater h_o_dice h_o_trialWay h_o_trial h_o_otherTrial h_o_sumsRe h_o_sumsIm h_o_tally h_o_image h_o_notes_kinds h_o_notes_targets h_o_notes_bins h_o_past_cells h_o_wave_halved : Nat) (o_imageKept : Int32) (o_taped : Int32) (o_notes_total : Int32) (o_notes_knownBy : Int32) (o_past_next : Int32) (o_past_held : Int32) (o_reader_fault : Int32) (o_reader_faultPlace : Int32) (o_reader_toldWords : Int32) (o_reader_toldRe : Int32) (o_reader_toldIm : Int32) (o_reader_length : Int32) (o_reader_place : Int32) (o_reader_kind : Int32) (o_reader_start : Int32) (o_reader_number : Int32) (o_ring_size : Int32) (o_ring_log : Int32) (o_tape : Nat → Int32) (o_wave_exp : Int32) (o_wave_done : Int32) (o_wave_backward : Int32) (o_way_size : Int32) (o_way_log : Int32) (o_way_wordBits : Int32) (o_way_limit : Int32) (o_way_radix : Int32) (o_way_order : Int32) (o_way_near : Int32) (o_way_seed : Int32) (o_way_stages : Int32) (o_reader_im : Nat → Int32) (o_reader_re : Nat → Int32) (o_reader_way_size : Int32) (o_reader_way_log : Int32) (o_reader_way_wordBits : Int32) (o_reader_way_limit : Int32) (o_reader_way_radix : Int32) (o_reader_way_order : Int32) (o_reader_way_near : Int32) (o_reader_way_seed : Int32) (o_reader_way_stages : Int32) (o_ring_powers : Nat → Int32) (o_turns_cos : Nat → Int32) (o_turns_sin : Nat → Int32) (o_wave_im : Nat → Int32) (o_wave_re : Nat → Int32) (o_wave_wasIm : Nat → Int32) (o_wave_wasRe : Nat → Int32) (o_way_shifts : Nat → Int32) (o_reader_way_shifts : Nat → Int32) (p1 : Int32) (r : Int32) (out_o_imageKept : Int32) (out_o_taped : Int32) (out_o_notes_total : Int32) (out_o_notes_knownBy : Int32) (out_o_past_held : Int32) (out_o_reader_fault : Int32) (out_o_reader_faultPlace : Int32) (out_o_reader_toldWords : Int32) (out_o_reader_toldRe : Int32) (out_o_reader_toldIm : Int32) (out_o_reader_length : Int32) (out_o_reader_place : Int32) (out_o_reader_kind : Int32) (out_o_reader_start : Int32) (out_o_reader_number : Int32) (out_o_ring_size : Int32) (out_o_ring_log : Int32) (out_o_wave_exp : Int32) (out_o_wave_done : Int32) (out_o_wave_backward : Int32) (out_o_way_size : Int32) (out_o_way_log : Int32) (out_o_way_wordBits : Int32) (out_o_way_limit : Int32) (out_o_way_radix : Int32) (out_o_way_order : Int32) (out_o_way_near : Int32) (out_o_way_seed : Int32) (out_o_way_stages : Int32) (out_o_reader_im : Nat → Int32) (out_o_reader_re : Nat → Int32) (out_o_reader_way_size : Int32) (out_o_reader_way_log : Int32) (out_o_reader_way_wordBits : Int32) (out_o_reader_way_limit : Int32) (out_o_reader_way_radix : Int32) (out_o_reader_way_order : Int32) (out_o_reader_way_near : Int32) (out_o_reader_way_seed : Int32) (out_o_reader_way_stages : Int32) (out_o_ring_powers : Nat → Int32) (out_o_turns_cos : Nat → Int32) (out_o_turns_sin : Nat → Int32) (out_o_wave_im : Nat → Int32) (out_o_wave_re : Nat → Int32) (out_o_wave_wasIm : Nat → Int32) (out_o_wave_wasRe : Nat → Int32) (out_o_way_shifts : Nat → Int32) (out_o_reader_way_shifts : Nat → Int32) (hf : fX9_text o_imageKept o_taped o_notes_total o_notes_knownBy o_past_held o_reader_fault o_reader_faultPlace o_reader_toldWords o_reader_toldRe o_reader_toldIm o_reader_length o_reader_place o_reader_kind o_reader_start o_reader_number o_ring_size o_ring_log o_tape o_wave_exp o_wave_done o_wave_backward o_way_size o_way_log o_way_wordBits o_way_limit o_way_radix o_way_order o_way_near o_way_seed o_way_stages o_reader_im o_reader_re o_reader_way_size o_reader_way_log o_reader_way_wordBits o_reader_way_limit o_reader_way_radix o_reader_way_order o_reader_way_near o_reader_way_seed o_reader_way_stages o_ring_powers o_turns_cos o_turns_sin o_wave_im o_wave_re o_wave_wasIm o_wave_wasRe o_way_shifts o_reader_way_shifts p1 = some (r, out_o_imageKept, out_o_taped, out_o_notes_total, out_o_notes_knownBy, out_o_past_held, out_o_reader_fault, out_o_reader_faultPlace, out_o_reader_toldWords, out_o_reader_toldRe, out_o_reader_toldIm, out_o_reader_length, out_o_reader_place, out_o_reader_kind, out_o_reader_start, out_o_reader_number, out_o_ring_size, out_o_ring_log, out_o_wave_exp, out_o_wave_done, out_o_wave_backward, out_o_way_size, out_o_way_log, out_o_way_wordBits, out_o_way_limit, out_o_way_radix, out_o_way_order, out_o_way_near, out_o_way_seed, out_o_way_stages, out_o_reader_im, out_o_reader_re, out_o_reader_way_size, out_o_reader_way_log, out_o_reader_way_wordBits, out_o_reader_way_limit, out_o_reader_way_radix, out_o_reader_way_order, out_o_reader_way_near, out_o_reader_way_seed, out_o_reader_way_stages, out_o_ring_powers, out_o_turns_cos, out_o_turns_sin, out_o_wave_im, out_o_wave_re, out_o_wave_wasIm, out_o_wave_wasRe, out_o_way_shifts, out_o_reader_way_shifts)) : Met l yX9_text (Cond.code yX9_text cX9_text 3 (some .int) :: BIG) ({ frames := 8, cells := 0, slots := 0, locals := 178 } : Room) (cPX SX G (TY3 cI cJ cZ) [.ref h_o, .int p1] sz (wX9_text cI cJ cZ h_o h_o_notes h_o_past h_o_reader h_o_ring h_o_tape h_o_turns h_o_wave h_o_way h_o_reader_im h_o_reader_re h_o_reader_way h_o_ring_powers h_o_turns_cos h_o_turns_sin h_o_wave_im h_o_wave_re h_o_wave_wasIm h_o_wave_wasRe h_o_way_shifts h_o_reader_way_shifts h_o_beater h_o_dice h_o_trialWay h_o_trial h_o_otherTrial h_o_sumsRe h_o_sumsIm h_o_tally h_o_image h_o_notes_kinds h_o_notes_targets h_o_notes_bins h_o_past_cells h_o_wave_halved o_imageKept o_taped o_notes_total o_notes_knownBy o_past_next o_past_held o_reader_fault o_reader_faultPlace o_reader_toldWords o_reader_toldRe o_reader_toldIm o_reader_length o_reader_place o_reader_kind o_reader_start o_reader_number o_ring_size o_ring_log o_tape o_wave_exp o_wave_done o_wave_backward o_way_size o_way_log o_way_wordBits o_way_limit o_way_radix o_way_order o_way_near o_way_seed o_way_stages o_reader_im o_reader_re o_reader_way_size o_reader_way_log o_reader_way_wordBits o_reader_way_limit o_reader_way_radix o_reader_way_order o_reader_way_near o_reader_way_seed o_reader_way_stages o_ring_powers o_turns_cos o_turns_sin o_wave_im o_wave_re o_wave_wasIm o_wave_wasRe o_way_shifts o_reader_way_shifts)) (cQ G (TY3 cI cJ cZ) sz (wX9_text cI cJ cZ h_o h_o_notes h_o_past h_o_reader h_o_ring h_o_tape h_o_turns h_o_wave h_o_way h_o_reader_im h_o_reader_re h_o_reader_way h_o_ring_powers h_o_turns_cos h_o_turns_sin h_o_wave_im h_o_wave_re h_o_wave_wasIm h_o_wave_wasRe h_o_way_shifts h_o_reader_way_shifts h_o_beater h_o_dice h_o_trialWay h_o_trial h_o_otherTrial h_o_sumsRe h_o_sumsIm h_o_tally h_o_image h_o_notes_kinds h_o_notes_targets h_o_notes_bins h_o_past_cells h_o_wave_halved o_imageKept o_taped o_notes_total o_notes_knownBy o_past_next o_past_held o_reader_fault o_reader_faultPlace o_reader_toldWords o_reader_toldRe o_reader_toldIm o_reader_length o_reader_place o_reader_kind o_reader_start o_reader_number o_ring_size o_ring_log o_tape o_wave_exp o_wave_done o_wave_backward o_way_size o_way_log o_way_wordBits o_way_limit o_way_radix o_way_order o_way_near o_way_seed o_way_stages o_reader_im o_reader_re o_reader_way_size o_reader_way_log o_reader_way_wordBits o_reader_way_limit o_reader_way_radix o_reader_way_order o_reader_way_near o_reader_way_seed o_reader_way_stages o_ring_powers o_turns_cos o_turns_sin o_wave_im o_wave_re o_wave_wasIm o_wave_wasRe o_way_shifts o_reader_way_shifts) (wX9_text cI cJ cZ h_o h_o_notes h_o_past h_o_reader h_o_ring h_o_tape h_o_turns h_o_wave h_o_way h_o_reader_im h_o_reader_re h_o_reader_way h_o_ring_powers h_o_turns_cos h_o_turns_sin h_o_wave_im h_o_wave_re h_o_wave_wasIm h_o_wave_wasRe h_o_way_shifts h_o_reader_way_shifts h_o_beater h_o_dice h_o_trialWay h_o_trial h_o_otherTrial h_o_sumsRe h_o_sumsIm h_o_tally h_o_image h_o_notes_kinds h_o_notes_targets h_o_notes_bins h_o_past_cells h_o_wave_halved out_o_imageKept out_o_taped out_o_notes_total out_o_notes_knownBy o_past_next out_o_past_held out_o_reader_fault out_o_reader_faultPlace out_o_reader_toldWords out_o_reader_toldRe out_o_reader_toldIm out_o_reader_length out_o_reader_place out_o_reader_kind out_o_reader_start out_o_reader_number out_o_ring_size out_o_ring_log o_tape out_o_wave_exp out_o_wave_done out_o_wave_backward out_o_way_size out_o_way_log out_o_way_wordBits out_o_way_limit out_o_way_radix out_o_way_order out_o_way_near out_o_way_seed out_o_way_stages out_o_reader_im out_o_reader_re out_o_reader_way_size out_o_reader_way_log out_o_reader_way_wordBits out_o_reader_way_limit out_o_reader_way_radix out_o_reader_way_order out_o_reader_way_near out_o_reader_way_seed out_o_reader_way_stages out_o_ring_powers out_o_turns_cos out_o_turns_sin out_o_wave_im out_o_wave_re out_o_wave_wasIm out_o_wave_wasRe out_o_way_shifts out_o_reader_way_shifts) (some (.int r))) 0 0 (va_A (wX9_text cI cJ cZ h_o h_o_notes h_o_past h_o_reader h_o_ring h_o_tape h_o_turns h_o_wave h_o_way h_o_reader_im h_o_reader_re h_o_reader_way h_o_ring_powers h_o_turns_cos h_o_turns_sin h_o_wave_im h_o_wave_re h_o_wave_wasIm h_o_wave_wasRe h_o_way_shifts h_o_reader_way_shifts h_o_beater h_o_dice h_o_trialWay h_o_trial h_o_otherTrial h_o_sumsRe h_o_sumsIm h_o_tally h_o_image h_o_notes_kinds h_o_notes_targets h_o_notes_bins h_o_past_cells h_o_wave_halved o_imageKept o_taped o_notes_total o_notes_knownBy o_past_next o_past_held o_reader_fault o_reader_faultPlace o_reader_toldWords o_reader_toldRe o_reader_toldIm o_reader_length o_reader_place o_reader_kind o_reader_start o_reader_number o_ring_size o_ring_log o_tape o_wave_exp o_wave_done o_wave_backward o_way_size o_way_log o_way_wordBits o_way_limit o_way_radix o_way_order o_way_near o_way_seed o_way_stages o_reader_im o_reader_re o_reader_way_size o_reader_way_log o_reader_way_wordBits o_reader_way_limit o_reader_way_radix o_reader_way_order o_reader_way_near o_reader_way_seed o_reader_way_stages o_ring_powers o_turns_cos o_turns_sin o_wave_im o_wave_re o_wave_wasIm o_wave_wasRe o_way_shifts o_reader_way_shifts) sz) := by
  refine met_iX (cc := cX9_text) (maxL := 3) (plainFor_of_name (by decide)) (Nat.le_of_ble_eq_true rfl) (fun p e s m below meth c A ls Q hx hb hml hts hown hK hP hD hS hA hX hl hret => ?_)
  obtain ⟨⟨tQ, hQ⟩, ⟨tR, hR⟩, sa, sv, hW⟩ := id hX
  have hownS : s.vm.findClass "BlockWave" = some m.cls := hown
  have hown : s.vm.findClass RX9 = some m.cls := hown
  have hl : lv_has ls 3 [(0, .ref h_o), (1, .int p1)] := hl
  unfold fX9_text at hf
  obtain ⟨H, eH⟩ : ∃ H, H = s.heap := ⟨_, rfl⟩
  obtain ⟨locs, elocs⟩ : ∃ z : List Loc, z = [] := ⟨_, rfl⟩
  have hP : va_P G vwCl (wX9_text cI cJ cZ h_o h_o_notes h_o_past h_o_reader h_o_ring h_o_tape h_o_turns h_o_wave h_o_way h_o_reader_im h_o_reader_re h_o_reader_way h_o_ring_powers h_o_turns_cos h_o_turns_sin h_o_wave_im h_o_wave_re h_o_wave_wasIm h_o_wave_wasRe h_o_way_shifts h_o_reader_way_shifts h_o_beater h_o_dice h_o_trialWay h_o_trial h_o_otherTrial h_o_sumsRe h_o_sumsIm h_o_tally h_o_image h_o_notes_kinds h_o_notes_targets h_o_notes_bins h_o_past_cells h_o_wave_halved o_imageKept o_taped o_notes_total o_notes_knownBy o_past_next o_past_held o_reader_fault o_reader_faultPlace o_reader_toldWords o_reader_toldRe o_reader_toldIm o_reader_length o_reader_place o_reader_kind o_reader_start o_reader_number o_ring_size o_ring_log o_tape o_wave_exp o_wave_done o_wave_backward o_way_size o_way_log o_way_wordBits o_way_limit o_way_radix o_way_order o_way_near o_way_seed o_way_stages o_reader_im o_reader_re o_reader_way_size o_reader_way_log o_reader_way_wordBits o_reader_way_limit o_reader_way_radix o_reader_way_order o_reader_way_near o_reader_way_seed o_reader_way_stages o_ring_powers o_turns_cos o_turns_sin o_wave_im o_wave_re o_wave_wasIm o_wave_wasRe o_way_shifts o_reader_way_shifts) H := by rw [eH]; exact hP
  have hS : va_S A s.heap H locs := by rw [eH, elocs]; exact hS
  suffices hgo : W p l e ({ frames := 8, cells := 0, slots := 0, locals := 178 } : Room) s m ([.ref h_o, .int p1] : List Value).toArray below meth c H locs 0 0 Q (F0 m 0 ls []) by rw [eH, elocs] at hgo; exact hgo
  clear eH elocs
  refine lv_iload_n hx hb dX9_text_0 rfl (lv_at hl 1 rfl) ?_
  refine lv_if_lt (tgt := 12) hx hb dX9_text_1 (by decide) (fun c_1 => ?_) (fun c_1 => ?_)
  · have hf := it_t c_1 hf
    refine lv_bipush (v := (-2 : Int32)) hx hb dX9_text_12 (by decide) ?_
    cases hf
    exact hret _ _ _ _ dX9_text_14 hP hD hS
  · have hf := it_f c_1 hf
    refine lv_iload_n hx hb dX9_text_4 rfl (lv_at hl 1 rfl) ?_
    refine lv_aload_n hx hb dX9_text_5 rfl (lv_at hl 0 rfl) ?_
    refine rd (ci := 9) (C := RX9) (T := TX9) (N := 19) hx hb hts inX9 hown hK hP 0 18 rfl rfl (by decide) (hts _ q_fX9_104) rfl dX9_text_6 ?_
    refine lv_icmp_le (tgt := 15) hx hb dX9_text_9 (by decide) (fun c_2 => ?_) (fun c_2 => ?_)
    · have hf := it_t c_2 hf
      refine lv_aload_n hx hb dX9_text_15 rfl (lv_at hl 0 rfl) ?_
      refine rd (ci := 9) (C := RX9) (T := TX9) (N := 19) hx hb hts inX9 hown hK hP 0 7 rfl rfl (by decide) (hts _ q_fX9_63) rfl dX9_text_16 ?_
      refine lv_aload_n hx hb dX9_text_19 rfl (lv_at hl 0 rfl) ?_
      refine rd (ci := 9) (C := RX9) (T := TX9) (N := 19) hx hb hts inX9 hown hK hP 0 17 rfl rfl (by decide) (hts _ q_fX9_101) rfl dX9_text_20 ?_
      refine lv_iload_n hx hb dX9_text_23 rfl (lv_at hl 1 rfl) ?_
      obtain ⟨r_3, o_reader_fault_4, o_reader_faultPlace_5, o_reader_toldWords_6, o_reader_toldRe_7, o_reader_toldIm_8, o_reader_length_9, o_reader_place_10, o_reader_kind_11, o_reader_start_12, o_reader_number_13, o_reader_im_14, o_reader_re_15, o_reader_way_size_16, o_reader_way_log_17, o_reader_way_wordBits_18, o_reader_way_limit_19, o_reader_way_radix_20, o_reader_way_order_21, o_reader_way_near_22, o_reader_way_seed_23, o_reader_way_stages_24, o_reader_way_shifts_25, e_26, hf⟩ := bd23_x hf
      refine call_vX SX_c hX [.ref h_o_tape, .int p1] [] ⟨hx, hb, hml, hown, hts⟩ hK hP hD hS hA hl.1 (tX4_readAll l G cI cJ cZ H.size h_o_reader h_o_tape h_o_reader_im h_o_reader_re h_o_reader_way h_o_reader_way_shifts o_reader_fault o_reader_faultPlace o_reader_toldWords o_reader_toldRe o_reader_toldIm o_reader_length o_reader_place o_reader_kind o_reader_start o_reader_number o_tape o_reader_im o_reader_re o_reader_way_size o_reader_way_log o_reader_way_wordBits o_reader_way_limit o_reader_way_radix o_reader_way_order o_reader_way_near o_reader_way_seed o_reader_way_stages o_reader_way_shifts p1 r_3 o_reader_fault_4 o_reader_faultPlace_5 o_reader_toldWords_6 o_reader_toldRe_7 o_reader_toldIm_8 o_reader_length_9 o_reader_place_10 o_reader_kind_11 o_reader_start_12 o_reader_number_13 o_reader_im_14 o_reader_re_15 o_reader_way_size_16 o_reader_way_log_17 o_reader_way_wordBits_18 o_reader_way_limit_19 o_reader_way_radix_20 o_reader_way_order_21 o_reader_way_near_22 o_reader_way_seed_23 o_reader_way_stages_24 o_reader_way_shifts_25 e_26) (cwV 2 hts (gv q_mX9_124 q_i_yX4_readAll q_s_yX4_readAll q_n_RX4 q_k_yX4_readAll) rfl rfl rfl (by decide +kernel) ⟨by decide, by decide⟩) rfl rfl (Nat.le_of_ble_eq_true rfl) dX9_text_24 ⟨Nat.zero_le _, Nat.zero_le _⟩ (va_recv hK hP (ci := 4) (q0 := 3) rfl rfl) [3, 5, 9, 10, 11, 20] [0, 1, 2, 4, 6, 7, 8, 12, 13, 14, 15, 16, 17, 18, 19] [0, 1, 2, 15, 3, 16, 4, 5, 6, 17, 18, 19, 7, 8, 9, 10, 11, 12, 13, 14, 20] rfl rfl (ws2 := (wX9_text cI cJ cZ h_o h_o_notes h_o_past h_o_reader h_o_ring h_o_tape h_o_turns h_o_wave h_o_way h_o_reader_im h_o_reader_re h_o_reader_way h_o_ring_powers h_o_turns_cos h_o_turns_sin h_o_wave_im h_o_wave_re h_o_wave_wasIm h_o_wave_wasRe h_o_way_shifts h_o_reader_way_shifts h_o_beater h_o_dice h_o_trialWay h_o_trial h_o_otherTrial h_o_sumsRe h_o_sumsIm h_o_tally h_o_image h_o_notes_kinds h_o_notes_targets h_o_notes_bins h_o_past_cells h_o_wave_halved o_imageKept o_taped o_notes_total o_notes_knownBy o_past_next o_past_held o_reader_fault_4 o_reader_faultPlace_5 o_reader_toldWords_6 o_reader_toldRe_7 o_reader_toldIm_8 o_reader_length_9 o_reader_place_10 o_reader_kind_11 o_reader_start_12 o_reader_number_13 o_ring_size o_ring_log o_tape o_wave_exp o_wave_done o_wave_backward o_way_size o_way_log o_way_wordBits o_way_limit o_way_radix o_way_order o_way_near o_way_seed o_way_stages o_reader_im_14 o_reader_re_15 o_reader_way_size_16 o_reader_way_log_17 o_reader_way_wordBits_18 o_reader_way_limit_19 o_reader_way_radix_20 o_reader_way_order_21 o_reader_way_near_22 o_reader_way_seed_23 o_reader_way_stages_24 o_ring_powers o_turns_cos o_turns_sin o_wave_im o_wave_re o_wave_wasIm o_wave_wasRe o_way_shifts o_reader_way_shifts_25)) rfl (fun H locs hP hD hS => ?_)
      refine W.eq (g2 := F0 m 27 ls [.int r_3]) rfl ?_
      refine lv_istore_n (lv' := [(2, .int r_3), (0, .ref h_o), (1, .int p1)]) hx hb dX9_text_27 rfl hl (by decide) rfl (fun ls hl => ?_)
      refine lv_aload_n hx hb dX9_text_28 rfl (lv_at hl 1 rfl) ?_
      refine lv_iconst (v := (0 : Int32)) hx hb dX9_text_29 (by decide) ?_
      refine wr (ci := 9) (C := RX9) (T := TX9) (N := 19) hx hb hts inX9 tyX9 tyX9_ok nmX9 hown hK hP hD hS 0 18 rfl rfl (by decide) (hts _ q_fX9_104) rfl rfl rfl (Nat.le_of_ble_eq_true rfl) dX9_text_30 (ws2 := (wX9_text cI cJ cZ h_o h_o_notes h_o_past h_o_reader h_o_ring h_o_tape h_o_turns h_o_wave h_o_way h_o_reader_im h_o_reader_re h_o_reader_way h_o_ring_powers h_o_turns_cos h_o_turns_sin h_o_wave_im h_o_wave_re h_o_wave_wasIm h_o_wave_wasRe h_o_way_shifts h_o_reader_way_shifts h_o_beater h_o_dice h_o_trialWay h_o_trial h_o_otherTrial h_o_sumsRe h_o_sumsIm h_o_tally h_o_image h_o_notes_kinds h_o_notes_targets h_o_notes_bins h_o_past_cells h_o_wave_halved o_imageKept (0 : Int32) o_notes_total o_notes_knownBy o_past_next o_past_held o_reader_fault_4 o_reader_faultPlace_5 o_reader_toldWords_6 o_reader_toldRe_7 o_reader_toldIm_8 o_reader_length_9 o_reader_place_10 o_reader_kind_11 o_reader_start_12 o_reader_number_13 o_ring_size o_ring_log o_tape o_wave_exp o_wave_done o_wave_backward o_way_size o_way_log o_way_wordBits o_way_limit o_way_radix o_way_order o_way_near o_way_seed o_way_stages o_reader_im_14 o_reader_re_15 o_reader_way_size_16 o_reader_way_log_17 o_reader_way_wordBits_18 o_reader_way_limit_19 o_reader_way_radix_20 o_reader_way_order_21 o_reader_way_near_22 o_reader_way_seed_23 o_reader_way_stages_24 o_ring_powers o_turns_cos o_turns_sin o_wave_im o_wave_re o_wave_wasIm o_wave_wasRe o_way_shifts o_reader_way_shifts_25)) rfl (fun H locs hP hD hS => ?_)
      refine lv_iload_n hx hb dX9_text_33 rfl (lv_at hl 0 rfl) ?_
      refine lv_iconst (v := (-1 : Int32)) hx hb dX9_text_34 (by decide) ?_
      refine lv_icmp_eq (tgt := 42) hx hb dX9_text_35 (by decide) (fun c_27 => ?_) (fun c_27 => ?_)
      · have hf := it_t c_27 hf
        refine lv_iload_n hx hb dX9_text_42 rfl (lv_at hl 0 rfl) ?_
        cases hf
        exact hret _ _ _ _ dX9_text_43 hP hD hS
      · have hf := it_f c_27 hf
        refine lv_aload_n hx hb dX9_text_38 rfl (lv_at hl 1 rfl) ?_
        obtain ⟨o_imageKept_28, o_notes_total_29, o_notes_knownBy_30, o_past_held_31, o_ring_size_32, o_ring_log_33, o_wave_exp_34, o_wave_done_35, o_wave_backward_36, o_way_size_37, o_way_log_38, o_way_wordBits_39, o_way_limit_40, o_way_radix_41, o_way_order_42, o_way_near_43, o_way_seed_44, o_way_stages_45, o_ring_powers_46, o_turns_cos_47, o_turns_sin_48, o_wave_im_49, o_wave_re_50, o_wave_wasIm_51, o_wave_wasRe_52, o_way_shifts_53, e_54, hf⟩ := bd26_x hf
        refine call_vX SX_c hX [] [] ⟨hx, hb, hml, hown, hts⟩ hK hP hD hS hA hl.1 (tX9_takeOver l G cI cJ cZ H.size h_o h_o_notes h_o_past h_o_reader h_o_ring h_o_turns h_o_wave h_o_way h_o_reader_im h_o_reader_re h_o_reader_way h_o_ring_powers h_o_turns_cos h_o_turns_sin h_o_wave_im h_o_wave_re h_o_wave_wasIm h_o_wave_wasRe h_o_way_shifts h_o_beater h_o_dice h_o_trialWay h_o_trial h_o_otherTrial h_o_sumsRe h_o_sumsIm h_o_tally h_o_image h_o_tape h_o_notes_kinds h_o_notes_targets h_o_notes_bins h_o_past_cells h_o_wave_halved h_o_reader_way_shifts o_imageKept (0 : Int32) o_notes_total o_notes_knownBy o_past_next o_past_held o_reader_fault_4 o_reader_faultPlace_5 o_reader_toldWords_6 o_reader_toldRe_7 o_reader_toldIm_8 o_reader_length_9 o_reader_place_10 o_reader_kind_11 o_reader_start_12 o_reader_number_13 o_ring_size o_ring_log o_wave_exp o_wave_done o_wave_backward o_way_size o_way_log o_way_wordBits o_way_limit o_way_radix o_way_order o_way_near o_way_seed o_way_stages o_reader_im_14 o_reader_re_15 o_reader_way_size_16 o_reader_way_log_17 o_reader_way_wordBits_18 o_reader_way_limit_19 o_reader_way_radix_20 o_reader_way_order_21 o_reader_way_near_22 o_reader_way_seed_23 o_reader_way_stages_24 o_ring_powers o_turns_cos o_turns_sin o_wave_im o_wave_re o_wave_wasIm o_wave_wasRe o_way_shifts o_imageKept_28 o_notes_total_29 o_notes_knownBy_30 o_past_held_31 o_ring_size_32 o_ring_log_33 o_wave_exp_34 o_wave_done_35 o_wave_backward_36 o_way_size_37 o_way_log_38 o_way_wordBits_39 o_way_limit_40 o_way_radix_41 o_way_order_42 o_way_near_43 o_way_seed_44 o_way_stages_45 o_ring_powers_46 o_turns_cos_47 o_turns_sin_48 o_wave_im_49 o_wave_re_50 o_wave_wasIm_51 o_wave_wasRe_52 o_way_shifts_53 e_54) (cwV 0 hts (gv q_mX9_128 q_i_yX9_takeOver q_s_yX9_takeOver q_n_RX9 q_k_yX9_takeOver) rfl rfl rfl (by decide +kernel) ⟨by decide, by decide⟩) rfl rfl (Nat.le_of_ble_eq_true rfl) dX9_text_39 ⟨Nat.zero_le _, Nat.zero_le _⟩ (va_recv hK hP (ci := 9) (q0 := 0) rfl rfl) [0, 1, 2, 3, 4, 6, 7, 8, 9, 10, 11, 12, 13, 14, 15, 16, 17, 18, 19] [5, 20] [2, 3, 4, 5, 6, 0, 7, 8, 9, 10, 11, 12, 13, 14, 15, 16, 17, 18, 19, 20, 1] rfl rfl (ws2 := (wX9_text cI cJ cZ h_o h_o_notes h_o_past h_o_reader h_o_ring h_o_tape h_o_turns h_o_wave h_o_way h_o_reader_im h_o_reader_re h_o_reader_way h_o_ring_powers h_o_turns_cos h_o_turns_sin h_o_wave_im h_o_wave_re h_o_wave_wasIm h_o_wave_wasRe h_o_way_shifts h_o_reader_way_shifts h_o_beater h_o_dice h_o_trialWay h_o_trial h_o_otherTrial h_o_sumsRe h_o_sumsIm h_o_tally h_o_image h_o_notes_kinds h_o_notes_targets h_o_notes_bins h_o_past_cells h_o_wave_halved o_imageKept_28 (0 : Int32) o_notes_total_29 o_notes_knownBy_30 o_past_next o_past_held_31 o_reader_fault_4 o_reader_faultPlace_5 o_reader_toldWords_6 o_reader_toldRe_7 o_reader_toldIm_8 o_reader_length_9 o_reader_place_10 o_reader_kind_11 o_reader_start_12 o_reader_number_13 o_ring_size_32 o_ring_log_33 o_tape o_wave_exp_34 o_wave_done_35 o_wave_backward_36 o_way_size_37 o_way_log_38 o_way_wordBits_39 o_way_limit_40 o_way_radix_41 o_way_order_42 o_way_near_43 o_way_seed_44 o_way_stages_45 o_reader_im_14 o_reader_re_15 o_reader_way_size_16 o_reader_way_log_17 o_reader_way_wordBits_18 o_reader_way_limit_19 o_reader_way_radix_20 o_reader_way_order_21 o_reader_way_near_22 o_reader_way_seed_23 o_reader_way_stages_24 o_ring_powers_46 o_turns_cos_47 o_turns_sin_48 o_wave_im_49 o_wave_re_50 o_wave_wasIm_51 o_wave_wasRe_52 o_way_shifts_53 o_reader_way_shifts_25)) rfl (fun H locs hP hD hS => ?_)
        refine W.eq (g2 := F0 m 42 ls []) rfl ?_
        refine lv_iload_n hx hb dX9_text_42 rfl (lv_at hl 0 rfl) ?_
        cases hf
        exact hret _ _ _ _ dX9_text_43 hP hD hS
    · have hf := it_f c_2 hf
      refine lv_bipush (v := (-2 : Int32)) hx hb dX9_text_12 (by decide) ?_
      cases hf
      exact hret _ _ _ _ dX9_text_14 hP hD hS
