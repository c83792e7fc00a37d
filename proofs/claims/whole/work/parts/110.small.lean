def wJ9_floorMod_7cf53 (cI cJ cZ : ClassId) : va_W := []
def fJ9_floorMod_7cf53 (p1 : Int32) (p2 : Int32) : Option (Int32) :=
  gd (nz p2) (
  nm (p1 - p1 / p2 * p2) (fun v2_2 =>
  if 0 ≤ (p1 ^^^ p2) then (
    some v2_2
  ) else (
    if v2_2 = 0 then (
      some v2_2
    ) else (
      some (v2_2 + p2)
    )
  )))
set_option maxHeartbeats 4000000 in
set_option maxRecDepth 100000 in
theorem tJ9_floorMod_7cf53 (l : Launch) (G : va_G) (cI cJ cZ : ClassId) (sz : Nat) (p1 : Int32) (p2 : Int32) (r : Int32) (hf : fJ9_floorMod_7cf53 p1 p2 = some r) : Met l yJ9_floorMod_7cf53 (Cond.code yJ9_floorMod_7cf53 cJ9_floorMod_7cf53 3 (some .int) :: BIG) ({ frames := 0, cells := 0, slots := 0, locals := 0 } : Room) (cP G (TY3 cI cJ cZ) [.int p1, .int p2] sz (wJ9_floorMod_7cf53 cI cJ cZ)) (cQ G (TY3 cI cJ cZ) sz (wJ9_floorMod_7cf53 cI cJ cZ) (wJ9_floorMod_7cf53 cI cJ cZ) (some (.int r))) 0 0 (va_A (wJ9_floorMod_7cf53 cI cJ cZ) sz) := by
  refine met_i (cc := cJ9_floorMod_7cf53) (maxL := 3) (by decide +kernel) (Nat.le_of_ble_eq_true rfl) (fun p e s m below meth c A ls Q hx hb hml hts hown hK hP hD hS hA hl hret => ?_)
  have hown : s.vm.findClass RJ9 = some m.cls := hown
  have hl : lv_has ls 3 [(0, .int p1), (1, .int p2)] := hl
  unfold fJ9_floorMod_7cf53 at hf
  obtain ⟨H, eH⟩ : ∃ H, H = s.heap := ⟨_, rfl⟩
  obtain ⟨locs, elocs⟩ : ∃ z : List Loc, z = [] := ⟨_, rfl⟩
  have hP : va_P G vwCl (wJ9_floorMod_7cf53 cI cJ cZ) H := by rw [eH]; exact hP
  have hS : va_S A s.heap H locs := by rw [eH, elocs]; exact hS
  suffices hgo : W p l e ({ frames := 0, cells := 0, slots := 0, locals := 0 } : Room) s m ([.int p1, .int p2] : List Value).toArray below meth c H locs 0 0 Q (F0 m 0 ls []) by rw [eH, elocs] at hgo; exact hgo
  clear eH elocs
  refine lv_iload_n hx hb dJ9_floorMod_7cf53_0 rfl (lv_at hl 0 rfl) ?_
  refine lv_iload_n hx hb dJ9_floorMod_7cf53_1 rfl (lv_at hl 1 rfl) ?_
  obtain ⟨g_1, hf⟩ := gd_x hf
  refine lv_irem hx hb dJ9_floorMod_7cf53_2 (nz_x g_1) ?_
  refine lv_topi (fun v2_2 ev2_2 => ?_)
  have hf := nm_x ev2_2 hf
  refine lv_istore_n (lv' := [(2, .int v2_2), (0, .int p1), (1, .int p2)]) hx hb dJ9_floorMod_7cf53_3 rfl hl (by decide) rfl (fun ls hl => ?_)
  refine lv_iload_n hx hb dJ9_floorMod_7cf53_4 rfl (lv_at hl 1 rfl) ?_
  refine lv_iload_n hx hb dJ9_floorMod_7cf53_5 rfl (lv_at hl 2 rfl) ?_
  refine lv_ixor hx hb dJ9_floorMod_7cf53_6 ?_
  refine lv_if_ge (tgt := 18) hx hb dJ9_floorMod_7cf53_7 (by decide) (fun c_3 => ?_) (fun c_3 => ?_)
  · have hf := it_t c_3 hf
    refine lv_iload_n hx hb dJ9_floorMod_7cf53_18 rfl (lv_at hl 0 rfl) ?_
    cases hf
    exact hret _ _ _ _ dJ9_floorMod_7cf53_19 hP hD hS
  · have hf := it_f c_3 hf
    refine lv_iload_n hx hb dJ9_floorMod_7cf53_10 rfl (lv_at hl 0 rfl) ?_
    refine lv_if_eq (tgt := 18) hx hb dJ9_floorMod_7cf53_11 (by decide) (fun c_4 => ?_) (fun c_4 => ?_)
    · have hf := it_t c_4 hf
      refine lv_iload_n hx hb dJ9_floorMod_7cf53_18 rfl (lv_at hl 0 rfl) ?_
      cases hf
      exact hret _ _ _ _ dJ9_floorMod_7cf53_19 hP hD hS
    · have hf := it_f c_4 hf
      refine lv_iload_n hx hb dJ9_floorMod_7cf53_14 rfl (lv_at hl 0 rfl) ?_
      refine lv_iload_n hx hb dJ9_floorMod_7cf53_15 rfl (lv_at hl 2 rfl) ?_
      refine lv_iadd hx hb dJ9_floorMod_7cf53_16 ?_
      cases hf
      exact hret _ _ _ _ dJ9_floorMod_7cf53_17 hP hD hS
def wJ9_floorMod_f86c9 (cI cJ cZ : ClassId) : va_W := []
def fJ9_floorMod_f86c9 (p1 : Int64) (p2 : Int64) : Option (Int64) :=
  gd (nzl p2) (
  nm (p1 - p1 / p2 * p2) (fun v4_2 =>
  if (0 : Int64) ≤ (p1 ^^^ p2) then (
    some v4_2
  ) else (
    if v4_2 = (0 : Int64) then (
      some v4_2
    ) else (
      some (v4_2 + p2)
    )
  )))
set_option maxHeartbeats 4000000 in
set_option maxRecDepth 100000 in
theorem tJ9_floorMod_f86c9 (l : Launch) (G : va_G) (cI cJ cZ : ClassId) (sz : Nat) (p1 : Int64) (p2 : Int64) (r : Int64) (hf : fJ9_floorMod_f86c9 p1 p2 = some r) : Met l yJ9_floorMod_f86c9 (Cond.code yJ9_floorMod_f86c9 cJ9_floorMod_f86c9 6 (some .long) :: BIG) ({ frames := 0, cells := 0, slots := 0, locals := 0 } : Room) (cP G (TY3 cI cJ cZ) [.long p1, .long p2] sz (wJ9_floorMod_f86c9 cI cJ cZ)) (cQ G (TY3 cI cJ cZ) sz (wJ9_floorMod_f86c9 cI cJ cZ) (wJ9_floorMod_f86c9 cI cJ cZ) (some (.long r))) 0 0 (va_A (wJ9_floorMod_f86c9 cI cJ cZ) sz) := by
  refine met_l (cc := cJ9_floorMod_f86c9) (maxL := 6) (by decide +kernel) (Nat.le_of_ble_eq_true rfl) (fun p e s m below meth c A ls Q hx hb hml hts hown hK hP hD hS hA hl hret => ?_)
  have hown : s.vm.findClass RJ9 = some m.cls := hown
  have hl : lv_has ls 6 [(0, .long p1), (2, .long p2)] := hl
  unfold fJ9_floorMod_f86c9 at hf
  obtain ⟨H, eH⟩ : ∃ H, H = s.heap := ⟨_, rfl⟩
  obtain ⟨locs, elocs⟩ : ∃ z : List Loc, z = [] := ⟨_, rfl⟩
  have hP : va_P G vwCl (wJ9_floorMod_f86c9 cI cJ cZ) H := by rw [eH]; exact hP
  have hS : va_S A s.heap H locs := by rw [eH, elocs]; exact hS
  suffices hgo : W p l e ({ frames := 0, cells := 0, slots := 0, locals := 0 } : Room) s m ([.long p1, .long p2] : List Value).toArray below meth c H locs 0 0 Q (F0 m 0 ls []) by rw [eH, elocs] at hgo; exact hgo
  clear eH elocs
  refine lv_lload_n hx hb dJ9_floorMod_f86c9_0 rfl (lv_at hl 0 rfl) ?_
  refine lv_lload_n hx hb dJ9_floorMod_f86c9_1 rfl (lv_at hl 1 rfl) ?_
  obtain ⟨g_1, hf⟩ := gd_x hf
  refine lv_lrem hx hb dJ9_floorMod_f86c9_2 (nzl_x g_1) ?_
  refine lv_topl (fun v4_2 ev4_2 => ?_)
  have hf := nm_x ev4_2 hf
  refine lv_lstore (lv' := [(4, .long v4_2), (0, .long p1), (2, .long p2)]) hx hb dJ9_floorMod_f86c9_3 hl (by decide) rfl (fun ls hl => ?_)
  refine lv_lload_n hx hb dJ9_floorMod_f86c9_5 rfl (lv_at hl 1 rfl) ?_
  refine lv_lload_n hx hb dJ9_floorMod_f86c9_6 rfl (lv_at hl 2 rfl) ?_
  refine lv_lxor hx hb dJ9_floorMod_f86c9_7 ?_
  refine lv_lconst (v := (0 : Int64)) hx hb dJ9_floorMod_f86c9_8 (by decide) ?_
  refine lc_ge (tgt := 25) hx hb dJ9_floorMod_f86c9_9 dJ9_floorMod_f86c9_10 (by decide) (fun c_3 => ?_) (fun c_3 => ?_)
  · have hf := it_t c_3 hf
    refine lv_lload hx hb dJ9_floorMod_f86c9_25 (lv_at hl 0 rfl) ?_
    cases hf
    exact hret _ _ _ _ dJ9_floorMod_f86c9_27 hP hD hS
  · have hf := it_f c_3 hf
    refine lv_lload hx hb dJ9_floorMod_f86c9_13 (lv_at hl 0 rfl) ?_
    refine lv_lconst (v := (0 : Int64)) hx hb dJ9_floorMod_f86c9_15 (by decide) ?_
    refine lc_eq (tgt := 25) hx hb dJ9_floorMod_f86c9_16 dJ9_floorMod_f86c9_17 (by decide) (fun c_4 => ?_) (fun c_4 => ?_)
    · have hf := it_t c_4 hf
      refine lv_lload hx hb dJ9_floorMod_f86c9_25 (lv_at hl 0 rfl) ?_
      cases hf
      exact hret _ _ _ _ dJ9_floorMod_f86c9_27 hP hD hS
    · have hf := it_f c_4 hf
      refine lv_lload hx hb dJ9_floorMod_f86c9_20 (lv_at hl 0 rfl) ?_
      refine lv_lload_n hx hb dJ9_floorMod_f86c9_22 rfl (lv_at hl 2 rfl) ?_
      refine lv_ladd hx hb dJ9_floorMod_f86c9_23 ?_
      cases hf
      exact hret _ _ _ _ dJ9_floorMod_f86c9_24 hP hD hS
def wJ6_bitCount_0f7a4 (cI cJ cZ : ClassId) : va_W := []
def fJ6_bitCount_0f7a4 (p1 : Int32) : Option (Int32) :=
  nm (p1 - (((Int32.toUInt32 p1 >>> (Int32.toUInt32 (1 : Int32) &&& Int32.toUInt32 31)).toInt32) &&& (1431655765 : Int32))) (fun v0_1 =>
  nm ((v0_1 &&& (858993459 : Int32)) + (((Int32.toUInt32 v0_1 >>> (Int32.toUInt32 (2 : Int32) &&& Int32.toUInt32 31)).toInt32) &&& (858993459 : Int32))) (fun v0_2 =>
  nm ((v0_2 + ((Int32.toUInt32 v0_2 >>> (Int32.toUInt32 (4 : Int32) &&& Int32.toUInt32 31)).toInt32)) &&& (252645135 : Int32)) (fun v0_3 =>
  nm (v0_3 + ((Int32.toUInt32 v0_3 >>> (Int32.toUInt32 (8 : Int32) &&& Int32.toUInt32 31)).toInt32)) (fun v0_4 =>
  nm (v0_4 + ((Int32.toUInt32 v0_4 >>> (Int32.toUInt32 (16 : Int32) &&& Int32.toUInt32 31)).toInt32)) (fun v0_5 =>
  some (v0_5 &&& (63 : Int32)))))))
set_option maxHeartbeats 4000000 in
set_option maxRecDepth 100000 in
theorem tJ6_bitCount_0f7a4 (l : Launch) (G : va_G) (cI cJ cZ : ClassId) (sz : Nat) (p1 : Int32) (r : Int32) (hf : fJ6_bitCount_0f7a4 p1 = some r) : Met l yJ6_bitCount_0f7a4 (Cond.code yJ6_bitCount_0f7a4 cJ6_bitCount_0f7a4 1 (some .int) :: BIG) ({ frames := 0, cells := 0, slots := 0, locals := 0 } : Room) (cP G (TY3 cI cJ cZ) [.int p1] sz (wJ6_bitCount_0f7a4 cI cJ cZ)) (cQ G (TY3 cI cJ cZ) sz (wJ6_bitCount_0f7a4 cI cJ cZ) (wJ6_bitCount_0f7a4 cI cJ cZ) (some (.int r))) 0 0 (va_A (wJ6_bitCount_0f7a4 cI cJ cZ) sz) := by
  refine met_i (cc := cJ6_bitCount_0f7a4) (maxL := 1) (by decide +kernel) (Nat.le_of_ble_eq_true rfl) (fun p e s m below meth c A ls Q hx hb hml hts hown hK hP hD hS hA hl hret => ?_)
  have hown : s.vm.findClass RJ6 = some m.cls := hown
  have hl : lv_has ls 1 [(0, .int p1)] := hl
  unfold fJ6_bitCount_0f7a4 at hf
  obtain ⟨H, eH⟩ : ∃ H, H = s.heap := ⟨_, rfl⟩
  obtain ⟨locs, elocs⟩ : ∃ z : List Loc, z = [] := ⟨_, rfl⟩
  have hP : va_P G vwCl (wJ6_bitCount_0f7a4 cI cJ cZ) H := by rw [eH]; exact hP
  have hS : va_S A s.heap H locs := by rw [eH, elocs]; exact hS
  suffices hgo : W p l e ({ frames := 0, cells := 0, slots := 0, locals := 0 } : Room) s m ([.int p1] : List Value).toArray below meth c H locs 0 0 Q (F0 m 0 ls []) by rw [eH, elocs] at hgo; exact hgo
  clear eH elocs
  refine lv_iload_n hx hb dJ6_bitCount_0f7a4_0 rfl (lv_at hl 0 rfl) ?_
  refine lv_iload_n hx hb dJ6_bitCount_0f7a4_1 rfl (lv_at hl 0 rfl) ?_
  refine lv_iconst (v := (1 : Int32)) hx hb dJ6_bitCount_0f7a4_2 (by decide) ?_
  refine lv_iushr hx hb dJ6_bitCount_0f7a4_3 rfl ?_
  refine lv_ldcw (v := (1431655765 : Int32)) hx hb hown (hts _ q_cJ6_265) dJ6_bitCount_0f7a4_4 ?_
  refine lv_iand hx hb dJ6_bitCount_0f7a4_7 ?_
  refine lv_isub hx hb dJ6_bitCount_0f7a4_8 ?_
  refine lv_topi (fun v0_1 ev0_1 => ?_)
  have hf := nm_x ev0_1 hf
  refine lv_istore_n (lv' := [(0, .int v0_1)]) hx hb dJ6_bitCount_0f7a4_9 rfl hl (by decide) rfl (fun ls hl => ?_)
  refine lv_iload_n hx hb dJ6_bitCount_0f7a4_10 rfl (lv_at hl 0 rfl) ?_
  refine lv_ldcw (v := (858993459 : Int32)) hx hb hown (hts _ q_cJ6_266) dJ6_bitCount_0f7a4_11 ?_
  refine lv_iand hx hb dJ6_bitCount_0f7a4_14 ?_
  refine lv_iload_n hx hb dJ6_bitCount_0f7a4_15 rfl (lv_at hl 0 rfl) ?_
  refine lv_iconst (v := (2 : Int32)) hx hb dJ6_bitCount_0f7a4_16 (by decide) ?_
  refine lv_iushr hx hb dJ6_bitCount_0f7a4_17 rfl ?_
  refine lv_ldcw (v := (858993459 : Int32)) hx hb hown (hts _ q_cJ6_266) dJ6_bitCount_0f7a4_18 ?_
  refine lv_iand hx hb dJ6_bitCount_0f7a4_21 ?_
  refine lv_iadd hx hb dJ6_bitCount_0f7a4_22 ?_
  refine lv_topi (fun v0_2 ev0_2 => ?_)
  have hf := nm_x ev0_2 hf
  refine lv_istore_n (lv' := [(0, .int v0_2)]) hx hb dJ6_bitCount_0f7a4_23 rfl hl (by decide) rfl (fun ls hl => ?_)
  refine lv_iload_n hx hb dJ6_bitCount_0f7a4_24 rfl (lv_at hl 0 rfl) ?_
  refine lv_iload_n hx hb dJ6_bitCount_0f7a4_25 rfl (lv_at hl 0 rfl) ?_
  refine lv_iconst (v := (4 : Int32)) hx hb dJ6_bitCount_0f7a4_26 (by decide) ?_
  refine lv_iushr hx hb dJ6_bitCount_0f7a4_27 rfl ?_
  refine lv_iadd hx hb dJ6_bitCount_0f7a4_28 ?_
  refine lv_ldcw (v := (252645135 : Int32)) hx hb hown (hts _ q_cJ6_267) dJ6_bitCount_0f7a4_29 ?_
  refine lv_iand hx hb dJ6_bitCount_0f7a4_32 ?_
  refine lv_topi (fun v0_3 ev0_3 => ?_)
  have hf := nm_x ev0_3 hf
  refine lv_istore_n (lv' := [(0, .int v0_3)]) hx hb dJ6_bitCount_0f7a4_33 rfl hl (by decide) rfl (fun ls hl => ?_)
  refine lv_iload_n hx hb dJ6_bitCount_0f7a4_34 rfl (lv_at hl 0 rfl) ?_
  refine lv_iload_n hx hb dJ6_bitCount_0f7a4_35 rfl (lv_at hl 0 rfl) ?_
  refine lv_bipush (v := (8 : Int32)) hx hb dJ6_bitCount_0f7a4_36 (by decide) ?_
  refine lv_iushr hx hb dJ6_bitCount_0f7a4_38 rfl ?_
  refine lv_iadd hx hb dJ6_bitCount_0f7a4_39 ?_
  refine lv_topi (fun v0_4 ev0_4 => ?_)
  have hf := nm_x ev0_4 hf
  refine lv_istore_n (lv' := [(0, .int v0_4)]) hx hb dJ6_bitCount_0f7a4_40 rfl hl (by decide) rfl (fun ls hl => ?_)
  refine lv_iload_n hx hb dJ6_bitCount_0f7a4_41 rfl (lv_at hl 0 rfl) ?_
  refine lv_iload_n hx hb dJ6_bitCount_0f7a4_42 rfl (lv_at hl 0 rfl) ?_
  refine lv_bipush (v := (16 : Int32)) hx hb dJ6_bitCount_0f7a4_43 (by decide) ?_
  refine lv_iushr hx hb dJ6_bitCount_0f7a4_45 rfl ?_
  refine lv_iadd hx hb dJ6_bitCount_0f7a4_46 ?_
  refine lv_topi (fun v0_5 ev0_5 => ?_)
  have hf := nm_x ev0_5 hf
  refine lv_istore_n (lv' := [(0, .int v0_5)]) hx hb dJ6_bitCount_0f7a4_47 rfl hl (by decide) rfl (fun ls hl => ?_)
  refine lv_iload_n hx hb dJ6_bitCount_0f7a4_48 rfl (lv_at hl 0 rfl) ?_
  refine lv_bipush (v := (63 : Int32)) hx hb dJ6_bitCount_0f7a4_49 (by decide) ?_
  refine lv_iand hx hb dJ6_bitCount_0f7a4_51 ?_
  cases hf
  exact hret _ _ _ _ dJ6_bitCount_0f7a4_52 hP hD hS
def wX1_amount (cI cJ cZ : ClassId) (h_o : Nat) (o_last : Int32) : va_W := [(h_o, .inr (1, [.int o_last]))]
def fX1_amount (o_last : Int32) (p1 : Int32) : Option (Int32 × Int32) :=
  nm (((o_last * (1103515245 : Int32)) + (12345 : Int32)) &&& (2147483647 : Int32)) (fun u_1 =>
  bd1 (fJ9_floorMod_7cf53 (u_1 >>> ((16 : Int32) &&& 31)) (((2 : Int32) * p1) + (1 : Int32))) (fun r_2 =>
  some (r_2 - p1, u_1)))
set_option maxHeartbeats 4000000 in
set_option maxRecDepth 100000 in
theorem tX1_amount (l : Launch) (G : va_G) (cI cJ cZ : ClassId) (sz : Nat) (h_o : Nat) (o_last : Int32) (p1 : Int32) (r : Int32) (out_o_last : Int32) (hf : fX1_amount o_last p1 = some (r, out_o_last)) : Met l yX1_amount (Cond.code yX1_amount cX1_amount 2 (some .int) :: BIG) ({ frames := 1, cells := 0, slots := 0, locals := 22 } : Room) (cP G (TY3 cI cJ cZ) [.ref h_o, .int p1] sz (wX1_amount cI cJ cZ h_o o_last)) (cQ G (TY3 cI cJ cZ) sz (wX1_amount cI cJ cZ h_o o_last) (wX1_amount cI cJ cZ h_o out_o_last) (some (.int r))) 0 0 (va_A (wX1_amount cI cJ cZ h_o o_last) sz) := by
  refine met_i (cc := cX1_amount) (maxL := 2) (plainFor_of_name (by decide)) (Nat.le_of_ble_eq_true rfl) (fun p e s m below meth c A ls Q hx hb hml hts hown hK hP hD hS hA hl hret => ?_)
  have hown : s.vm.findClass RX1 = some m.cls := hown
  have hl : lv_has ls 2 [(0, .ref h_o), (1, .int p1)] := hl
  unfold fX1_amount at hf
  obtain ⟨H, eH⟩ : ∃ H, H = s.heap := ⟨_, rfl⟩
  obtain ⟨locs, elocs⟩ : ∃ z : List Loc, z = [] := ⟨_, rfl⟩
  have hP : va_P G vwCl (wX1_amount cI cJ cZ h_o o_last) H := by rw [eH]; exact hP
  have hS : va_S A s.heap H locs := by rw [eH, elocs]; exact hS
  suffices hgo : W p l e ({ frames := 1, cells := 0, slots := 0, locals := 22 } : Room) s m ([.ref h_o, .int p1] : List Value).toArray below meth c H locs 0 0 Q (F0 m 0 ls []) by rw [eH, elocs] at hgo; exact hgo
  clear eH elocs
  refine lv_aload_n hx hb dX1_amount_0 rfl (lv_at hl 0 rfl) ?_
  refine lv_aload_n hx hb dX1_amount_1 rfl (lv_at hl 0 rfl) ?_
  refine rd (ci := 1) (C := RX1) (T := TX1) (N := 1) hx hb hts inX1 hown hK hP 0 0 rfl rfl (by decide) (hts _ q_fX1_7) rfl dX1_amount_2 ?_
  refine lv_ldc (v := (1103515245 : Int32)) hx hb hown (hts _ q_cX1_13) dX1_amount_5 ?_
  refine lv_imul hx hb dX1_amount_7 ?_
  refine lv_sipush (v := (12345 : Int32)) hx hb dX1_amount_8 (by decide) ?_
  refine lv_iadd hx hb dX1_amount_11 ?_
  refine lv_ldc (v := (2147483647 : Int32)) hx hb hown (hts _ q_cX1_16) dX1_amount_12 ?_
  refine lv_iand hx hb dX1_amount_14 ?_
  refine lv_topi (fun u_1 eu_1 => ?_)
  have hf := nm_x eu_1 hf
  refine wr (ci := 1) (C := RX1) (T := TX1) (N := 1) hx hb hts inX1 tyX1 tyX1_ok nmX1 hown hK hP hD hS 0 0 rfl rfl (by decide) (hts _ q_fX1_7) rfl rfl rfl (Nat.le_of_ble_eq_true rfl) dX1_amount_15 (ws2 := (wX1_amount cI cJ cZ h_o u_1)) rfl (fun H locs hP hD hS => ?_)
  refine lv_aload_n hx hb dX1_amount_18 rfl (lv_at hl 0 rfl) ?_
  refine rd (ci := 1) (C := RX1) (T := TX1) (N := 1) hx hb hts inX1 hown hK hP 0 0 rfl rfl (by decide) (hts _ q_fX1_7) rfl dX1_amount_19 ?_
  refine lv_bipush (v := (16 : Int32)) hx hb dX1_amount_22 (by decide) ?_
  refine lv_ishr hx hb dX1_amount_24 ?_
  refine lv_iconst (v := (2 : Int32)) hx hb dX1_amount_25 (by decide) ?_
  refine lv_iload_n hx hb dX1_amount_26 rfl (lv_at hl 1 rfl) ?_
  refine lv_imul hx hb dX1_amount_27 ?_
  refine lv_iconst (v := (1 : Int32)) hx hb dX1_amount_28 (by decide) ?_
  refine lv_iadd hx hb dX1_amount_29 ?_
  obtain ⟨r_2, e_3, hf⟩ := bd1_x hf
  refine call_s [.int (u_1 >>> ((16 : Int32) &&& 31)), .int (((2 : Int32) * p1) + (1 : Int32))] [] ⟨hx, hb, hml, hown, hts⟩ hK hP hD hS hA hl.1 (tJ9_floorMod_7cf53 l G cI cJ cZ H.size (u_1 >>> ((16 : Int32) &&& 31)) (((2 : Int32) * p1) + (1 : Int32)) r_2 e_3) (va_cwS 2 hts (gs q_mX1_17 q_s_yJ9_floorMod_7cf53 q_n_RJ9 q_k_yJ9_floorMod_7cf53) rfl rfl rfl (by decide +kernel) ⟨by decide, by decide⟩) rfl rfl (Nat.le_of_ble_eq_true rfl) dX1_amount_30 ⟨Nat.zero_le _, Nat.zero_le _⟩ [] [0] [0] rfl rfl (ws2 := (wX1_amount cI cJ cZ h_o u_1)) rfl (fun H locs hP hD hS => ?_)
  refine W.eq (g2 := F0 m 33 ls [.int r_2]) rfl ?_
  refine lv_iload_n hx hb dX1_amount_33 rfl (lv_at hl 1 rfl) ?_
  refine lv_isub hx hb dX1_amount_34 ?_
  cases hf
  exact hret _ _ _ _ dX1_amount_35 hP hD hS
def wX2_add (cI cJ cZ : ClassId) (h_o h_o_bins h_o_kinds h_o_targets : Nat) (o_total : Int32) (o_knownBy : Int32) (o_bins : Nat → Int32) (o_kinds : Nat → Int32) (o_targets : Nat → Int32) : va_W := [(h_o, .inr (2, [.ref h_o_kinds, .ref h_o_targets, .ref h_o_bins, .int o_total, .int o_knownBy])), (h_o_bins, .inl (cI, 24, .inl o_bins)), (h_o_kinds, .inl (cI, 24, .inl o_kinds)), (h_o_targets, .inl (cI, 24, .inl o_targets))]
def fX2_add (o_total : Int32) (o_bins : Nat → Int32) (o_kinds : Nat → Int32) (o_targets : Nat → Int32) (p1 : Int32) (p2 : Int32) (p3 : Int32) : Option (Int32 × Int32 × (Nat → Int32) × (Nat → Int32) × (Nat → Int32)) :=
  if o_total < (24 : Int32) then (
    gd (inb o_total 24) (
    nm (upd o_kinds (Int32.toNatClampNeg o_total) p1) (fun o_kinds_3 =>
    gd (inb o_total 24) (
    nm (upd o_targets (Int32.toNatClampNeg o_total) p2) (fun o_targets_5 =>
    gd (inb o_total 24) (
    nm (upd o_bins (Int32.toNatClampNeg o_total) p3) (fun o_bins_7 =>
    nm (o_total + (1 : Int32)) (fun u_8 =>
    some (u_8 - (1 : Int32), u_8, o_bins_7, o_kinds_3, o_targets_5))))))))
  ) else (
    some ((-1 : Int32), o_total, o_bins, o_kinds, o_targets)
  )
set_option maxHeartbeats 4000000 in
set_option maxRecDepth 100000 in
theorem tX2_add (l : Launch) (G : va_G) (cI cJ cZ : ClassId) (sz : Nat) (h_o h_o_bins h_o_kinds h_o_targets : Nat) (o_total : Int32) (o_knownBy : Int32) (o_bins : Nat → Int32) (o_kinds : Nat → Int32) (o_targets : Nat → Int32) (p1 : Int32) (p2 : Int32) (p3 : Int32) (r : Int32) (out_o_total : Int32) (out_o_bins : Nat → Int32) (out_o_kinds : Nat → Int32) (out_o_targets : Nat → Int32) (hf : fX2_add o_total o_bins o_kinds o_targets p1 p2 p3 = some (r, out_o_total, out_o_bins, out_o_kinds, out_o_targets)) : Met l yX2_add (Cond.code yX2_add cX2_add 4 (some .int) :: BIG) ({ frames := 0, cells := 0, slots := 0, locals := 0 } : Room) (cP G (TY3 cI cJ cZ) [.ref h_o, .int p1, .int p2, .int p3] sz (wX2_add cI cJ cZ h_o h_o_bins h_o_kinds h_o_targets o_total o_knownBy o_bins o_kinds o_targets)) (cQ G (TY3 cI cJ cZ) sz (wX2_add cI cJ cZ h_o h_o_bins h_o_kinds h_o_targets o_total o_knownBy o_bins o_kinds o_targets) (wX2_add cI cJ cZ h_o h_o_bins h_o_kinds h_o_targets out_o_total o_knownBy out_o_bins out_o_kinds out_o_targets) (some (.int r))) 0 0 (va_A (wX2_add cI cJ cZ h_o h_o_bins h_o_kinds h_o_targets o_total o_knownBy o_bins o_kinds o_targets) sz) := by
  refine met_i (cc := cX2_add) (maxL := 4) (plainFor_of_name (by decide)) (Nat.le_of_ble_eq_true rfl) (fun p e s m below meth c A ls Q hx hb hml hts hown hK hP hD hS hA hl hret => ?_)
  have hown : s.vm.findClass RX2 = some m.cls := hown
  have hl : lv_has ls 4 [(0, .ref h_o), (1, .int p1), (2, .int p2), (3, .int p3)] := hl
  unfold fX2_add at hf
  obtain ⟨H, eH⟩ : ∃ H, H = s.heap := ⟨_, rfl⟩
  obtain ⟨locs, elocs⟩ : ∃ z : List Loc, z = [] := ⟨_, rfl⟩
  have hP : va_P G vwCl (wX2_add cI cJ cZ h_o h_o_bins h_o_kinds h_o_targets o_total o_knownBy o_bins o_kinds o_targets) H := by rw [eH]; exact hP
  have hS : va_S A s.heap H locs := by rw [eH, elocs]; exact hS
  suffices hgo : W p l e ({ frames := 0, cells := 0, slots := 0, locals := 0 } : Room) s m ([.ref h_o, .int p1, .int p2, .int p3] : List Value).toArray below meth c H locs 0 0 Q (F0 m 0 ls []) by rw [eH, elocs] at hgo; exact hgo
  clear eH elocs
  refine lv_aload_n hx hb dX2_add_0 rfl (lv_at hl 0 rfl) ?_
  refine rd (ci := 2) (C := RX2) (T := TX2) (N := 5) hx hb hts inX2 hown hK hP 0 3 rfl rfl (by decide) (hts _ q_fX2_21) rfl dX2_add_1 ?_
  refine lv_bipush (v := (24 : Int32)) hx hb dX2_add_4 (by decide) ?_
  refine lv_icmp_lt (tgt := 11) hx hb dX2_add_6 (by decide) (fun c_1 => ?_) (fun c_1 => ?_)
  · have hf := it_t c_1 hf
    refine lv_aload_n hx hb dX2_add_11 rfl (lv_at hl 0 rfl) ?_
    refine rd (ci := 2) (C := RX2) (T := TX2) (N := 5) hx hb hts inX2 hown hK hP 0 0 rfl rfl (by decide) (hts _ q_fX2_11) rfl dX2_add_12 ?_
    refine lv_aload_n hx hb dX2_add_15 rfl (lv_at hl 0 rfl) ?_
    refine rd (ci := 2) (C := RX2) (T := TX2) (N := 5) hx hb hts inX2 hown hK hP 0 3 rfl rfl (by decide) (hts _ q_fX2_21) rfl dX2_add_16 ?_
    refine lv_iload_n hx hb dX2_add_19 rfl (lv_at hl 1 rfl) ?_
    obtain ⟨g_2, hf⟩ := gd_x hf
    obtain ⟨o_kinds_3, eo_kinds_3⟩ : ∃ y : Nat → Int32, y = upd o_kinds (Int32.toNatClampNeg o_total) p1 := ⟨_, rfl⟩
    have hf := nm_x eo_kinds_3 hf
    refine ist hx hb hK hP hD hS 2 0 rfl rfl (inb_x g_2) dX2_add_20 eo_kinds_3 (ws2 := (wX2_add cI cJ cZ h_o h_o_bins h_o_kinds h_o_targets o_total o_knownBy o_bins o_kinds_3 o_targets)) rfl (fun H locs hP hD hS => ?_)
    refine lv_aload_n hx hb dX2_add_21 rfl (lv_at hl 0 rfl) ?_
    refine rd (ci := 2) (C := RX2) (T := TX2) (N := 5) hx hb hts inX2 hown hK hP 0 1 rfl rfl (by decide) (hts _ q_fX2_15) rfl dX2_add_22 ?_
    refine lv_aload_n hx hb dX2_add_25 rfl (lv_at hl 0 rfl) ?_
    refine rd (ci := 2) (C := RX2) (T := TX2) (N := 5) hx hb hts inX2 hown hK hP 0 3 rfl rfl (by decide) (hts _ q_fX2_21) rfl dX2_add_26 ?_
    refine lv_iload_n hx hb dX2_add_29 rfl (lv_at hl 2 rfl) ?_
    obtain ⟨g_4, hf⟩ := gd_x hf
    obtain ⟨o_targets_5, eo_targets_5⟩ : ∃ y : Nat → Int32, y = upd o_targets (Int32.toNatClampNeg o_total) p2 := ⟨_, rfl⟩
    have hf := nm_x eo_targets_5 hf
    refine ist hx hb hK hP hD hS 3 0 rfl rfl (inb_x g_4) dX2_add_30 eo_targets_5 (ws2 := (wX2_add cI cJ cZ h_o h_o_bins h_o_kinds h_o_targets o_total o_knownBy o_bins o_kinds_3 o_targets_5)) rfl (fun H locs hP hD hS => ?_)
    refine lv_aload_n hx hb dX2_add_31 rfl (lv_at hl 0 rfl) ?_
    refine rd (ci := 2) (C := RX2) (T := TX2) (N := 5) hx hb hts inX2 hown hK hP 0 2 rfl rfl (by decide) (hts _ q_fX2_18) rfl dX2_add_32 ?_
    refine lv_aload_n hx hb dX2_add_35 rfl (lv_at hl 0 rfl) ?_
    refine rd (ci := 2) (C := RX2) (T := TX2) (N := 5) hx hb hts inX2 hown hK hP 0 3 rfl rfl (by decide) (hts _ q_fX2_21) rfl dX2_add_36 ?_
    refine lv_iload_n hx hb dX2_add_39 rfl (lv_at hl 3 rfl) ?_
    obtain ⟨g_6, hf⟩ := gd_x hf
    obtain ⟨o_bins_7, eo_bins_7⟩ : ∃ y : Nat → Int32, y = upd o_bins (Int32.toNatClampNeg o_total) p3 := ⟨_, rfl⟩
    have hf := nm_x eo_bins_7 hf
    refine ist hx hb hK hP hD hS 1 0 rfl rfl (inb_x g_6) dX2_add_40 eo_bins_7 (ws2 := (wX2_add cI cJ cZ h_o h_o_bins h_o_kinds h_o_targets o_total o_knownBy o_bins_7 o_kinds_3 o_targets_5)) rfl (fun H locs hP hD hS => ?_)
    refine lv_aload_n hx hb dX2_add_41 rfl (lv_at hl 0 rfl) ?_
    refine lv_dup hx hb dX2_add_42 rfl ?_
    refine rd (ci := 2) (C := RX2) (T := TX2) (N := 5) hx hb hts inX2 hown hK hP 0 3 rfl rfl (by decide) (hts _ q_fX2_21) rfl dX2_add_43 ?_
    refine lv_iconst (v := (1 : Int32)) hx hb dX2_add_46 (by decide) ?_
    refine lv_iadd hx hb dX2_add_47 ?_
    refine lv_topi (fun u_8 eu_8 => ?_)
    have hf := nm_x eu_8 hf
    refine wr (ci := 2) (C := RX2) (T := TX2) (N := 5) hx hb hts inX2 tyX2 tyX2_ok nmX2 hown hK hP hD hS 0 3 rfl rfl (by decide) (hts _ q_fX2_21) rfl rfl rfl (Nat.le_of_ble_eq_true rfl) dX2_add_48 (ws2 := (wX2_add cI cJ cZ h_o h_o_bins h_o_kinds h_o_targets u_8 o_knownBy o_bins_7 o_kinds_3 o_targets_5)) rfl (fun H locs hP hD hS => ?_)
    refine lv_aload_n hx hb dX2_add_51 rfl (lv_at hl 0 rfl) ?_
    refine rd (ci := 2) (C := RX2) (T := TX2) (N := 5) hx hb hts inX2 hown hK hP 0 3 rfl rfl (by decide) (hts _ q_fX2_21) rfl dX2_add_52 ?_
    refine lv_iconst (v := (1 : Int32)) hx hb dX2_add_55 (by decide) ?_
    refine lv_isub hx hb dX2_add_56 ?_
    cases hf
    exact hret _ _ _ _ dX2_add_57 hP hD hS
  · have hf := it_f c_1 hf
    refine lv_iconst (v := (-1 : Int32)) hx hb dX2_add_9 (by decide) ?_
    cases hf
    exact hret _ _ _ _ dX2_add_10 hP hD hS
def wX2_forgetAll (cI cJ cZ : ClassId) (h_o h_o_kinds h_o_targets h_o_bins : Nat) (o_total : Int32) (o_knownBy : Int32) : va_W := [(h_o, .inr (2, [.ref h_o_kinds, .ref h_o_targets, .ref h_o_bins, .int o_total, .int o_knownBy]))]
def fX2_forgetAll (o_total : Int32) (o_knownBy : Int32) : Option (Int32 × Int32) :=
  some ((0 : Int32), (-1 : Int32))
set_option maxHeartbeats 4000000 in
set_option maxRecDepth 100000 in
theorem tX2_forgetAll (l : Launch) (G : va_G) (cI cJ cZ : ClassId) (sz : Nat) (h_o h_o_kinds h_o_targets h_o_bins : Nat) (o_total : Int32) (o_knownBy : Int32) (out_o_total : Int32) (out_o_knownBy : Int32) (hf : fX2_forgetAll o_total o_knownBy = some (out_o_total, out_o_knownBy)) : Met l yX2_forgetAll (Cond.code yX2_forgetAll cX2_forgetAll 1 none :: BIG) ({ frames := 0, cells := 0, slots := 0, locals := 0 } : Room) (cP G (TY3 cI cJ cZ) [.ref h_o] sz (wX2_forgetAll cI cJ cZ h_o h_o_kinds h_o_targets h_o_bins o_total o_knownBy)) (cQ G (TY3 cI cJ cZ) sz (wX2_forgetAll cI cJ cZ h_o h_o_kinds h_o_targets h_o_bins o_total o_knownBy) (wX2_forgetAll cI cJ cZ h_o h_o_kinds h_o_targets h_o_bins out_o_total out_o_knownBy) none) 0 0 (va_A (wX2_forgetAll cI cJ cZ h_o h_o_kinds h_o_targets h_o_bins o_total o_knownBy) sz) := by
  refine met_v (cc := cX2_forgetAll) (maxL := 1) (plainFor_of_name (by decide)) (Nat.le_of_ble_eq_true rfl) (fun p e s m below meth c A ls Q hx hb hml hts hown hK hP hD hS hA hl hret => ?_)
  have hown : s.vm.findClass RX2 = some m.cls := hown
  have hl : lv_has ls 1 [(0, .ref h_o)] := hl
  unfold fX2_forgetAll at hf
  obtain ⟨H, eH⟩ : ∃ H, H = s.heap := ⟨_, rfl⟩
  obtain ⟨locs, elocs⟩ : ∃ z : List Loc, z = [] := ⟨_, rfl⟩
  have hP : va_P G vwCl (wX2_forgetAll cI cJ cZ h_o h_o_kinds h_o_targets h_o_bins o_total o_knownBy) H := by rw [eH]; exact hP
  have hS : va_S A s.heap H locs := by rw [eH, elocs]; exact hS
  suffices hgo : W p l e ({ frames := 0, cells := 0, slots := 0, locals := 0 } : Room) s m ([.ref h_o] : List Value).toArray below meth c H locs 0 0 Q (F0 m 0 ls []) by rw [eH, elocs] at hgo; exact hgo
  clear eH elocs
  refine lv_aload_n hx hb dX2_forgetAll_0 rfl (lv_at hl 0 rfl) ?_
  refine lv_iconst (v := (0 : Int32)) hx hb dX2_forgetAll_1 (by decide) ?_
  refine wr (ci := 2) (C := RX2) (T := TX2) (N := 5) hx hb hts inX2 tyX2 tyX2_ok nmX2 hown hK hP hD hS 0 3 rfl rfl (by decide) (hts _ q_fX2_21) rfl rfl rfl (Nat.le_of_ble_eq_true rfl) dX2_forgetAll_2 (ws2 := (wX2_forgetAll cI cJ cZ h_o h_o_kinds h_o_targets h_o_bins (0 : Int32) o_knownBy)) rfl (fun H locs hP hD hS => ?_)
  refine lv_aload_n hx hb dX2_forgetAll_5 rfl (lv_at hl 0 rfl) ?_
  refine lv_iconst (v := (-1 : Int32)) hx hb dX2_forgetAll_6 (by decide) ?_
  refine wr (ci := 2) (C := RX2) (T := TX2) (N := 5) hx hb hts inX2 tyX2 tyX2_ok nmX2 hown hK hP hD hS 0 4 rfl rfl (by decide) (hts _ q_fX2_25) rfl rfl rfl (Nat.le_of_ble_eq_true rfl) dX2_forgetAll_7 (ws2 := (wX2_forgetAll cI cJ cZ h_o h_o_kinds h_o_targets h_o_bins (0 : Int32) (-1 : Int32))) rfl (fun H locs hP hD hS => ?_)
  cases hf
  exact hret _ _ _ _ dX2_forgetAll_10 hP hD hS
def wX2_knownNow (cI cJ cZ : ClassId) (h_o h_o_kinds h_o_targets h_o_bins : Nat) (o_total : Int32) (o_knownBy : Int32) : va_W := [(h_o, .inr (2, [.ref h_o_kinds, .ref h_o_targets, .ref h_o_bins, .int o_total, .int o_knownBy]))]
def fX2_knownNow (o_total : Int32) (o_knownBy : Int32) : Option (Int32) :=
  if 0 ≤ o_knownBy then (
    some o_knownBy
  ) else (
    some o_total
  )
set_option maxHeartbeats 4000000 in
set_option maxRecDepth 100000 in
theorem tX2_knownNow (l : Launch) (G : va_G) (cI cJ cZ : ClassId) (sz : Nat) (h_o h_o_kinds h_o_targets h_o_bins : Nat) (o_total : Int32) (o_knownBy : Int32) (r : Int32) (hf : fX2_knownNow o_total o_knownBy = some r) : Met l yX2_knownNow (Cond.code yX2_knownNow cX2_knownNow 1 (some .int) :: BIG) ({ frames := 0, cells := 0, slots := 0, locals := 0 } : Room) (cP G (TY3 cI cJ cZ) [.ref h_o] sz (wX2_knownNow cI cJ cZ h_o h_o_kinds h_o_targets h_o_bins o_total o_knownBy)) (cQ G (TY3 cI cJ cZ) sz (wX2_knownNow cI cJ cZ h_o h_o_kinds h_o_targets h_o_bins o_total o_knownBy) (wX2_knownNow cI cJ cZ h_o h_o_kinds h_o_targets h_o_bins o_total o_knownBy) (some (.int r))) 0 0 (va_A (wX2_knownNow cI cJ cZ h_o h_o_kinds h_o_targets h_o_bins o_total o_knownBy) sz) := by
  refine met_i (cc := cX2_knownNow) (maxL := 1) (plainFor_of_name (by decide)) (Nat.le_of_ble_eq_true rfl) (fun p e s m below meth c A ls Q hx hb hml hts hown hK hP hD hS hA hl hret => ?_)
  have hown : s.vm.findClass RX2 = some m.cls := hown
  have hl : lv_has ls 1 [(0, .ref h_o)] := hl
  unfold fX2_knownNow at hf
  obtain ⟨H, eH⟩ : ∃ H, H = s.heap := ⟨_, rfl⟩
  obtain ⟨locs, elocs⟩ : ∃ z : List Loc, z = [] := ⟨_, rfl⟩
  have hP : va_P G vwCl (wX2_knownNow cI cJ cZ h_o h_o_kinds h_o_targets h_o_bins o_total o_knownBy) H := by rw [eH]; exact hP
  have hS : va_S A s.heap H locs := by rw [eH, elocs]; exact hS
  suffices hgo : W p l e ({ frames := 0, cells := 0, slots := 0, locals := 0 } : Room) s m ([.ref h_o] : List Value).toArray below meth c H locs 0 0 Q (F0 m 0 ls []) by rw [eH, elocs] at hgo; exact hgo
  clear eH elocs
  refine lv_aload_n hx hb dX2_knownNow_0 rfl (lv_at hl 0 rfl) ?_
  refine rd (ci := 2) (C := RX2) (T := TX2) (N := 5) hx hb hts inX2 hown hK hP 0 4 rfl rfl (by decide) (hts _ q_fX2_25) rfl dX2_knownNow_1 ?_
  refine lv_if_ge (tgt := 14) hx hb dX2_knownNow_4 (by decide) (fun c_1 => ?_) (fun c_1 => ?_)
  · have hf := it_t c_1 hf
    refine lv_aload_n hx hb dX2_knownNow_14 rfl (lv_at hl 0 rfl) ?_
    refine rd (ci := 2) (C := RX2) (T := TX2) (N := 5) hx hb hts inX2 hown hK hP 0 4 rfl rfl (by decide) (hts _ q_fX2_25) rfl dX2_knownNow_15 ?_
    cases hf
    exact hret _ _ _ _ dX2_knownNow_18 hP hD hS
  · have hf := it_f c_1 hf
    refine lv_aload_n hx hb dX2_knownNow_7 rfl (lv_at hl 0 rfl) ?_
    refine rd (ci := 2) (C := RX2) (T := TX2) (N := 5) hx hb hts inX2 hown hK hP 0 3 rfl rfl (by decide) (hts _ q_fX2_21) rfl dX2_knownNow_8 ?_
    refine lv_goto (tgt := 18) hx hb dX2_knownNow_11 (by decide) ?_
    cases hf
    exact hret _ _ _ _ dX2_knownNow_18 hP hD hS
def wX2_standing (cI cJ cZ : ClassId) (h_o h_o_kinds h_o_targets h_o_bins : Nat) (o_total : Int32) (o_knownBy : Int32) (o_kinds : Nat → Int32) (o_targets : Nat → Int32) : va_W := [(h_o, .inr (2, [.ref h_o_kinds, .ref h_o_targets, .ref h_o_bins, .int o_total, .int o_knownBy])), (h_o_kinds, .inl (cI, 24, .inl o_kinds)), (h_o_targets, .inl (cI, 24, .inl o_targets))]
def fX2_standing_52 (o_kinds : Nat → Int32) (o_targets : Nat → Int32) (k16 : Int32 → Int32 → Option (Int32)) (v1 : Int32) (v2 : Int32) : Option (Int32) :=
  nm (v2 + (-1 : Int32)) (fun v2_13 =>
  k16 v1 v2_13)
def fX2_standing_16 (o_kinds : Nat → Int32) (o_targets : Nat → Int32) : Nat → Int32 → Int32 → Option (Int32)
  | 0, _, _ => none
  | n + 1, v1, v2 =>
    if v2 < 0 then (
      some v1
    ) else (
      gd (inb v2 24) (
      if (o_kinds (Int32.toNatClampNeg v2)) = (2 : Int32) then (
        if ((v1 >>> (v2 &&& 31)) &&& (1 : Int32)) = (1 : Int32) then (
          gd (inb v2 24) (
          nm (v1 &&& (((1 : Int32) <<< ((o_targets (Int32.toNatClampNeg v2)) &&& 31)) ^^^ (-1 : Int32))) (fun v1_12 =>
          fX2_standing_52 o_kinds o_targets (fX2_standing_16 o_kinds o_targets n) v1_12 v2))
        ) else (
          fX2_standing_52 o_kinds o_targets (fX2_standing_16 o_kinds o_targets n) v1 v2
        )
      ) else (
        fX2_standing_52 o_kinds o_targets (fX2_standing_16 o_kinds o_targets n) v1 v2
      ))
    )
def fX2_standing (o_total : Int32) (o_knownBy : Int32) (o_kinds : Nat → Int32) (o_targets : Nat → Int32) : Option (Int32) :=
  bd1 (fX2_knownNow o_total o_knownBy) (fun r_1 =>
  nm (((1 : Int32) <<< (r_1 &&& 31)) - (1 : Int32)) (fun v1_3 =>
  bd1 (fX2_knownNow o_total o_knownBy) (fun r_4 =>
  nm (r_4 - (1 : Int32)) (fun v2_6 =>
  fX2_standing_16 o_kinds o_targets FU v1_3 v2_6))))
set_option maxHeartbeats 4000000 in
set_option maxRecDepth 100000 in
theorem tX2_standing (l : Launch) (G : va_G) (cI cJ cZ : ClassId) (sz : Nat) (h_o h_o_kinds h_o_targets h_o_bins : Nat) (o_total : Int32) (o_knownBy : Int32) (o_kinds : Nat → Int32) (o_targets : Nat → Int32) (r : Int32) (hf : fX2_standing o_total o_knownBy o_kinds o_targets = some r) : Met l yX2_standing (Cond.code yX2_standing cX2_standing 3 (some .int) :: BIG) ({ frames := 1, cells := 0, slots := 0, locals := 20 } : Room) (cP G (TY3 cI cJ cZ) [.ref h_o] sz (wX2_standing cI cJ cZ h_o h_o_kinds h_o_targets h_o_bins o_total o_knownBy o_kinds o_targets)) (cQ G (TY3 cI cJ cZ) sz (wX2_standing cI cJ cZ h_o h_o_kinds h_o_targets h_o_bins o_total o_knownBy o_kinds o_targets) (wX2_standing cI cJ cZ h_o h_o_kinds h_o_targets h_o_bins o_total o_knownBy o_kinds o_targets) (some (.int r))) 0 0 (va_A (wX2_standing cI cJ cZ h_o h_o_kinds h_o_targets h_o_bins o_total o_knownBy o_kinds o_targets) sz) := by
  refine met_i (cc := cX2_standing) (maxL := 3) (plainFor_of_name (by decide)) (Nat.le_of_ble_eq_true rfl) (fun p e s m below meth c A ls Q hx hb hml hts hown hK hP hD hS hA hl hret => ?_)
  have hown : s.vm.findClass RX2 = some m.cls := hown
  have hl : lv_has ls 3 [(0, .ref h_o)] := hl
  have j52 : ∀ (k16 : Int32 → Int32 → Option (Int32)), (∀ (v1 : Int32) (v2 : Int32) (H : Heap) (locs : List Loc) (ls : Array Slot), k16 v1 v2 = some r → va_P G vwCl (wX2_standing cI cJ cZ h_o h_o_kinds h_o_targets h_o_bins o_total o_knownBy o_kinds o_targets) H → va_D A (wX2_standing cI cJ cZ h_o h_o_kinds h_o_targets h_o_bins o_total o_knownBy o_kinds o_targets) → va_S A s.heap H locs → lv_has ls 3 [(0, .ref h_o), (1, .int v1), (2, .int v2)] → W p l e ({ frames := 1, cells := 0, slots := 0, locals := 20 } : Room) s m ([.ref h_o] : List Value).toArray below meth c H locs 0 0 Q (F0 m 16 ls [])) → ∀ (v1 : Int32) (v2 : Int32) (H : Heap) (locs : List Loc) (ls : Array Slot), fX2_standing_52 o_kinds o_targets k16 v1 v2 = some r → va_P G vwCl (wX2_standing cI cJ cZ h_o h_o_kinds h_o_targets h_o_bins o_total o_knownBy o_kinds o_targets) H → va_D A (wX2_standing cI cJ cZ h_o h_o_kinds h_o_targets h_o_bins o_total o_knownBy o_kinds o_targets) → va_S A s.heap H locs → lv_has ls 3 [(0, .ref h_o), (1, .int v1), (2, .int v2)] → W p l e ({ frames := 1, cells := 0, slots := 0, locals := 20 } : Room) s m ([.ref h_o] : List Value).toArray below meth c H locs 0 0 Q (F0 m 52 ls []) := by
    intro k16 hk16 v1 v2 H locs ls hf hP hD hS hl
    unfold fX2_standing_52 at hf
    obtain ⟨v2_13, ev2_13⟩ : ∃ y : Int32, y = v2 + (-1 : Int32) := ⟨_, rfl⟩
    have hf := nm_x ev2_13 hf
    refine lv_iinc (v := v2_13) (lv' := [(2, .int v2_13), (0, .ref h_o), (1, .int v1)]) hx hb dX2_standing_52 hl (k := 2) rfl (by rw [ev2_13]; rfl) (by decide) rfl (fun ls hl => ?_)
    refine lv_goto (tgt := 16) hx hb dX2_standing_55 (by decide) ?_
    exact hk16 v1 v2_13 H locs ls hf hP hD hS (lv_sub hl [1, 2, 0] rfl)
  have j16 : ∀ (n : Nat) (v1 : Int32) (v2 : Int32) (H : Heap) (locs : List Loc) (ls : Array Slot), fX2_standing_16 o_kinds o_targets n v1 v2 = some r → va_P G vwCl (wX2_standing cI cJ cZ h_o h_o_kinds h_o_targets h_o_bins o_total o_knownBy o_kinds o_targets) H → va_D A (wX2_standing cI cJ cZ h_o h_o_kinds h_o_targets h_o_bins o_total o_knownBy o_kinds o_targets) → va_S A s.heap H locs → lv_has ls 3 [(0, .ref h_o), (1, .int v1), (2, .int v2)] → W p l e ({ frames := 1, cells := 0, slots := 0, locals := 20 } : Room) s m ([.ref h_o] : List Value).toArray below meth c H locs 0 0 Q (F0 m 16 ls []) := by
    intro n
    induction n with
    | zero =>
      intro v1 v2 H locs ls hf
      have hf : (none : Option (Int32)) = some r := hf
      cases hf
    | succ n ih =>
      intro v1 v2 H locs ls hf hP hD hS hl
      rw [fX2_standing_16.eq_2] at hf
      refine lv_iload_n hx hb dX2_standing_16 rfl (lv_at hl 2 rfl) ?_
      refine lv_if_lt (tgt := 58) hx hb dX2_standing_17 (by decide) (fun c_7 => ?_) (fun c_7 => ?_)
      · have hf := it_t c_7 hf
        refine lv_iload_n hx hb dX2_standing_58 rfl (lv_at hl 1 rfl) ?_
        cases hf
        exact hret _ _ _ _ dX2_standing_59 hP hD hS
      · have hf := it_f c_7 hf
        refine lv_aload_n hx hb dX2_standing_20 rfl (lv_at hl 0 rfl) ?_
        refine rd (ci := 2) (C := RX2) (T := TX2) (N := 5) hx hb hts inX2 hown hK hP 0 0 rfl rfl (by decide) (hts _ q_fX2_11) rfl dX2_standing_21 ?_
        refine lv_iload_n hx hb dX2_standing_24 rfl (lv_at hl 2 rfl) ?_
        obtain ⟨g_8, hf⟩ := gd_x hf
        refine va_iald hx hb hK hP 1 0 rfl rfl (inb_x g_8) dX2_standing_25 ?_
        refine lv_iconst (v := (2 : Int32)) hx hb dX2_standing_26 (by decide) ?_
        refine lv_icmp_ne (tgt := 52) hx hb dX2_standing_27 (by decide) (fun c_9 => ?_) (fun c_9 => ?_)
        · have hf := it_f c_9 hf
          exact j52 (fX2_standing_16 o_kinds o_targets n) ih v1 v2 H locs ls hf hP hD hS (lv_sub hl [0, 1, 2] rfl)
        · have hf := it_t c_9 hf
          refine lv_iload_n hx hb dX2_standing_30 rfl (lv_at hl 1 rfl) ?_
          refine lv_iload_n hx hb dX2_standing_31 rfl (lv_at hl 2 rfl) ?_
          refine lv_ishr hx hb dX2_standing_32 ?_
          refine lv_iconst (v := (1 : Int32)) hx hb dX2_standing_33 (by decide) ?_
          refine lv_iand hx hb dX2_standing_34 ?_
          refine lv_iconst (v := (1 : Int32)) hx hb dX2_standing_35 (by decide) ?_
          refine lv_icmp_ne (tgt := 52) hx hb dX2_standing_36 (by decide) (fun c_10 => ?_) (fun c_10 => ?_)
          · have hf := it_f c_10 hf
            exact j52 (fX2_standing_16 o_kinds o_targets n) ih v1 v2 H locs ls hf hP hD hS (lv_sub hl [0, 1, 2] rfl)
          · have hf := it_t c_10 hf
            refine lv_iload_n hx hb dX2_standing_39 rfl (lv_at hl 1 rfl) ?_
            refine lv_iconst (v := (1 : Int32)) hx hb dX2_standing_40 (by decide) ?_
            refine lv_aload_n hx hb dX2_standing_41 rfl (lv_at hl 0 rfl) ?_
            refine rd (ci := 2) (C := RX2) (T := TX2) (N := 5) hx hb hts inX2 hown hK hP 0 1 rfl rfl (by decide) (hts _ q_fX2_15) rfl dX2_standing_42 ?_
            refine lv_iload_n hx hb dX2_standing_45 rfl (lv_at hl 2 rfl) ?_
            obtain ⟨g_11, hf⟩ := gd_x hf
            refine va_iald hx hb hK hP 2 0 rfl rfl (inb_x g_11) dX2_standing_46 ?_
            refine lv_ishl hx hb dX2_standing_47 ?_
            refine lv_iconst (v := (-1 : Int32)) hx hb dX2_standing_48 (by decide) ?_
            refine lv_ixor hx hb dX2_standing_49 ?_
            refine lv_iand hx hb dX2_standing_50 ?_
            refine lv_topi (fun v1_12 ev1_12 => ?_)
            have hf := nm_x ev1_12 hf
            refine lv_istore_n (lv' := [(1, .int v1_12), (0, .ref h_o), (2, .int v2)]) hx hb dX2_standing_51 rfl hl (by decide) rfl (fun ls hl => ?_)
            exact j52 (fX2_standing_16 o_kinds o_targets n) ih v1_12 v2 H locs ls hf hP hD hS (lv_sub hl [1, 0, 2] rfl)
  unfold fX2_standing at hf
  obtain ⟨H, eH⟩ : ∃ H, H = s.heap := ⟨_, rfl⟩
  obtain ⟨locs, elocs⟩ : ∃ z : List Loc, z = [] := ⟨_, rfl⟩
  have hP : va_P G vwCl (wX2_standing cI cJ cZ h_o h_o_kinds h_o_targets h_o_bins o_total o_knownBy o_kinds o_targets) H := by rw [eH]; exact hP
  have hS : va_S A s.heap H locs := by rw [eH, elocs]; exact hS
  suffices hgo : W p l e ({ frames := 1, cells := 0, slots := 0, locals := 20 } : Room) s m ([.ref h_o] : List Value).toArray below meth c H locs 0 0 Q (F0 m 0 ls []) by rw [eH, elocs] at hgo; exact hgo
  clear eH elocs
  refine lv_iconst (v := (1 : Int32)) hx hb dX2_standing_0 (by decide) ?_
  refine lv_aload_n hx hb dX2_standing_1 rfl (lv_at hl 0 rfl) ?_
  obtain ⟨r_1, e_2, hf⟩ := bd1_x hf
  refine call_v [] [.int (1 : Int32)] ⟨hx, hb, hml, hown, hts⟩ hK hP hD hS hA hl.1 (tX2_knownNow l G cI cJ cZ H.size h_o h_o_kinds h_o_targets h_o_bins o_total o_knownBy r_1 e_2) (cwV 0 hts (gv q_mX2_28 q_i_yX2_knownNow q_s_yX2_knownNow q_n_RX2 q_k_yX2_knownNow) rfl rfl rfl (by decide +kernel) ⟨by decide, by decide⟩) rfl rfl (Nat.le_of_ble_eq_true rfl) dX2_standing_2 ⟨Nat.zero_le _, Nat.zero_le _⟩ (ci := 2) rfl 0 rfl [0] [1, 2] [2, 0, 1] rfl rfl (ws2 := (wX2_standing cI cJ cZ h_o h_o_kinds h_o_targets h_o_bins o_total o_knownBy o_kinds o_targets)) rfl (fun H locs hP hD hS => ?_)
  refine W.eq (g2 := F0 m 5 ls [.int r_1, .int (1 : Int32)]) rfl ?_
  refine lv_ishl hx hb dX2_standing_5 ?_
  refine lv_iconst (v := (1 : Int32)) hx hb dX2_standing_6 (by decide) ?_
  refine lv_isub hx hb dX2_standing_7 ?_
  refine lv_topi (fun v1_3 ev1_3 => ?_)
  have hf := nm_x ev1_3 hf
  refine lv_istore_n (lv' := [(1, .int v1_3), (0, .ref h_o)]) hx hb dX2_standing_8 rfl hl (by decide) rfl (fun ls hl => ?_)
  refine lv_aload_n hx hb dX2_standing_9 rfl (lv_at hl 1 rfl) ?_
  obtain ⟨r_4, e_5, hf⟩ := bd1_x hf
  refine call_v [] [] ⟨hx, hb, hml, hown, hts⟩ hK hP hD hS hA hl.1 (tX2_knownNow l G cI cJ cZ H.size h_o h_o_kinds h_o_targets h_o_bins o_total o_knownBy r_4 e_5) (cwV 0 hts (gv q_mX2_28 q_i_yX2_knownNow q_s_yX2_knownNow q_n_RX2 q_k_yX2_knownNow) rfl rfl rfl (by decide +kernel) ⟨by decide, by decide⟩) rfl rfl (Nat.le_of_ble_eq_true rfl) dX2_standing_10 ⟨Nat.zero_le _, Nat.zero_le _⟩ (ci := 2) rfl 0 rfl [0] [1, 2] [2, 0, 1] rfl rfl (ws2 := (wX2_standing cI cJ cZ h_o h_o_kinds h_o_targets h_o_bins o_total o_knownBy o_kinds o_targets)) rfl (fun H locs hP hD hS => ?_)
  refine W.eq (g2 := F0 m 13 ls [.int r_4]) rfl ?_
  refine lv_iconst (v := (1 : Int32)) hx hb dX2_standing_13 (by decide) ?_
  refine lv_isub hx hb dX2_standing_14 ?_
  refine lv_topi (fun v2_6 ev2_6 => ?_)
  have hf := nm_x ev2_6 hf
  refine lv_istore_n (lv' := [(2, .int v2_6), (1, .int v1_3), (0, .ref h_o)]) hx hb dX2_standing_15 rfl hl (by decide) rfl (fun ls hl => ?_)
  exact j16 FU v1_3 v2_6 H locs ls hf hP hD hS (lv_sub hl [2, 1, 0] rfl)
def wX7_writeTo (cI cJ cZ : ClassId) (h_o h_a1 h_o_halved h_o_im h_o_re h_o_wasIm h_o_wasRe n_a1 : Nat) (o_exp : Int32) (o_done : Int32) (o_backward : Int32) (a1 : Nat → Int32) (o_halved : Nat → Int32) (o_im : Nat → Int32) (o_re : Nat → Int32) (o_wasIm : Nat → Int32) (o_wasRe : Nat → Int32) : va_W := [(h_o, .inr (7, [.ref h_o_re, .ref h_o_im, .ref h_o_wasRe, .ref h_o_wasIm, .ref h_o_halved, .int o_exp, .int o_done, .int o_backward])), (h_a1, .inl (cI, n_a1, .inl a1)), (h_o_halved, .inl (cI, 5, .inl o_halved)), (h_o_im, .inl (cI, 32, .inl o_im)), (h_o_re, .inl (cI, 32, .inl o_re)), (h_o_wasIm, .inl (cI, 32, .inl o_wasIm)), (h_o_wasRe, .inl (cI, 32, .inl o_wasRe))]
def fX7_writeTo_112 (n_a1 : Nat) (a1 : Nat → Int32) (s1 : Int32) (s2 : Int32) : Option ((Nat → Int32)) :=
  gd (inb s1 n_a1) (
  nm (upd a1 (Int32.toNatClampNeg s1) s2) (fun a1_18 =>
  some a1_18))
def fX7_writeTo (n_a1 : Nat) (o_exp : Int32) (o_done : Int32) (o_backward : Int32) (a1 : Nat → Int32) (o_halved : Nat → Int32) (o_im : Nat → Int32) (o_re : Nat → Int32) (o_wasIm : Nat → Int32) (o_wasRe : Nat → Int32) (p2 : Int32) : Option ((Nat → Int32)) :=
  gd (cpok (0 : Int32) p2 (32 : Int32) 32 n_a1) (
  nm (va_cpy o_re a1 (Int32.toNatClampNeg (0 : Int32)) (Int32.toNatClampNeg p2) (Int32.toNatClampNeg (32 : Int32))) (fun a1_2 =>
  gd (cpok (0 : Int32) (p2 + (32 : Int32)) (32 : Int32) 32 n_a1) (
  nm (va_cpy o_im a1_2 (Int32.toNatClampNeg (0 : Int32)) (Int32.toNatClampNeg (p2 + (32 : Int32))) (Int32.toNatClampNeg (32 : Int32))) (fun a1_4 =>
  gd (cpok (0 : Int32) (p2 + (64 : Int32)) (32 : Int32) 32 n_a1) (
  nm (va_cpy o_wasRe a1_4 (Int32.toNatClampNeg (0 : Int32)) (Int32.toNatClampNeg (p2 + (64 : Int32))) (Int32.toNatClampNeg (32 : Int32))) (fun a1_6 =>
  gd (cpok (0 : Int32) (p2 + (96 : Int32)) (32 : Int32) 32 n_a1) (
  nm (va_cpy o_wasIm a1_6 (Int32.toNatClampNeg (0 : Int32)) (Int32.toNatClampNeg (p2 + (96 : Int32))) (Int32.toNatClampNeg (32 : Int32))) (fun a1_8 =>
  nm (p2 + (128 : Int32)) (fun v3_9 =>
  gd (cpok (0 : Int32) v3_9 (5 : Int32) 5 n_a1) (
  nm (va_cpy o_halved a1_8 (Int32.toNatClampNeg (0 : Int32)) (Int32.toNatClampNeg v3_9) (Int32.toNatClampNeg (5 : Int32))) (fun a1_11 =>
  gd (inb (v3_9 + (5 : Int32)) n_a1) (
  nm (upd a1_11 (Int32.toNatClampNeg (v3_9 + (5 : Int32))) o_exp) (fun a1_13 =>
  gd (inb ((v3_9 + (5 : Int32)) + (1 : Int32)) n_a1) (
  nm (upd a1_13 (Int32.toNatClampNeg ((v3_9 + (5 : Int32)) + (1 : Int32))) o_done) (fun a1_15 =>
  if o_backward = 0 then (
    fX7_writeTo_112 n_a1 a1_15 ((v3_9 + (5 : Int32)) + (2 : Int32)) (0 : Int32)
  ) else (
    fX7_writeTo_112 n_a1 a1_15 ((v3_9 + (5 : Int32)) + (2 : Int32)) (1 : Int32)
  ))))))))))))))))
set_option maxHeartbeats 4000000 in
set_option maxRecDepth 100000 in
theorem tX7_writeTo (l : Launch) (G : va_G) (cI cJ cZ : ClassId) (sz : Nat) (h_o h_a1 h_o_halved h_o_im h_o_re h_o_wasIm h_o_wasRe n_a1 : Nat) (o_exp : Int32) (o_done : Int32) (o_backward : Int32) (a1 : Nat → Int32) (o_halved : Nat → Int32) (o_im : Nat → Int32) (o_re : Nat → Int32) (o_wasIm : Nat → Int32) (o_wasRe : Nat → Int32) (p2 : Int32) (out_a1 : Nat → Int32) (hf : fX7_writeTo n_a1 o_exp o_done o_backward a1 o_halved o_im o_re o_wasIm o_wasRe p2 = some out_a1) : Met l yX7_writeTo (Cond.code yX7_writeTo cX7_writeTo 4 none :: BIG) ({ frames := 1, cells := 0, slots := 0, locals := 18 } : Room) (cP G (TY3 cI cJ cZ) [.ref h_o, .ref h_a1, .int p2] sz (wX7_writeTo cI cJ cZ h_o h_a1 h_o_halved h_o_im h_o_re h_o_wasIm h_o_wasRe n_a1 o_exp o_done o_backward a1 o_halved o_im o_re o_wasIm o_wasRe)) (cQ G (TY3 cI cJ cZ) sz (wX7_writeTo cI cJ cZ h_o h_a1 h_o_halved h_o_im h_o_re h_o_wasIm h_o_wasRe n_a1 o_exp o_done o_backward a1 o_halved o_im o_re o_wasIm o_wasRe) (wX7_writeTo cI cJ cZ h_o h_a1 h_o_halved h_o_im h_o_re h_o_wasIm h_o_wasRe n_a1 o_exp o_done o_backward out_a1 o_halved o_im o_re o_wasIm o_wasRe) none) 0 0 (va_A (wX7_writeTo cI cJ cZ h_o h_a1 h_o_halved h_o_im h_o_re h_o_wasIm h_o_wasRe n_a1 o_exp o_done o_backward a1 o_halved o_im o_re o_wasIm o_wasRe) sz) := by
  refine met_v (cc := cX7_writeTo) (maxL := 4) (plainFor_of_name (by decide)) (Nat.le_of_ble_eq_true rfl) (fun p e s m below meth c A ls Q hx hb hml hts hown hK hP hD hS hA hl hret => ?_)
  have hown : s.vm.findClass RX7 = some m.cls := hown
  have hl : lv_has ls 4 [(0, .ref h_o), (1, .ref h_a1), (2, .int p2)] := hl
  have j112 : ∀ (a1 : Nat → Int32) (s1 : Int32) (s2 : Int32) (H : Heap) (locs : List Loc) (ls : Array Slot), fX7_writeTo_112 n_a1 a1 s1 s2 = some out_a1 → va_P G vwCl (wX7_writeTo cI cJ cZ h_o h_a1 h_o_halved h_o_im h_o_re h_o_wasIm h_o_wasRe n_a1 o_exp o_done o_backward a1 o_halved o_im o_re o_wasIm o_wasRe) H → va_D A (wX7_writeTo cI cJ cZ h_o h_a1 h_o_halved h_o_im h_o_re h_o_wasIm h_o_wasRe n_a1 o_exp o_done o_backward a1 o_halved o_im o_re o_wasIm o_wasRe) → va_S A s.heap H locs → lv_has ls 4 [] → W p l e ({ frames := 1, cells := 0, slots := 0, locals := 18 } : Room) s m ([.ref h_o, .ref h_a1, .int p2] : List Value).toArray below meth c H locs 0 0 Q (F0 m 112 ls [.int s2, .int s1, .ref h_a1]) := by
    intro a1 s1 s2 H locs ls hf hP hD hS hl
    unfold fX7_writeTo_112 at hf
    obtain ⟨g_17, hf⟩ := gd_x hf
    obtain ⟨a1_18, ea1_18⟩ : ∃ y : Nat → Int32, y = upd a1 (Int32.toNatClampNeg s1) s2 := ⟨_, rfl⟩
    have hf := nm_x ea1_18 hf
    refine ist hx hb hK hP hD hS 1 0 rfl rfl (inb_x g_17) dX7_writeTo_112 ea1_18 (ws2 := (wX7_writeTo cI cJ cZ h_o h_a1 h_o_halved h_o_im h_o_re h_o_wasIm h_o_wasRe n_a1 o_exp o_done o_backward a1_18 o_halved o_im o_re o_wasIm o_wasRe)) rfl (fun H locs hP hD hS => ?_)
    cases hf
    exact hret _ _ _ _ dX7_writeTo_113 hP hD hS
  unfold fX7_writeTo at hf
  obtain ⟨H, eH⟩ : ∃ H, H = s.heap := ⟨_, rfl⟩
  obtain ⟨locs, elocs⟩ : ∃ z : List Loc, z = [] := ⟨_, rfl⟩
  have hP : va_P G vwCl (wX7_writeTo cI cJ cZ h_o h_a1 h_o_halved h_o_im h_o_re h_o_wasIm h_o_wasRe n_a1 o_exp o_done o_backward a1 o_halved o_im o_re o_wasIm o_wasRe) H := by rw [eH]; exact hP
  have hS : va_S A s.heap H locs := by rw [eH, elocs]; exact hS
  suffices hgo : W p l e ({ frames := 1, cells := 0, slots := 0, locals := 18 } : Room) s m ([.ref h_o, .ref h_a1, .int p2] : List Value).toArray below meth c H locs 0 0 Q (F0 m 0 ls []) by rw [eH, elocs] at hgo; exact hgo
  clear eH elocs
  refine lv_aload_n hx hb dX7_writeTo_0 rfl (lv_at hl 0 rfl) ?_
  refine rd (ci := 7) (C := RX7) (T := TX7) (N := 8) hx hb hts inX7 hown hK hP 0 0 rfl rfl (by decide) (hts _ q_fX7_9) rfl dX7_writeTo_1 ?_
  refine lv_iconst (v := (0 : Int32)) hx hb dX7_writeTo_4 (by decide) ?_
  refine lv_aload_n hx hb dX7_writeTo_5 rfl (lv_at hl 1 rfl) ?_
  refine lv_iload_n hx hb dX7_writeTo_6 rfl (lv_at hl 2 rfl) ?_
  refine lv_bipush (v := (32 : Int32)) hx hb dX7_writeTo_7 (by decide) ?_
  obtain ⟨g_1, hf⟩ := gd_x hf
  obtain ⟨a1_2, ea1_2⟩ : ∃ y : Nat → Int32, y = va_cpy o_re a1 (Int32.toNatClampNeg (0 : Int32)) (Int32.toNatClampNeg p2) (Int32.toNatClampNeg (32 : Int32)) := ⟨_, rfl⟩
  have hf := nm_x ea1_2 hf
  refine cpy hx hb (hml.trans hl.1.symm) hown (hts _ q_mX7_38) (hts _ q_n_arraycopyName) (hts _ q_s_arraycopyName) (hts _ q_n_java_lang_System) hK hP hD hS 4 1 0 rfl rfl rfl g_1 (by decide) (Nat.le_of_ble_eq_true rfl) dX7_writeTo_9 ea1_2 (ws2 := (wX7_writeTo cI cJ cZ h_o h_a1 h_o_halved h_o_im h_o_re h_o_wasIm h_o_wasRe n_a1 o_exp o_done o_backward a1_2 o_halved o_im o_re o_wasIm o_wasRe)) rfl (fun H locs hP hD hS => ?_)
  refine lv_aload_n hx hb dX7_writeTo_12 rfl (lv_at hl 0 rfl) ?_
  refine rd (ci := 7) (C := RX7) (T := TX7) (N := 8) hx hb hts inX7 hown hK hP 0 1 rfl rfl (by decide) (hts _ q_fX7_15) rfl dX7_writeTo_13 ?_
  refine lv_iconst (v := (0 : Int32)) hx hb dX7_writeTo_16 (by decide) ?_
  refine lv_aload_n hx hb dX7_writeTo_17 rfl (lv_at hl 1 rfl) ?_
  refine lv_iload_n hx hb dX7_writeTo_18 rfl (lv_at hl 2 rfl) ?_
  refine lv_bipush (v := (32 : Int32)) hx hb dX7_writeTo_19 (by decide) ?_
  refine lv_iadd hx hb dX7_writeTo_21 ?_
  refine lv_bipush (v := (32 : Int32)) hx hb dX7_writeTo_22 (by decide) ?_
  obtain ⟨g_3, hf⟩ := gd_x hf
  obtain ⟨a1_4, ea1_4⟩ : ∃ y : Nat → Int32, y = va_cpy o_im a1_2 (Int32.toNatClampNeg (0 : Int32)) (Int32.toNatClampNeg (p2 + (32 : Int32))) (Int32.toNatClampNeg (32 : Int32)) := ⟨_, rfl⟩
  have hf := nm_x ea1_4 hf
  refine cpy hx hb (hml.trans hl.1.symm) hown (hts _ q_mX7_38) (hts _ q_n_arraycopyName) (hts _ q_s_arraycopyName) (hts _ q_n_java_lang_System) hK hP hD hS 3 1 0 rfl rfl rfl g_3 (by decide) (Nat.le_of_ble_eq_true rfl) dX7_writeTo_24 ea1_4 (ws2 := (wX7_writeTo cI cJ cZ h_o h_a1 h_o_halved h_o_im h_o_re h_o_wasIm h_o_wasRe n_a1 o_exp o_done o_backward a1_4 o_halved o_im o_re o_wasIm o_wasRe)) rfl (fun H locs hP hD hS => ?_)
  refine lv_aload_n hx hb dX7_writeTo_27 rfl (lv_at hl 0 rfl) ?_
  refine rd (ci := 7) (C := RX7) (T := TX7) (N := 8) hx hb hts inX7 hown hK hP 0 2 rfl rfl (by decide) (hts _ q_fX7_18) rfl dX7_writeTo_28 ?_
  refine lv_iconst (v := (0 : Int32)) hx hb dX7_writeTo_31 (by decide) ?_
  refine lv_aload_n hx hb dX7_writeTo_32 rfl (lv_at hl 1 rfl) ?_
  refine lv_iload_n hx hb dX7_writeTo_33 rfl (lv_at hl 2 rfl) ?_
  refine lv_bipush (v := (64 : Int32)) hx hb dX7_writeTo_34 (by decide) ?_
  refine lv_iadd hx hb dX7_writeTo_36 ?_
  refine lv_bipush (v := (32 : Int32)) hx hb dX7_writeTo_37 (by decide) ?_
  obtain ⟨g_5, hf⟩ := gd_x hf
  obtain ⟨a1_6, ea1_6⟩ : ∃ y : Nat → Int32, y = va_cpy o_wasRe a1_4 (Int32.toNatClampNeg (0 : Int32)) (Int32.toNatClampNeg (p2 + (64 : Int32))) (Int32.toNatClampNeg (32 : Int32)) := ⟨_, rfl⟩
  have hf := nm_x ea1_6 hf
  refine cpy hx hb (hml.trans hl.1.symm) hown (hts _ q_mX7_38) (hts _ q_n_arraycopyName) (hts _ q_s_arraycopyName) (hts _ q_n_java_lang_System) hK hP hD hS 6 1 0 rfl rfl rfl g_5 (by decide) (Nat.le_of_ble_eq_true rfl) dX7_writeTo_39 ea1_6 (ws2 := (wX7_writeTo cI cJ cZ h_o h_a1 h_o_halved h_o_im h_o_re h_o_wasIm h_o_wasRe n_a1 o_exp o_done o_backward a1_6 o_halved o_im o_re o_wasIm o_wasRe)) rfl (fun H locs hP hD hS => ?_)
  refine lv_aload_n hx hb dX7_writeTo_42 rfl (lv_at hl 0 rfl) ?_
  refine rd (ci := 7) (C := RX7) (T := TX7) (N := 8) hx hb hts inX7 hown hK hP 0 3 rfl rfl (by decide) (hts _ q_fX7_21) rfl dX7_writeTo_43 ?_
  refine lv_iconst (v := (0 : Int32)) hx hb dX7_writeTo_46 (by decide) ?_
  refine lv_aload_n hx hb dX7_writeTo_47 rfl (lv_at hl 1 rfl) ?_
  refine lv_iload_n hx hb dX7_writeTo_48 rfl (lv_at hl 2 rfl) ?_
  refine lv_bipush (v := (96 : Int32)) hx hb dX7_writeTo_49 (by decide) ?_
  refine lv_iadd hx hb dX7_writeTo_51 ?_
  refine lv_bipush (v := (32 : Int32)) hx hb dX7_writeTo_52 (by decide) ?_
  obtain ⟨g_7, hf⟩ := gd_x hf
  obtain ⟨a1_8, ea1_8⟩ : ∃ y : Nat → Int32, y = va_cpy o_wasIm a1_6 (Int32.toNatClampNeg (0 : Int32)) (Int32.toNatClampNeg (p2 + (96 : Int32))) (Int32.toNatClampNeg (32 : Int32)) := ⟨_, rfl⟩
  have hf := nm_x ea1_8 hf
  refine cpy hx hb (hml.trans hl.1.symm) hown (hts _ q_mX7_38) (hts _ q_n_arraycopyName) (hts _ q_s_arraycopyName) (hts _ q_n_java_lang_System) hK hP hD hS 5 1 0 rfl rfl rfl g_7 (by decide) (Nat.le_of_ble_eq_true rfl) dX7_writeTo_54 ea1_8 (ws2 := (wX7_writeTo cI cJ cZ h_o h_a1 h_o_halved h_o_im h_o_re h_o_wasIm h_o_wasRe n_a1 o_exp o_done o_backward a1_8 o_halved o_im o_re o_wasIm o_wasRe)) rfl (fun H locs hP hD hS => ?_)
  refine lv_iload_n hx hb dX7_writeTo_57 rfl (lv_at hl 2 rfl) ?_
  refine lv_sipush (v := (128 : Int32)) hx hb dX7_writeTo_58 (by decide) ?_
  refine lv_iadd hx hb dX7_writeTo_61 ?_
  refine lv_topi (fun v3_9 ev3_9 => ?_)
  have hf := nm_x ev3_9 hf
  refine lv_istore_n (lv' := [(3, .int v3_9), (0, .ref h_o), (1, .ref h_a1), (2, .int p2)]) hx hb dX7_writeTo_62 rfl hl (by decide) rfl (fun ls hl => ?_)
  refine lv_aload_n hx hb dX7_writeTo_63 rfl (lv_at hl 1 rfl) ?_
  refine rd (ci := 7) (C := RX7) (T := TX7) (N := 8) hx hb hts inX7 hown hK hP 0 4 rfl rfl (by decide) (hts _ q_fX7_24) rfl dX7_writeTo_64 ?_
  refine lv_iconst (v := (0 : Int32)) hx hb dX7_writeTo_67 (by decide) ?_
  refine lv_aload_n hx hb dX7_writeTo_68 rfl (lv_at hl 2 rfl) ?_
  refine lv_iload_n hx hb dX7_writeTo_69 rfl (lv_at hl 0 rfl) ?_
  refine lv_iconst (v := (5 : Int32)) hx hb dX7_writeTo_70 (by decide) ?_
  obtain ⟨g_10, hf⟩ := gd_x hf
  obtain ⟨a1_11, ea1_11⟩ : ∃ y : Nat → Int32, y = va_cpy o_halved a1_8 (Int32.toNatClampNeg (0 : Int32)) (Int32.toNatClampNeg v3_9) (Int32.toNatClampNeg (5 : Int32)) := ⟨_, rfl⟩
  have hf := nm_x ea1_11 hf
  refine cpy hx hb (hml.trans hl.1.symm) hown (hts _ q_mX7_38) (hts _ q_n_arraycopyName) (hts _ q_s_arraycopyName) (hts _ q_n_java_lang_System) hK hP hD hS 2 1 0 rfl rfl rfl g_10 (by decide) (Nat.le_of_ble_eq_true rfl) dX7_writeTo_71 ea1_11 (ws2 := (wX7_writeTo cI cJ cZ h_o h_a1 h_o_halved h_o_im h_o_re h_o_wasIm h_o_wasRe n_a1 o_exp o_done o_backward a1_11 o_halved o_im o_re o_wasIm o_wasRe)) rfl (fun H locs hP hD hS => ?_)
  refine lv_aload_n hx hb dX7_writeTo_74 rfl (lv_at hl 2 rfl) ?_
  refine lv_iload_n hx hb dX7_writeTo_75 rfl (lv_at hl 0 rfl) ?_
  refine lv_iconst (v := (5 : Int32)) hx hb dX7_writeTo_76 (by decide) ?_
  refine lv_iadd hx hb dX7_writeTo_77 ?_
  refine lv_aload_n hx hb dX7_writeTo_78 rfl (lv_at hl 1 rfl) ?_
  refine rd (ci := 7) (C := RX7) (T := TX7) (N := 8) hx hb hts inX7 hown hK hP 0 5 rfl rfl (by decide) (hts _ q_fX7_27) rfl dX7_writeTo_79 ?_
  obtain ⟨g_12, hf⟩ := gd_x hf
  obtain ⟨a1_13, ea1_13⟩ : ∃ y : Nat → Int32, y = upd a1_11 (Int32.toNatClampNeg (v3_9 + (5 : Int32))) o_exp := ⟨_, rfl⟩
  have hf := nm_x ea1_13 hf
  refine ist hx hb hK hP hD hS 1 0 rfl rfl (inb_x g_12) dX7_writeTo_82 ea1_13 (ws2 := (wX7_writeTo cI cJ cZ h_o h_a1 h_o_halved h_o_im h_o_re h_o_wasIm h_o_wasRe n_a1 o_exp o_done o_backward a1_13 o_halved o_im o_re o_wasIm o_wasRe)) rfl (fun H locs hP hD hS => ?_)
  refine lv_aload_n hx hb dX7_writeTo_83 rfl (lv_at hl 2 rfl) ?_
  refine lv_iload_n hx hb dX7_writeTo_84 rfl (lv_at hl 0 rfl) ?_
  refine lv_iconst (v := (5 : Int32)) hx hb dX7_writeTo_85 (by decide) ?_
  refine lv_iadd hx hb dX7_writeTo_86 ?_
  refine lv_iconst (v := (1 : Int32)) hx hb dX7_writeTo_87 (by decide) ?_
  refine lv_iadd hx hb dX7_writeTo_88 ?_
  refine lv_aload_n hx hb dX7_writeTo_89 rfl (lv_at hl 1 rfl) ?_
  refine rd (ci := 7) (C := RX7) (T := TX7) (N := 8) hx hb hts inX7 hown hK hP 0 6 rfl rfl (by decide) (hts _ q_fX7_31) rfl dX7_writeTo_90 ?_
  obtain ⟨g_14, hf⟩ := gd_x hf
  obtain ⟨a1_15, ea1_15⟩ : ∃ y : Nat → Int32, y = upd a1_13 (Int32.toNatClampNeg ((v3_9 + (5 : Int32)) + (1 : Int32))) o_done := ⟨_, rfl⟩
  have hf := nm_x ea1_15 hf
  refine ist hx hb hK hP hD hS 1 0 rfl rfl (inb_x g_14) dX7_writeTo_93 ea1_15 (ws2 := (wX7_writeTo cI cJ cZ h_o h_a1 h_o_halved h_o_im h_o_re h_o_wasIm h_o_wasRe n_a1 o_exp o_done o_backward a1_15 o_halved o_im o_re o_wasIm o_wasRe)) rfl (fun H locs hP hD hS => ?_)
  refine lv_aload_n hx hb dX7_writeTo_94 rfl (lv_at hl 2 rfl) ?_
  refine lv_iload_n hx hb dX7_writeTo_95 rfl (lv_at hl 0 rfl) ?_
  refine lv_iconst (v := (5 : Int32)) hx hb dX7_writeTo_96 (by decide) ?_
  refine lv_iadd hx hb dX7_writeTo_97 ?_
  refine lv_iconst (v := (2 : Int32)) hx hb dX7_writeTo_98 (by decide) ?_
  refine lv_iadd hx hb dX7_writeTo_99 ?_
  refine lv_aload_n hx hb dX7_writeTo_100 rfl (lv_at hl 1 rfl) ?_
  refine rd (ci := 7) (C := RX7) (T := TX7) (N := 8) hx hb hts inX7 hown hK hP 0 7 rfl rfl (by decide) (hts _ q_fX7_34) rfl dX7_writeTo_101 ?_
  refine lv_if_eq (tgt := 111) hx hb dX7_writeTo_104 (by decide) (fun c_16 => ?_) (fun c_16 => ?_)
  · have hf := it_t c_16 hf
    refine lv_iconst (v := (0 : Int32)) hx hb dX7_writeTo_111 (by decide) ?_
    exact j112 a1_15 ((v3_9 + (5 : Int32)) + (2 : Int32)) (0 : Int32) H locs ls hf hP hD hS (lv_sub hl [] rfl)
  · have hf := it_f c_16 hf
    refine lv_iconst (v := (1 : Int32)) hx hb dX7_writeTo_107 (by decide) ?_
    refine lv_goto (tgt := 112) hx hb dX7_writeTo_108 (by decide) ?_
    exact j112 a1_15 ((v3_9 + (5 : Int32)) + (2 : Int32)) (1 : Int32) H locs ls hf hP hD hS (lv_sub hl [] rfl)
def wX3_remember (cI cJ cZ : ClassId) (h_o h_a1 h_a1_halved h_a1_im h_a1_re h_a1_wasIm h_a1_wasRe h_o_cells : Nat) (o_next : Int32) (o_held : Int32) (a1_exp : Int32) (a1_done : Int32) (a1_backward : Int32) (a1_halved : Nat → Int32) (a1_im : Nat → Int32) (a1_re : Nat → Int32) (a1_wasIm : Nat → Int32) (a1_wasRe : Nat → Int32) (o_cells : Nat → Int32) : va_W := [(h_o, .inr (3, [.ref h_o_cells, .int o_next, .int o_held])), (h_a1, .inr (7, [.ref h_a1_re, .ref h_a1_im, .ref h_a1_wasRe, .ref h_a1_wasIm, .ref h_a1_halved, .int a1_exp, .int a1_done, .int a1_backward])), (h_a1_halved, .inl (cI, 5, .inl a1_halved)), (h_a1_im, .inl (cI, 32, .inl a1_im)), (h_a1_re, .inl (cI, 32, .inl a1_re)), (h_a1_wasIm, .inl (cI, 32, .inl a1_wasIm)), (h_a1_wasRe, .inl (cI, 32, .inl a1_wasRe)), (h_o_cells, .inl (cI, 2720, .inl o_cells))]
def fX3_remember_38 (o_next : Int32) (o_held : Int32) (o_cells : Nat → Int32) (s1 : Int32) : Option (Int32 × Int32 × (Nat → Int32)) :=
  nm (if (o_held + (1 : Int32)) < (20 : Int32) then (o_held + (1 : Int32)) else (20 : Int32)) (fun m_4 =>
  some (s1, m_4, o_cells))
def fX3_remember (o_next : Int32) (o_held : Int32) (a1_exp : Int32) (a1_done : Int32) (a1_backward : Int32) (a1_halved : Nat → Int32) (a1_im : Nat → Int32) (a1_re : Nat → Int32) (a1_wasIm : Nat → Int32) (a1_wasRe : Nat → Int32) (o_cells : Nat → Int32) : Option (Int32 × Int32 × (Nat → Int32)) :=
  bd1 (fX7_writeTo 2720 a1_exp a1_done a1_backward o_cells a1_halved a1_im a1_re a1_wasIm a1_wasRe (o_next * (136 : Int32))) (fun o_cells_1 =>
  if (20 : Int32) ≤ (o_next + (1 : Int32)) then (
    fX3_remember_38 o_next o_held o_cells_1 (0 : Int32)
  ) else (
    fX3_remember_38 o_next o_held o_cells_1 (o_next + (1 : Int32))
  ))
set_option maxHeartbeats 4000000 in
set_option maxRecDepth 100000 in
theorem tX3_remember (l : Launch) (G : va_G) (cI cJ cZ : ClassId) (sz : Nat) (h_o h_a1 h_a1_halved h_a1_im h_a1_re h_a1_wasIm h_a1_wasRe h_o_cells : Nat) (o_next : Int32) (o_held : Int32) (a1_exp : Int32) (a1_done : Int32) (a1_backward : Int32) (a1_halved : Nat → Int32) (a1_im : Nat → Int32) (a1_re : Nat → Int32) (a1_wasIm : Nat → Int32) (a1_wasRe : Nat → Int32) (o_cells : Nat → Int32) (out_o_next : Int32) (out_o_held : Int32) (out_o_cells : Nat → Int32) (hf : fX3_remember o_next o_held a1_exp a1_done a1_backward a1_halved a1_im a1_re a1_wasIm a1_wasRe o_cells = some (out_o_next, out_o_held, out_o_cells)) : Met l yX3_remember (Cond.code yX3_remember cX3_remember 2 none :: BIG) ({ frames := 2, cells := 0, slots := 0, locals := 41 } : Room) (cP G (TY3 cI cJ cZ) [.ref h_o, .ref h_a1] sz (wX3_remember cI cJ cZ h_o h_a1 h_a1_halved h_a1_im h_a1_re h_a1_wasIm h_a1_wasRe h_o_cells o_next o_held a1_exp a1_done a1_backward a1_halved a1_im a1_re a1_wasIm a1_wasRe o_cells)) (cQ G (TY3 cI cJ cZ) sz (wX3_remember cI cJ cZ h_o h_a1 h_a1_halved h_a1_im h_a1_re h_a1_wasIm h_a1_wasRe h_o_cells o_next o_held a1_exp a1_done a1_backward a1_halved a1_im a1_re a1_wasIm a1_wasRe o_cells) (wX3_remember cI cJ cZ h_o h_a1 h_a1_halved h_a1_im h_a1_re h_a1_wasIm h_a1_wasRe h_o_cells out_o_next out_o_held a1_exp a1_done a1_backward a1_halved a1_im a1_re a1_wasIm a1_wasRe out_o_cells) none) 0 0 (va_A (wX3_remember cI cJ cZ h_o h_a1 h_a1_halved h_a1_im h_a1_re h_a1_wasIm h_a1_wasRe h_o_cells o_next o_held a1_exp a1_done a1_backward a1_halved a1_im a1_re a1_wasIm a1_wasRe o_cells) sz) := by
  refine met_v (cc := cX3_remember) (maxL := 2) (plainFor_of_name (by decide)) (Nat.le_of_ble_eq_true rfl) (fun p e s m below meth c A ls Q hx hb hml hts hown hK hP hD hS hA hl hret => ?_)
  have hown : s.vm.findClass RX3 = some m.cls := hown
  have hl : lv_has ls 2 [(0, .ref h_o), (1, .ref h_a1)] := hl
  have j38 : ∀ (o_next : Int32) (o_held : Int32) (o_cells : Nat → Int32) (s1 : Int32) (H : Heap) (locs : List Loc) (ls : Array Slot), fX3_remember_38 o_next o_held o_cells s1 = some (out_o_next, out_o_held, out_o_cells) → va_P G vwCl (wX3_remember cI cJ cZ h_o h_a1 h_a1_halved h_a1_im h_a1_re h_a1_wasIm h_a1_wasRe h_o_cells o_next o_held a1_exp a1_done a1_backward a1_halved a1_im a1_re a1_wasIm a1_wasRe o_cells) H → va_D A (wX3_remember cI cJ cZ h_o h_a1 h_a1_halved h_a1_im h_a1_re h_a1_wasIm h_a1_wasRe h_o_cells o_next o_held a1_exp a1_done a1_backward a1_halved a1_im a1_re a1_wasIm a1_wasRe o_cells) → va_S A s.heap H locs → lv_has ls 2 [(0, .ref h_o)] → W p l e ({ frames := 2, cells := 0, slots := 0, locals := 41 } : Room) s m ([.ref h_o, .ref h_a1] : List Value).toArray below meth c H locs 0 0 Q (F0 m 38 ls [.int s1, .ref h_o]) := by
    intro o_next o_held o_cells s1 H locs ls hf hP hD hS hl
    unfold fX3_remember_38 at hf
    refine wr (ci := 3) (C := RX3) (T := TX3) (N := 3) hx hb hts inX3 tyX3 tyX3_ok nmX3 hown hK hP hD hS 0 1 rfl rfl (by decide) (hts _ q_fX3_15) rfl rfl rfl (Nat.le_of_ble_eq_true rfl) dX3_remember_38 (ws2 := (wX3_remember cI cJ cZ h_o h_a1 h_a1_halved h_a1_im h_a1_re h_a1_wasIm h_a1_wasRe h_o_cells s1 o_held a1_exp a1_done a1_backward a1_halved a1_im a1_re a1_wasIm a1_wasRe o_cells)) rfl (fun H locs hP hD hS => ?_)
    refine lv_aload_n hx hb dX3_remember_41 rfl (lv_at hl 0 rfl) ?_
    refine lv_bipush (v := (20 : Int32)) hx hb dX3_remember_42 (by decide) ?_
    refine lv_aload_n hx hb dX3_remember_44 rfl (lv_at hl 0 rfl) ?_
    refine rd (ci := 3) (C := RX3) (T := TX3) (N := 3) hx hb hts inX3 hown hK hP 0 2 rfl rfl (by decide) (hts _ q_fX3_19) rfl dX3_remember_45 ?_
    refine lv_iconst (v := (1 : Int32)) hx hb dX3_remember_48 (by decide) ?_
    refine lv_iadd hx hb dX3_remember_49 ?_
    refine va_mmin hx hb (hml.trans hl.1.symm) hown (hts _ q_mX3_26) (hts _ q_s_Lib_Math_min_name) (hts _ q_n_java_lang_Math) (hts _ q_k_Lib_Math_min_name) (by decide) (Nat.le_of_ble_eq_true rfl) (Nat.zero_le _) (Nat.zero_le _) dX3_remember_50 ?_
    refine lv_topi (fun m_4 em_4 => ?_)
    have hf := nm_x em_4 hf
    refine wr (ci := 3) (C := RX3) (T := TX3) (N := 3) hx hb hts inX3 tyX3 tyX3_ok nmX3 hown hK hP hD hS 0 2 rfl rfl (by decide) (hts _ q_fX3_19) rfl rfl rfl (Nat.le_of_ble_eq_true rfl) dX3_remember_53 (ws2 := (wX3_remember cI cJ cZ h_o h_a1 h_a1_halved h_a1_im h_a1_re h_a1_wasIm h_a1_wasRe h_o_cells s1 m_4 a1_exp a1_done a1_backward a1_halved a1_im a1_re a1_wasIm a1_wasRe o_cells)) rfl (fun H locs hP hD hS => ?_)
    cases hf
    exact hret _ _ _ _ dX3_remember_56 hP hD hS
  unfold fX3_remember at hf
  obtain ⟨H, eH⟩ : ∃ H, H = s.heap := ⟨_, rfl⟩
  obtain ⟨locs, elocs⟩ : ∃ z : List Loc, z = [] := ⟨_, rfl⟩
  have hP : va_P G vwCl (wX3_remember cI cJ cZ h_o h_a1 h_a1_halved h_a1_im h_a1_re h_a1_wasIm h_a1_wasRe h_o_cells o_next o_held a1_exp a1_done a1_backward a1_halved a1_im a1_re a1_wasIm a1_wasRe o_cells) H := by rw [eH]; exact hP
  have hS : va_S A s.heap H locs := by rw [eH, elocs]; exact hS
  suffices hgo : W p l e ({ frames := 2, cells := 0, slots := 0, locals := 41 } : Room) s m ([.ref h_o, .ref h_a1] : List Value).toArray below meth c H locs 0 0 Q (F0 m 0 ls []) by rw [eH, elocs] at hgo; exact hgo
  clear eH elocs
  refine lv_aload_n hx hb dX3_remember_0 rfl (lv_at hl 1 rfl) ?_
  refine lv_aload_n hx hb dX3_remember_1 rfl (lv_at hl 0 rfl) ?_
  refine rd (ci := 3) (C := RX3) (T := TX3) (N := 3) hx hb hts inX3 hown hK hP 0 0 rfl rfl (by decide) (hts _ q_fX3_11) rfl dX3_remember_2 ?_
  refine lv_aload_n hx hb dX3_remember_5 rfl (lv_at hl 0 rfl) ?_
  refine rd (ci := 3) (C := RX3) (T := TX3) (N := 3) hx hb hts inX3 hown hK hP 0 1 rfl rfl (by decide) (hts _ q_fX3_15) rfl dX3_remember_6 ?_
  refine lv_sipush (v := (136 : Int32)) hx hb dX3_remember_9 (by decide) ?_
  refine lv_imul hx hb dX3_remember_12 ?_
  obtain ⟨o_cells_1, e_2, hf⟩ := bd1_x hf
  refine call_v [.ref h_o_cells, .int (o_next * (136 : Int32))] [] ⟨hx, hb, hml, hown, hts⟩ hK hP hD hS hA hl.1 (tX7_writeTo l G cI cJ cZ H.size h_a1 h_o_cells h_a1_halved h_a1_im h_a1_re h_a1_wasIm h_a1_wasRe 2720 a1_exp a1_done a1_backward o_cells a1_halved a1_im a1_re a1_wasIm a1_wasRe (o_next * (136 : Int32)) o_cells_1 e_2) (cwV 2 hts (gv q_mX3_22 q_i_yX7_writeTo q_s_yX7_writeTo q_n_RX7 q_k_yX7_writeTo) rfl rfl rfl (by decide +kernel) ⟨by decide, by decide⟩) rfl rfl (Nat.le_of_ble_eq_true rfl) dX3_remember_13 ⟨Nat.zero_le _, Nat.zero_le _⟩ (ci := 7) rfl 0 rfl [1, 7, 2, 3, 4, 5, 6] [0] [0, 1, 3, 4, 5, 6, 7, 2] rfl rfl (ws2 := (wX3_remember cI cJ cZ h_o h_a1 h_a1_halved h_a1_im h_a1_re h_a1_wasIm h_a1_wasRe h_o_cells o_next o_held a1_exp a1_done a1_backward a1_halved a1_im a1_re a1_wasIm a1_wasRe o_cells_1)) rfl (fun H locs hP hD hS => ?_)
  refine W.eq (g2 := F0 m 16 ls []) rfl ?_
  refine lv_aload_n hx hb dX3_remember_16 rfl (lv_at hl 0 rfl) ?_
  refine lv_aload_n hx hb dX3_remember_17 rfl (lv_at hl 0 rfl) ?_
  refine rd (ci := 3) (C := RX3) (T := TX3) (N := 3) hx hb hts inX3 hown hK hP 0 1 rfl rfl (by decide) (hts _ q_fX3_15) rfl dX3_remember_18 ?_
  refine lv_iconst (v := (1 : Int32)) hx hb dX3_remember_21 (by decide) ?_
  refine lv_iadd hx hb dX3_remember_22 ?_
  refine lv_bipush (v := (20 : Int32)) hx hb dX3_remember_23 (by decide) ?_
  refine lv_icmp_ge (tgt := 37) hx hb dX3_remember_25 (by decide) (fun c_3 => ?_) (fun c_3 => ?_)
  · have hf := it_t c_3 hf
    refine lv_iconst (v := (0 : Int32)) hx hb dX3_remember_37 (by decide) ?_
    exact j38 o_next o_held o_cells_1 (0 : Int32) H locs ls hf hP hD hS (lv_sub hl [0] rfl)
  · have hf := it_f c_3 hf
    refine lv_aload_n hx hb dX3_remember_28 rfl (lv_at hl 0 rfl) ?_
    refine rd (ci := 3) (C := RX3) (T := TX3) (N := 3) hx hb hts inX3 hown hK hP 0 1 rfl rfl (by decide) (hts _ q_fX3_15) rfl dX3_remember_29 ?_
    refine lv_iconst (v := (1 : Int32)) hx hb dX3_remember_32 (by decide) ?_
    refine lv_iadd hx hb dX3_remember_33 ?_
    refine lv_goto (tgt := 38) hx hb dX3_remember_34 (by decide) ?_
    exact j38 o_next o_held o_cells_1 (o_next + (1 : Int32)) H locs ls hf hP hD hS (lv_sub hl [0] rfl)
def wX7_readFrom (cI cJ cZ : ClassId) (h_o h_a1 h_o_halved h_o_im h_o_re h_o_wasIm h_o_wasRe n_a1 : Nat) (o_exp : Int32) (o_done : Int32) (o_backward : Int32) (a1 : Nat → Int32) (o_halved : Nat → Int32) (o_im : Nat → Int32) (o_re : Nat → Int32) (o_wasIm : Nat → Int32) (o_wasRe : Nat → Int32) : va_W := [(h_o, .inr (7, [.ref h_o_re, .ref h_o_im, .ref h_o_wasRe, .ref h_o_wasIm, .ref h_o_halved, .int o_exp, .int o_done, .int o_backward])), (h_a1, .inl (cI, n_a1, .inl a1)), (h_o_halved, .inl (cI, 5, .inl o_halved)), (h_o_im, .inl (cI, 32, .inl o_im)), (h_o_re, .inl (cI, 32, .inl o_re)), (h_o_wasIm, .inl (cI, 32, .inl o_wasIm)), (h_o_wasRe, .inl (cI, 32, .inl o_wasRe))]
def fX7_readFrom_111 (n_a1 : Nat) (o_exp : Int32) (o_done : Int32) (o_backward : Int32) (o_halved : Nat → Int32) (o_im : Nat → Int32) (o_re : Nat → Int32) (o_wasIm : Nat → Int32) (o_wasRe : Nat → Int32) (s1 : Int32) : Option (Int32 × Int32 × Int32 × (Nat → Int32) × (Nat → Int32) × (Nat → Int32) × (Nat → Int32) × (Nat → Int32)) :=
  gd (bl s1) (
  some (o_exp, o_done, s1, o_halved, o_im, o_re, o_wasIm, o_wasRe))
def fX7_readFrom (n_a1 : Nat) (o_exp : Int32) (o_done : Int32) (o_backward : Int32) (a1 : Nat → Int32) (o_halved : Nat → Int32) (o_im : Nat → Int32) (o_re : Nat → Int32) (o_wasIm : Nat → Int32) (o_wasRe : Nat → Int32) (p2 : Int32) : Option (Int32 × Int32 × Int32 × (Nat → Int32) × (Nat → Int32) × (Nat → Int32) × (Nat → Int32) × (Nat → Int32)) :=
  gd (cpok p2 (0 : Int32) (32 : Int32) n_a1 32) (
  nm (va_cpy a1 o_re (Int32.toNatClampNeg p2) (Int32.toNatClampNeg (0 : Int32)) (Int32.toNatClampNeg (32 : Int32))) (fun o_re_2 =>
  gd (cpok (p2 + (32 : Int32)) (0 : Int32) (32 : Int32) n_a1 32) (
  nm (va_cpy a1 o_im (Int32.toNatClampNeg (p2 + (32 : Int32))) (Int32.toNatClampNeg (0 : Int32)) (Int32.toNatClampNeg (32 : Int32))) (fun o_im_4 =>
  gd (cpok (p2 + (64 : Int32)) (0 : Int32) (32 : Int32) n_a1 32) (
  nm (va_cpy a1 o_wasRe (Int32.toNatClampNeg (p2 + (64 : Int32))) (Int32.toNatClampNeg (0 : Int32)) (Int32.toNatClampNeg (32 : Int32))) (fun o_wasRe_6 =>
  gd (cpok (p2 + (96 : Int32)) (0 : Int32) (32 : Int32) n_a1 32) (
  nm (va_cpy a1 o_wasIm (Int32.toNatClampNeg (p2 + (96 : Int32))) (Int32.toNatClampNeg (0 : Int32)) (Int32.toNatClampNeg (32 : Int32))) (fun o_wasIm_8 =>
  nm (p2 + (128 : Int32)) (fun v3_9 =>
  gd (cpok v3_9 (0 : Int32) (5 : Int32) n_a1 5) (
  nm (va_cpy a1 o_halved (Int32.toNatClampNeg v3_9) (Int32.toNatClampNeg (0 : Int32)) (Int32.toNatClampNeg (5 : Int32))) (fun o_halved_11 =>
  nm (v3_9 + (5 : Int32)) (fun i_12 =>
  gd (inb i_12 n_a1) (
  nm (a1 (Int32.toNatClampNeg i_12)) (fun u_14 =>
  nm ((v3_9 + (5 : Int32)) + (1 : Int32)) (fun i_15 =>
  gd (inb i_15 n_a1) (
  nm (a1 (Int32.toNatClampNeg i_15)) (fun u_17 =>
  nm ((v3_9 + (5 : Int32)) + (2 : Int32)) (fun i_18 =>
  gd (inb i_18 n_a1) (
  if (a1 (Int32.toNatClampNeg i_18)) = (1 : Int32) then (
    fX7_readFrom_111 n_a1 u_14 u_17 o_backward o_halved_11 o_im_4 o_re_2 o_wasIm_8 o_wasRe_6 (1 : Int32)
  ) else (
    fX7_readFrom_111 n_a1 u_14 u_17 o_backward o_halved_11 o_im_4 o_re_2 o_wasIm_8 o_wasRe_6 (0 : Int32)
  ))))))))))))))))))))
set_option maxHeartbeats 4000000 in
set_option maxRecDepth 100000 in
theorem tX7_readFrom (l : Launch) (G : va_G) (cI cJ cZ : ClassId) (sz : Nat) (h_o h_a1 h_o_halved h_o_im h_o_re h_o_wasIm h_o_wasRe n_a1 : Nat) (o_exp : Int32) (o_done : Int32) (o_backward : Int32) (a1 : Nat → Int32) (o_halved : Nat → Int32) (o_im : Nat → Int32) (o_re : Nat → Int32) (o_wasIm : Nat → Int32) (o_wasRe : Nat → Int32) (p2 : Int32) (out_o_exp : Int32) (out_o_done : Int32) (out_o_backward : Int32) (out_o_halved : Nat → Int32) (out_o_im : Nat → Int32) (out_o_re : Nat → Int32) (out_o_wasIm : Nat → Int32) (out_o_wasRe : Nat → Int32) (hf : fX7_readFrom n_a1 o_exp o_done o_backward a1 o_halved o_im o_re o_wasIm o_wasRe p2 = some (out_o_exp, out_o_done, out_o_backward, out_o_halved, out_o_im, out_o_re, out_o_wasIm, out_o_wasRe)) : Met l yX7_readFrom (Cond.code yX7_readFrom cX7_readFrom 4 none :: BIG) ({ frames := 1, cells := 0, slots := 0, locals := 18 } : Room) (cP G (TY3 cI cJ cZ) [.ref h_o, .ref h_a1, .int p2] sz (wX7_readFrom cI cJ cZ h_o h_a1 h_o_halved h_o_im h_o_re h_o_wasIm h_o_wasRe n_a1 o_exp o_done o_backward a1 o_halved o_im o_re o_wasIm o_wasRe)) (cQ G (TY3 cI cJ cZ) sz (wX7_readFrom cI cJ cZ h_o h_a1 h_o_halved h_o_im h_o_re h_o_wasIm h_o_wasRe n_a1 o_exp o_done o_backward a1 o_halved o_im o_re o_wasIm o_wasRe) (wX7_readFrom cI cJ cZ h_o h_a1 h_o_halved h_o_im h_o_re h_o_wasIm h_o_wasRe n_a1 out_o_exp out_o_done out_o_backward a1 out_o_halved out_o_im out_o_re out_o_wasIm out_o_wasRe) none) 0 0 (va_A (wX7_readFrom cI cJ cZ h_o h_a1 h_o_halved h_o_im h_o_re h_o_wasIm h_o_wasRe n_a1 o_exp o_done o_backward a1 o_halved o_im o_re o_wasIm o_wasRe) sz) := by
  refine met_v (cc := cX7_readFrom) (maxL := 4) (plainFor_of_name (by decide)) (Nat.le_of_ble_eq_true rfl) (fun p e s m below meth c A ls Q hx hb hml hts hown hK hP hD hS hA hl hret => ?_)
  have hown : s.vm.findClass RX7 = some m.cls := hown
  have hl : lv_has ls 4 [(0, .ref h_o), (1, .ref h_a1), (2, .int p2)] := hl
  have j111 : ∀ (o_exp : Int32) (o_done : Int32) (o_backward : Int32) (o_halved : Nat → Int32) (o_im : Nat → Int32) (o_re : Nat → Int32) (o_wasIm : Nat → Int32) (o_wasRe : Nat → Int32) (s1 : Int32) (H : Heap) (locs : List Loc) (ls : Array Slot), fX7_readFrom_111 n_a1 o_exp o_done o_backward o_halved o_im o_re o_wasIm o_wasRe s1 = some (out_o_exp, out_o_done, out_o_backward, out_o_halved, out_o_im, out_o_re, out_o_wasIm, out_o_wasRe) → va_P G vwCl (wX7_readFrom cI cJ cZ h_o h_a1 h_o_halved h_o_im h_o_re h_o_wasIm h_o_wasRe n_a1 o_exp o_done o_backward a1 o_halved o_im o_re o_wasIm o_wasRe) H → va_D A (wX7_readFrom cI cJ cZ h_o h_a1 h_o_halved h_o_im h_o_re h_o_wasIm h_o_wasRe n_a1 o_exp o_done o_backward a1 o_halved o_im o_re o_wasIm o_wasRe) → va_S A s.heap H locs → lv_has ls 4 [] → W p l e ({ frames := 1, cells := 0, slots := 0, locals := 18 } : Room) s m ([.ref h_o, .ref h_a1, .int p2] : List Value).toArray below meth c H locs 0 0 Q (F0 m 111 ls [.int s1, .ref h_o]) := by
    intro o_exp o_done o_backward o_halved o_im o_re o_wasIm o_wasRe s1 H locs ls hf hP hD hS hl
    unfold fX7_readFrom_111 at hf
    obtain ⟨g_21, hf⟩ := gd_x hf
    refine wr (ci := 7) (C := RX7) (T := TX7) (N := 8) hx hb hts inX7 tyX7 tyX7_ok nmX7 hown hK hP hD hS 0 7 rfl rfl (by decide) (hts _ q_fX7_34) rfl (bl_n g_21) (bl_f g_21) (Nat.le_of_ble_eq_true rfl) dX7_readFrom_111 (ws2 := (wX7_readFrom cI cJ cZ h_o h_a1 h_o_halved h_o_im h_o_re h_o_wasIm h_o_wasRe n_a1 o_exp o_done s1 a1 o_halved o_im o_re o_wasIm o_wasRe)) rfl (fun H locs hP hD hS => ?_)
    cases hf
    exact hret _ _ _ _ dX7_readFrom_114 hP hD hS
  unfold fX7_readFrom at hf
  obtain ⟨H, eH⟩ : ∃ H, H = s.heap := ⟨_, rfl⟩
  obtain ⟨locs, elocs⟩ : ∃ z : List Loc, z = [] := ⟨_, rfl⟩
  have hP : va_P G vwCl (wX7_readFrom cI cJ cZ h_o h_a1 h_o_halved h_o_im h_o_re h_o_wasIm h_o_wasRe n_a1 o_exp o_done o_backward a1 o_halved o_im o_re o_wasIm o_wasRe) H := by rw [eH]; exact hP
  have hS : va_S A s.heap H locs := by rw [eH, elocs]; exact hS
  suffices hgo : W p l e ({ frames := 1, cells := 0, slots := 0, locals := 18 } : Room) s m ([.ref h_o, .ref h_a1, .int p2] : List Value).toArray below meth c H locs 0 0 Q (F0 m 0 ls []) by rw [eH, elocs] at hgo; exact hgo
  clear eH elocs
  refine lv_aload_n hx hb dX7_readFrom_0 rfl (lv_at hl 1 rfl) ?_
  refine lv_iload_n hx hb dX7_readFrom_1 rfl (lv_at hl 2 rfl) ?_
  refine lv_aload_n hx hb dX7_readFrom_2 rfl (lv_at hl 0 rfl) ?_
  refine rd (ci := 7) (C := RX7) (T := TX7) (N := 8) hx hb hts inX7 hown hK hP 0 0 rfl rfl (by decide) (hts _ q_fX7_9) rfl dX7_readFrom_3 ?_
  refine lv_iconst (v := (0 : Int32)) hx hb dX7_readFrom_6 (by decide) ?_
  refine lv_bipush (v := (32 : Int32)) hx hb dX7_readFrom_7 (by decide) ?_
  obtain ⟨g_1, hf⟩ := gd_x hf
  obtain ⟨o_re_2, eo_re_2⟩ : ∃ y : Nat → Int32, y = va_cpy a1 o_re (Int32.toNatClampNeg p2) (Int32.toNatClampNeg (0 : Int32)) (Int32.toNatClampNeg (32 : Int32)) := ⟨_, rfl⟩
  have hf := nm_x eo_re_2 hf
  refine cpy hx hb (hml.trans hl.1.symm) hown (hts _ q_mX7_38) (hts _ q_n_arraycopyName) (hts _ q_s_arraycopyName) (hts _ q_n_java_lang_System) hK hP hD hS 1 4 0 rfl rfl rfl g_1 (by decide) (Nat.le_of_ble_eq_true rfl) dX7_readFrom_9 eo_re_2 (ws2 := (wX7_readFrom cI cJ cZ h_o h_a1 h_o_halved h_o_im h_o_re h_o_wasIm h_o_wasRe n_a1 o_exp o_done o_backward a1 o_halved o_im o_re_2 o_wasIm o_wasRe)) rfl (fun H locs hP hD hS => ?_)
  refine lv_aload_n hx hb dX7_readFrom_12 rfl (lv_at hl 1 rfl) ?_
  refine lv_iload_n hx hb dX7_readFrom_13 rfl (lv_at hl 2 rfl) ?_
  refine lv_bipush (v := (32 : Int32)) hx hb dX7_readFrom_14 (by decide) ?_
  refine lv_iadd hx hb dX7_readFrom_16 ?_
  refine lv_aload_n hx hb dX7_readFrom_17 rfl (lv_at hl 0 rfl) ?_
  refine rd (ci := 7) (C := RX7) (T := TX7) (N := 8) hx hb hts inX7 hown hK hP 0 1 rfl rfl (by decide) (hts _ q_fX7_15) rfl dX7_readFrom_18 ?_
  refine lv_iconst (v := (0 : Int32)) hx hb dX7_readFrom_21 (by decide) ?_
  refine lv_bipush (v := (32 : Int32)) hx hb dX7_readFrom_22 (by decide) ?_
  obtain ⟨g_3, hf⟩ := gd_x hf
  obtain ⟨o_im_4, eo_im_4⟩ : ∃ y : Nat → Int32, y = va_cpy a1 o_im (Int32.toNatClampNeg (p2 + (32 : Int32))) (Int32.toNatClampNeg (0 : Int32)) (Int32.toNatClampNeg (32 : Int32)) := ⟨_, rfl⟩
  have hf := nm_x eo_im_4 hf
  refine cpy hx hb (hml.trans hl.1.symm) hown (hts _ q_mX7_38) (hts _ q_n_arraycopyName) (hts _ q_s_arraycopyName) (hts _ q_n_java_lang_System) hK hP hD hS 1 3 0 rfl rfl rfl g_3 (by decide) (Nat.le_of_ble_eq_true rfl) dX7_readFrom_24 eo_im_4 (ws2 := (wX7_readFrom cI cJ cZ h_o h_a1 h_o_halved h_o_im h_o_re h_o_wasIm h_o_wasRe n_a1 o_exp o_done o_backward a1 o_halved o_im_4 o_re_2 o_wasIm o_wasRe)) rfl (fun H locs hP hD hS => ?_)
  refine lv_aload_n hx hb dX7_readFrom_27 rfl (lv_at hl 1 rfl) ?_
  refine lv_iload_n hx hb dX7_readFrom_28 rfl (lv_at hl 2 rfl) ?_
  refine lv_bipush (v := (64 : Int32)) hx hb dX7_readFrom_29 (by decide) ?_
  refine lv_iadd hx hb dX7_readFrom_31 ?_
  refine lv_aload_n hx hb dX7_readFrom_32 rfl (lv_at hl 0 rfl) ?_
  refine rd (ci := 7) (C := RX7) (T := TX7) (N := 8) hx hb hts inX7 hown hK hP 0 2 rfl rfl (by decide) (hts _ q_fX7_18) rfl dX7_readFrom_33 ?_
  refine lv_iconst (v := (0 : Int32)) hx hb dX7_readFrom_36 (by decide) ?_
  refine lv_bipush (v := (32 : Int32)) hx hb dX7_readFrom_37 (by decide) ?_
  obtain ⟨g_5, hf⟩ := gd_x hf
  obtain ⟨o_wasRe_6, eo_wasRe_6⟩ : ∃ y : Nat → Int32, y = va_cpy a1 o_wasRe (Int32.toNatClampNeg (p2 + (64 : Int32))) (Int32.toNatClampNeg (0 : Int32)) (Int32.toNatClampNeg (32 : Int32)) := ⟨_, rfl⟩
  have hf := nm_x eo_wasRe_6 hf
  refine cpy hx hb (hml.trans hl.1.symm) hown (hts _ q_mX7_38) (hts _ q_n_arraycopyName) (hts _ q_s_arraycopyName) (hts _ q_n_java_lang_System) hK hP hD hS 1 6 0 rfl rfl rfl g_5 (by decide) (Nat.le_of_ble_eq_true rfl) dX7_readFrom_39 eo_wasRe_6 (ws2 := (wX7_readFrom cI cJ cZ h_o h_a1 h_o_halved h_o_im h_o_re h_o_wasIm h_o_wasRe n_a1 o_exp o_done o_backward a1 o_halved o_im_4 o_re_2 o_wasIm o_wasRe_6)) rfl (fun H locs hP hD hS => ?_)
  refine lv_aload_n hx hb dX7_readFrom_42 rfl (lv_at hl 1 rfl) ?_
  refine lv_iload_n hx hb dX7_readFrom_43 rfl (lv_at hl 2 rfl) ?_
  refine lv_bipush (v := (96 : Int32)) hx hb dX7_readFrom_44 (by decide) ?_
  refine lv_iadd hx hb dX7_readFrom_46 ?_
  refine lv_aload_n hx hb dX7_readFrom_47 rfl (lv_at hl 0 rfl) ?_
  refine rd (ci := 7) (C := RX7) (T := TX7) (N := 8) hx hb hts inX7 hown hK hP 0 3 rfl rfl (by decide) (hts _ q_fX7_21) rfl dX7_readFrom_48 ?_
  refine lv_iconst (v := (0 : Int32)) hx hb dX7_readFrom_51 (by decide) ?_
  refine lv_bipush (v := (32 : Int32)) hx hb dX7_readFrom_52 (by decide) ?_
  obtain ⟨g_7, hf⟩ := gd_x hf
  obtain ⟨o_wasIm_8, eo_wasIm_8⟩ : ∃ y : Nat → Int32, y = va_cpy a1 o_wasIm (Int32.toNatClampNeg (p2 + (96 : Int32))) (Int32.toNatClampNeg (0 : Int32)) (Int32.toNatClampNeg (32 : Int32)) := ⟨_, rfl⟩
  have hf := nm_x eo_wasIm_8 hf
  refine cpy hx hb (hml.trans hl.1.symm) hown (hts _ q_mX7_38) (hts _ q_n_arraycopyName) (hts _ q_s_arraycopyName) (hts _ q_n_java_lang_System) hK hP hD hS 1 5 0 rfl rfl rfl g_7 (by decide) (Nat.le_of_ble_eq_true rfl) dX7_readFrom_54 eo_wasIm_8 (ws2 := (wX7_readFrom cI cJ cZ h_o h_a1 h_o_halved h_o_im h_o_re h_o_wasIm h_o_wasRe n_a1 o_exp o_done o_backward a1 o_halved o_im_4 o_re_2 o_wasIm_8 o_wasRe_6)) rfl (fun H locs hP hD hS => ?_)
  refine lv_iload_n hx hb dX7_readFrom_57 rfl (lv_at hl 2 rfl) ?_
  refine lv_sipush (v := (128 : Int32)) hx hb dX7_readFrom_58 (by decide) ?_
  refine lv_iadd hx hb dX7_readFrom_61 ?_
  refine lv_topi (fun v3_9 ev3_9 => ?_)
  have hf := nm_x ev3_9 hf
  refine lv_istore_n (lv' := [(3, .int v3_9), (0, .ref h_o), (1, .ref h_a1), (2, .int p2)]) hx hb dX7_readFrom_62 rfl hl (by decide) rfl (fun ls hl => ?_)
  refine lv_aload_n hx hb dX7_readFrom_63 rfl (lv_at hl 2 rfl) ?_
  refine lv_iload_n hx hb dX7_readFrom_64 rfl (lv_at hl 0 rfl) ?_
  refine lv_aload_n hx hb dX7_readFrom_65 rfl (lv_at hl 1 rfl) ?_
  refine rd (ci := 7) (C := RX7) (T := TX7) (N := 8) hx hb hts inX7 hown hK hP 0 4 rfl rfl (by decide) (hts _ q_fX7_24) rfl dX7_readFrom_66 ?_
  refine lv_iconst (v := (0 : Int32)) hx hb dX7_readFrom_69 (by decide) ?_
  refine lv_iconst (v := (5 : Int32)) hx hb dX7_readFrom_70 (by decide) ?_
  obtain ⟨g_10, hf⟩ := gd_x hf
  obtain ⟨o_halved_11, eo_halved_11⟩ : ∃ y : Nat → Int32, y = va_cpy a1 o_halved (Int32.toNatClampNeg v3_9) (Int32.toNatClampNeg (0 : Int32)) (Int32.toNatClampNeg (5 : Int32)) := ⟨_, rfl⟩
  have hf := nm_x eo_halved_11 hf
  refine cpy hx hb (hml.trans hl.1.symm) hown (hts _ q_mX7_38) (hts _ q_n_arraycopyName) (hts _ q_s_arraycopyName) (hts _ q_n_java_lang_System) hK hP hD hS 1 2 0 rfl rfl rfl g_10 (by decide) (Nat.le_of_ble_eq_true rfl) dX7_readFrom_71 eo_halved_11 (ws2 := (wX7_readFrom cI cJ cZ h_o h_a1 h_o_halved h_o_im h_o_re h_o_wasIm h_o_wasRe n_a1 o_exp o_done o_backward a1 o_halved_11 o_im_4 o_re_2 o_wasIm_8 o_wasRe_6)) rfl (fun H locs hP hD hS => ?_)
  refine lv_aload_n hx hb dX7_readFrom_74 rfl (lv_at hl 1 rfl) ?_
  refine lv_aload_n hx hb dX7_readFrom_75 rfl (lv_at hl 2 rfl) ?_
  refine lv_iload_n hx hb dX7_readFrom_76 rfl (lv_at hl 0 rfl) ?_
  refine lv_iconst (v := (5 : Int32)) hx hb dX7_readFrom_77 (by decide) ?_
  refine lv_iadd hx hb dX7_readFrom_78 ?_
  refine lv_topi (fun i_12 ei_12 => ?_)
  have hf := nm_x ei_12 hf
  obtain ⟨g_13, hf⟩ := gd_x hf
  refine va_iald hx hb hK hP 1 0 rfl rfl (inb_x g_13) dX7_readFrom_79 ?_
  refine lv_topi (fun u_14 eu_14 => ?_)
  have hf := nm_x eu_14 hf
  refine wr (ci := 7) (C := RX7) (T := TX7) (N := 8) hx hb hts inX7 tyX7 tyX7_ok nmX7 hown hK hP hD hS 0 5 rfl rfl (by decide) (hts _ q_fX7_27) rfl rfl rfl (Nat.le_of_ble_eq_true rfl) dX7_readFrom_80 (ws2 := (wX7_readFrom cI cJ cZ h_o h_a1 h_o_halved h_o_im h_o_re h_o_wasIm h_o_wasRe n_a1 u_14 o_done o_backward a1 o_halved_11 o_im_4 o_re_2 o_wasIm_8 o_wasRe_6)) rfl (fun H locs hP hD hS => ?_)
  refine lv_aload_n hx hb dX7_readFrom_83 rfl (lv_at hl 1 rfl) ?_
  refine lv_aload_n hx hb dX7_readFrom_84 rfl (lv_at hl 2 rfl) ?_
  refine lv_iload_n hx hb dX7_readFrom_85 rfl (lv_at hl 0 rfl) ?_
  refine lv_iconst (v := (5 : Int32)) hx hb dX7_readFrom_86 (by decide) ?_
  refine lv_iadd hx hb dX7_readFrom_87 ?_
  refine lv_iconst (v := (1 : Int32)) hx hb dX7_readFrom_88 (by decide) ?_
  refine lv_iadd hx hb dX7_readFrom_89 ?_
  refine lv_topi (fun i_15 ei_15 => ?_)
  have hf := nm_x ei_15 hf
  obtain ⟨g_16, hf⟩ := gd_x hf
  refine va_iald hx hb hK hP 1 0 rfl rfl (inb_x g_16) dX7_readFrom_90 ?_
  refine lv_topi (fun u_17 eu_17 => ?_)
  have hf := nm_x eu_17 hf
  refine wr (ci := 7) (C := RX7) (T := TX7) (N := 8) hx hb hts inX7 tyX7 tyX7_ok nmX7 hown hK hP hD hS 0 6 rfl rfl (by decide) (hts _ q_fX7_31) rfl rfl rfl (Nat.le_of_ble_eq_true rfl) dX7_readFrom_91 (ws2 := (wX7_readFrom cI cJ cZ h_o h_a1 h_o_halved h_o_im h_o_re h_o_wasIm h_o_wasRe n_a1 u_14 u_17 o_backward a1 o_halved_11 o_im_4 o_re_2 o_wasIm_8 o_wasRe_6)) rfl (fun H locs hP hD hS => ?_)
  refine lv_aload_n hx hb dX7_readFrom_94 rfl (lv_at hl 1 rfl) ?_
  refine lv_aload_n hx hb dX7_readFrom_95 rfl (lv_at hl 2 rfl) ?_
  refine lv_iload_n hx hb dX7_readFrom_96 rfl (lv_at hl 0 rfl) ?_
  refine lv_iconst (v := (5 : Int32)) hx hb dX7_readFrom_97 (by decide) ?_
  refine lv_iadd hx hb dX7_readFrom_98 ?_
  refine lv_iconst (v := (2 : Int32)) hx hb dX7_readFrom_99 (by decide) ?_
  refine lv_iadd hx hb dX7_readFrom_100 ?_
  refine lv_topi (fun i_18 ei_18 => ?_)
  have hf := nm_x ei_18 hf
  obtain ⟨g_19, hf⟩ := gd_x hf
  refine va_iald hx hb hK hP 1 0 rfl rfl (inb_x g_19) dX7_readFrom_101 ?_
  refine lv_iconst (v := (1 : Int32)) hx hb dX7_readFrom_102 (by decide) ?_
  refine lv_icmp_ne (tgt := 110) hx hb dX7_readFrom_103 (by decide) (fun c_20 => ?_) (fun c_20 => ?_)
  · have hf := it_f c_20 hf
    refine lv_iconst (v := (0 : Int32)) hx hb dX7_readFrom_110 (by decide) ?_
    exact j111 u_14 u_17 o_backward o_halved_11 o_im_4 o_re_2 o_wasIm_8 o_wasRe_6 (0 : Int32) H locs ls hf hP hD hS (lv_sub hl [] rfl)
  · have hf := it_t c_20 hf
    refine lv_iconst (v := (1 : Int32)) hx hb dX7_readFrom_106 (by decide) ?_
    refine lv_goto (tgt := 111) hx hb dX7_readFrom_107 (by decide) ?_
    exact j111 u_14 u_17 o_backward o_halved_11 o_im_4 o_re_2 o_wasIm_8 o_wasRe_6 (1 : Int32) H locs ls hf hP hD hS (lv_sub hl [] rfl)
def wX3_recall (cI cJ cZ : ClassId) (h_o h_a1 h_a1_halved h_a1_im h_a1_re h_a1_wasIm h_a1_wasRe h_o_cells : Nat) (o_next : Int32) (o_held : Int32) (a1_exp : Int32) (a1_done : Int32) (a1_backward : Int32) (a1_halved : Nat → Int32) (a1_im : Nat → Int32) (a1_re : Nat → Int32) (a1_wasIm : Nat → Int32) (a1_wasRe : Nat → Int32) (o_cells : Nat → Int32) : va_W := [(h_o, .inr (3, [.ref h_o_cells, .int o_next, .int o_held])), (h_a1, .inr (7, [.ref h_a1_re, .ref h_a1_im, .ref h_a1_wasRe, .ref h_a1_wasIm, .ref h_a1_halved, .int a1_exp, .int a1_done, .int a1_backward])), (h_a1_halved, .inl (cI, 5, .inl a1_halved)), (h_a1_im, .inl (cI, 32, .inl a1_im)), (h_a1_re, .inl (cI, 32, .inl a1_re)), (h_a1_wasIm, .inl (cI, 32, .inl a1_wasIm)), (h_a1_wasRe, .inl (cI, 32, .inl a1_wasRe)), (h_o_cells, .inl (cI, 2720, .inl o_cells))]
def fX3_recall_28 (o_cells : Nat → Int32) (o_next : Int32) (o_held : Int32) (a1_exp : Int32) (a1_done : Int32) (a1_backward : Int32) (a1_halved : Nat → Int32) (a1_im : Nat → Int32) (a1_re : Nat → Int32) (a1_wasIm : Nat → Int32) (a1_wasRe : Nat → Int32) (s1 : Int32) : Option (Int32 × Int32 × Int32 × Int32 × Int32 × Int32 × (Nat → Int32) × (Nat → Int32) × (Nat → Int32) × (Nat → Int32) × (Nat → Int32)) :=
  nm (o_held - (1 : Int32)) (fun u_3 =>
  bd8 (fX7_readFrom 2720 a1_exp a1_done a1_backward o_cells a1_halved a1_im a1_re a1_wasIm a1_wasRe (s1 * (136 : Int32))) (fun a1_exp_4 a1_done_5 a1_backward_6 a1_halved_7 a1_im_8 a1_re_9 a1_wasIm_10 a1_wasRe_11 =>
  some ((1 : Int32), s1, u_3, a1_exp_4, a1_done_5, a1_backward_6, a1_halved_7, a1_im_8, a1_re_9, a1_wasIm_10, a1_wasRe_11)))
def fX3_recall (o_next : Int32) (o_held : Int32) (a1_exp : Int32) (a1_done : Int32) (a1_backward : Int32) (a1_halved : Nat → Int32) (a1_im : Nat → Int32) (a1_re : Nat → Int32) (a1_wasIm : Nat → Int32) (a1_wasRe : Nat → Int32) (o_cells : Nat → Int32) : Option (Int32 × Int32 × Int32 × Int32 × Int32 × Int32 × (Nat → Int32) × (Nat → Int32) × (Nat → Int32) × (Nat → Int32) × (Nat → Int32)) :=
  if o_held = 0 then (
    some ((0 : Int32), o_next, o_held, a1_exp, a1_done, a1_backward, a1_halved, a1_im, a1_re, a1_wasIm, a1_wasRe)
  ) else (
    if o_next ≤ 0 then (
      fX3_recall_28 o_cells o_next o_held a1_exp a1_done a1_backward a1_halved a1_im a1_re a1_wasIm a1_wasRe (19 : Int32)
    ) else (
      fX3_recall_28 o_cells o_next o_held a1_exp a1_done a1_backward a1_halved a1_im a1_re a1_wasIm a1_wasRe (o_next - (1 : Int32))
    )
  )
set_option maxHeartbeats 4000000 in
set_option maxRecDepth 100000 in
theorem tX3_recall (l : Launch) (G : va_G) (cI cJ cZ : ClassId) (sz : Nat) (h_o h_a1 h_a1_halved h_a1_im h_a1_re h_a1_wasIm h_a1_wasRe h_o_cells : Nat) (o_next : Int32) (o_held : Int32) (a1_exp : Int32) (a1_done : Int32) (a1_backward : Int32) (a1_halved : Nat → Int32) (a1_im : Nat → Int32) (a1_re : Nat → Int32) (a1_wasIm : Nat → Int32) (a1_wasRe : Nat → Int32) (o_cells : Nat → Int32) (r : Int32) (out_o_next : Int32) (out_o_held : Int32) (out_a1_exp : Int32) (out_a1_done : Int32) (out_a1_backward : Int32) (out_a1_halved : Nat → Int32) (out_a1_im : Nat → Int32) (out_a1_re : Nat → Int32) (out_a1_wasIm : Nat → Int32) (out_a1_wasRe : Nat → Int32) (hf : fX3_recall o_next o_held a1_exp a1_done a1_backward a1_halved a1_im a1_re a1_wasIm a1_wasRe o_cells = some (r, out_o_next, out_o_held, out_a1_exp, out_a1_done, out_a1_backward, out_a1_halved, out_a1_im, out_a1_re, out_a1_wasIm, out_a1_wasRe)) : Met l yX3_recall (Cond.code yX3_recall cX3_recall 2 (some .boolean) :: BIG) ({ frames := 2, cells := 0, slots := 0, locals := 41 } : Room) (cP G (TY3 cI cJ cZ) [.ref h_o, .ref h_a1] sz (wX3_recall cI cJ cZ h_o h_a1 h_a1_halved h_a1_im h_a1_re h_a1_wasIm h_a1_wasRe h_o_cells o_next o_held a1_exp a1_done a1_backward a1_halved a1_im a1_re a1_wasIm a1_wasRe o_cells)) (cQ G (TY3 cI cJ cZ) sz (wX3_recall cI cJ cZ h_o h_a1 h_a1_halved h_a1_im h_a1_re h_a1_wasIm h_a1_wasRe h_o_cells o_next o_held a1_exp a1_done a1_backward a1_halved a1_im a1_re a1_wasIm a1_wasRe o_cells) (wX3_recall cI cJ cZ h_o h_a1 h_a1_halved h_a1_im h_a1_re h_a1_wasIm h_a1_wasRe h_o_cells out_o_next out_o_held out_a1_exp out_a1_done out_a1_backward out_a1_halved out_a1_im out_a1_re out_a1_wasIm out_a1_wasRe o_cells) (some (.int r))) 0 0 (va_A (wX3_recall cI cJ cZ h_o h_a1 h_a1_halved h_a1_im h_a1_re h_a1_wasIm h_a1_wasRe h_o_cells o_next o_held a1_exp a1_done a1_backward a1_halved a1_im a1_re a1_wasIm a1_wasRe o_cells) sz) := by
  refine met_z (cc := cX3_recall) (maxL := 2) (plainFor_of_name (by decide)) (Nat.le_of_ble_eq_true rfl) (fun p e s m below meth c A ls Q hx hb hml hts hown hK hP hD hS hA hl hret => ?_)
  have hown : s.vm.findClass RX3 = some m.cls := hown
  have hl : lv_has ls 2 [(0, .ref h_o), (1, .ref h_a1)] := hl
  have j28 : ∀ (o_next : Int32) (o_held : Int32) (a1_exp : Int32) (a1_done : Int32) (a1_backward : Int32) (a1_halved : Nat → Int32) (a1_im : Nat → Int32) (a1_re : Nat → Int32) (a1_wasIm : Nat → Int32) (a1_wasRe : Nat → Int32) (s1 : Int32) (H : Heap) (locs : List Loc) (ls : Array Slot), fX3_recall_28 o_cells o_next o_held a1_exp a1_done a1_backward a1_halved a1_im a1_re a1_wasIm a1_wasRe s1 = some (r, out_o_next, out_o_held, out_a1_exp, out_a1_done, out_a1_backward, out_a1_halved, out_a1_im, out_a1_re, out_a1_wasIm, out_a1_wasRe) → va_P G vwCl (wX3_recall cI cJ cZ h_o h_a1 h_a1_halved h_a1_im h_a1_re h_a1_wasIm h_a1_wasRe h_o_cells o_next o_held a1_exp a1_done a1_backward a1_halved a1_im a1_re a1_wasIm a1_wasRe o_cells) H → va_D A (wX3_recall cI cJ cZ h_o h_a1 h_a1_halved h_a1_im h_a1_re h_a1_wasIm h_a1_wasRe h_o_cells o_next o_held a1_exp a1_done a1_backward a1_halved a1_im a1_re a1_wasIm a1_wasRe o_cells) → va_S A s.heap H locs → lv_has ls 2 [(0, .ref h_o), (1, .ref h_a1)] → W p l e ({ frames := 2, cells := 0, slots := 0, locals := 41 } : Room) s m ([.ref h_o, .ref h_a1] : List Value).toArray below meth c H locs 0 0 Q (F0 m 28 ls [.int s1, .ref h_o]) := by
    intro o_next o_held a1_exp a1_done a1_backward a1_halved a1_im a1_re a1_wasIm a1_wasRe s1 H locs ls hf hP hD hS hl
    unfold fX3_recall_28 at hf
    refine wr (ci := 3) (C := RX3) (T := TX3) (N := 3) hx hb hts inX3 tyX3 tyX3_ok nmX3 hown hK hP hD hS 0 1 rfl rfl (by decide) (hts _ q_fX3_15) rfl rfl rfl (Nat.le_of_ble_eq_true rfl) dX3_recall_28 (ws2 := (wX3_recall cI cJ cZ h_o h_a1 h_a1_halved h_a1_im h_a1_re h_a1_wasIm h_a1_wasRe h_o_cells s1 o_held a1_exp a1_done a1_backward a1_halved a1_im a1_re a1_wasIm a1_wasRe o_cells)) rfl (fun H locs hP hD hS => ?_)
    refine lv_aload_n hx hb dX3_recall_31 rfl (lv_at hl 0 rfl) ?_
    refine lv_dup hx hb dX3_recall_32 rfl ?_
    refine rd (ci := 3) (C := RX3) (T := TX3) (N := 3) hx hb hts inX3 hown hK hP 0 2 rfl rfl (by decide) (hts _ q_fX3_19) rfl dX3_recall_33 ?_
    refine lv_iconst (v := (1 : Int32)) hx hb dX3_recall_36 (by decide) ?_
    refine lv_isub hx hb dX3_recall_37 ?_
    refine lv_topi (fun u_3 eu_3 => ?_)
    have hf := nm_x eu_3 hf
    refine wr (ci := 3) (C := RX3) (T := TX3) (N := 3) hx hb hts inX3 tyX3 tyX3_ok nmX3 hown hK hP hD hS 0 2 rfl rfl (by decide) (hts _ q_fX3_19) rfl rfl rfl (Nat.le_of_ble_eq_true rfl) dX3_recall_38 (ws2 := (wX3_recall cI cJ cZ h_o h_a1 h_a1_halved h_a1_im h_a1_re h_a1_wasIm h_a1_wasRe h_o_cells s1 u_3 a1_exp a1_done a1_backward a1_halved a1_im a1_re a1_wasIm a1_wasRe o_cells)) rfl (fun H locs hP hD hS => ?_)
    refine lv_aload_n hx hb dX3_recall_41 rfl (lv_at hl 1 rfl) ?_
    refine lv_aload_n hx hb dX3_recall_42 rfl (lv_at hl 0 rfl) ?_
    refine rd (ci := 3) (C := RX3) (T := TX3) (N := 3) hx hb hts inX3 hown hK hP 0 0 rfl rfl (by decide) (hts _ q_fX3_11) rfl dX3_recall_43 ?_
    refine lv_aload_n hx hb dX3_recall_46 rfl (lv_at hl 0 rfl) ?_
    refine rd (ci := 3) (C := RX3) (T := TX3) (N := 3) hx hb hts inX3 hown hK hP 0 1 rfl rfl (by decide) (hts _ q_fX3_15) rfl dX3_recall_47 ?_
    refine lv_sipush (v := (136 : Int32)) hx hb dX3_recall_50 (by decide) ?_
    refine lv_imul hx hb dX3_recall_53 ?_
    obtain ⟨a1_exp_4, a1_done_5, a1_backward_6, a1_halved_7, a1_im_8, a1_re_9, a1_wasIm_10, a1_wasRe_11, e_12, hf⟩ := bd8_x hf
    refine call_v [.ref h_o_cells, .int (s1 * (136 : Int32))] [] ⟨hx, hb, hml, hown, hts⟩ hK hP hD hS hA hl.1 (tX7_readFrom l G cI cJ cZ H.size h_a1 h_o_cells h_a1_halved h_a1_im h_a1_re h_a1_wasIm h_a1_wasRe 2720 a1_exp a1_done a1_backward o_cells a1_halved a1_im a1_re a1_wasIm a1_wasRe (s1 * (136 : Int32)) a1_exp_4 a1_done_5 a1_backward_6 a1_halved_7 a1_im_8 a1_re_9 a1_wasIm_10 a1_wasRe_11 e_12) (cwV 2 hts (gv q_mX3_32 q_i_yX7_readFrom q_s_yX7_readFrom q_n_RX7 q_k_yX7_readFrom) rfl rfl rfl (by decide +kernel) ⟨by decide, by decide⟩) rfl rfl (Nat.le_of_ble_eq_true rfl) dX3_recall_54 ⟨Nat.zero_le _, Nat.zero_le _⟩ (ci := 7) rfl 0 rfl [1, 7, 2, 3, 4, 5, 6] [0] [0, 1, 3, 4, 5, 6, 7, 2] rfl rfl (ws2 := (wX3_recall cI cJ cZ h_o h_a1 h_a1_halved h_a1_im h_a1_re h_a1_wasIm h_a1_wasRe h_o_cells s1 u_3 a1_exp_4 a1_done_5 a1_backward_6 a1_halved_7 a1_im_8 a1_re_9 a1_wasIm_10 a1_wasRe_11 o_cells)) rfl (fun H locs hP hD hS => ?_)
    refine W.eq (g2 := F0 m 57 ls []) rfl ?_
    refine lv_iconst (v := (1 : Int32)) hx hb dX3_recall_57 (by decide) ?_
    cases hf
    exact hret _ _ _ _ dX3_recall_58 rfl hP hD hS
  unfold fX3_recall at hf
  obtain ⟨H, eH⟩ : ∃ H, H = s.heap := ⟨_, rfl⟩
  obtain ⟨locs, elocs⟩ : ∃ z : List Loc, z = [] := ⟨_, rfl⟩
  have hP : va_P G vwCl (wX3_recall cI cJ cZ h_o h_a1 h_a1_halved h_a1_im h_a1_re h_a1_wasIm h_a1_wasRe h_o_cells o_next o_held a1_exp a1_done a1_backward a1_halved a1_im a1_re a1_wasIm a1_wasRe o_cells) H := by rw [eH]; exact hP
  have hS : va_S A s.heap H locs := by rw [eH, elocs]; exact hS
  suffices hgo : W p l e ({ frames := 2, cells := 0, slots := 0, locals := 41 } : Room) s m ([.ref h_o, .ref h_a1] : List Value).toArray below meth c H locs 0 0 Q (F0 m 0 ls []) by rw [eH, elocs] at hgo; exact hgo
  clear eH elocs
  refine lv_aload_n hx hb dX3_recall_0 rfl (lv_at hl 0 rfl) ?_
  refine rd (ci := 3) (C := RX3) (T := TX3) (N := 3) hx hb hts inX3 hown hK hP 0 2 rfl rfl (by decide) (hts _ q_fX3_19) rfl dX3_recall_1 ?_
  refine lv_if_ne (tgt := 9) hx hb dX3_recall_4 (by decide) (fun c_1 => ?_) (fun c_1 => ?_)
  · have hf := it_f c_1 hf
    refine lv_aload_n hx hb dX3_recall_9 rfl (lv_at hl 0 rfl) ?_
    refine lv_aload_n hx hb dX3_recall_10 rfl (lv_at hl 0 rfl) ?_
    refine rd (ci := 3) (C := RX3) (T := TX3) (N := 3) hx hb hts inX3 hown hK hP 0 1 rfl rfl (by decide) (hts _ q_fX3_15) rfl dX3_recall_11 ?_
    refine lv_if_le (tgt := 26) hx hb dX3_recall_14 (by decide) (fun c_2 => ?_) (fun c_2 => ?_)
    · have hf := it_t c_2 hf
      refine lv_bipush (v := (19 : Int32)) hx hb dX3_recall_26 (by decide) ?_
      exact j28 o_next o_held a1_exp a1_done a1_backward a1_halved a1_im a1_re a1_wasIm a1_wasRe (19 : Int32) H locs ls hf hP hD hS (lv_sub hl [0, 1] rfl)
    · have hf := it_f c_2 hf
      refine lv_aload_n hx hb dX3_recall_17 rfl (lv_at hl 0 rfl) ?_
      refine rd (ci := 3) (C := RX3) (T := TX3) (N := 3) hx hb hts inX3 hown hK hP 0 1 rfl rfl (by decide) (hts _ q_fX3_15) rfl dX3_recall_18 ?_
      refine lv_iconst (v := (1 : Int32)) hx hb dX3_recall_21 (by decide) ?_
      refine lv_isub hx hb dX3_recall_22 ?_
      refine lv_goto (tgt := 28) hx hb dX3_recall_23 (by decide) ?_
      exact j28 o_next o_held a1_exp a1_done a1_backward a1_halved a1_im a1_re a1_wasIm a1_wasRe (o_next - (1 : Int32)) H locs ls hf hP hD hS (lv_sub hl [0, 1] rfl)
  · have hf := it_t c_1 hf
    refine lv_iconst (v := (0 : Int32)) hx hb dX3_recall_7 (by decide) ?_
    cases hf
    exact hret _ _ _ _ dX3_recall_8 rfl hP hD hS
def wX3_forgetAll (cI cJ cZ : ClassId) (h_o h_o_cells : Nat) (o_next : Int32) (o_held : Int32) : va_W := [(h_o, .inr (3, [.ref h_o_cells, .int o_next, .int o_held]))]
def fX3_forgetAll (o_held : Int32) : Option (Int32) :=
  some (0 : Int32)
set_option maxHeartbeats 4000000 in
set_option maxRecDepth 100000 in
theorem tX3_forgetAll (l : Launch) (G : va_G) (cI cJ cZ : ClassId) (sz : Nat) (h_o h_o_cells : Nat) (o_next : Int32) (o_held : Int32) (out_o_held : Int32) (hf : fX3_forgetAll o_held = some out_o_held) : Met l yX3_forgetAll (Cond.code yX3_forgetAll cX3_forgetAll 1 none :: BIG) ({ frames := 0, cells := 0, slots := 0, locals := 0 } : Room) (cP G (TY3 cI cJ cZ) [.ref h_o] sz (wX3_forgetAll cI cJ cZ h_o h_o_cells o_next o_held)) (cQ G (TY3 cI cJ cZ) sz (wX3_forgetAll cI cJ cZ h_o h_o_cells o_next o_held) (wX3_forgetAll cI cJ cZ h_o h_o_cells o_next out_o_held) none) 0 0 (va_A (wX3_forgetAll cI cJ cZ h_o h_o_cells o_next o_held) sz) := by
  refine met_v (cc := cX3_forgetAll) (maxL := 1) (plainFor_of_name (by decide)) (Nat.le_of_ble_eq_true rfl) (fun p e s m below meth c A ls Q hx hb hml hts hown hK hP hD hS hA hl hret => ?_)
  have hown : s.vm.findClass RX3 = some m.cls := hown
  have hl : lv_has ls 1 [(0, .ref h_o)] := hl
  unfold fX3_forgetAll at hf
  obtain ⟨H, eH⟩ : ∃ H, H = s.heap := ⟨_, rfl⟩
  obtain ⟨locs, elocs⟩ : ∃ z : List Loc, z = [] := ⟨_, rfl⟩
  have hP : va_P G vwCl (wX3_forgetAll cI cJ cZ h_o h_o_cells o_next o_held) H := by rw [eH]; exact hP
  have hS : va_S A s.heap H locs := by rw [eH, elocs]; exact hS
  suffices hgo : W p l e ({ frames := 0, cells := 0, slots := 0, locals := 0 } : Room) s m ([.ref h_o] : List Value).toArray below meth c H locs 0 0 Q (F0 m 0 ls []) by rw [eH, elocs] at hgo; exact hgo
  clear eH elocs
  refine lv_aload_n hx hb dX3_forgetAll_0 rfl (lv_at hl 0 rfl) ?_
  refine lv_iconst (v := (0 : Int32)) hx hb dX3_forgetAll_1 (by decide) ?_
  refine wr (ci := 3) (C := RX3) (T := TX3) (N := 3) hx hb hts inX3 tyX3 tyX3_ok nmX3 hown hK hP hD hS 0 2 rfl rfl (by decide) (hts _ q_fX3_19) rfl rfl rfl (Nat.le_of_ble_eq_true rfl) dX3_forgetAll_2 (ws2 := (wX3_forgetAll cI cJ cZ h_o h_o_cells o_next (0 : Int32))) rfl (fun H locs hP hD hS => ?_)
  cases hf
  exact hret _ _ _ _ dX3_forgetAll_5 hP hD hS
def wX5_rootTo (cI cJ cZ : ClassId) (h_o h_o_powers : Nat) (o_size : Int32) (o_log : Int32) (o_powers : Nat → Int32) : va_W := [(h_o, .inr (5, [.ref h_o_powers, .int o_size, .int o_log])), (h_o_powers, .inl (cI, 32, .inl o_powers))]
def fX5_rootTo (o_size : Int32) (o_powers : Nat → Int32) (p1 : Int32) : Option (Int32) :=
  nm (p1 &&& (o_size - (1 : Int32))) (fun i_1 =>
  gd (inb i_1 32) (
  some (o_powers (Int32.toNatClampNeg i_1))))
set_option maxHeartbeats 4000000 in
set_option maxRecDepth 100000 in
theorem tX5_rootTo (l : Launch) (G : va_G) (cI cJ cZ : ClassId) (sz : Nat) (h_o h_o_powers : Nat) (o_size : Int32) (o_log : Int32) (o_powers : Nat → Int32) (p1 : Int32) (r : Int32) (hf : fX5_rootTo o_size o_powers p1 = some r) : Met l yX5_rootTo (Cond.code yX5_rootTo cX5_rootTo 2 (some .int) :: BIG) ({ frames := 0, cells := 0, slots := 0, locals := 0 } : Room) (cP G (TY3 cI cJ cZ) [.ref h_o, .int p1] sz (wX5_rootTo cI cJ cZ h_o h_o_powers o_size o_log o_powers)) (cQ G (TY3 cI cJ cZ) sz (wX5_rootTo cI cJ cZ h_o h_o_powers o_size o_log o_powers) (wX5_rootTo cI cJ cZ h_o h_o_powers o_size o_log o_powers) (some (.int r))) 0 0 (va_A (wX5_rootTo cI cJ cZ h_o h_o_powers o_size o_log o_powers) sz) := by
  refine met_i (cc := cX5_rootTo) (maxL := 2) (plainFor_of_name (by decide)) (Nat.le_of_ble_eq_true rfl) (fun p e s m below meth c A ls Q hx hb hml hts hown hK hP hD hS hA hl hret => ?_)
  have hown : s.vm.findClass RX5 = some m.cls := hown
  have hl : lv_has ls 2 [(0, .ref h_o), (1, .int p1)] := hl
  unfold fX5_rootTo at hf
  obtain ⟨H, eH⟩ : ∃ H, H = s.heap := ⟨_, rfl⟩
  obtain ⟨locs, elocs⟩ : ∃ z : List Loc, z = [] := ⟨_, rfl⟩
  have hP : va_P G vwCl (wX5_rootTo cI cJ cZ h_o h_o_powers o_size o_log o_powers) H := by rw [eH]; exact hP
  have hS : va_S A s.heap H locs := by rw [eH, elocs]; exact hS
  suffices hgo : W p l e ({ frames := 0, cells := 0, slots := 0, locals := 0 } : Room) s m ([.ref h_o, .int p1] : List Value).toArray below meth c H locs 0 0 Q (F0 m 0 ls []) by rw [eH, elocs] at hgo; exact hgo
  clear eH elocs
  refine lv_aload_n hx hb dX5_rootTo_0 rfl (lv_at hl 0 rfl) ?_
  refine rd (ci := 5) (C := RX5) (T := TX5) (N := 3) hx hb hts inX5 hown hK hP 0 0 rfl rfl (by decide) (hts _ q_fX5_9) rfl dX5_rootTo_1 ?_
  refine lv_iload_n hx hb dX5_rootTo_4 rfl (lv_at hl 1 rfl) ?_
  refine lv_aload_n hx hb dX5_rootTo_5 rfl (lv_at hl 0 rfl) ?_
  refine rd (ci := 5) (C := RX5) (T := TX5) (N := 3) hx hb hts inX5 hown hK hP 0 1 rfl rfl (by decide) (hts _ q_fX5_15) rfl dX5_rootTo_6 ?_
  refine lv_iconst (v := (1 : Int32)) hx hb dX5_rootTo_9 (by decide) ?_
  refine lv_isub hx hb dX5_rootTo_10 ?_
  refine lv_iand hx hb dX5_rootTo_11 ?_
  refine lv_topi (fun i_1 ei_1 => ?_)
  have hf := nm_x ei_1 hf
  obtain ⟨g_2, hf⟩ := gd_x hf
  refine va_iald hx hb hK hP 1 0 rfl rfl (inb_x g_2) dX5_rootTo_12 ?_
  cases hf
  exact hret _ _ _ _ dX5_rootTo_13 hP hD hS
def wX5_binWithout (cI cJ cZ : ClassId) (h_o h_a1 h_o_powers : Nat) (o_size : Int32) (o_log : Int32) (a1 : Nat → Int32) (o_powers : Nat → Int32) : va_W := [(h_o, .inr (5, [.ref h_o_powers, .int o_size, .int o_log])), (h_a1, .inl (cI, 32, .inl a1)), (h_o_powers, .inl (cI, 32, .inl o_powers))]
def fX5_binWithout_50 (v4 : Int32) : Option (Int32) :=
  some (v4 - v4 / (97 : Int32) * (97 : Int32))
def fX5_binWithout_44 (o_size : Int32) (a1 : Nat → Int32) (o_powers : Nat → Int32) (k6 : Int32 → Int32 → Int32 → Int32 → Option (Int32)) (v2 : Int32) (v3 : Int32) (v4 : Int32) (v5 : Int32) : Option (Int32) :=
  nm (v5 + (1 : Int32)) (fun v5_9 =>
  k6 v2 v3 v4 v5_9)
def fX5_binWithout_6 (o_size : Int32) (a1 : Nat → Int32) (o_powers : Nat → Int32) : Nat → Int32 → Int32 → Int32 → Int32 → Option (Int32)
  | 0, _, _, _, _ => none
  | n + 1, v2, v3, v4, v5 =>
    if o_size ≤ v5 then (
      fX5_binWithout_50 v4
    ) else (
      if v5 = v3 then (
        fX5_binWithout_44 o_size a1 o_powers (fX5_binWithout_6 o_size a1 o_powers n) v2 v3 v4 v5
      ) else (
        gd (inb v5 32) (
        bd1 (fJ9_floorMod_7cf53 (a1 (Int32.toNatClampNeg v5)) (97 : Int32)) (fun r_4 =>
        bd1 (fX5_rootTo o_size o_powers (v5 * v2)) (fun r_6 =>
        nm (v4 + (r_4 * r_6)) (fun v4_8 =>
        fX5_binWithout_44 o_size a1 o_powers (fX5_binWithout_6 o_size a1 o_powers n) v2 v3 v4_8 v5))))
      )
    )
def fX5_binWithout (o_size : Int32) (a1 : Nat → Int32) (o_powers : Nat → Int32) (p2 : Int32) (p3 : Int32) : Option (Int32) :=
  fX5_binWithout_6 o_size a1 o_powers FU p2 p3 (0 : Int32) (0 : Int32)
set_option maxHeartbeats 4000000 in
set_option maxRecDepth 100000 in
theorem tX5_binWithout (l : Launch) (G : va_G) (cI cJ cZ : ClassId) (sz : Nat) (h_o h_a1 h_o_powers : Nat) (o_size : Int32) (o_log : Int32) (a1 : Nat → Int32) (o_powers : Nat → Int32) (p2 : Int32) (p3 : Int32) (r : Int32) (hf : fX5_binWithout o_size a1 o_powers p2 p3 = some r) : Met l yX5_binWithout (Cond.code yX5_binWithout cX5_binWithout 6 (some .int) :: BIG) ({ frames := 1, cells := 0, slots := 0, locals := 22 } : Room) (cP G (TY3 cI cJ cZ) [.ref h_o, .ref h_a1, .int p2, .int p3] sz (wX5_binWithout cI cJ cZ h_o h_a1 h_o_powers o_size o_log a1 o_powers)) (cQ G (TY3 cI cJ cZ) sz (wX5_binWithout cI cJ cZ h_o h_a1 h_o_powers o_size o_log a1 o_powers) (wX5_binWithout cI cJ cZ h_o h_a1 h_o_powers o_size o_log a1 o_powers) (some (.int r))) 0 0 (va_A (wX5_binWithout cI cJ cZ h_o h_a1 h_o_powers o_size o_log a1 o_powers) sz) := by
  refine met_i (cc := cX5_binWithout) (maxL := 6) (plainFor_of_name (by decide)) (Nat.le_of_ble_eq_true rfl) (fun p e s m below meth c A ls Q hx hb hml hts hown hK hP hD hS hA hl hret => ?_)
  have hown : s.vm.findClass RX5 = some m.cls := hown
  have hl : lv_has ls 6 [(0, .ref h_o), (1, .ref h_a1), (2, .int p2), (3, .int p3)] := hl
  have j50 : ∀ (v4 : Int32) (H : Heap) (locs : List Loc) (ls : Array Slot), fX5_binWithout_50 v4 = some r → va_P G vwCl (wX5_binWithout cI cJ cZ h_o h_a1 h_o_powers o_size o_log a1 o_powers) H → va_D A (wX5_binWithout cI cJ cZ h_o h_a1 h_o_powers o_size o_log a1 o_powers) → va_S A s.heap H locs → lv_has ls 6 [(4, .int v4)] → W p l e ({ frames := 1, cells := 0, slots := 0, locals := 22 } : Room) s m ([.ref h_o, .ref h_a1, .int p2, .int p3] : List Value).toArray below meth c H locs 0 0 Q (F0 m 50 ls []) := by
    intro v4 H locs ls hf hP hD hS hl
    unfold fX5_binWithout_50 at hf
    refine lv_iload hx hb dX5_binWithout_50 (lv_at hl 0 rfl) ?_
    refine lv_bipush (v := (97 : Int32)) hx hb dX5_binWithout_52 (by decide) ?_
    refine lv_irem hx hb dX5_binWithout_54 (by decide) ?_
    cases hf
    exact hret _ _ _ _ dX5_binWithout_55 hP hD hS
  have j44 : ∀ (k6 : Int32 → Int32 → Int32 → Int32 → Option (Int32)), (∀ (v2 : Int32) (v3 : Int32) (v4 : Int32) (v5 : Int32) (H : Heap) (locs : List Loc) (ls : Array Slot), k6 v2 v3 v4 v5 = some r → va_P G vwCl (wX5_binWithout cI cJ cZ h_o h_a1 h_o_powers o_size o_log a1 o_powers) H → va_D A (wX5_binWithout cI cJ cZ h_o h_a1 h_o_powers o_size o_log a1 o_powers) → va_S A s.heap H locs → lv_has ls 6 [(0, .ref h_o), (1, .ref h_a1), (2, .int v2), (3, .int v3), (4, .int v4), (5, .int v5)] → W p l e ({ frames := 1, cells := 0, slots := 0, locals := 22 } : Room) s m ([.ref h_o, .ref h_a1, .int p2, .int p3] : List Value).toArray below meth c H locs 0 0 Q (F0 m 6 ls [])) → ∀ (v2 : Int32) (v3 : Int32) (v4 : Int32) (v5 : Int32) (H : Heap) (locs : List Loc) (ls : Array Slot), fX5_binWithout_44 o_size a1 o_powers k6 v2 v3 v4 v5 = some r → va_P G vwCl (wX5_binWithout cI cJ cZ h_o h_a1 h_o_powers o_size o_log a1 o_powers) H → va_D A (wX5_binWithout cI cJ cZ h_o h_a1 h_o_powers o_size o_log a1 o_powers) → va_S A s.heap H locs → lv_has ls 6 [(0, .ref h_o), (1, .ref h_a1), (2, .int v2), (3, .int v3), (4, .int v4), (5, .int v5)] → W p l e ({ frames := 1, cells := 0, slots := 0, locals := 22 } : Room) s m ([.ref h_o, .ref h_a1, .int p2, .int p3] : List Value).toArray below meth c H locs 0 0 Q (F0 m 44 ls []) := by
    intro k6 hk6 v2 v3 v4 v5 H locs ls hf hP hD hS hl
    unfold fX5_binWithout_44 at hf
    obtain ⟨v5_9, ev5_9⟩ : ∃ y : Int32, y = v5 + (1 : Int32) := ⟨_, rfl⟩
    have hf := nm_x ev5_9 hf
    refine lv_iinc (v := v5_9) (lv' := [(5, .int v5_9), (0, .ref h_o), (1, .ref h_a1), (2, .int v2), (3, .int v3), (4, .int v4)]) hx hb dX5_binWithout_44 hl (k := 5) rfl (by rw [ev5_9]; rfl) (by decide) rfl (fun ls hl => ?_)
    refine lv_goto (tgt := 6) hx hb dX5_binWithout_47 (by decide) ?_
    exact hk6 v2 v3 v4 v5_9 H locs ls hf hP hD hS (lv_sub hl [1, 2, 3, 4, 5, 0] rfl)
  have j6 : ∀ (n : Nat) (v2 : Int32) (v3 : Int32) (v4 : Int32) (v5 : Int32) (H : Heap) (locs : List Loc) (ls : Array Slot), fX5_binWithout_6 o_size a1 o_powers n v2 v3 v4 v5 = some r → va_P G vwCl (wX5_binWithout cI cJ cZ h_o h_a1 h_o_powers o_size o_log a1 o_powers) H → va_D A (wX5_binWithout cI cJ cZ h_o h_a1 h_o_powers o_size o_log a1 o_powers) → va_S A s.heap H locs → lv_has ls 6 [(0, .ref h_o), (1, .ref h_a1), (2, .int v2), (3, .int v3), (4, .int v4), (5, .int v5)] → W p l e ({ frames := 1, cells := 0, slots := 0, locals := 22 } : Room) s m ([.ref h_o, .ref h_a1, .int p2, .int p3] : List Value).toArray below meth c H locs 0 0 Q (F0 m 6 ls []) := by
    intro n
    induction n with
    | zero =>
      intro v2 v3 v4 v5 H locs ls hf
      have hf : (none : Option (Int32)) = some r := hf
      cases hf
    | succ n ih =>
      intro v2 v3 v4 v5 H locs ls hf hP hD hS hl
      rw [fX5_binWithout_6.eq_2] at hf
      refine lv_iload hx hb dX5_binWithout_6 (lv_at hl 5 rfl) ?_
      refine lv_aload_n hx hb dX5_binWithout_8 rfl (lv_at hl 0 rfl) ?_
      refine rd (ci := 5) (C := RX5) (T := TX5) (N := 3) hx hb hts inX5 hown hK hP 0 1 rfl rfl (by decide) (hts _ q_fX5_15) rfl dX5_binWithout_9 ?_
      refine lv_icmp_ge (tgt := 50) hx hb dX5_binWithout_12 (by decide) (fun c_1 => ?_) (fun c_1 => ?_)
      · have hf := it_t c_1 hf
        exact j50 v4 H locs ls hf hP hD hS (lv_sub hl [4] rfl)
      · have hf := it_f c_1 hf
        refine lv_iload hx hb dX5_binWithout_15 (lv_at hl 5 rfl) ?_
        refine lv_iload_n hx hb dX5_binWithout_17 rfl (lv_at hl 3 rfl) ?_
        refine lv_icmp_eq (tgt := 44) hx hb dX5_binWithout_18 (by decide) (fun c_2 => ?_) (fun c_2 => ?_)
        · have hf := it_t c_2 hf
          exact j44 (fX5_binWithout_6 o_size a1 o_powers n) ih v2 v3 v4 v5 H locs ls hf hP hD hS (lv_sub hl [0, 1, 2, 3, 4, 5] rfl)
        · have hf := it_f c_2 hf
          refine lv_iload hx hb dX5_binWithout_21 (lv_at hl 4 rfl) ?_
          refine lv_aload_n hx hb dX5_binWithout_23 rfl (lv_at hl 1 rfl) ?_
          refine lv_iload hx hb dX5_binWithout_24 (lv_at hl 5 rfl) ?_
          obtain ⟨g_3, hf⟩ := gd_x hf
          refine va_iald hx hb hK hP 1 0 rfl rfl (inb_x g_3) dX5_binWithout_26 ?_
          refine lv_bipush (v := (97 : Int32)) hx hb dX5_binWithout_27 (by decide) ?_
          obtain ⟨r_4, e_5, hf⟩ := bd1_x hf
          refine call_s [.int (a1 (Int32.toNatClampNeg v5)), .int (97 : Int32)] [.int v4] ⟨hx, hb, hml, hown, hts⟩ hK hP hD hS hA hl.1 (tJ9_floorMod_7cf53 l G cI cJ cZ H.size (a1 (Int32.toNatClampNeg v5)) (97 : Int32) r_4 e_5) (va_cwS 2 hts (gs q_mX5_25 q_s_yJ9_floorMod_7cf53 q_n_RJ9 q_k_yJ9_floorMod_7cf53) rfl rfl rfl (by decide +kernel) ⟨by decide, by decide⟩) rfl rfl (Nat.le_of_ble_eq_true rfl) dX5_binWithout_29 ⟨Nat.zero_le _, Nat.zero_le _⟩ [] [0, 1, 2] [0, 1, 2] rfl rfl (ws2 := (wX5_binWithout cI cJ cZ h_o h_a1 h_o_powers o_size o_log a1 o_powers)) rfl (fun H locs hP hD hS => ?_)
          refine W.eq (g2 := F0 m 32 ls [.int r_4, .int v4]) rfl ?_
          refine lv_aload_n hx hb dX5_binWithout_32 rfl (lv_at hl 0 rfl) ?_
          refine lv_iload hx hb dX5_binWithout_33 (lv_at hl 5 rfl) ?_
          refine lv_iload_n hx hb dX5_binWithout_35 rfl (lv_at hl 2 rfl) ?_
          refine lv_imul hx hb dX5_binWithout_36 ?_
          obtain ⟨r_6, e_7, hf⟩ := bd1_x hf
          refine call_v [.int (v5 * v2)] [.int r_4, .int v4] ⟨hx, hb, hml, hown, hts⟩ hK hP hD hS hA hl.1 (tX5_rootTo l G cI cJ cZ H.size h_o h_o_powers o_size o_log o_powers (v5 * v2) r_6 e_7) (cwV 1 hts (gv q_mX5_31 q_i_yX5_rootTo q_s_yX5_rootTo q_n_RX5 q_k_yX5_rootTo) rfl rfl rfl (by decide +kernel) ⟨by decide, by decide⟩) rfl rfl (Nat.le_of_ble_eq_true rfl) dX5_binWithout_37 ⟨Nat.zero_le _, Nat.zero_le _⟩ (ci := 5) rfl 0 rfl [0, 2] [1] [1, 0, 2] rfl rfl (ws2 := (wX5_binWithout cI cJ cZ h_o h_a1 h_o_powers o_size o_log a1 o_powers)) rfl (fun H locs hP hD hS => ?_)
          refine W.eq (g2 := F0 m 40 ls [.int r_6, .int r_4, .int v4]) rfl ?_
          refine lv_imul hx hb dX5_binWithout_40 ?_
          refine lv_iadd hx hb dX5_binWithout_41 ?_
          refine lv_topi (fun v4_8 ev4_8 => ?_)
          have hf := nm_x ev4_8 hf
          refine lv_istore (lv' := [(4, .int v4_8), (0, .ref h_o), (1, .ref h_a1), (2, .int v2), (3, .int v3), (5, .int v5)]) hx hb dX5_binWithout_42 hl (by decide) rfl (fun ls hl => ?_)
          exact j44 (fX5_binWithout_6 o_size a1 o_powers n) ih v2 v3 v4_8 v5 H locs ls hf hP hD hS (lv_sub hl [1, 2, 3, 4, 0, 5] rfl)
  unfold fX5_binWithout at hf
  obtain ⟨H, eH⟩ : ∃ H, H = s.heap := ⟨_, rfl⟩
  obtain ⟨locs, elocs⟩ : ∃ z : List Loc, z = [] := ⟨_, rfl⟩
  have hP : va_P G vwCl (wX5_binWithout cI cJ cZ h_o h_a1 h_o_powers o_size o_log a1 o_powers) H := by rw [eH]; exact hP
  have hS : va_S A s.heap H locs := by rw [eH, elocs]; exact hS
  suffices hgo : W p l e ({ frames := 1, cells := 0, slots := 0, locals := 22 } : Room) s m ([.ref h_o, .ref h_a1, .int p2, .int p3] : List Value).toArray below meth c H locs 0 0 Q (F0 m 0 ls []) by rw [eH, elocs] at hgo; exact hgo
  clear eH elocs
  refine lv_iconst (v := (0 : Int32)) hx hb dX5_binWithout_0 (by decide) ?_
  refine lv_istore (lv' := [(4, .int (0 : Int32)), (0, .ref h_o), (1, .ref h_a1), (2, .int p2), (3, .int p3)]) hx hb dX5_binWithout_1 hl (by decide) rfl (fun ls hl => ?_)
  refine lv_iconst (v := (0 : Int32)) hx hb dX5_binWithout_3 (by decide) ?_
  refine lv_istore (lv' := [(5, .int (0 : Int32)), (4, .int (0 : Int32)), (0, .ref h_o), (1, .ref h_a1), (2, .int p2), (3, .int p3)]) hx hb dX5_binWithout_4 hl (by decide) rfl (fun ls hl => ?_)
  exact j6 FU p2 p3 (0 : Int32) (0 : Int32) H locs ls hf hP hD hS (lv_sub hl [2, 3, 4, 5, 1, 0] rfl)
def wX5_binWith (cI cJ cZ : ClassId) (h_o h_o_powers : Nat) (o_size : Int32) (o_log : Int32) (o_powers : Nat → Int32) : va_W := [(h_o, .inr (5, [.ref h_o_powers, .int o_size, .int o_log])), (h_o_powers, .inl (cI, 32, .inl o_powers))]
def fX5_binWith (o_size : Int32) (o_powers : Nat → Int32) (p1 : Int32) (p2 : Int32) (p3 : Int32) (p4 : Int32) : Option (Int32) :=
  bd1 (fX5_rootTo o_size o_powers (p4 * p3)) (fun r_1 =>
  some ((p1 + (p2 * r_1)) - (p1 + (p2 * r_1)) / (97 : Int32) * (97 : Int32)))
set_option maxHeartbeats 4000000 in
set_option maxRecDepth 100000 in
theorem tX5_binWith (l : Launch) (G : va_G) (cI cJ cZ : ClassId) (sz : Nat) (h_o h_o_powers : Nat) (o_size : Int32) (o_log : Int32) (o_powers : Nat → Int32) (p1 : Int32) (p2 : Int32) (p3 : Int32) (p4 : Int32) (r : Int32) (hf : fX5_binWith o_size o_powers p1 p2 p3 p4 = some r) : Met l yX5_binWith (Cond.code yX5_binWith cX5_binWith 5 (some .int) :: BIG) ({ frames := 1, cells := 0, slots := 0, locals := 21 } : Room) (cP G (TY3 cI cJ cZ) [.ref h_o, .int p1, .int p2, .int p3, .int p4] sz (wX5_binWith cI cJ cZ h_o h_o_powers o_size o_log o_powers)) (cQ G (TY3 cI cJ cZ) sz (wX5_binWith cI cJ cZ h_o h_o_powers o_size o_log o_powers) (wX5_binWith cI cJ cZ h_o h_o_powers o_size o_log o_powers) (some (.int r))) 0 0 (va_A (wX5_binWith cI cJ cZ h_o h_o_powers o_size o_log o_powers) sz) := by
  refine met_i (cc := cX5_binWith) (maxL := 5) (plainFor_of_name (by decide)) (Nat.le_of_ble_eq_true rfl) (fun p e s m below meth c A ls Q hx hb hml hts hown hK hP hD hS hA hl hret => ?_)
  have hown : s.vm.findClass RX5 = some m.cls := hown
  have hl : lv_has ls 5 [(0, .ref h_o), (1, .int p1), (2, .int p2), (3, .int p3), (4, .int p4)] := hl
  unfold fX5_binWith at hf
  obtain ⟨H, eH⟩ : ∃ H, H = s.heap := ⟨_, rfl⟩
  obtain ⟨locs, elocs⟩ : ∃ z : List Loc, z = [] := ⟨_, rfl⟩
  have hP : va_P G vwCl (wX5_binWith cI cJ cZ h_o h_o_powers o_size o_log o_powers) H := by rw [eH]; exact hP
  have hS : va_S A s.heap H locs := by rw [eH, elocs]; exact hS
  suffices hgo : W p l e ({ frames := 1, cells := 0, slots := 0, locals := 21 } : Room) s m ([.ref h_o, .int p1, .int p2, .int p3, .int p4] : List Value).toArray below meth c H locs 0 0 Q (F0 m 0 ls []) by rw [eH, elocs] at hgo; exact hgo
  clear eH elocs
  refine lv_iload_n hx hb dX5_binWith_0 rfl (lv_at hl 1 rfl) ?_
  refine lv_iload_n hx hb dX5_binWith_1 rfl (lv_at hl 2 rfl) ?_
  refine lv_aload_n hx hb dX5_binWith_2 rfl (lv_at hl 0 rfl) ?_
  refine lv_iload hx hb dX5_binWith_3 (lv_at hl 4 rfl) ?_
  refine lv_iload_n hx hb dX5_binWith_5 rfl (lv_at hl 3 rfl) ?_
  refine lv_imul hx hb dX5_binWith_6 ?_
  obtain ⟨r_1, e_2, hf⟩ := bd1_x hf
  refine call_v [.int (p4 * p3)] [.int p2, .int p1] ⟨hx, hb, hml, hown, hts⟩ hK hP hD hS hA hl.1 (tX5_rootTo l G cI cJ cZ H.size h_o h_o_powers o_size o_log o_powers (p4 * p3) r_1 e_2) (cwV 1 hts (gv q_mX5_31 q_i_yX5_rootTo q_s_yX5_rootTo q_n_RX5 q_k_yX5_rootTo) rfl rfl rfl (by decide +kernel) ⟨by decide, by decide⟩) rfl rfl (Nat.le_of_ble_eq_true rfl) dX5_binWith_7 ⟨Nat.zero_le _, Nat.zero_le _⟩ (ci := 5) rfl 0 rfl [0, 1] [] [0, 1] rfl rfl (ws2 := (wX5_binWith cI cJ cZ h_o h_o_powers o_size o_log o_powers)) rfl (fun H locs hP hD hS => ?_)
  refine W.eq (g2 := F0 m 10 ls [.int r_1, .int p2, .int p1]) rfl ?_
  refine lv_imul hx hb dX5_binWith_10 ?_
  refine lv_iadd hx hb dX5_binWith_11 ?_
  refine lv_bipush (v := (97 : Int32)) hx hb dX5_binWith_12 (by decide) ?_
  refine lv_irem hx hb dX5_binWith_14 (by decide) ?_
  cases hf
  exact hret _ _ _ _ dX5_binWith_15 hP hD hS
def wX5_pointOf (cI cJ cZ : ClassId) (h_o h_o_powers : Nat) (o_size : Int32) (o_log : Int32) (o_powers : Nat → Int32) : va_W := [(h_o, .inr (5, [.ref h_o_powers, .int o_size, .int o_log])), (h_o_powers, .inl (cI, 32, .inl o_powers))]
def fX5_pointOf_18 (o_log : Int32) : Nat → Int32 → Int32 → Option (Int32)
  | 0, _, _ => none
  | n + 1, v4, v5 =>
    if o_log ≤ v5 then (
      some v4
    ) else (
      nm ((v4 * (49 : Int32)) - (v4 * (49 : Int32)) / (97 : Int32) * (97 : Int32)) (fun v4_5 =>
      nm (v5 + (1 : Int32)) (fun v5_6 =>
      fX5_pointOf_18 o_log n v4_5 v5_6))
    )
def fX5_pointOf (o_size : Int32) (o_log : Int32) (o_powers : Nat → Int32) (p1 : Int32) (p2 : Int32) (p3 : Int32) : Option (Int32) :=
  bd1 (fX5_rootTo o_size o_powers ((-p1) * p3)) (fun r_1 =>
  nm ((p2 * r_1) - (p2 * r_1) / (97 : Int32) * (97 : Int32)) (fun v4_3 =>
  fX5_pointOf_18 o_log FU v4_3 (0 : Int32)))
set_option maxHeartbeats 4000000 in
set_option maxRecDepth 100000 in
theorem tX5_pointOf (l : Launch) (G : va_G) (cI cJ cZ : ClassId) (sz : Nat) (h_o h_o_powers : Nat) (o_size : Int32) (o_log : Int32) (o_powers : Nat → Int32) (p1 : Int32) (p2 : Int32) (p3 : Int32) (r : Int32) (hf : fX5_pointOf o_size o_log o_powers p1 p2 p3 = some r) : Met l yX5_pointOf (Cond.code yX5_pointOf cX5_pointOf 6 (some .int) :: BIG) ({ frames := 1, cells := 0, slots := 0, locals := 21 } : Room) (cP G (TY3 cI cJ cZ) [.ref h_o, .int p1, .int p2, .int p3] sz (wX5_pointOf cI cJ cZ h_o h_o_powers o_size o_log o_powers)) (cQ G (TY3 cI cJ cZ) sz (wX5_pointOf cI cJ cZ h_o h_o_powers o_size o_log o_powers) (wX5_pointOf cI cJ cZ h_o h_o_powers o_size o_log o_powers) (some (.int r))) 0 0 (va_A (wX5_pointOf cI cJ cZ h_o h_o_powers o_size o_log o_powers) sz) := by
  refine met_i (cc := cX5_pointOf) (maxL := 6) (plainFor_of_name (by decide)) (Nat.le_of_ble_eq_true rfl) (fun p e s m below meth c A ls Q hx hb hml hts hown hK hP hD hS hA hl hret => ?_)
  have hown : s.vm.findClass RX5 = some m.cls := hown
  have hl : lv_has ls 6 [(0, .ref h_o), (1, .int p1), (2, .int p2), (3, .int p3)] := hl
  have j18 : ∀ (n : Nat) (v4 : Int32) (v5 : Int32) (H : Heap) (locs : List Loc) (ls : Array Slot), fX5_pointOf_18 o_log n v4 v5 = some r → va_P G vwCl (wX5_pointOf cI cJ cZ h_o h_o_powers o_size o_log o_powers) H → va_D A (wX5_pointOf cI cJ cZ h_o h_o_powers o_size o_log o_powers) → va_S A s.heap H locs → lv_has ls 6 [(0, .ref h_o), (4, .int v4), (5, .int v5)] → W p l e ({ frames := 1, cells := 0, slots := 0, locals := 21 } : Room) s m ([.ref h_o, .int p1, .int p2, .int p3] : List Value).toArray below meth c H locs 0 0 Q (F0 m 18 ls []) := by
    intro n
    induction n with
    | zero =>
      intro v4 v5 H locs ls hf
      have hf : (none : Option (Int32)) = some r := hf
      cases hf
    | succ n ih =>
      intro v4 v5 H locs ls hf hP hD hS hl
      rw [fX5_pointOf_18.eq_2] at hf
      refine lv_iload hx hb dX5_pointOf_18 (lv_at hl 2 rfl) ?_
      refine lv_aload_n hx hb dX5_pointOf_20 rfl (lv_at hl 0 rfl) ?_
      refine rd (ci := 5) (C := RX5) (T := TX5) (N := 3) hx hb hts inX5 hown hK hP 0 2 rfl rfl (by decide) (hts _ q_fX5_19) rfl dX5_pointOf_21 ?_
      refine lv_icmp_ge (tgt := 43) hx hb dX5_pointOf_24 (by decide) (fun c_4 => ?_) (fun c_4 => ?_)
      · have hf := it_t c_4 hf
        refine lv_iload hx hb dX5_pointOf_43 (lv_at hl 1 rfl) ?_
        cases hf
        exact hret _ _ _ _ dX5_pointOf_45 hP hD hS
      · have hf := it_f c_4 hf
        refine lv_iload hx hb dX5_pointOf_27 (lv_at hl 1 rfl) ?_
        refine lv_bipush (v := (49 : Int32)) hx hb dX5_pointOf_29 (by decide) ?_
        refine lv_imul hx hb dX5_pointOf_31 ?_
        refine lv_bipush (v := (97 : Int32)) hx hb dX5_pointOf_32 (by decide) ?_
        refine lv_irem hx hb dX5_pointOf_34 (by decide) ?_
        refine lv_topi (fun v4_5 ev4_5 => ?_)
        have hf := nm_x ev4_5 hf
        refine lv_istore (lv' := [(4, .int v4_5), (0, .ref h_o), (5, .int v5)]) hx hb dX5_pointOf_35 hl (by decide) rfl (fun ls hl => ?_)
        obtain ⟨v5_6, ev5_6⟩ : ∃ y : Int32, y = v5 + (1 : Int32) := ⟨_, rfl⟩
        have hf := nm_x ev5_6 hf
        refine lv_iinc (v := v5_6) (lv' := [(5, .int v5_6), (4, .int v4_5), (0, .ref h_o)]) hx hb dX5_pointOf_37 hl (k := 2) rfl (by rw [ev5_6]; rfl) (by decide) rfl (fun ls hl => ?_)
        refine lv_goto (tgt := 18) hx hb dX5_pointOf_40 (by decide) ?_
        exact ih v4_5 v5_6 H locs ls hf hP hD hS (lv_sub hl [2, 1, 0] rfl)
  unfold fX5_pointOf at hf
  obtain ⟨H, eH⟩ : ∃ H, H = s.heap := ⟨_, rfl⟩
  obtain ⟨locs, elocs⟩ : ∃ z : List Loc, z = [] := ⟨_, rfl⟩
  have hP : va_P G vwCl (wX5_pointOf cI cJ cZ h_o h_o_powers o_size o_log o_powers) H := by rw [eH]; exact hP
  have hS : va_S A s.heap H locs := by rw [eH, elocs]; exact hS
  suffices hgo : W p l e ({ frames := 1, cells := 0, slots := 0, locals := 21 } : Room) s m ([.ref h_o, .int p1, .int p2, .int p3] : List Value).toArray below meth c H locs 0 0 Q (F0 m 0 ls []) by rw [eH, elocs] at hgo; exact hgo
  clear eH elocs
  refine lv_iload_n hx hb dX5_pointOf_0 rfl (lv_at hl 2 rfl) ?_
  refine lv_aload_n hx hb dX5_pointOf_1 rfl (lv_at hl 0 rfl) ?_
  refine lv_iload_n hx hb dX5_pointOf_2 rfl (lv_at hl 1 rfl) ?_
  refine lv_ineg hx hb dX5_pointOf_3 ?_
  refine lv_iload_n hx hb dX5_pointOf_4 rfl (lv_at hl 3 rfl) ?_
  refine lv_imul hx hb dX5_pointOf_5 ?_
  obtain ⟨r_1, e_2, hf⟩ := bd1_x hf
  refine call_v [.int ((-p1) * p3)] [.int p2] ⟨hx, hb, hml, hown, hts⟩ hK hP hD hS hA hl.1 (tX5_rootTo l G cI cJ cZ H.size h_o h_o_powers o_size o_log o_powers ((-p1) * p3) r_1 e_2) (cwV 1 hts (gv q_mX5_31 q_i_yX5_rootTo q_s_yX5_rootTo q_n_RX5 q_k_yX5_rootTo) rfl rfl rfl (by decide +kernel) ⟨by decide, by decide⟩) rfl rfl (Nat.le_of_ble_eq_true rfl) dX5_pointOf_6 ⟨Nat.zero_le _, Nat.zero_le _⟩ (ci := 5) rfl 0 rfl [0, 1] [] [0, 1] rfl rfl (ws2 := (wX5_pointOf cI cJ cZ h_o h_o_powers o_size o_log o_powers)) rfl (fun H locs hP hD hS => ?_)
  refine W.eq (g2 := F0 m 9 ls [.int r_1, .int p2]) rfl ?_
  refine lv_imul hx hb dX5_pointOf_9 ?_
  refine lv_bipush (v := (97 : Int32)) hx hb dX5_pointOf_10 (by decide) ?_
  refine lv_irem hx hb dX5_pointOf_12 (by decide) ?_
  refine lv_topi (fun v4_3 ev4_3 => ?_)
  have hf := nm_x ev4_3 hf
  refine lv_istore (lv' := [(4, .int v4_3), (0, .ref h_o), (1, .int p1), (2, .int p2), (3, .int p3)]) hx hb dX5_pointOf_13 hl (by decide) rfl (fun ls hl => ?_)
  refine lv_iconst (v := (0 : Int32)) hx hb dX5_pointOf_15 (by decide) ?_
  refine lv_istore (lv' := [(5, .int (0 : Int32)), (4, .int v4_3), (0, .ref h_o), (1, .int p1), (2, .int p2), (3, .int p3)]) hx hb dX5_pointOf_16 hl (by decide) rfl (fun ls hl => ?_)
  exact j18 FU v4_3 (0 : Int32) H locs ls hf hP hD hS (lv_sub hl [2, 1, 0] rfl)
def wX7_begin (cI cJ cZ : ClassId) (h_o h_a1 h_a2 h_o_im h_o_re h_o_wasRe h_o_wasIm h_o_halved : Nat) (o_exp : Int32) (o_done : Int32) (o_backward : Int32) (a1 : Nat → Int32) (a2 : Nat → Int32) (o_im : Nat → Int32) (o_re : Nat → Int32) : va_W := [(h_o, .inr (7, [.ref h_o_re, .ref h_o_im, .ref h_o_wasRe, .ref h_o_wasIm, .ref h_o_halved, .int o_exp, .int o_done, .int o_backward])), (h_a1, .inl (cI, 32, .inl a1)), (h_a2, .inl (cI, 32, .inl a2)), (h_o_im, .inl (cI, 32, .inl o_im)), (h_o_re, .inl (cI, 32, .inl o_re))]
def fX7_begin (o_exp : Int32) (o_done : Int32) (o_backward : Int32) (a1 : Nat → Int32) (a2 : Nat → Int32) (o_im : Nat → Int32) (o_re : Nat → Int32) : Option (Int32 × Int32 × Int32 × (Nat → Int32) × (Nat → Int32)) :=
  gd (cpok (0 : Int32) (0 : Int32) (32 : Int32) 32 32) (
  nm (va_cpy a1 o_re (Int32.toNatClampNeg (0 : Int32)) (Int32.toNatClampNeg (0 : Int32)) (Int32.toNatClampNeg (32 : Int32))) (fun o_re_2 =>
  gd (cpok (0 : Int32) (0 : Int32) (32 : Int32) 32 32) (
  nm (va_cpy a2 o_im (Int32.toNatClampNeg (0 : Int32)) (Int32.toNatClampNeg (0 : Int32)) (Int32.toNatClampNeg (32 : Int32))) (fun o_im_4 =>
  some ((0 : Int32), (0 : Int32), (0 : Int32), o_im_4, o_re_2)))))
set_option maxHeartbeats 4000000 in
set_option maxRecDepth 100000 in
theorem tX7_begin (l : Launch) (G : va_G) (cI cJ cZ : ClassId) (sz : Nat) (h_o h_a1 h_a2 h_o_im h_o_re h_o_wasRe h_o_wasIm h_o_halved : Nat) (o_exp : Int32) (o_done : Int32) (o_backward : Int32) (a1 : Nat → Int32) (a2 : Nat → Int32) (o_im : Nat → Int32) (o_re : Nat → Int32) (out_o_exp : Int32) (out_o_done : Int32) (out_o_backward : Int32) (out_o_im : Nat → Int32) (out_o_re : Nat → Int32) (hf : fX7_begin o_exp o_done o_backward a1 a2 o_im o_re = some (out_o_exp, out_o_done, out_o_backward, out_o_im, out_o_re)) : Met l yX7_begin (Cond.code yX7_begin cX7_begin 3 none :: BIG) ({ frames := 1, cells := 0, slots := 0, locals := 18 } : Room) (cP G (TY3 cI cJ cZ) [.ref h_o, .ref h_a1, .ref h_a2] sz (wX7_begin cI cJ cZ h_o h_a1 h_a2 h_o_im h_o_re h_o_wasRe h_o_wasIm h_o_halved o_exp o_done o_backward a1 a2 o_im o_re)) (cQ G (TY3 cI cJ cZ) sz (wX7_begin cI cJ cZ h_o h_a1 h_a2 h_o_im h_o_re h_o_wasRe h_o_wasIm h_o_halved o_exp o_done o_backward a1 a2 o_im o_re) (wX7_begin cI cJ cZ h_o h_a1 h_a2 h_o_im h_o_re h_o_wasRe h_o_wasIm h_o_halved out_o_exp out_o_done out_o_backward a1 a2 out_o_im out_o_re) none) 0 0 (va_A (wX7_begin cI cJ cZ h_o h_a1 h_a2 h_o_im h_o_re h_o_wasRe h_o_wasIm h_o_halved o_exp o_done o_backward a1 a2 o_im o_re) sz) := by
  refine met_v (cc := cX7_begin) (maxL := 3) (plainFor_of_name (by decide)) (Nat.le_of_ble_eq_true rfl) (fun p e s m below meth c A ls Q hx hb hml hts hown hK hP hD hS hA hl hret => ?_)
  have hown : s.vm.findClass RX7 = some m.cls := hown
  have hl : lv_has ls 3 [(0, .ref h_o), (1, .ref h_a1), (2, .ref h_a2)] := hl
  unfold fX7_begin at hf
  obtain ⟨H, eH⟩ : ∃ H, H = s.heap := ⟨_, rfl⟩
  obtain ⟨locs, elocs⟩ : ∃ z : List Loc, z = [] := ⟨_, rfl⟩
  have hP : va_P G vwCl (wX7_begin cI cJ cZ h_o h_a1 h_a2 h_o_im h_o_re h_o_wasRe h_o_wasIm h_o_halved o_exp o_done o_backward a1 a2 o_im o_re) H := by rw [eH]; exact hP
  have hS : va_S A s.heap H locs := by rw [eH, elocs]; exact hS
  suffices hgo : W p l e ({ frames := 1, cells := 0, slots := 0, locals := 18 } : Room) s m ([.ref h_o, .ref h_a1, .ref h_a2] : List Value).toArray below meth c H locs 0 0 Q (F0 m 0 ls []) by rw [eH, elocs] at hgo; exact hgo
  clear eH elocs
  refine lv_aload_n hx hb dX7_begin_0 rfl (lv_at hl 1 rfl) ?_
  refine lv_iconst (v := (0 : Int32)) hx hb dX7_begin_1 (by decide) ?_
  refine lv_aload_n hx hb dX7_begin_2 rfl (lv_at hl 0 rfl) ?_
  refine rd (ci := 7) (C := RX7) (T := TX7) (N := 8) hx hb hts inX7 hown hK hP 0 0 rfl rfl (by decide) (hts _ q_fX7_9) rfl dX7_begin_3 ?_
  refine lv_iconst (v := (0 : Int32)) hx hb dX7_begin_6 (by decide) ?_
  refine lv_bipush (v := (32 : Int32)) hx hb dX7_begin_7 (by decide) ?_
  obtain ⟨g_1, hf⟩ := gd_x hf
  obtain ⟨o_re_2, eo_re_2⟩ : ∃ y : Nat → Int32, y = va_cpy a1 o_re (Int32.toNatClampNeg (0 : Int32)) (Int32.toNatClampNeg (0 : Int32)) (Int32.toNatClampNeg (32 : Int32)) := ⟨_, rfl⟩
  have hf := nm_x eo_re_2 hf
  refine cpy hx hb (hml.trans hl.1.symm) hown (hts _ q_mX7_38) (hts _ q_n_arraycopyName) (hts _ q_s_arraycopyName) (hts _ q_n_java_lang_System) hK hP hD hS 1 4 0 rfl rfl rfl g_1 (by decide) (Nat.le_of_ble_eq_true rfl) dX7_begin_9 eo_re_2 (ws2 := (wX7_begin cI cJ cZ h_o h_a1 h_a2 h_o_im h_o_re h_o_wasRe h_o_wasIm h_o_halved o_exp o_done o_backward a1 a2 o_im o_re_2)) rfl (fun H locs hP hD hS => ?_)
  refine lv_aload_n hx hb dX7_begin_12 rfl (lv_at hl 2 rfl) ?_
  refine lv_iconst (v := (0 : Int32)) hx hb dX7_begin_13 (by decide) ?_
  refine lv_aload_n hx hb dX7_begin_14 rfl (lv_at hl 0 rfl) ?_
  refine rd (ci := 7) (C := RX7) (T := TX7) (N := 8) hx hb hts inX7 hown hK hP 0 1 rfl rfl (by decide) (hts _ q_fX7_15) rfl dX7_begin_15 ?_
  refine lv_iconst (v := (0 : Int32)) hx hb dX7_begin_18 (by decide) ?_
  refine lv_bipush (v := (32 : Int32)) hx hb dX7_begin_19 (by decide) ?_
  obtain ⟨g_3, hf⟩ := gd_x hf
  obtain ⟨o_im_4, eo_im_4⟩ : ∃ y : Nat → Int32, y = va_cpy a2 o_im (Int32.toNatClampNeg (0 : Int32)) (Int32.toNatClampNeg (0 : Int32)) (Int32.toNatClampNeg (32 : Int32)) := ⟨_, rfl⟩
  have hf := nm_x eo_im_4 hf
  refine cpy hx hb (hml.trans hl.1.symm) hown (hts _ q_mX7_38) (hts _ q_n_arraycopyName) (hts _ q_s_arraycopyName) (hts _ q_n_java_lang_System) hK hP hD hS 2 3 0 rfl rfl rfl g_3 (by decide) (Nat.le_of_ble_eq_true rfl) dX7_begin_21 eo_im_4 (ws2 := (wX7_begin cI cJ cZ h_o h_a1 h_a2 h_o_im h_o_re h_o_wasRe h_o_wasIm h_o_halved o_exp o_done o_backward a1 a2 o_im_4 o_re_2)) rfl (fun H locs hP hD hS => ?_)
  refine lv_aload_n hx hb dX7_begin_24 rfl (lv_at hl 0 rfl) ?_
  refine lv_iconst (v := (0 : Int32)) hx hb dX7_begin_25 (by decide) ?_
  refine wr (ci := 7) (C := RX7) (T := TX7) (N := 8) hx hb hts inX7 tyX7 tyX7_ok nmX7 hown hK hP hD hS 0 5 rfl rfl (by decide) (hts _ q_fX7_27) rfl rfl rfl (Nat.le_of_ble_eq_true rfl) dX7_begin_26 (ws2 := (wX7_begin cI cJ cZ h_o h_a1 h_a2 h_o_im h_o_re h_o_wasRe h_o_wasIm h_o_halved (0 : Int32) o_done o_backward a1 a2 o_im_4 o_re_2)) rfl (fun H locs hP hD hS => ?_)
  refine lv_aload_n hx hb dX7_begin_29 rfl (lv_at hl 0 rfl) ?_
  refine lv_iconst (v := (0 : Int32)) hx hb dX7_begin_30 (by decide) ?_
  refine wr (ci := 7) (C := RX7) (T := TX7) (N := 8) hx hb hts inX7 tyX7 tyX7_ok nmX7 hown hK hP hD hS 0 6 rfl rfl (by decide) (hts _ q_fX7_31) rfl rfl rfl (Nat.le_of_ble_eq_true rfl) dX7_begin_31 (ws2 := (wX7_begin cI cJ cZ h_o h_a1 h_a2 h_o_im h_o_re h_o_wasRe h_o_wasIm h_o_halved (0 : Int32) (0 : Int32) o_backward a1 a2 o_im_4 o_re_2)) rfl (fun H locs hP hD hS => ?_)
  refine lv_aload_n hx hb dX7_begin_34 rfl (lv_at hl 0 rfl) ?_
  refine lv_iconst (v := (0 : Int32)) hx hb dX7_begin_35 (by decide) ?_
  refine wr (ci := 7) (C := RX7) (T := TX7) (N := 8) hx hb hts inX7 tyX7 tyX7_ok nmX7 hown hK hP hD hS 0 7 rfl rfl (by decide) (hts _ q_fX7_34) rfl rfl rfl (Nat.le_of_ble_eq_true rfl) dX7_begin_36 (ws2 := (wX7_begin cI cJ cZ h_o h_a1 h_a2 h_o_im h_o_re h_o_wasRe h_o_wasIm h_o_halved (0 : Int32) (0 : Int32) (0 : Int32) a1 a2 o_im_4 o_re_2)) rfl (fun H locs hP hD hS => ?_)
  cases hf
  exact hret _ _ _ _ dX7_begin_39 hP hD hS
def wX7_restartFrom (cI cJ cZ : ClassId) (h_o h_a1 h_a1_wasIm h_a1_wasRe h_o_im h_o_re h_o_wasRe h_o_wasIm h_o_halved h_a1_re h_a1_im h_a1_halved : Nat) (o_exp : Int32) (o_done : Int32) (o_backward : Int32) (a1_exp : Int32) (a1_done : Int32) (a1_backward : Int32) (a1_wasIm : Nat → Int32) (a1_wasRe : Nat → Int32) (o_im : Nat → Int32) (o_re : Nat → Int32) : va_W := [(h_o, .inr (7, [.ref h_o_re, .ref h_o_im, .ref h_o_wasRe, .ref h_o_wasIm, .ref h_o_halved, .int o_exp, .int o_done, .int o_backward])), (h_a1, .inr (7, [.ref h_a1_re, .ref h_a1_im, .ref h_a1_wasRe, .ref h_a1_wasIm, .ref h_a1_halved, .int a1_exp, .int a1_done, .int a1_backward])), (h_a1_wasIm, .inl (cI, 32, .inl a1_wasIm)), (h_a1_wasRe, .inl (cI, 32, .inl a1_wasRe)), (h_o_im, .inl (cI, 32, .inl o_im)), (h_o_re, .inl (cI, 32, .inl o_re))]
def fX7_restartFrom (o_exp : Int32) (o_done : Int32) (o_backward : Int32) (a1_wasIm : Nat → Int32) (a1_wasRe : Nat → Int32) (o_im : Nat → Int32) (o_re : Nat → Int32) : Option (Int32 × Int32 × Int32 × (Nat → Int32) × (Nat → Int32)) :=
  bd5 (fX7_begin o_exp o_done o_backward a1_wasRe a1_wasIm o_im o_re) (fun o_exp_1 o_done_2 o_backward_3 o_im_4 o_re_5 =>
  some (o_exp_1, o_done_2, o_backward_3, o_im_4, o_re_5))
set_option maxHeartbeats 4000000 in
set_option maxRecDepth 100000 in
theorem tX7_restartFrom (l : Launch) (G : va_G) (cI cJ cZ : ClassId) (sz : Nat) (h_o h_a1 h_a1_wasIm h_a1_wasRe h_o_im h_o_re h_o_wasRe h_o_wasIm h_o_halved h_a1_re h_a1_im h_a1_halved : Nat) (o_exp : Int32) (o_done : Int32) (o_backward : Int32) (a1_exp : Int32) (a1_done : Int32) (a1_backward : Int32) (a1_wasIm : Nat → Int32) (a1_wasRe : Nat → Int32) (o_im : Nat → Int32) (o_re : Nat → Int32) (out_o_exp : Int32) (out_o_done : Int32) (out_o_backward : Int32) (out_o_im : Nat → Int32) (out_o_re : Nat → Int32) (hf : fX7_restartFrom o_exp o_done o_backward a1_wasIm a1_wasRe o_im o_re = some (out_o_exp, out_o_done, out_o_backward, out_o_im, out_o_re)) : Met l yX7_restartFrom (Cond.code yX7_restartFrom cX7_restartFrom 2 none :: BIG) ({ frames := 2, cells := 0, slots := 0, locals := 40 } : Room) (cP G (TY3 cI cJ cZ) [.ref h_o, .ref h_a1] sz (wX7_restartFrom cI cJ cZ h_o h_a1 h_a1_wasIm h_a1_wasRe h_o_im h_o_re h_o_wasRe h_o_wasIm h_o_halved h_a1_re h_a1_im h_a1_halved o_exp o_done o_backward a1_exp a1_done a1_backward a1_wasIm a1_wasRe o_im o_re)) (cQ G (TY3 cI cJ cZ) sz (wX7_restartFrom cI cJ cZ h_o h_a1 h_a1_wasIm h_a1_wasRe h_o_im h_o_re h_o_wasRe h_o_wasIm h_o_halved h_a1_re h_a1_im h_a1_halved o_exp o_done o_backward a1_exp a1_done a1_backward a1_wasIm a1_wasRe o_im o_re) (wX7_restartFrom cI cJ cZ h_o h_a1 h_a1_wasIm h_a1_wasRe h_o_im h_o_re h_o_wasRe h_o_wasIm h_o_halved h_a1_re h_a1_im h_a1_halved out_o_exp out_o_done out_o_backward a1_exp a1_done a1_backward a1_wasIm a1_wasRe out_o_im out_o_re) none) 0 0 (va_A (wX7_restartFrom cI cJ cZ h_o h_a1 h_a1_wasIm h_a1_wasRe h_o_im h_o_re h_o_wasRe h_o_wasIm h_o_halved h_a1_re h_a1_im h_a1_halved o_exp o_done o_backward a1_exp a1_done a1_backward a1_wasIm a1_wasRe o_im o_re) sz) := by
  refine met_v (cc := cX7_restartFrom) (maxL := 2) (plainFor_of_name (by decide)) (Nat.le_of_ble_eq_true rfl) (fun p e s m below meth c A ls Q hx hb hml hts hown hK hP hD hS hA hl hret => ?_)
  have hown : s.vm.findClass RX7 = some m.cls := hown
  have hl : lv_has ls 2 [(0, .ref h_o), (1, .ref h_a1)] := hl
  unfold fX7_restartFrom at hf
  obtain ⟨H, eH⟩ : ∃ H, H = s.heap := ⟨_, rfl⟩
  obtain ⟨locs, elocs⟩ : ∃ z : List Loc, z = [] := ⟨_, rfl⟩
  have hP : va_P G vwCl (wX7_restartFrom cI cJ cZ h_o h_a1 h_a1_wasIm h_a1_wasRe h_o_im h_o_re h_o_wasRe h_o_wasIm h_o_halved h_a1_re h_a1_im h_a1_halved o_exp o_done o_backward a1_exp a1_done a1_backward a1_wasIm a1_wasRe o_im o_re) H := by rw [eH]; exact hP
  have hS : va_S A s.heap H locs := by rw [eH, elocs]; exact hS
  suffices hgo : W p l e ({ frames := 2, cells := 0, slots := 0, locals := 40 } : Room) s m ([.ref h_o, .ref h_a1] : List Value).toArray below meth c H locs 0 0 Q (F0 m 0 ls []) by rw [eH, elocs] at hgo; exact hgo
  clear eH elocs
  refine lv_aload_n hx hb dX7_restartFrom_0 rfl (lv_at hl 0 rfl) ?_
  refine lv_aload_n hx hb dX7_restartFrom_1 rfl (lv_at hl 1 rfl) ?_
  refine rd (ci := 7) (C := RX7) (T := TX7) (N := 8) hx hb hts inX7 hown hK hP 1 2 rfl rfl (by decide) (hts _ q_fX7_18) rfl dX7_restartFrom_2 ?_
  refine lv_aload_n hx hb dX7_restartFrom_5 rfl (lv_at hl 1 rfl) ?_
  refine rd (ci := 7) (C := RX7) (T := TX7) (N := 8) hx hb hts inX7 hown hK hP 1 3 rfl rfl (by decide) (hts _ q_fX7_21) rfl dX7_restartFrom_6 ?_
  obtain ⟨o_exp_1, o_done_2, o_backward_3, o_im_4, o_re_5, e_6, hf⟩ := bd5_x hf
  refine call_v [.ref h_a1_wasRe, .ref h_a1_wasIm] [] ⟨hx, hb, hml, hown, hts⟩ hK hP hD hS hA hl.1 (tX7_begin l G cI cJ cZ H.size h_o h_a1_wasRe h_a1_wasIm h_o_im h_o_re h_o_wasRe h_o_wasIm h_o_halved o_exp o_done o_backward a1_wasRe a1_wasIm o_im o_re o_exp_1 o_done_2 o_backward_3 o_im_4 o_re_5 e_6) (cwV 2 hts (gv q_mX7_44 q_i_yX7_begin q_s_yX7_begin q_n_RX7 q_k_yX7_begin) rfl rfl rfl (by decide +kernel) ⟨by decide, by decide⟩) rfl rfl (Nat.le_of_ble_eq_true rfl) dX7_restartFrom_9 ⟨Nat.zero_le _, Nat.zero_le _⟩ (ci := 7) rfl 0 rfl [0, 3, 2, 4, 5] [1] [1, 0, 3, 2, 4, 5] rfl rfl (ws2 := (wX7_restartFrom cI cJ cZ h_o h_a1 h_a1_wasIm h_a1_wasRe h_o_im h_o_re h_o_wasRe h_o_wasIm h_o_halved h_a1_re h_a1_im h_a1_halved o_exp_1 o_done_2 o_backward_3 a1_exp a1_done a1_backward a1_wasIm a1_wasRe o_im_4 o_re_5)) rfl (fun H locs hP hD hS => ?_)
  refine W.eq (g2 := F0 m 12 ls []) rfl ?_
  cases hf
  exact hret _ _ _ _ dX7_restartFrom_12 hP hD hS
def wX7_goOnFrom (cI cJ cZ : ClassId) (h_o h_a1 h_a1_im h_a1_re h_o_im h_o_re h_o_wasRe h_o_wasIm h_o_halved h_a1_wasRe h_a1_wasIm h_a1_halved : Nat) (o_exp : Int32) (o_done : Int32) (o_backward : Int32) (a1_exp : Int32) (a1_done : Int32) (a1_backward : Int32) (a1_im : Nat → Int32) (a1_re : Nat → Int32) (o_im : Nat → Int32) (o_re : Nat → Int32) : va_W := [(h_o, .inr (7, [.ref h_o_re, .ref h_o_im, .ref h_o_wasRe, .ref h_o_wasIm, .ref h_o_halved, .int o_exp, .int o_done, .int o_backward])), (h_a1, .inr (7, [.ref h_a1_re, .ref h_a1_im, .ref h_a1_wasRe, .ref h_a1_wasIm, .ref h_a1_halved, .int a1_exp, .int a1_done, .int a1_backward])), (h_a1_im, .inl (cI, 32, .inl a1_im)), (h_a1_re, .inl (cI, 32, .inl a1_re)), (h_o_im, .inl (cI, 32, .inl o_im)), (h_o_re, .inl (cI, 32, .inl o_re))]
def fX7_goOnFrom (o_exp : Int32) (o_done : Int32) (o_backward : Int32) (a1_exp : Int32) (a1_done : Int32) (a1_backward : Int32) (a1_im : Nat → Int32) (a1_re : Nat → Int32) (o_im : Nat → Int32) (o_re : Nat → Int32) : Option (Int32 × Int32 × Int32 × (Nat → Int32) × (Nat → Int32)) :=
  bd5 (fX7_begin o_exp o_done o_backward a1_re a1_im o_im o_re) (fun o_exp_1 o_done_2 o_backward_3 o_im_4 o_re_5 =>
  gd (bl a1_backward) (
  some (a1_exp, a1_done, a1_backward, o_im_4, o_re_5)))
set_option maxHeartbeats 4000000 in
set_option maxRecDepth 100000 in
theorem tX7_goOnFrom (l : Launch) (G : va_G) (cI cJ cZ : ClassId) (sz : Nat) (h_o h_a1 h_a1_im h_a1_re h_o_im h_o_re h_o_wasRe h_o_wasIm h_o_halved h_a1_wasRe h_a1_wasIm h_a1_halved : Nat) (o_exp : Int32) (o_done : Int32) (o_backward : Int32) (a1_exp : Int32) (a1_done : Int32) (a1_backward : Int32) (a1_im : Nat → Int32) (a1_re : Nat → Int32) (o_im : Nat → Int32) (o_re : Nat → Int32) (out_o_exp : Int32) (out_o_done : Int32) (out_o_backward : Int32) (out_o_im : Nat → Int32) (out_o_re : Nat → Int32) (hf : fX7_goOnFrom o_exp o_done o_backward a1_exp a1_done a1_backward a1_im a1_re o_im o_re = some (out_o_exp, out_o_done, out_o_backward, out_o_im, out_o_re)) : Met l yX7_goOnFrom (Cond.code yX7_goOnFrom cX7_goOnFrom 2 none :: BIG) ({ frames := 2, cells := 0, slots := 0, locals := 40 } : Room) (cP G (TY3 cI cJ cZ) [.ref h_o, .ref h_a1] sz (wX7_goOnFrom cI cJ cZ h_o h_a1 h_a1_im h_a1_re h_o_im h_o_re h_o_wasRe h_o_wasIm h_o_halved h_a1_wasRe h_a1_wasIm h_a1_halved o_exp o_done o_backward a1_exp a1_done a1_backward a1_im a1_re o_im o_re)) (cQ G (TY3 cI cJ cZ) sz (wX7_goOnFrom cI cJ cZ h_o h_a1 h_a1_im h_a1_re h_o_im h_o_re h_o_wasRe h_o_wasIm h_o_halved h_a1_wasRe h_a1_wasIm h_a1_halved o_exp o_done o_backward a1_exp a1_done a1_backward a1_im a1_re o_im o_re) (wX7_goOnFrom cI cJ cZ h_o h_a1 h_a1_im h_a1_re h_o_im h_o_re h_o_wasRe h_o_wasIm h_o_halved h_a1_wasRe h_a1_wasIm h_a1_halved out_o_exp out_o_done out_o_backward a1_exp a1_done a1_backward a1_im a1_re out_o_im out_o_re) none) 0 0 (va_A (wX7_goOnFrom cI cJ cZ h_o h_a1 h_a1_im h_a1_re h_o_im h_o_re h_o_wasRe h_o_wasIm h_o_halved h_a1_wasRe h_a1_wasIm h_a1_halved o_exp o_done o_backward a1_exp a1_done a1_backward a1_im a1_re o_im o_re) sz) := by
  refine met_v (cc := cX7_goOnFrom) (maxL := 2) (plainFor_of_name (by decide)) (Nat.le_of_ble_eq_true rfl) (fun p e s m below meth c A ls Q hx hb hml hts hown hK hP hD hS hA hl hret => ?_)
  have hown : s.vm.findClass RX7 = some m.cls := hown
  have hl : lv_has ls 2 [(0, .ref h_o), (1, .ref h_a1)] := hl
  unfold fX7_goOnFrom at hf
  obtain ⟨H, eH⟩ : ∃ H, H = s.heap := ⟨_, rfl⟩
  obtain ⟨locs, elocs⟩ : ∃ z : List Loc, z = [] := ⟨_, rfl⟩
  have hP : va_P G vwCl (wX7_goOnFrom cI cJ cZ h_o h_a1 h_a1_im h_a1_re h_o_im h_o_re h_o_wasRe h_o_wasIm h_o_halved h_a1_wasRe h_a1_wasIm h_a1_halved o_exp o_done o_backward a1_exp a1_done a1_backward a1_im a1_re o_im o_re) H := by rw [eH]; exact hP
  have hS : va_S A s.heap H locs := by rw [eH, elocs]; exact hS
  suffices hgo : W p l e ({ frames := 2, cells := 0, slots := 0, locals := 40 } : Room) s m ([.ref h_o, .ref h_a1] : List Value).toArray below meth c H locs 0 0 Q (F0 m 0 ls []) by rw [eH, elocs] at hgo; exact hgo
  clear eH elocs
  refine lv_aload_n hx hb dX7_goOnFrom_0 rfl (lv_at hl 0 rfl) ?_
  refine lv_aload_n hx hb dX7_goOnFrom_1 rfl (lv_at hl 1 rfl) ?_
  refine rd (ci := 7) (C := RX7) (T := TX7) (N := 8) hx hb hts inX7 hown hK hP 1 0 rfl rfl (by decide) (hts _ q_fX7_9) rfl dX7_goOnFrom_2 ?_
  refine lv_aload_n hx hb dX7_goOnFrom_5 rfl (lv_at hl 1 rfl) ?_
  refine rd (ci := 7) (C := RX7) (T := TX7) (N := 8) hx hb hts inX7 hown hK hP 1 1 rfl rfl (by decide) (hts _ q_fX7_15) rfl dX7_goOnFrom_6 ?_
  obtain ⟨o_exp_1, o_done_2, o_backward_3, o_im_4, o_re_5, e_6, hf⟩ := bd5_x hf
  refine call_v [.ref h_a1_re, .ref h_a1_im] [] ⟨hx, hb, hml, hown, hts⟩ hK hP hD hS hA hl.1 (tX7_begin l G cI cJ cZ H.size h_o h_a1_re h_a1_im h_o_im h_o_re h_o_wasRe h_o_wasIm h_o_halved o_exp o_done o_backward a1_re a1_im o_im o_re o_exp_1 o_done_2 o_backward_3 o_im_4 o_re_5 e_6) (cwV 2 hts (gv q_mX7_44 q_i_yX7_begin q_s_yX7_begin q_n_RX7 q_k_yX7_begin) rfl rfl rfl (by decide +kernel) ⟨by decide, by decide⟩) rfl rfl (Nat.le_of_ble_eq_true rfl) dX7_goOnFrom_9 ⟨Nat.zero_le _, Nat.zero_le _⟩ (ci := 7) rfl 0 rfl [0, 3, 2, 4, 5] [1] [1, 0, 3, 2, 4, 5] rfl rfl (ws2 := (wX7_goOnFrom cI cJ cZ h_o h_a1 h_a1_im h_a1_re h_o_im h_o_re h_o_wasRe h_o_wasIm h_o_halved h_a1_wasRe h_a1_wasIm h_a1_halved o_exp_1 o_done_2 o_backward_3 a1_exp a1_done a1_backward a1_im a1_re o_im_4 o_re_5)) rfl (fun H locs hP hD hS => ?_)
  refine W.eq (g2 := F0 m 12 ls []) rfl ?_
  refine lv_aload_n hx hb dX7_goOnFrom_12 rfl (lv_at hl 0 rfl) ?_
  refine lv_aload_n hx hb dX7_goOnFrom_13 rfl (lv_at hl 1 rfl) ?_
  refine rd (ci := 7) (C := RX7) (T := TX7) (N := 8) hx hb hts inX7 hown hK hP 1 5 rfl rfl (by decide) (hts _ q_fX7_27) rfl dX7_goOnFrom_14 ?_
  refine wr (ci := 7) (C := RX7) (T := TX7) (N := 8) hx hb hts inX7 tyX7 tyX7_ok nmX7 hown hK hP hD hS 0 5 rfl rfl (by decide) (hts _ q_fX7_27) rfl rfl rfl (Nat.le_of_ble_eq_true rfl) dX7_goOnFrom_17 (ws2 := (wX7_goOnFrom cI cJ cZ h_o h_a1 h_a1_im h_a1_re h_o_im h_o_re h_o_wasRe h_o_wasIm h_o_halved h_a1_wasRe h_a1_wasIm h_a1_halved a1_exp o_done_2 o_backward_3 a1_exp a1_done a1_backward a1_im a1_re o_im_4 o_re_5)) rfl (fun H locs hP hD hS => ?_)
  refine lv_aload_n hx hb dX7_goOnFrom_20 rfl (lv_at hl 0 rfl) ?_
  refine lv_aload_n hx hb dX7_goOnFrom_21 rfl (lv_at hl 1 rfl) ?_
  refine rd (ci := 7) (C := RX7) (T := TX7) (N := 8) hx hb hts inX7 hown hK hP 1 6 rfl rfl (by decide) (hts _ q_fX7_31) rfl dX7_goOnFrom_22 ?_
  refine wr (ci := 7) (C := RX7) (T := TX7) (N := 8) hx hb hts inX7 tyX7 tyX7_ok nmX7 hown hK hP hD hS 0 6 rfl rfl (by decide) (hts _ q_fX7_31) rfl rfl rfl (Nat.le_of_ble_eq_true rfl) dX7_goOnFrom_25 (ws2 := (wX7_goOnFrom cI cJ cZ h_o h_a1 h_a1_im h_a1_re h_o_im h_o_re h_o_wasRe h_o_wasIm h_o_halved h_a1_wasRe h_a1_wasIm h_a1_halved a1_exp a1_done o_backward_3 a1_exp a1_done a1_backward a1_im a1_re o_im_4 o_re_5)) rfl (fun H locs hP hD hS => ?_)
  refine lv_aload_n hx hb dX7_goOnFrom_28 rfl (lv_at hl 0 rfl) ?_
  refine lv_aload_n hx hb dX7_goOnFrom_29 rfl (lv_at hl 1 rfl) ?_
  refine rd (ci := 7) (C := RX7) (T := TX7) (N := 8) hx hb hts inX7 hown hK hP 1 7 rfl rfl (by decide) (hts _ q_fX7_34) rfl dX7_goOnFrom_30 ?_
  obtain ⟨g_7, hf⟩ := gd_x hf
  refine wr (ci := 7) (C := RX7) (T := TX7) (N := 8) hx hb hts inX7 tyX7 tyX7_ok nmX7 hown hK hP hD hS 0 7 rfl rfl (by decide) (hts _ q_fX7_34) rfl (bl_n g_7) (bl_f g_7) (Nat.le_of_ble_eq_true rfl) dX7_goOnFrom_33 (ws2 := (wX7_goOnFrom cI cJ cZ h_o h_a1 h_a1_im h_a1_re h_o_im h_o_re h_o_wasRe h_o_wasIm h_o_halved h_a1_wasRe h_a1_wasIm h_a1_halved a1_exp a1_done a1_backward a1_exp a1_done a1_backward a1_im a1_re o_im_4 o_re_5)) rfl (fun H locs hP hD hS => ?_)
  cases hf
  exact hret _ _ _ _ dX7_goOnFrom_36 hP hD hS
def wX7_settle (cI cJ cZ : ClassId) (h_o h_o_im h_o_re h_o_wasIm h_o_wasRe h_o_halved : Nat) (o_exp : Int32) (o_done : Int32) (o_backward : Int32) (o_im : Nat → Int32) (o_re : Nat → Int32) (o_wasIm : Nat → Int32) (o_wasRe : Nat → Int32) : va_W := [(h_o, .inr (7, [.ref h_o_re, .ref h_o_im, .ref h_o_wasRe, .ref h_o_wasIm, .ref h_o_halved, .int o_exp, .int o_done, .int o_backward])), (h_o_im, .inl (cI, 32, .inl o_im)), (h_o_re, .inl (cI, 32, .inl o_re)), (h_o_wasIm, .inl (cI, 32, .inl o_wasIm)), (h_o_wasRe, .inl (cI, 32, .inl o_wasRe))]
def fX7_settle (o_im : Nat → Int32) (o_re : Nat → Int32) (o_wasIm : Nat → Int32) (o_wasRe : Nat → Int32) : Option ((Nat → Int32) × (Nat → Int32)) :=
  gd (cpok (0 : Int32) (0 : Int32) (32 : Int32) 32 32) (
  nm (va_cpy o_re o_wasRe (Int32.toNatClampNeg (0 : Int32)) (Int32.toNatClampNeg (0 : Int32)) (Int32.toNatClampNeg (32 : Int32))) (fun o_wasRe_2 =>
  gd (cpok (0 : Int32) (0 : Int32) (32 : Int32) 32 32) (
  nm (va_cpy o_im o_wasIm (Int32.toNatClampNeg (0 : Int32)) (Int32.toNatClampNeg (0 : Int32)) (Int32.toNatClampNeg (32 : Int32))) (fun o_wasIm_4 =>
  some (o_wasIm_4, o_wasRe_2)))))
set_option maxHeartbeats 4000000 in
set_option maxRecDepth 100000 in
theorem tX7_settle (l : Launch) (G : va_G) (cI cJ cZ : ClassId) (sz : Nat) (h_o h_o_im h_o_re h_o_wasIm h_o_wasRe h_o_halved : Nat) (o_exp : Int32) (o_done : Int32) (o_backward : Int32) (o_im : Nat → Int32) (o_re : Nat → Int32) (o_wasIm : Nat → Int32) (o_wasRe : Nat → Int32) (out_o_wasIm : Nat → Int32) (out_o_wasRe : Nat → Int32) (hf : fX7_settle o_im o_re o_wasIm o_wasRe = some (out_o_wasIm, out_o_wasRe)) : Met l yX7_settle (Cond.code yX7_settle cX7_settle 1 none :: BIG) ({ frames := 1, cells := 0, slots := 0, locals := 18 } : Room) (cP G (TY3 cI cJ cZ) [.ref h_o] sz (wX7_settle cI cJ cZ h_o h_o_im h_o_re h_o_wasIm h_o_wasRe h_o_halved o_exp o_done o_backward o_im o_re o_wasIm o_wasRe)) (cQ G (TY3 cI cJ cZ) sz (wX7_settle cI cJ cZ h_o h_o_im h_o_re h_o_wasIm h_o_wasRe h_o_halved o_exp o_done o_backward o_im o_re o_wasIm o_wasRe) (wX7_settle cI cJ cZ h_o h_o_im h_o_re h_o_wasIm h_o_wasRe h_o_halved o_exp o_done o_backward o_im o_re out_o_wasIm out_o_wasRe) none) 0 0 (va_A (wX7_settle cI cJ cZ h_o h_o_im h_o_re h_o_wasIm h_o_wasRe h_o_halved o_exp o_done o_backward o_im o_re o_wasIm o_wasRe) sz) := by
  refine met_v (cc := cX7_settle) (maxL := 1) (plainFor_of_name (by decide)) (Nat.le_of_ble_eq_true rfl) (fun p e s m below meth c A ls Q hx hb hml hts hown hK hP hD hS hA hl hret => ?_)
  have hown : s.vm.findClass RX7 = some m.cls := hown
  have hl : lv_has ls 1 [(0, .ref h_o)] := hl
  unfold fX7_settle at hf
  obtain ⟨H, eH⟩ : ∃ H, H = s.heap := ⟨_, rfl⟩
  obtain ⟨locs, elocs⟩ : ∃ z : List Loc, z = [] := ⟨_, rfl⟩
  have hP : va_P G vwCl (wX7_settle cI cJ cZ h_o h_o_im h_o_re h_o_wasIm h_o_wasRe h_o_halved o_exp o_done o_backward o_im o_re o_wasIm o_wasRe) H := by rw [eH]; exact hP
  have hS : va_S A s.heap H locs := by rw [eH, elocs]; exact hS
  suffices hgo : W p l e ({ frames := 1, cells := 0, slots := 0, locals := 18 } : Room) s m ([.ref h_o] : List Value).toArray below meth c H locs 0 0 Q (F0 m 0 ls []) by rw [eH, elocs] at hgo; exact hgo
  clear eH elocs
  refine lv_aload_n hx hb dX7_settle_0 rfl (lv_at hl 0 rfl) ?_
  refine rd (ci := 7) (C := RX7) (T := TX7) (N := 8) hx hb hts inX7 hown hK hP 0 0 rfl rfl (by decide) (hts _ q_fX7_9) rfl dX7_settle_1 ?_
  refine lv_iconst (v := (0 : Int32)) hx hb dX7_settle_4 (by decide) ?_
  refine lv_aload_n hx hb dX7_settle_5 rfl (lv_at hl 0 rfl) ?_
  refine rd (ci := 7) (C := RX7) (T := TX7) (N := 8) hx hb hts inX7 hown hK hP 0 2 rfl rfl (by decide) (hts _ q_fX7_18) rfl dX7_settle_6 ?_
  refine lv_iconst (v := (0 : Int32)) hx hb dX7_settle_9 (by decide) ?_
  refine lv_bipush (v := (32 : Int32)) hx hb dX7_settle_10 (by decide) ?_
  obtain ⟨g_1, hf⟩ := gd_x hf
  obtain ⟨o_wasRe_2, eo_wasRe_2⟩ : ∃ y : Nat → Int32, y = va_cpy o_re o_wasRe (Int32.toNatClampNeg (0 : Int32)) (Int32.toNatClampNeg (0 : Int32)) (Int32.toNatClampNeg (32 : Int32)) := ⟨_, rfl⟩
  have hf := nm_x eo_wasRe_2 hf
  refine cpy hx hb (hml.trans hl.1.symm) hown (hts _ q_mX7_38) (hts _ q_n_arraycopyName) (hts _ q_s_arraycopyName) (hts _ q_n_java_lang_System) hK hP hD hS 2 4 0 rfl rfl rfl g_1 (by decide) (Nat.le_of_ble_eq_true rfl) dX7_settle_12 eo_wasRe_2 (ws2 := (wX7_settle cI cJ cZ h_o h_o_im h_o_re h_o_wasIm h_o_wasRe h_o_halved o_exp o_done o_backward o_im o_re o_wasIm o_wasRe_2)) rfl (fun H locs hP hD hS => ?_)
  refine lv_aload_n hx hb dX7_settle_15 rfl (lv_at hl 0 rfl) ?_
  refine rd (ci := 7) (C := RX7) (T := TX7) (N := 8) hx hb hts inX7 hown hK hP 0 1 rfl rfl (by decide) (hts _ q_fX7_15) rfl dX7_settle_16 ?_
  refine lv_iconst (v := (0 : Int32)) hx hb dX7_settle_19 (by decide) ?_
  refine lv_aload_n hx hb dX7_settle_20 rfl (lv_at hl 0 rfl) ?_
  refine rd (ci := 7) (C := RX7) (T := TX7) (N := 8) hx hb hts inX7 hown hK hP 0 3 rfl rfl (by decide) (hts _ q_fX7_21) rfl dX7_settle_21 ?_
  refine lv_iconst (v := (0 : Int32)) hx hb dX7_settle_24 (by decide) ?_
  refine lv_bipush (v := (32 : Int32)) hx hb dX7_settle_25 (by decide) ?_
  obtain ⟨g_3, hf⟩ := gd_x hf
  obtain ⟨o_wasIm_4, eo_wasIm_4⟩ : ∃ y : Nat → Int32, y = va_cpy o_im o_wasIm (Int32.toNatClampNeg (0 : Int32)) (Int32.toNatClampNeg (0 : Int32)) (Int32.toNatClampNeg (32 : Int32)) := ⟨_, rfl⟩
  have hf := nm_x eo_wasIm_4 hf
  refine cpy hx hb (hml.trans hl.1.symm) hown (hts _ q_mX7_38) (hts _ q_n_arraycopyName) (hts _ q_s_arraycopyName) (hts _ q_n_java_lang_System) hK hP hD hS 1 3 0 rfl rfl rfl g_3 (by decide) (Nat.le_of_ble_eq_true rfl) dX7_settle_27 eo_wasIm_4 (ws2 := (wX7_settle cI cJ cZ h_o h_o_im h_o_re h_o_wasIm h_o_wasRe h_o_halved o_exp o_done o_backward o_im o_re o_wasIm_4 o_wasRe_2)) rfl (fun H locs hP hD hS => ?_)
  cases hf
  exact hret _ _ _ _ dX7_settle_30 hP hD hS
def wX7_greatest (cI cJ cZ : ClassId) (h_o h_o_im h_o_re h_o_wasRe h_o_wasIm h_o_halved : Nat) (o_exp : Int32) (o_done : Int32) (o_backward : Int32) (o_im : Nat → Int32) (o_re : Nat → Int32) : va_W := [(h_o, .inr (7, [.ref h_o_re, .ref h_o_im, .ref h_o_wasRe, .ref h_o_wasIm, .ref h_o_halved, .int o_exp, .int o_done, .int o_backward])), (h_o_im, .inl (cI, 32, .inl o_im)), (h_o_re, .inl (cI, 32, .inl o_re))]
def fX7_greatest_5 (o_im : Nat → Int32) (o_re : Nat → Int32) : Nat → Int32 → Int32 → Int32 → Option (Int32)
  | 0, _, _, _ => none
  | n + 1, v2, v3, v4 =>
    if v2 ≤ v4 then (
      some v3
    ) else (
      if (32 : Int32) ≤ v4 then (
        some v3
      ) else (
        gd (inb v4 32) (
        nm (if 0 ≤ (o_re (Int32.toNatClampNeg v4)) then (o_re (Int32.toNatClampNeg v4)) else 0 - (o_re (Int32.toNatClampNeg v4))) (fun m_4 =>
        gd (inb v4 32) (
        nm (if 0 ≤ (o_im (Int32.toNatClampNeg v4)) then (o_im (Int32.toNatClampNeg v4)) else 0 - (o_im (Int32.toNatClampNeg v4))) (fun m_6 =>
        nm (if m_4 < m_6 then m_6 else m_4) (fun m_7 =>
        nm (if v3 < m_7 then m_7 else v3) (fun m_8 =>
        nm (v4 + (1 : Int32)) (fun v4_9 =>
        fX7_greatest_5 o_im o_re n v2 m_8 v4_9)))))))
      )
    )
def fX7_greatest (o_im : Nat → Int32) (o_re : Nat → Int32) (p1 : Int32) (p2 : Int32) : Option (Int32) :=
  fX7_greatest_5 o_im o_re FU p2 (0 : Int32) p1
set_option maxHeartbeats 4000000 in
set_option maxRecDepth 100000 in
theorem tX7_greatest (l : Launch) (G : va_G) (cI cJ cZ : ClassId) (sz : Nat) (h_o h_o_im h_o_re h_o_wasRe h_o_wasIm h_o_halved : Nat) (o_exp : Int32) (o_done : Int32) (o_backward : Int32) (o_im : Nat → Int32) (o_re : Nat → Int32) (p1 : Int32) (p2 : Int32) (r : Int32) (hf : fX7_greatest o_im o_re p1 p2 = some r) : Met l yX7_greatest (Cond.code yX7_greatest cX7_greatest 5 (some .int) :: BIG) ({ frames := 1, cells := 0, slots := 0, locals := 15 } : Room) (cP G (TY3 cI cJ cZ) [.ref h_o, .int p1, .int p2] sz (wX7_greatest cI cJ cZ h_o h_o_im h_o_re h_o_wasRe h_o_wasIm h_o_halved o_exp o_done o_backward o_im o_re)) (cQ G (TY3 cI cJ cZ) sz (wX7_greatest cI cJ cZ h_o h_o_im h_o_re h_o_wasRe h_o_wasIm h_o_halved o_exp o_done o_backward o_im o_re) (wX7_greatest cI cJ cZ h_o h_o_im h_o_re h_o_wasRe h_o_wasIm h_o_halved o_exp o_done o_backward o_im o_re) (some (.int r))) 0 0 (va_A (wX7_greatest cI cJ cZ h_o h_o_im h_o_re h_o_wasRe h_o_wasIm h_o_halved o_exp o_done o_backward o_im o_re) sz) := by
  refine met_i (cc := cX7_greatest) (maxL := 5) (plainFor_of_name (by decide)) (Nat.le_of_ble_eq_true rfl) (fun p e s m below meth c A ls Q hx hb hml hts hown hK hP hD hS hA hl hret => ?_)
  have hown : s.vm.findClass RX7 = some m.cls := hown
  have hl : lv_has ls 5 [(0, .ref h_o), (1, .int p1), (2, .int p2)] := hl
  have j5 : ∀ (n : Nat) (v2 : Int32) (v3 : Int32) (v4 : Int32) (H : Heap) (locs : List Loc) (ls : Array Slot), fX7_greatest_5 o_im o_re n v2 v3 v4 = some r → va_P G vwCl (wX7_greatest cI cJ cZ h_o h_o_im h_o_re h_o_wasRe h_o_wasIm h_o_halved o_exp o_done o_backward o_im o_re) H → va_D A (wX7_greatest cI cJ cZ h_o h_o_im h_o_re h_o_wasRe h_o_wasIm h_o_halved o_exp o_done o_backward o_im o_re) → va_S A s.heap H locs → lv_has ls 5 [(0, .ref h_o), (2, .int v2), (3, .int v3), (4, .int v4)] → W p l e ({ frames := 1, cells := 0, slots := 0, locals := 15 } : Room) s m ([.ref h_o, .int p1, .int p2] : List Value).toArray below meth c H locs 0 0 Q (F0 m 5 ls []) := by
    intro n
    induction n with
    | zero =>
      intro v2 v3 v4 H locs ls hf
      have hf : (none : Option (Int32)) = some r := hf
      cases hf
    | succ n ih =>
      intro v2 v3 v4 H locs ls hf hP hD hS hl
      rw [fX7_greatest_5.eq_2] at hf
      refine lv_iload hx hb dX7_greatest_5 (lv_at hl 3 rfl) ?_
      refine lv_iload_n hx hb dX7_greatest_7 rfl (lv_at hl 1 rfl) ?_
      refine lv_icmp_ge (tgt := 52) hx hb dX7_greatest_8 (by decide) (fun c_1 => ?_) (fun c_1 => ?_)
      · have hf := it_t c_1 hf
        refine lv_iload_n hx hb dX7_greatest_52 rfl (lv_at hl 2 rfl) ?_
        cases hf
        exact hret _ _ _ _ dX7_greatest_53 hP hD hS
      · have hf := it_f c_1 hf
        refine lv_iload hx hb dX7_greatest_11 (lv_at hl 3 rfl) ?_
        refine lv_bipush (v := (32 : Int32)) hx hb dX7_greatest_13 (by decide) ?_
        refine lv_icmp_ge (tgt := 52) hx hb dX7_greatest_15 (by decide) (fun c_2 => ?_) (fun c_2 => ?_)
        · have hf := it_t c_2 hf
          refine lv_iload_n hx hb dX7_greatest_52 rfl (lv_at hl 2 rfl) ?_
          cases hf
          exact hret _ _ _ _ dX7_greatest_53 hP hD hS
        · have hf := it_f c_2 hf
          refine lv_iload_n hx hb dX7_greatest_18 rfl (lv_at hl 2 rfl) ?_
          refine lv_aload_n hx hb dX7_greatest_19 rfl (lv_at hl 0 rfl) ?_
          refine rd (ci := 7) (C := RX7) (T := TX7) (N := 8) hx hb hts inX7 hown hK hP 0 0 rfl rfl (by decide) (hts _ q_fX7_9) rfl dX7_greatest_20 ?_
          refine lv_iload hx hb dX7_greatest_23 (lv_at hl 3 rfl) ?_
          obtain ⟨g_3, hf⟩ := gd_x hf
          refine va_iald hx hb hK hP 2 0 rfl rfl (inb_x g_3) dX7_greatest_25 ?_
          refine va_mabs hx hb (hml.trans hl.1.symm) hown (hts _ q_mX7_48) (hts _ q_s_Lib_Math_abs_name) (hts _ q_n_java_lang_Math) (hts _ q_k_Lib_Math_abs_name) (by decide) (Nat.le_of_ble_eq_true rfl) (Nat.zero_le _) (Nat.zero_le _) dX7_greatest_26 ?_
          refine lv_topi (fun m_4 em_4 => ?_)
          have hf := nm_x em_4 hf
          refine lv_aload_n hx hb dX7_greatest_29 rfl (lv_at hl 0 rfl) ?_
          refine rd (ci := 7) (C := RX7) (T := TX7) (N := 8) hx hb hts inX7 hown hK hP 0 1 rfl rfl (by decide) (hts _ q_fX7_15) rfl dX7_greatest_30 ?_
          refine lv_iload hx hb dX7_greatest_33 (lv_at hl 3 rfl) ?_
          obtain ⟨g_5, hf⟩ := gd_x hf
          refine va_iald hx hb hK hP 1 0 rfl rfl (inb_x g_5) dX7_greatest_35 ?_
          refine va_mabs hx hb (hml.trans hl.1.symm) hown (hts _ q_mX7_48) (hts _ q_s_Lib_Math_abs_name) (hts _ q_n_java_lang_Math) (hts _ q_k_Lib_Math_abs_name) (by decide) (Nat.le_of_ble_eq_true rfl) (Nat.zero_le _) (Nat.zero_le _) dX7_greatest_36 ?_
          refine lv_topi (fun m_6 em_6 => ?_)
          have hf := nm_x em_6 hf
          refine va_mmax hx hb (hml.trans hl.1.symm) hown (hts _ q_mX7_54) (hts _ q_s_Lib_Math_max_name) (hts _ q_n_java_lang_Math) (hts _ q_k_Lib_Math_max_name) (by decide) (Nat.le_of_ble_eq_true rfl) (Nat.zero_le _) (Nat.zero_le _) dX7_greatest_39 ?_
          refine lv_topi (fun m_7 em_7 => ?_)
          have hf := nm_x em_7 hf
          refine va_mmax hx hb (hml.trans hl.1.symm) hown (hts _ q_mX7_54) (hts _ q_s_Lib_Math_max_name) (hts _ q_n_java_lang_Math) (hts _ q_k_Lib_Math_max_name) (by decide) (Nat.le_of_ble_eq_true rfl) (Nat.zero_le _) (Nat.zero_le _) dX7_greatest_42 ?_
          refine lv_topi (fun m_8 em_8 => ?_)
          have hf := nm_x em_8 hf
          refine lv_istore_n (lv' := [(3, .int m_8), (0, .ref h_o), (2, .int v2), (4, .int v4)]) hx hb dX7_greatest_45 rfl hl (by decide) rfl (fun ls hl => ?_)
          obtain ⟨v4_9, ev4_9⟩ : ∃ y : Int32, y = v4 + (1 : Int32) := ⟨_, rfl⟩
          have hf := nm_x ev4_9 hf
          refine lv_iinc (v := v4_9) (lv' := [(4, .int v4_9), (3, .int m_8), (0, .ref h_o), (2, .int v2)]) hx hb dX7_greatest_46 hl (k := 3) rfl (by rw [ev4_9]; rfl) (by decide) rfl (fun ls hl => ?_)
          refine lv_goto (tgt := 5) hx hb dX7_greatest_49 (by decide) ?_
          exact ih v2 m_8 v4_9 H locs ls hf hP hD hS (lv_sub hl [2, 3, 1, 0] rfl)
  unfold fX7_greatest at hf
  obtain ⟨H, eH⟩ : ∃ H, H = s.heap := ⟨_, rfl⟩
  obtain ⟨locs, elocs⟩ : ∃ z : List Loc, z = [] := ⟨_, rfl⟩
  have hP : va_P G vwCl (wX7_greatest cI cJ cZ h_o h_o_im h_o_re h_o_wasRe h_o_wasIm h_o_halved o_exp o_done o_backward o_im o_re) H := by rw [eH]; exact hP
  have hS : va_S A s.heap H locs := by rw [eH, elocs]; exact hS
  suffices hgo : W p l e ({ frames := 1, cells := 0, slots := 0, locals := 15 } : Room) s m ([.ref h_o, .int p1, .int p2] : List Value).toArray below meth c H locs 0 0 Q (F0 m 0 ls []) by rw [eH, elocs] at hgo; exact hgo
  clear eH elocs
  refine lv_iconst (v := (0 : Int32)) hx hb dX7_greatest_0 (by decide) ?_
  refine lv_istore_n (lv' := [(3, .int (0 : Int32)), (0, .ref h_o), (1, .int p1), (2, .int p2)]) hx hb dX7_greatest_1 rfl hl (by decide) rfl (fun ls hl => ?_)
  refine lv_iload_n hx hb dX7_greatest_2 rfl (lv_at hl 2 rfl) ?_
  refine lv_istore (lv' := [(4, .int p1), (3, .int (0 : Int32)), (0, .ref h_o), (1, .int p1), (2, .int p2)]) hx hb dX7_greatest_3 hl (by decide) rfl (fun ls hl => ?_)
  exact j5 FU p2 (0 : Int32) p1 H locs ls hf hP hD hS (lv_sub hl [2, 4, 1, 0] rfl)
def wX7_flipIm (cI cJ cZ : ClassId) (h_o h_o_im h_o_re h_o_wasRe h_o_wasIm h_o_halved : Nat) (o_exp : Int32) (o_done : Int32) (o_backward : Int32) (o_im : Nat → Int32) : va_W := [(h_o, .inr (7, [.ref h_o_re, .ref h_o_im, .ref h_o_wasRe, .ref h_o_wasIm, .ref h_o_halved, .int o_exp, .int o_done, .int o_backward])), (h_o_im, .inl (cI, 32, .inl o_im))]
def fX7_flipIm_2 : Nat → (Nat → Int32) → Int32 → Int32 → Option ((Nat → Int32))
  | 0, _, _, _ => none
  | n + 1, o_im, v1, v2 =>
    if v1 ≤ v2 then (
      some o_im
    ) else (
      gd (inb v2 32) (
      gd (inb v2 32) (
      nm (upd o_im (Int32.toNatClampNeg v2) (-(o_im (Int32.toNatClampNeg v2)))) (fun o_im_4 =>
      nm (v2 + (1 : Int32)) (fun v2_5 =>
      fX7_flipIm_2 n o_im_4 v1 v2_5))))
    )
def fX7_flipIm (o_im : Nat → Int32) (p1 : Int32) : Option ((Nat → Int32)) :=
  fX7_flipIm_2 FU o_im p1 (0 : Int32)
set_option maxHeartbeats 4000000 in
set_option maxRecDepth 100000 in
theorem tX7_flipIm (l : Launch) (G : va_G) (cI cJ cZ : ClassId) (sz : Nat) (h_o h_o_im h_o_re h_o_wasRe h_o_wasIm h_o_halved : Nat) (o_exp : Int32) (o_done : Int32) (o_backward : Int32) (o_im : Nat → Int32) (p1 : Int32) (out_o_im : Nat → Int32) (hf : fX7_flipIm o_im p1 = some out_o_im) : Met l yX7_flipIm (Cond.code yX7_flipIm cX7_flipIm 3 none :: BIG) ({ frames := 0, cells := 0, slots := 0, locals := 0 } : Room) (cP G (TY3 cI cJ cZ) [.ref h_o, .int p1] sz (wX7_flipIm cI cJ cZ h_o h_o_im h_o_re h_o_wasRe h_o_wasIm h_o_halved o_exp o_done o_backward o_im)) (cQ G (TY3 cI cJ cZ) sz (wX7_flipIm cI cJ cZ h_o h_o_im h_o_re h_o_wasRe h_o_wasIm h_o_halved o_exp o_done o_backward o_im) (wX7_flipIm cI cJ cZ h_o h_o_im h_o_re h_o_wasRe h_o_wasIm h_o_halved o_exp o_done o_backward out_o_im) none) 0 0 (va_A (wX7_flipIm cI cJ cZ h_o h_o_im h_o_re h_o_wasRe h_o_wasIm h_o_halved o_exp o_done o_backward o_im) sz) := by
  refine met_v (cc := cX7_flipIm) (maxL := 3) (plainFor_of_name (by decide)) (Nat.le_of_ble_eq_true rfl) (fun p e s m below meth c A ls Q hx hb hml hts hown hK hP hD hS hA hl hret => ?_)
  have hown : s.vm.findClass RX7 = some m.cls := hown
  have hl : lv_has ls 3 [(0, .ref h_o), (1, .int p1)] := hl
  have j2 : ∀ (n : Nat) (o_im : Nat → Int32) (v1 : Int32) (v2 : Int32) (H : Heap) (locs : List Loc) (ls : Array Slot), fX7_flipIm_2 n o_im v1 v2 = some out_o_im → va_P G vwCl (wX7_flipIm cI cJ cZ h_o h_o_im h_o_re h_o_wasRe h_o_wasIm h_o_halved o_exp o_done o_backward o_im) H → va_D A (wX7_flipIm cI cJ cZ h_o h_o_im h_o_re h_o_wasRe h_o_wasIm h_o_halved o_exp o_done o_backward o_im) → va_S A s.heap H locs → lv_has ls 3 [(0, .ref h_o), (1, .int v1), (2, .int v2)] → W p l e ({ frames := 0, cells := 0, slots := 0, locals := 0 } : Room) s m ([.ref h_o, .int p1] : List Value).toArray below meth c H locs 0 0 Q (F0 m 2 ls []) := by
    intro n
    induction n with
    | zero =>
      intro o_im v1 v2 H locs ls hf
      have hf : (none : Option ((Nat → Int32))) = some out_o_im := hf
      cases hf
    | succ n ih =>
      intro o_im v1 v2 H locs ls hf hP hD hS hl
      rw [fX7_flipIm_2.eq_2] at hf
      refine lv_iload_n hx hb dX7_flipIm_2 rfl (lv_at hl 2 rfl) ?_
      refine lv_iload_n hx hb dX7_flipIm_3 rfl (lv_at hl 1 rfl) ?_
      refine lv_icmp_ge (tgt := 26) hx hb dX7_flipIm_4 (by decide) (fun c_1 => ?_) (fun c_1 => ?_)
      · have hf := it_t c_1 hf
        cases hf
        exact hret _ _ _ _ dX7_flipIm_26 hP hD hS
      · have hf := it_f c_1 hf
        refine lv_aload_n hx hb dX7_flipIm_7 rfl (lv_at hl 0 rfl) ?_
        refine rd (ci := 7) (C := RX7) (T := TX7) (N := 8) hx hb hts inX7 hown hK hP 0 1 rfl rfl (by decide) (hts _ q_fX7_15) rfl dX7_flipIm_8 ?_
        refine lv_iload_n hx hb dX7_flipIm_11 rfl (lv_at hl 2 rfl) ?_
        refine lv_aload_n hx hb dX7_flipIm_12 rfl (lv_at hl 0 rfl) ?_
        refine rd (ci := 7) (C := RX7) (T := TX7) (N := 8) hx hb hts inX7 hown hK hP 0 1 rfl rfl (by decide) (hts _ q_fX7_15) rfl dX7_flipIm_13 ?_
        refine lv_iload_n hx hb dX7_flipIm_16 rfl (lv_at hl 2 rfl) ?_
        obtain ⟨g_2, hf⟩ := gd_x hf
        refine va_iald hx hb hK hP 1 0 rfl rfl (inb_x g_2) dX7_flipIm_17 ?_
        refine lv_ineg hx hb dX7_flipIm_18 ?_
        obtain ⟨g_3, hf⟩ := gd_x hf
        obtain ⟨o_im_4, eo_im_4⟩ : ∃ y : Nat → Int32, y = upd o_im (Int32.toNatClampNeg v2) (-(o_im (Int32.toNatClampNeg v2))) := ⟨_, rfl⟩
        have hf := nm_x eo_im_4 hf
        refine ist hx hb hK hP hD hS 1 0 rfl rfl (inb_x g_3) dX7_flipIm_19 eo_im_4 (ws2 := (wX7_flipIm cI cJ cZ h_o h_o_im h_o_re h_o_wasRe h_o_wasIm h_o_halved o_exp o_done o_backward o_im_4)) rfl (fun H locs hP hD hS => ?_)
        obtain ⟨v2_5, ev2_5⟩ : ∃ y : Int32, y = v2 + (1 : Int32) := ⟨_, rfl⟩
        have hf := nm_x ev2_5 hf
        refine lv_iinc (v := v2_5) (lv' := [(2, .int v2_5), (0, .ref h_o), (1, .int v1)]) hx hb dX7_flipIm_20 hl (k := 2) rfl (by rw [ev2_5]; rfl) (by decide) rfl (fun ls hl => ?_)
        refine lv_goto (tgt := 2) hx hb dX7_flipIm_23 (by decide) ?_
        exact ih o_im_4 v1 v2_5 H locs ls hf hP hD hS (lv_sub hl [1, 2, 0] rfl)
  unfold fX7_flipIm at hf
  obtain ⟨H, eH⟩ : ∃ H, H = s.heap := ⟨_, rfl⟩
  obtain ⟨locs, elocs⟩ : ∃ z : List Loc, z = [] := ⟨_, rfl⟩
  have hP : va_P G vwCl (wX7_flipIm cI cJ cZ h_o h_o_im h_o_re h_o_wasRe h_o_wasIm h_o_halved o_exp o_done o_backward o_im) H := by rw [eH]; exact hP
  have hS : va_S A s.heap H locs := by rw [eH, elocs]; exact hS
  suffices hgo : W p l e ({ frames := 0, cells := 0, slots := 0, locals := 0 } : Room) s m ([.ref h_o, .int p1] : List Value).toArray below meth c H locs 0 0 Q (F0 m 0 ls []) by rw [eH, elocs] at hgo; exact hgo
  clear eH elocs
  refine lv_iconst (v := (0 : Int32)) hx hb dX7_flipIm_0 (by decide) ?_
  refine lv_istore_n (lv' := [(2, .int (0 : Int32)), (0, .ref h_o), (1, .int p1)]) hx hb dX7_flipIm_1 rfl hl (by decide) rfl (fun ls hl => ?_)
  exact j2 FU o_im p1 (0 : Int32) H locs ls hf hP hD hS (lv_sub hl [1, 2, 0] rfl)
def wX7_goBack (cI cJ cZ : ClassId) (h_o h_o_im h_o_re h_o_wasRe h_o_wasIm h_o_halved : Nat) (o_exp : Int32) (o_done : Int32) (o_backward : Int32) (o_im : Nat → Int32) : va_W := [(h_o, .inr (7, [.ref h_o_re, .ref h_o_im, .ref h_o_wasRe, .ref h_o_wasIm, .ref h_o_halved, .int o_exp, .int o_done, .int o_backward])), (h_o_im, .inl (cI, 32, .inl o_im))]
def fX7_goBack (o_done : Int32) (o_backward : Int32) (o_im : Nat → Int32) (p1 : Int32) : Option (Int32 × Int32 × (Nat → Int32)) :=
  bd1 (fX7_flipIm o_im p1) (fun o_im_1 =>
  some ((0 : Int32), (1 : Int32), o_im_1))
set_option maxHeartbeats 4000000 in
set_option maxRecDepth 100000 in
theorem tX7_goBack (l : Launch) (G : va_G) (cI cJ cZ : ClassId) (sz : Nat) (h_o h_o_im h_o_re h_o_wasRe h_o_wasIm h_o_halved : Nat) (o_exp : Int32) (o_done : Int32) (o_backward : Int32) (o_im : Nat → Int32) (p1 : Int32) (out_o_done : Int32) (out_o_backward : Int32) (out_o_im : Nat → Int32) (hf : fX7_goBack o_done o_backward o_im p1 = some (out_o_done, out_o_backward, out_o_im)) : Met l yX7_goBack (Cond.code yX7_goBack cX7_goBack 2 none :: BIG) ({ frames := 1, cells := 0, slots := 0, locals := 22 } : Room) (cP G (TY3 cI cJ cZ) [.ref h_o, .int p1] sz (wX7_goBack cI cJ cZ h_o h_o_im h_o_re h_o_wasRe h_o_wasIm h_o_halved o_exp o_done o_backward o_im)) (cQ G (TY3 cI cJ cZ) sz (wX7_goBack cI cJ cZ h_o h_o_im h_o_re h_o_wasRe h_o_wasIm h_o_halved o_exp o_done o_backward o_im) (wX7_goBack cI cJ cZ h_o h_o_im h_o_re h_o_wasRe h_o_wasIm h_o_halved o_exp out_o_done out_o_backward out_o_im) none) 0 0 (va_A (wX7_goBack cI cJ cZ h_o h_o_im h_o_re h_o_wasRe h_o_wasIm h_o_halved o_exp o_done o_backward o_im) sz) := by
  refine met_v (cc := cX7_goBack) (maxL := 2) (plainFor_of_name (by decide)) (Nat.le_of_ble_eq_true rfl) (fun p e s m below meth c A ls Q hx hb hml hts hown hK hP hD hS hA hl hret => ?_)
  have hown : s.vm.findClass RX7 = some m.cls := hown
  have hl : lv_has ls 2 [(0, .ref h_o), (1, .int p1)] := hl
  unfold fX7_goBack at hf
  obtain ⟨H, eH⟩ : ∃ H, H = s.heap := ⟨_, rfl⟩
  obtain ⟨locs, elocs⟩ : ∃ z : List Loc, z = [] := ⟨_, rfl⟩
  have hP : va_P G vwCl (wX7_goBack cI cJ cZ h_o h_o_im h_o_re h_o_wasRe h_o_wasIm h_o_halved o_exp o_done o_backward o_im) H := by rw [eH]; exact hP
  have hS : va_S A s.heap H locs := by rw [eH, elocs]; exact hS
  suffices hgo : W p l e ({ frames := 1, cells := 0, slots := 0, locals := 22 } : Room) s m ([.ref h_o, .int p1] : List Value).toArray below meth c H locs 0 0 Q (F0 m 0 ls []) by rw [eH, elocs] at hgo; exact hgo
  clear eH elocs
  refine lv_aload_n hx hb dX7_goBack_0 rfl (lv_at hl 0 rfl) ?_
  refine lv_iload_n hx hb dX7_goBack_1 rfl (lv_at hl 1 rfl) ?_
  obtain ⟨o_im_1, e_2, hf⟩ := bd1_x hf
  refine call_v [.int p1] [] ⟨hx, hb, hml, hown, hts⟩ hK hP hD hS hA hl.1 (tX7_flipIm l G cI cJ cZ H.size h_o h_o_im h_o_re h_o_wasRe h_o_wasIm h_o_halved o_exp o_done o_backward o_im p1 o_im_1 e_2) (cwV 1 hts (gv q_mX7_58 q_i_yX7_flipIm q_s_yX7_flipIm q_n_RX7 q_k_yX7_flipIm) rfl rfl rfl (by decide +kernel) ⟨by decide, by decide⟩) rfl rfl (Nat.le_of_ble_eq_true rfl) dX7_goBack_2 ⟨Nat.zero_le _, Nat.zero_le _⟩ (ci := 7) rfl 0 rfl [0, 1] [] [0, 1] rfl rfl (ws2 := (wX7_goBack cI cJ cZ h_o h_o_im h_o_re h_o_wasRe h_o_wasIm h_o_halved o_exp o_done o_backward o_im_1)) rfl (fun H locs hP hD hS => ?_)
  refine W.eq (g2 := F0 m 5 ls []) rfl ?_
  refine lv_aload_n hx hb dX7_goBack_5 rfl (lv_at hl 0 rfl) ?_
  refine lv_iconst (v := (1 : Int32)) hx hb dX7_goBack_6 (by decide) ?_
  refine wr (ci := 7) (C := RX7) (T := TX7) (N := 8) hx hb hts inX7 tyX7 tyX7_ok nmX7 hown hK hP hD hS 0 7 rfl rfl (by decide) (hts _ q_fX7_34) rfl rfl rfl (Nat.le_of_ble_eq_true rfl) dX7_goBack_7 (ws2 := (wX7_goBack cI cJ cZ h_o h_o_im h_o_re h_o_wasRe h_o_wasIm h_o_halved o_exp o_done (1 : Int32) o_im_1)) rfl (fun H locs hP hD hS => ?_)
  refine lv_aload_n hx hb dX7_goBack_10 rfl (lv_at hl 0 rfl) ?_
  refine lv_iconst (v := (0 : Int32)) hx hb dX7_goBack_11 (by decide) ?_
  refine wr (ci := 7) (C := RX7) (T := TX7) (N := 8) hx hb hts inX7 tyX7 tyX7_ok nmX7 hown hK hP hD hS 0 6 rfl rfl (by decide) (hts _ q_fX7_31) rfl rfl rfl (Nat.le_of_ble_eq_true rfl) dX7_goBack_12 (ws2 := (wX7_goBack cI cJ cZ h_o h_o_im h_o_re h_o_wasRe h_o_wasIm h_o_halved o_exp (0 : Int32) (1 : Int32) o_im_1)) rfl (fun H locs hP hD hS => ?_)
  cases hf
  exact hret _ _ _ _ dX7_goBack_15 hP hD hS
def wX8_takeSize (cI cJ cZ : ClassId) (h_o h_o_shifts : Nat) (o_size : Int32) (o_log : Int32) (o_wordBits : Int32) (o_limit : Int32) (o_radix : Int32) (o_order : Int32) (o_near : Int32) (o_seed : Int32) (o_stages : Int32) : va_W := [(h_o, .inr (8, [.int o_size, .int o_log, .int o_wordBits, .int o_limit, .int o_radix, .int o_order, .int o_near, .int o_seed, .int o_stages, .ref h_o_shifts]))]
def fX8_takeSize_29 (k12 : Int32 → Int32 → Int32 → Int32 → Option (Int32 × Int32)) (o_size : Int32) (o_log : Int32) (v1 : Int32) (v2 : Int32) : Option (Int32 × Int32) :=
  nm (v2 + (1 : Int32)) (fun v2_3 =>
  k12 o_size o_log v1 v2_3)
def fX8_takeSize_12 : Nat → Int32 → Int32 → Int32 → Int32 → Option (Int32 × Int32)
  | 0, _, _, _, _ => none
  | n + 1, o_size, o_log, v1, v2 =>
    if (5 : Int32) < v2 then (
      some (o_size, o_log)
    ) else (
      if ((1 : Int32) <<< (v2 &&& 31)) = v1 then (
        fX8_takeSize_29 (fX8_takeSize_12 n) o_size v2 v1 v2
      ) else (
        fX8_takeSize_29 (fX8_takeSize_12 n) o_size o_log v1 v2
      )
    )
def fX8_takeSize (o_size : Int32) (o_log : Int32) (p1 : Int32) : Option (Int32 × Int32) :=
  fX8_takeSize_12 FU p1 (1 : Int32) p1 (2 : Int32)
set_option maxHeartbeats 4000000 in
set_option maxRecDepth 100000 in
theorem tX8_takeSize (l : Launch) (G : va_G) (cI cJ cZ : ClassId) (sz : Nat) (h_o h_o_shifts : Nat) (o_size : Int32) (o_log : Int32) (o_wordBits : Int32) (o_limit : Int32) (o_radix : Int32) (o_order : Int32) (o_near : Int32) (o_seed : Int32) (o_stages : Int32) (p1 : Int32) (out_o_size : Int32) (out_o_log : Int32) (hf : fX8_takeSize o_size o_log p1 = some (out_o_size, out_o_log)) : Met l yX8_takeSize (Cond.code yX8_takeSize cX8_takeSize 3 none :: BIG) ({ frames := 0, cells := 0, slots := 0, locals := 0 } : Room) (cP G (TY3 cI cJ cZ) [.ref h_o, .int p1] sz (wX8_takeSize cI cJ cZ h_o h_o_shifts o_size o_log o_wordBits o_limit o_radix o_order o_near o_seed o_stages)) (cQ G (TY3 cI cJ cZ) sz (wX8_takeSize cI cJ cZ h_o h_o_shifts o_size o_log o_wordBits o_limit o_radix o_order o_near o_seed o_stages) (wX8_takeSize cI cJ cZ h_o h_o_shifts out_o_size out_o_log o_wordBits o_limit o_radix o_order o_near o_seed o_stages) none) 0 0 (va_A (wX8_takeSize cI cJ cZ h_o h_o_shifts o_size o_log o_wordBits o_limit o_radix o_order o_near o_seed o_stages) sz) := by
  refine met_v (cc := cX8_takeSize) (maxL := 3) (plainFor_of_name (by decide)) (Nat.le_of_ble_eq_true rfl) (fun p e s m below meth c A ls Q hx hb hml hts hown hK hP hD hS hA hl hret => ?_)
  have hown : s.vm.findClass RX8 = some m.cls := hown
  have hl : lv_has ls 3 [(0, .ref h_o), (1, .int p1)] := hl
  have j29 : ∀ (k12 : Int32 → Int32 → Int32 → Int32 → Option (Int32 × Int32)), (∀ (o_size : Int32) (o_log : Int32) (v1 : Int32) (v2 : Int32) (H : Heap) (locs : List Loc) (ls : Array Slot), k12 o_size o_log v1 v2 = some (out_o_size, out_o_log) → va_P G vwCl (wX8_takeSize cI cJ cZ h_o h_o_shifts o_size o_log o_wordBits o_limit o_radix o_order o_near o_seed o_stages) H → va_D A (wX8_takeSize cI cJ cZ h_o h_o_shifts o_size o_log o_wordBits o_limit o_radix o_order o_near o_seed o_stages) → va_S A s.heap H locs → lv_has ls 3 [(0, .ref h_o), (1, .int v1), (2, .int v2)] → W p l e ({ frames := 0, cells := 0, slots := 0, locals := 0 } : Room) s m ([.ref h_o, .int p1] : List Value).toArray below meth c H locs 0 0 Q (F0 m 12 ls [])) → ∀ (o_size : Int32) (o_log : Int32) (v1 : Int32) (v2 : Int32) (H : Heap) (locs : List Loc) (ls : Array Slot), fX8_takeSize_29 k12 o_size o_log v1 v2 = some (out_o_size, out_o_log) → va_P G vwCl (wX8_takeSize cI cJ cZ h_o h_o_shifts o_size o_log o_wordBits o_limit o_radix o_order o_near o_seed o_stages) H → va_D A (wX8_takeSize cI cJ cZ h_o h_o_shifts o_size o_log o_wordBits o_limit o_radix o_order o_near o_seed o_stages) → va_S A s.heap H locs → lv_has ls 3 [(0, .ref h_o), (1, .int v1), (2, .int v2)] → W p l e ({ frames := 0, cells := 0, slots := 0, locals := 0 } : Room) s m ([.ref h_o, .int p1] : List Value).toArray below meth c H locs 0 0 Q (F0 m 29 ls []) := by
    intro k12 hk12 o_size o_log v1 v2 H locs ls hf hP hD hS hl
    unfold fX8_takeSize_29 at hf
    obtain ⟨v2_3, ev2_3⟩ : ∃ y : Int32, y = v2 + (1 : Int32) := ⟨_, rfl⟩
    have hf := nm_x ev2_3 hf
    refine lv_iinc (v := v2_3) (lv' := [(2, .int v2_3), (0, .ref h_o), (1, .int v1)]) hx hb dX8_takeSize_29 hl (k := 2) rfl (by rw [ev2_3]; rfl) (by decide) rfl (fun ls hl => ?_)
    refine lv_goto (tgt := 12) hx hb dX8_takeSize_32 (by decide) ?_
    exact hk12 o_size o_log v1 v2_3 H locs ls hf hP hD hS (lv_sub hl [1, 2, 0] rfl)
  have j12 : ∀ (n : Nat) (o_size : Int32) (o_log : Int32) (v1 : Int32) (v2 : Int32) (H : Heap) (locs : List Loc) (ls : Array Slot), fX8_takeSize_12 n o_size o_log v1 v2 = some (out_o_size, out_o_log) → va_P G vwCl (wX8_takeSize cI cJ cZ h_o h_o_shifts o_size o_log o_wordBits o_limit o_radix o_order o_near o_seed o_stages) H → va_D A (wX8_takeSize cI cJ cZ h_o h_o_shifts o_size o_log o_wordBits o_limit o_radix o_order o_near o_seed o_stages) → va_S A s.heap H locs → lv_has ls 3 [(0, .ref h_o), (1, .int v1), (2, .int v2)] → W p l e ({ frames := 0, cells := 0, slots := 0, locals := 0 } : Room) s m ([.ref h_o, .int p1] : List Value).toArray below meth c H locs 0 0 Q (F0 m 12 ls []) := by
    intro n
    induction n with
    | zero =>
      intro o_size o_log v1 v2 H locs ls hf
      have hf : (none : Option (Int32 × Int32)) = some (out_o_size, out_o_log) := hf
      cases hf
    | succ n ih =>
      intro o_size o_log v1 v2 H locs ls hf hP hD hS hl
      rw [fX8_takeSize_12.eq_2] at hf
      refine lv_iload_n hx hb dX8_takeSize_12 rfl (lv_at hl 2 rfl) ?_
      refine lv_iconst (v := (5 : Int32)) hx hb dX8_takeSize_13 (by decide) ?_
      refine lv_icmp_gt (tgt := 35) hx hb dX8_takeSize_14 (by decide) (fun c_1 => ?_) (fun c_1 => ?_)
      · have hf := it_t c_1 hf
        cases hf
        exact hret _ _ _ _ dX8_takeSize_35 hP hD hS
      · have hf := it_f c_1 hf
        refine lv_iconst (v := (1 : Int32)) hx hb dX8_takeSize_17 (by decide) ?_
        refine lv_iload_n hx hb dX8_takeSize_18 rfl (lv_at hl 2 rfl) ?_
        refine lv_ishl hx hb dX8_takeSize_19 ?_
        refine lv_iload_n hx hb dX8_takeSize_20 rfl (lv_at hl 1 rfl) ?_
        refine lv_icmp_ne (tgt := 29) hx hb dX8_takeSize_21 (by decide) (fun c_2 => ?_) (fun c_2 => ?_)
        · have hf := it_f c_2 hf
          exact j29 (fX8_takeSize_12 n) ih o_size o_log v1 v2 H locs ls hf hP hD hS (lv_sub hl [0, 1, 2] rfl)
        · have hf := it_t c_2 hf
          refine lv_aload_n hx hb dX8_takeSize_24 rfl (lv_at hl 0 rfl) ?_
          refine lv_iload_n hx hb dX8_takeSize_25 rfl (lv_at hl 2 rfl) ?_
          refine wr (ci := 8) (C := RX8) (T := TX8) (N := 10) hx hb hts inX8 tyX8 tyX8_ok nmX8 hown hK hP hD hS 0 1 rfl rfl (by decide) (hts _ q_fX8_39) rfl rfl rfl (Nat.le_of_ble_eq_true rfl) dX8_takeSize_26 (ws2 := (wX8_takeSize cI cJ cZ h_o h_o_shifts o_size v2 o_wordBits o_limit o_radix o_order o_near o_seed o_stages)) rfl (fun H locs hP hD hS => ?_)
          exact j29 (fX8_takeSize_12 n) ih o_size v2 v1 v2 H locs ls hf hP hD hS (lv_sub hl [0, 1, 2] rfl)
  unfold fX8_takeSize at hf
  obtain ⟨H, eH⟩ : ∃ H, H = s.heap := ⟨_, rfl⟩
  obtain ⟨locs, elocs⟩ : ∃ z : List Loc, z = [] := ⟨_, rfl⟩
  have hP : va_P G vwCl (wX8_takeSize cI cJ cZ h_o h_o_shifts o_size o_log o_wordBits o_limit o_radix o_order o_near o_seed o_stages) H := by rw [eH]; exact hP
  have hS : va_S A s.heap H locs := by rw [eH, elocs]; exact hS
  suffices hgo : W p l e ({ frames := 0, cells := 0, slots := 0, locals := 0 } : Room) s m ([.ref h_o, .int p1] : List Value).toArray below meth c H locs 0 0 Q (F0 m 0 ls []) by rw [eH, elocs] at hgo; exact hgo
  clear eH elocs
  refine lv_aload_n hx hb dX8_takeSize_0 rfl (lv_at hl 0 rfl) ?_
  refine lv_iload_n hx hb dX8_takeSize_1 rfl (lv_at hl 1 rfl) ?_
  refine wr (ci := 8) (C := RX8) (T := TX8) (N := 10) hx hb hts inX8 tyX8 tyX8_ok nmX8 hown hK hP hD hS 0 0 rfl rfl (by decide) (hts _ q_fX8_36) rfl rfl rfl (Nat.le_of_ble_eq_true rfl) dX8_takeSize_2 (ws2 := (wX8_takeSize cI cJ cZ h_o h_o_shifts p1 o_log o_wordBits o_limit o_radix o_order o_near o_seed o_stages)) rfl (fun H locs hP hD hS => ?_)
  refine lv_aload_n hx hb dX8_takeSize_5 rfl (lv_at hl 0 rfl) ?_
  refine lv_iconst (v := (1 : Int32)) hx hb dX8_takeSize_6 (by decide) ?_
  refine wr (ci := 8) (C := RX8) (T := TX8) (N := 10) hx hb hts inX8 tyX8 tyX8_ok nmX8 hown hK hP hD hS 0 1 rfl rfl (by decide) (hts _ q_fX8_39) rfl rfl rfl (Nat.le_of_ble_eq_true rfl) dX8_takeSize_7 (ws2 := (wX8_takeSize cI cJ cZ h_o h_o_shifts p1 (1 : Int32) o_wordBits o_limit o_radix o_order o_near o_seed o_stages)) rfl (fun H locs hP hD hS => ?_)
  refine lv_iconst (v := (2 : Int32)) hx hb dX8_takeSize_10 (by decide) ?_
  refine lv_istore_n (lv' := [(2, .int (2 : Int32)), (0, .ref h_o), (1, .int p1)]) hx hb dX8_takeSize_11 rfl hl (by decide) rfl (fun ls hl => ?_)
  exact j12 FU p1 (1 : Int32) p1 (2 : Int32) H locs ls hf hP hD hS (lv_sub hl [1, 2, 0] rfl)
def wX8_takeBits (cI cJ cZ : ClassId) (h_o h_o_shifts : Nat) (o_size : Int32) (o_log : Int32) (o_wordBits : Int32) (o_limit : Int32) (o_radix : Int32) (o_order : Int32) (o_near : Int32) (o_seed : Int32) (o_stages : Int32) : va_W := [(h_o, .inr (8, [.int o_size, .int o_log, .int o_wordBits, .int o_limit, .int o_radix, .int o_order, .int o_near, .int o_seed, .int o_stages, .ref h_o_shifts]))]
def fX8_takeBits (o_wordBits : Int32) (o_limit : Int32) (p1 : Int32) : Option (Int32 × Int32) :=
  nm (((1 : Int32) <<< ((p1 - (1 : Int32)) &&& 31)) - (1 : Int32)) (fun u_1 =>
  some (p1, u_1))
set_option maxHeartbeats 4000000 in
set_option maxRecDepth 100000 in
theorem tX8_takeBits (l : Launch) (G : va_G) (cI cJ cZ : ClassId) (sz : Nat) (h_o h_o_shifts : Nat) (o_size : Int32) (o_log : Int32) (o_wordBits : Int32) (o_limit : Int32) (o_radix : Int32) (o_order : Int32) (o_near : Int32) (o_seed : Int32) (o_stages : Int32) (p1 : Int32) (out_o_wordBits : Int32) (out_o_limit : Int32) (hf : fX8_takeBits o_wordBits o_limit p1 = some (out_o_wordBits, out_o_limit)) : Met l yX8_takeBits (Cond.code yX8_takeBits cX8_takeBits 2 none :: BIG) ({ frames := 0, cells := 0, slots := 0, locals := 0 } : Room) (cP G (TY3 cI cJ cZ) [.ref h_o, .int p1] sz (wX8_takeBits cI cJ cZ h_o h_o_shifts o_size o_log o_wordBits o_limit o_radix o_order o_near o_seed o_stages)) (cQ G (TY3 cI cJ cZ) sz (wX8_takeBits cI cJ cZ h_o h_o_shifts o_size o_log o_wordBits o_limit o_radix o_order o_near o_seed o_stages) (wX8_takeBits cI cJ cZ h_o h_o_shifts o_size o_log out_o_wordBits out_o_limit o_radix o_order o_near o_seed o_stages) none) 0 0 (va_A (wX8_takeBits cI cJ cZ h_o h_o_shifts o_size o_log o_wordBits o_limit o_radix o_order o_near o_seed o_stages) sz) := by
  refine met_v (cc := cX8_takeBits) (maxL := 2) (plainFor_of_name (by decide)) (Nat.le_of_ble_eq_true rfl) (fun p e s m below meth c A ls Q hx hb hml hts hown hK hP hD hS hA hl hret => ?_)
  have hown : s.vm.findClass RX8 = some m.cls := hown
  have hl : lv_has ls 2 [(0, .ref h_o), (1, .int p1)] := hl
  unfold fX8_takeBits at hf
  obtain ⟨H, eH⟩ : ∃ H, H = s.heap := ⟨_, rfl⟩
  obtain ⟨locs, elocs⟩ : ∃ z : List Loc, z = [] := ⟨_, rfl⟩
  have hP : va_P G vwCl (wX8_takeBits cI cJ cZ h_o h_o_shifts o_size o_log o_wordBits o_limit o_radix o_order o_near o_seed o_stages) H := by rw [eH]; exact hP
  have hS : va_S A s.heap H locs := by rw [eH, elocs]; exact hS
  suffices hgo : W p l e ({ frames := 0, cells := 0, slots := 0, locals := 0 } : Room) s m ([.ref h_o, .int p1] : List Value).toArray below meth c H locs 0 0 Q (F0 m 0 ls []) by rw [eH, elocs] at hgo; exact hgo
  clear eH elocs
  refine lv_aload_n hx hb dX8_takeBits_0 rfl (lv_at hl 0 rfl) ?_
  refine lv_iload_n hx hb dX8_takeBits_1 rfl (lv_at hl 1 rfl) ?_
  refine wr (ci := 8) (C := RX8) (T := TX8) (N := 10) hx hb hts inX8 tyX8 tyX8_ok nmX8 hown hK hP hD hS 0 2 rfl rfl (by decide) (hts _ q_fX8_42) rfl rfl rfl (Nat.le_of_ble_eq_true rfl) dX8_takeBits_2 (ws2 := (wX8_takeBits cI cJ cZ h_o h_o_shifts o_size o_log p1 o_limit o_radix o_order o_near o_seed o_stages)) rfl (fun H locs hP hD hS => ?_)
  refine lv_aload_n hx hb dX8_takeBits_5 rfl (lv_at hl 0 rfl) ?_
  refine lv_iconst (v := (1 : Int32)) hx hb dX8_takeBits_6 (by decide) ?_
  refine lv_iload_n hx hb dX8_takeBits_7 rfl (lv_at hl 1 rfl) ?_
  refine lv_iconst (v := (1 : Int32)) hx hb dX8_takeBits_8 (by decide) ?_
  refine lv_isub hx hb dX8_takeBits_9 ?_
  refine lv_ishl hx hb dX8_takeBits_10 ?_
  refine lv_iconst (v := (1 : Int32)) hx hb dX8_takeBits_11 (by decide) ?_
  refine lv_isub hx hb dX8_takeBits_12 ?_
  refine lv_topi (fun u_1 eu_1 => ?_)
  have hf := nm_x eu_1 hf
  refine wr (ci := 8) (C := RX8) (T := TX8) (N := 10) hx hb hts inX8 tyX8 tyX8_ok nmX8 hown hK hP hD hS 0 3 rfl rfl (by decide) (hts _ q_fX8_45) rfl rfl rfl (Nat.le_of_ble_eq_true rfl) dX8_takeBits_13 (ws2 := (wX8_takeBits cI cJ cZ h_o h_o_shifts o_size o_log p1 u_1 o_radix o_order o_near o_seed o_stages)) rfl (fun H locs hP hD hS => ?_)
  cases hf
  exact hret _ _ _ _ dX8_takeBits_16 hP hD hS
def wX8_addStage (cI cJ cZ : ClassId) (h_o h_o_shifts : Nat) (o_size : Int32) (o_log : Int32) (o_wordBits : Int32) (o_limit : Int32) (o_radix : Int32) (o_order : Int32) (o_near : Int32) (o_seed : Int32) (o_stages : Int32) (o_shifts : Nat → Int32) : va_W := [(h_o, .inr (8, [.int o_size, .int o_log, .int o_wordBits, .int o_limit, .int o_radix, .int o_order, .int o_near, .int o_seed, .int o_stages, .ref h_o_shifts])), (h_o_shifts, .inl (cI, 5, .inl o_shifts))]
def fX8_addStage (o_stages : Int32) (o_shifts : Nat → Int32) (p1 : Int32) : Option (Int32 × (Nat → Int32)) :=
  if (5 : Int32) ≤ o_stages then (
    some (o_stages, o_shifts)
  ) else (
    gd (inb o_stages 5) (
    nm (upd o_shifts (Int32.toNatClampNeg o_stages) p1) (fun o_shifts_3 =>
    nm (o_stages + (1 : Int32)) (fun u_4 =>
    some (u_4, o_shifts_3))))
  )
set_option maxHeartbeats 4000000 in
set_option maxRecDepth 100000 in
theorem tX8_addStage (l : Launch) (G : va_G) (cI cJ cZ : ClassId) (sz : Nat) (h_o h_o_shifts : Nat) (o_size : Int32) (o_log : Int32) (o_wordBits : Int32) (o_limit : Int32) (o_radix : Int32) (o_order : Int32) (o_near : Int32) (o_seed : Int32) (o_stages : Int32) (o_shifts : Nat → Int32) (p1 : Int32) (out_o_stages : Int32) (out_o_shifts : Nat → Int32) (hf : fX8_addStage o_stages o_shifts p1 = some (out_o_stages, out_o_shifts)) : Met l yX8_addStage (Cond.code yX8_addStage cX8_addStage 2 none :: BIG) ({ frames := 0, cells := 0, slots := 0, locals := 0 } : Room) (cP G (TY3 cI cJ cZ) [.ref h_o, .int p1] sz (wX8_addStage cI cJ cZ h_o h_o_shifts o_size o_log o_wordBits o_limit o_radix o_order o_near o_seed o_stages o_shifts)) (cQ G (TY3 cI cJ cZ) sz (wX8_addStage cI cJ cZ h_o h_o_shifts o_size o_log o_wordBits o_limit o_radix o_order o_near o_seed o_stages o_shifts) (wX8_addStage cI cJ cZ h_o h_o_shifts o_size o_log o_wordBits o_limit o_radix o_order o_near o_seed out_o_stages out_o_shifts) none) 0 0 (va_A (wX8_addStage cI cJ cZ h_o h_o_shifts o_size o_log o_wordBits o_limit o_radix o_order o_near o_seed o_stages o_shifts) sz) := by
  refine met_v (cc := cX8_addStage) (maxL := 2) (plainFor_of_name (by decide)) (Nat.le_of_ble_eq_true rfl) (fun p e s m below meth c A ls Q hx hb hml hts hown hK hP hD hS hA hl hret => ?_)
  have hown : s.vm.findClass RX8 = some m.cls := hown
  have hl : lv_has ls 2 [(0, .ref h_o), (1, .int p1)] := hl
  unfold fX8_addStage at hf
  obtain ⟨H, eH⟩ : ∃ H, H = s.heap := ⟨_, rfl⟩
  obtain ⟨locs, elocs⟩ : ∃ z : List Loc, z = [] := ⟨_, rfl⟩
  have hP : va_P G vwCl (wX8_addStage cI cJ cZ h_o h_o_shifts o_size o_log o_wordBits o_limit o_radix o_order o_near o_seed o_stages o_shifts) H := by rw [eH]; exact hP
  have hS : va_S A s.heap H locs := by rw [eH, elocs]; exact hS
  suffices hgo : W p l e ({ frames := 0, cells := 0, slots := 0, locals := 0 } : Room) s m ([.ref h_o, .int p1] : List Value).toArray below meth c H locs 0 0 Q (F0 m 0 ls []) by rw [eH, elocs] at hgo; exact hgo
  clear eH elocs
  refine lv_aload_n hx hb dX8_addStage_0 rfl (lv_at hl 0 rfl) ?_
  refine rd (ci := 8) (C := RX8) (T := TX8) (N := 10) hx hb hts inX8 hown hK hP 0 8 rfl rfl (by decide) (hts _ q_fX8_54) rfl dX8_addStage_1 ?_
  refine lv_iconst (v := (5 : Int32)) hx hb dX8_addStage_4 (by decide) ?_
  refine lv_icmp_ge (tgt := 28) hx hb dX8_addStage_5 (by decide) (fun c_1 => ?_) (fun c_1 => ?_)
  · have hf := it_t c_1 hf
    cases hf
    exact hret _ _ _ _ dX8_addStage_28 hP hD hS
  · have hf := it_f c_1 hf
    refine lv_aload_n hx hb dX8_addStage_8 rfl (lv_at hl 0 rfl) ?_
    refine rd (ci := 8) (C := RX8) (T := TX8) (N := 10) hx hb hts inX8 hown hK hP 0 9 rfl rfl (by decide) (hts _ q_fX8_9) rfl dX8_addStage_9 ?_
    refine lv_aload_n hx hb dX8_addStage_12 rfl (lv_at hl 0 rfl) ?_
    refine rd (ci := 8) (C := RX8) (T := TX8) (N := 10) hx hb hts inX8 hown hK hP 0 8 rfl rfl (by decide) (hts _ q_fX8_54) rfl dX8_addStage_13 ?_
    refine lv_iload_n hx hb dX8_addStage_16 rfl (lv_at hl 1 rfl) ?_
    obtain ⟨g_2, hf⟩ := gd_x hf
    obtain ⟨o_shifts_3, eo_shifts_3⟩ : ∃ y : Nat → Int32, y = upd o_shifts (Int32.toNatClampNeg o_stages) p1 := ⟨_, rfl⟩
    have hf := nm_x eo_shifts_3 hf
    refine ist hx hb hK hP hD hS 1 0 rfl rfl (inb_x g_2) dX8_addStage_17 eo_shifts_3 (ws2 := (wX8_addStage cI cJ cZ h_o h_o_shifts o_size o_log o_wordBits o_limit o_radix o_order o_near o_seed o_stages o_shifts_3)) rfl (fun H locs hP hD hS => ?_)
    refine lv_aload_n hx hb dX8_addStage_18 rfl (lv_at hl 0 rfl) ?_
    refine lv_dup hx hb dX8_addStage_19 rfl ?_
    refine rd (ci := 8) (C := RX8) (T := TX8) (N := 10) hx hb hts inX8 hown hK hP 0 8 rfl rfl (by decide) (hts _ q_fX8_54) rfl dX8_addStage_20 ?_
    refine lv_iconst (v := (1 : Int32)) hx hb dX8_addStage_23 (by decide) ?_
    refine lv_iadd hx hb dX8_addStage_24 ?_
    refine lv_topi (fun u_4 eu_4 => ?_)
    have hf := nm_x eu_4 hf
    refine wr (ci := 8) (C := RX8) (T := TX8) (N := 10) hx hb hts inX8 tyX8 tyX8_ok nmX8 hown hK hP hD hS 0 8 rfl rfl (by decide) (hts _ q_fX8_54) rfl rfl rfl (Nat.le_of_ble_eq_true rfl) dX8_addStage_25 (ws2 := (wX8_addStage cI cJ cZ h_o h_o_shifts o_size o_log o_wordBits o_limit o_radix o_order o_near o_seed u_4 o_shifts_3)) rfl (fun H locs hP hD hS => ?_)
    cases hf
    exact hret _ _ _ _ dX8_addStage_28 hP hD hS
def wX8_takeShape (cI cJ cZ : ClassId) (h_o h_o_shifts : Nat) (o_size : Int32) (o_log : Int32) (o_wordBits : Int32) (o_limit : Int32) (o_radix : Int32) (o_order : Int32) (o_near : Int32) (o_seed : Int32) (o_stages : Int32) (o_shifts : Nat → Int32) : va_W := [(h_o, .inr (8, [.int o_size, .int o_log, .int o_wordBits, .int o_limit, .int o_radix, .int o_order, .int o_near, .int o_seed, .int o_stages, .ref h_o_shifts])), (h_o_shifts, .inl (cI, 5, .inl o_shifts))]
def fX8_takeShape_111 (o_radix : Int32) (o_order : Int32) (o_stages : Int32) (o_shifts : Nat → Int32) (v3 : Int32) : Option (Int32 × Int32 × Int32 × (Nat → Int32)) :=
  if v3 = 0 then (
    some (o_radix, o_order, o_stages, o_shifts)
  ) else (
    if o_order = 0 then (
      some (o_radix, o_order, o_stages, o_shifts)
    ) else (
      bd2 (fX8_addStage o_stages o_shifts (1 : Int32)) (fun o_stages_17 o_shifts_18 =>
      some (o_radix, o_order, o_stages_17, o_shifts_18))
    )
  )
def fX8_takeShape_102 (k81 : Int32 → Int32 → Int32 → (Nat → Int32) → Int32 → Int32 → Int32 → Option (Int32 × Int32 × Int32 × (Nat → Int32))) (o_radix : Int32) (o_order : Int32) (o_stages : Int32) (o_shifts : Nat → Int32) (v3 : Int32) (v4 : Int32) (v5 : Int32) (s1 : Int32) : Option (Int32 × Int32 × Int32 × (Nat → Int32)) :=
  bd2 (fX8_addStage o_stages o_shifts s1) (fun o_stages_11 o_shifts_12 =>
  nm (v5 + (1 : Int32)) (fun v5_14 =>
  k81 o_radix o_order o_stages_11 o_shifts_12 v3 v4 v5_14))
def fX8_takeShape_81 : Nat → Int32 → Int32 → Int32 → (Nat → Int32) → Int32 → Int32 → Int32 → Option (Int32 × Int32 × Int32 × (Nat → Int32))
  | 0, _, _, _, _, _, _, _ => none
  | n + 1, o_radix, o_order, o_stages, o_shifts, v3, v4, v5 =>
    if v4 ≤ v5 then (
      fX8_takeShape_111 o_radix o_order o_stages o_shifts v3
    ) else (
      if o_radix = (4 : Int32) then (
        fX8_takeShape_102 (fX8_takeShape_81 n) o_radix o_order o_stages o_shifts v3 v4 v5 (2 : Int32)
      ) else (
        fX8_takeShape_102 (fX8_takeShape_81 n) o_radix o_order o_stages o_shifts v3 v4 v5 (1 : Int32)
      )
    )
def fX8_takeShape_78 (o_radix : Int32) (o_order : Int32) (o_stages : Int32) (o_shifts : Nat → Int32) (v3 : Int32) (v4 : Int32) : Option (Int32 × Int32 × Int32 × (Nat → Int32)) :=
  fX8_takeShape_81 FU o_radix o_order o_stages o_shifts v3 v4 (0 : Int32)
def fX8_takeShape_55 (o_radix : Int32) (o_order : Int32) (o_stages : Int32) (o_shifts : Nat → Int32) (v3 : Int32) (s0 : Int32) : Option (Int32 × Int32 × Int32 × (Nat → Int32)) :=
  if v3 = 0 then (
    fX8_takeShape_78 o_radix o_order (0 : Int32) o_shifts v3 s0
  ) else (
    if o_order = 0 then (
      bd2 (fX8_addStage (0 : Int32) o_shifts (1 : Int32)) (fun o_stages_6 o_shifts_7 =>
      fX8_takeShape_78 o_radix o_order o_stages_6 o_shifts_7 v3 s0)
    ) else (
      fX8_takeShape_78 o_radix o_order (0 : Int32) o_shifts v3 s0
    )
  )
def fX8_takeShape_33 (o_log : Int32) (o_radix : Int32) (o_order : Int32) (o_stages : Int32) (o_shifts : Nat → Int32) (s0 : Int32) : Option (Int32 × Int32 × Int32 × (Nat → Int32)) :=
  if o_radix = (4 : Int32) then (
    fX8_takeShape_55 o_radix o_order o_stages o_shifts s0 (o_log >>> ((1 : Int32) &&& 31))
  ) else (
    fX8_takeShape_55 o_radix o_order o_stages o_shifts s0 o_log
  )
def fX8_takeShape_32 (o_log : Int32) (o_radix : Int32) (o_order : Int32) (o_stages : Int32) (o_shifts : Nat → Int32) : Option (Int32 × Int32 × Int32 × (Nat → Int32)) :=
  fX8_takeShape_33 o_log o_radix o_order o_stages o_shifts (0 : Int32)
def fX8_takeShape (o_log : Int32) (o_radix : Int32) (o_order : Int32) (o_stages : Int32) (o_shifts : Nat → Int32) (p1 : Int32) (p2 : Int32) : Option (Int32 × Int32 × Int32 × (Nat → Int32)) :=
  if p1 = (4 : Int32) then (
    if (o_log &&& (1 : Int32)) = (1 : Int32) then (
      fX8_takeShape_33 o_log p1 p2 o_stages o_shifts (1 : Int32)
    ) else (
      fX8_takeShape_32 o_log p1 p2 o_stages o_shifts
    )
  ) else (
    fX8_takeShape_32 o_log p1 p2 o_stages o_shifts
  )
set_option maxHeartbeats 4000000 in
set_option maxRecDepth 100000 in
theorem tX8_takeShape (l : Launch) (G : va_G) (cI cJ cZ : ClassId) (sz : Nat) (h_o h_o_shifts : Nat) (o_size : Int32) (o_log : Int32) (o_wordBits : Int32) (o_limit : Int32) (o_radix : Int32) (o_order : Int32) (o_near : Int32) (o_seed : Int32) (o_stages : Int32) (o_shifts : Nat → Int32) (p1 : Int32) (p2 : Int32) (out_o_radix : Int32) (out_o_order : Int32) (out_o_stages : Int32) (out_o_shifts : Nat → Int32) (hf : fX8_takeShape o_log o_radix o_order o_stages o_shifts p1 p2 = some (out_o_radix, out_o_order, out_o_stages, out_o_shifts)) : Met l yX8_takeShape (Cond.code yX8_takeShape cX8_takeShape 6 none :: BIG) ({ frames := 1, cells := 0, slots := 0, locals := 21 } : Room) (cP G (TY3 cI cJ cZ) [.ref h_o, .int p1, .int p2] sz (wX8_takeShape cI cJ cZ h_o h_o_shifts o_size o_log o_wordBits o_limit o_radix o_order o_near o_seed o_stages o_shifts)) (cQ G (TY3 cI cJ cZ) sz (wX8_takeShape cI cJ cZ h_o h_o_shifts o_size o_log o_wordBits o_limit o_radix o_order o_near o_seed o_stages o_shifts) (wX8_takeShape cI cJ cZ h_o h_o_shifts o_size o_log o_wordBits o_limit out_o_radix out_o_order o_near o_seed out_o_stages out_o_shifts) none) 0 0 (va_A (wX8_takeShape cI cJ cZ h_o h_o_shifts o_size o_log o_wordBits o_limit o_radix o_order o_near o_seed o_stages o_shifts) sz) := by
  refine met_v (cc := cX8_takeShape) (maxL := 6) (plainFor_of_name (by decide)) (Nat.le_of_ble_eq_true rfl) (fun p e s m below meth c A ls Q hx hb hml hts hown hK hP hD hS hA hl hret => ?_)
  have hown : s.vm.findClass RX8 = some m.cls := hown
  have hl : lv_has ls 6 [(0, .ref h_o), (1, .int p1), (2, .int p2)] := hl
  have j111 : ∀ (o_radix : Int32) (o_order : Int32) (o_stages : Int32) (o_shifts : Nat → Int32) (v3 : Int32) (H : Heap) (locs : List Loc) (ls : Array Slot), fX8_takeShape_111 o_radix o_order o_stages o_shifts v3 = some (out_o_radix, out_o_order, out_o_stages, out_o_shifts) → va_P G vwCl (wX8_takeShape cI cJ cZ h_o h_o_shifts o_size o_log o_wordBits o_limit o_radix o_order o_near o_seed o_stages o_shifts) H → va_D A (wX8_takeShape cI cJ cZ h_o h_o_shifts o_size o_log o_wordBits o_limit o_radix o_order o_near o_seed o_stages o_shifts) → va_S A s.heap H locs → lv_has ls 6 [(0, .ref h_o), (3, .int v3)] → W p l e ({ frames := 1, cells := 0, slots := 0, locals := 21 } : Room) s m ([.ref h_o, .int p1, .int p2] : List Value).toArray below meth c H locs 0 0 Q (F0 m 111 ls []) := by
    intro o_radix o_order o_stages o_shifts v3 H locs ls hf hP hD hS hl
    unfold fX8_takeShape_111 at hf
    refine lv_iload_n hx hb dX8_takeShape_111 rfl (lv_at hl 1 rfl) ?_
    refine lv_if_eq (tgt := 127) hx hb dX8_takeShape_112 (by decide) (fun c_15 => ?_) (fun c_15 => ?_)
    · have hf := it_t c_15 hf
      cases hf
      exact hret _ _ _ _ dX8_takeShape_127 hP hD hS
    · have hf := it_f c_15 hf
      refine lv_aload_n hx hb dX8_takeShape_115 rfl (lv_at hl 0 rfl) ?_
      refine rd (ci := 8) (C := RX8) (T := TX8) (N := 10) hx hb hts inX8 hown hK hP 0 5 rfl rfl (by decide) (hts _ q_fX8_51) rfl dX8_takeShape_116 ?_
      refine lv_if_eq (tgt := 127) hx hb dX8_takeShape_119 (by decide) (fun c_16 => ?_) (fun c_16 => ?_)
      · have hf := it_t c_16 hf
        cases hf
        exact hret _ _ _ _ dX8_takeShape_127 hP hD hS
      · have hf := it_f c_16 hf
        refine lv_aload_n hx hb dX8_takeShape_122 rfl (lv_at hl 0 rfl) ?_
        refine lv_iconst (v := (1 : Int32)) hx hb dX8_takeShape_123 (by decide) ?_
        obtain ⟨o_stages_17, o_shifts_18, e_19, hf⟩ := bd2_x hf
        refine call_v [.int (1 : Int32)] [] ⟨hx, hb, hml, hown, hts⟩ hK hP hD hS hA hl.1 (tX8_addStage l G cI cJ cZ H.size h_o h_o_shifts o_size o_log o_wordBits o_limit o_radix o_order o_near o_seed o_stages o_shifts (1 : Int32) o_stages_17 o_shifts_18 e_19) (cwV 1 hts (gv q_mX8_57 q_i_yX8_addStage q_s_yX8_addStage q_n_RX8 q_k_yX8_addStage) rfl rfl rfl (by decide +kernel) ⟨by decide, by decide⟩) rfl rfl (Nat.le_of_ble_eq_true rfl) dX8_takeShape_124 ⟨Nat.zero_le _, Nat.zero_le _⟩ (ci := 8) rfl 0 rfl [0, 1] [] [0, 1] rfl rfl (ws2 := (wX8_takeShape cI cJ cZ h_o h_o_shifts o_size o_log o_wordBits o_limit o_radix o_order o_near o_seed o_stages_17 o_shifts_18)) rfl (fun H locs hP hD hS => ?_)
        refine W.eq (g2 := F0 m 127 ls []) rfl ?_
        cases hf
        exact hret _ _ _ _ dX8_takeShape_127 hP hD hS
  have j102 : ∀ (k81 : Int32 → Int32 → Int32 → (Nat → Int32) → Int32 → Int32 → Int32 → Option (Int32 × Int32 × Int32 × (Nat → Int32))), (∀ (o_radix : Int32) (o_order : Int32) (o_stages : Int32) (o_shifts : Nat → Int32) (v3 : Int32) (v4 : Int32) (v5 : Int32) (H : Heap) (locs : List Loc) (ls : Array Slot), k81 o_radix o_order o_stages o_shifts v3 v4 v5 = some (out_o_radix, out_o_order, out_o_stages, out_o_shifts) → va_P G vwCl (wX8_takeShape cI cJ cZ h_o h_o_shifts o_size o_log o_wordBits o_limit o_radix o_order o_near o_seed o_stages o_shifts) H → va_D A (wX8_takeShape cI cJ cZ h_o h_o_shifts o_size o_log o_wordBits o_limit o_radix o_order o_near o_seed o_stages o_shifts) → va_S A s.heap H locs → lv_has ls 6 [(0, .ref h_o), (3, .int v3), (4, .int v4), (5, .int v5)] → W p l e ({ frames := 1, cells := 0, slots := 0, locals := 21 } : Room) s m ([.ref h_o, .int p1, .int p2] : List Value).toArray below meth c H locs 0 0 Q (F0 m 81 ls [])) → ∀ (o_radix : Int32) (o_order : Int32) (o_stages : Int32) (o_shifts : Nat → Int32) (v3 : Int32) (v4 : Int32) (v5 : Int32) (s1 : Int32) (H : Heap) (locs : List Loc) (ls : Array Slot), fX8_takeShape_102 k81 o_radix o_order o_stages o_shifts v3 v4 v5 s1 = some (out_o_radix, out_o_order, out_o_stages, out_o_shifts) → va_P G vwCl (wX8_takeShape cI cJ cZ h_o h_o_shifts o_size o_log o_wordBits o_limit o_radix o_order o_near o_seed o_stages o_shifts) H → va_D A (wX8_takeShape cI cJ cZ h_o h_o_shifts o_size o_log o_wordBits o_limit o_radix o_order o_near o_seed o_stages o_shifts) → va_S A s.heap H locs → lv_has ls 6 [(0, .ref h_o), (3, .int v3), (4, .int v4), (5, .int v5)] → W p l e ({ frames := 1, cells := 0, slots := 0, locals := 21 } : Room) s m ([.ref h_o, .int p1, .int p2] : List Value).toArray below meth c H locs 0 0 Q (F0 m 102 ls [.int s1, .ref h_o]) := by
    intro k81 hk81 o_radix o_order o_stages o_shifts v3 v4 v5 s1 H locs ls hf hP hD hS hl
    unfold fX8_takeShape_102 at hf
    obtain ⟨o_stages_11, o_shifts_12, e_13, hf⟩ := bd2_x hf
    refine call_v [.int s1] [] ⟨hx, hb, hml, hown, hts⟩ hK hP hD hS hA hl.1 (tX8_addStage l G cI cJ cZ H.size h_o h_o_shifts o_size o_log o_wordBits o_limit o_radix o_order o_near o_seed o_stages o_shifts s1 o_stages_11 o_shifts_12 e_13) (cwV 1 hts (gv q_mX8_57 q_i_yX8_addStage q_s_yX8_addStage q_n_RX8 q_k_yX8_addStage) rfl rfl rfl (by decide +kernel) ⟨by decide, by decide⟩) rfl rfl (Nat.le_of_ble_eq_true rfl) dX8_takeShape_102 ⟨Nat.zero_le _, Nat.zero_le _⟩ (ci := 8) rfl 0 rfl [0, 1] [] [0, 1] rfl rfl (ws2 := (wX8_takeShape cI cJ cZ h_o h_o_shifts o_size o_log o_wordBits o_limit o_radix o_order o_near o_seed o_stages_11 o_shifts_12)) rfl (fun H locs hP hD hS => ?_)
    refine W.eq (g2 := F0 m 105 ls []) rfl ?_
    obtain ⟨v5_14, ev5_14⟩ : ∃ y : Int32, y = v5 + (1 : Int32) := ⟨_, rfl⟩
    have hf := nm_x ev5_14 hf
    refine lv_iinc (v := v5_14) (lv' := [(5, .int v5_14), (0, .ref h_o), (3, .int v3), (4, .int v4)]) hx hb dX8_takeShape_105 hl (k := 3) rfl (by rw [ev5_14]; rfl) (by decide) rfl (fun ls hl => ?_)
    refine lv_goto (tgt := 81) hx hb dX8_takeShape_108 (by decide) ?_
    exact hk81 o_radix o_order o_stages_11 o_shifts_12 v3 v4 v5_14 H locs ls hf hP hD hS (lv_sub hl [1, 2, 3, 0] rfl)
  have j81 : ∀ (n : Nat) (o_radix : Int32) (o_order : Int32) (o_stages : Int32) (o_shifts : Nat → Int32) (v3 : Int32) (v4 : Int32) (v5 : Int32) (H : Heap) (locs : List Loc) (ls : Array Slot), fX8_takeShape_81 n o_radix o_order o_stages o_shifts v3 v4 v5 = some (out_o_radix, out_o_order, out_o_stages, out_o_shifts) → va_P G vwCl (wX8_takeShape cI cJ cZ h_o h_o_shifts o_size o_log o_wordBits o_limit o_radix o_order o_near o_seed o_stages o_shifts) H → va_D A (wX8_takeShape cI cJ cZ h_o h_o_shifts o_size o_log o_wordBits o_limit o_radix o_order o_near o_seed o_stages o_shifts) → va_S A s.heap H locs → lv_has ls 6 [(0, .ref h_o), (3, .int v3), (4, .int v4), (5, .int v5)] → W p l e ({ frames := 1, cells := 0, slots := 0, locals := 21 } : Room) s m ([.ref h_o, .int p1, .int p2] : List Value).toArray below meth c H locs 0 0 Q (F0 m 81 ls []) := by
    intro n
    induction n with
    | zero =>
      intro o_radix o_order o_stages o_shifts v3 v4 v5 H locs ls hf
      have hf : (none : Option (Int32 × Int32 × Int32 × (Nat → Int32))) = some (out_o_radix, out_o_order, out_o_stages, out_o_shifts) := hf
      cases hf
    | succ n ih =>
      intro o_radix o_order o_stages o_shifts v3 v4 v5 H locs ls hf hP hD hS hl
      rw [fX8_takeShape_81.eq_2] at hf
      refine lv_iload hx hb dX8_takeShape_81 (lv_at hl 3 rfl) ?_
      refine lv_iload hx hb dX8_takeShape_83 (lv_at hl 2 rfl) ?_
      refine lv_icmp_ge (tgt := 111) hx hb dX8_takeShape_85 (by decide) (fun c_9 => ?_) (fun c_9 => ?_)
      · have hf := it_t c_9 hf
        exact j111 o_radix o_order o_stages o_shifts v3 H locs ls hf hP hD hS (lv_sub hl [0, 1] rfl)
      · have hf := it_f c_9 hf
        refine lv_aload_n hx hb dX8_takeShape_88 rfl (lv_at hl 0 rfl) ?_
        refine lv_aload_n hx hb dX8_takeShape_89 rfl (lv_at hl 0 rfl) ?_
        refine rd (ci := 8) (C := RX8) (T := TX8) (N := 10) hx hb hts inX8 hown hK hP 0 4 rfl rfl (by decide) (hts _ q_fX8_48) rfl dX8_takeShape_90 ?_
        refine lv_iconst (v := (4 : Int32)) hx hb dX8_takeShape_93 (by decide) ?_
        refine lv_icmp_ne (tgt := 101) hx hb dX8_takeShape_94 (by decide) (fun c_10 => ?_) (fun c_10 => ?_)
        · have hf := it_f c_10 hf
          refine lv_iconst (v := (1 : Int32)) hx hb dX8_takeShape_101 (by decide) ?_
          exact j102 (fX8_takeShape_81 n) ih o_radix o_order o_stages o_shifts v3 v4 v5 (1 : Int32) H locs ls hf hP hD hS (lv_sub hl [0, 1, 2, 3] rfl)
        · have hf := it_t c_10 hf
          refine lv_iconst (v := (2 : Int32)) hx hb dX8_takeShape_97 (by decide) ?_
          refine lv_goto (tgt := 102) hx hb dX8_takeShape_98 (by decide) ?_
          exact j102 (fX8_takeShape_81 n) ih o_radix o_order o_stages o_shifts v3 v4 v5 (2 : Int32) H locs ls hf hP hD hS (lv_sub hl [0, 1, 2, 3] rfl)
  have j78 : ∀ (o_radix : Int32) (o_order : Int32) (o_stages : Int32) (o_shifts : Nat → Int32) (v3 : Int32) (v4 : Int32) (H : Heap) (locs : List Loc) (ls : Array Slot), fX8_takeShape_78 o_radix o_order o_stages o_shifts v3 v4 = some (out_o_radix, out_o_order, out_o_stages, out_o_shifts) → va_P G vwCl (wX8_takeShape cI cJ cZ h_o h_o_shifts o_size o_log o_wordBits o_limit o_radix o_order o_near o_seed o_stages o_shifts) H → va_D A (wX8_takeShape cI cJ cZ h_o h_o_shifts o_size o_log o_wordBits o_limit o_radix o_order o_near o_seed o_stages o_shifts) → va_S A s.heap H locs → lv_has ls 6 [(0, .ref h_o), (3, .int v3), (4, .int v4)] → W p l e ({ frames := 1, cells := 0, slots := 0, locals := 21 } : Room) s m ([.ref h_o, .int p1, .int p2] : List Value).toArray below meth c H locs 0 0 Q (F0 m 78 ls []) := by
    intro o_radix o_order o_stages o_shifts v3 v4 H locs ls hf hP hD hS hl
    unfold fX8_takeShape_78 at hf
    refine lv_iconst (v := (0 : Int32)) hx hb dX8_takeShape_78 (by decide) ?_
    refine lv_istore (lv' := [(5, .int (0 : Int32)), (0, .ref h_o), (3, .int v3), (4, .int v4)]) hx hb dX8_takeShape_79 hl (by decide) rfl (fun ls hl => ?_)
    exact j81 FU o_radix o_order o_stages o_shifts v3 v4 (0 : Int32) H locs ls hf hP hD hS (lv_sub hl [1, 2, 3, 0] rfl)
  have j55 : ∀ (o_radix : Int32) (o_order : Int32) (o_stages : Int32) (o_shifts : Nat → Int32) (v3 : Int32) (s0 : Int32) (H : Heap) (locs : List Loc) (ls : Array Slot), fX8_takeShape_55 o_radix o_order o_stages o_shifts v3 s0 = some (out_o_radix, out_o_order, out_o_stages, out_o_shifts) → va_P G vwCl (wX8_takeShape cI cJ cZ h_o h_o_shifts o_size o_log o_wordBits o_limit o_radix o_order o_near o_seed o_stages o_shifts) H → va_D A (wX8_takeShape cI cJ cZ h_o h_o_shifts o_size o_log o_wordBits o_limit o_radix o_order o_near o_seed o_stages o_shifts) → va_S A s.heap H locs → lv_has ls 6 [(0, .ref h_o), (3, .int v3)] → W p l e ({ frames := 1, cells := 0, slots := 0, locals := 21 } : Room) s m ([.ref h_o, .int p1, .int p2] : List Value).toArray below meth c H locs 0 0 Q (F0 m 55 ls [.int s0]) := by
    intro o_radix o_order o_stages o_shifts v3 s0 H locs ls hf hP hD hS hl
    unfold fX8_takeShape_55 at hf
    refine lv_istore (lv' := [(4, .int s0), (0, .ref h_o), (3, .int v3)]) hx hb dX8_takeShape_55 hl (by decide) rfl (fun ls hl => ?_)
    refine lv_aload_n hx hb dX8_takeShape_57 rfl (lv_at hl 1 rfl) ?_
    refine lv_iconst (v := (0 : Int32)) hx hb dX8_takeShape_58 (by decide) ?_
    refine wr (ci := 8) (C := RX8) (T := TX8) (N := 10) hx hb hts inX8 tyX8 tyX8_ok nmX8 hown hK hP hD hS 0 8 rfl rfl (by decide) (hts _ q_fX8_54) rfl rfl rfl (Nat.le_of_ble_eq_true rfl) dX8_takeShape_59 (ws2 := (wX8_takeShape cI cJ cZ h_o h_o_shifts o_size o_log o_wordBits o_limit o_radix o_order o_near o_seed (0 : Int32) o_shifts)) rfl (fun H locs hP hD hS => ?_)
    refine lv_iload_n hx hb dX8_takeShape_62 rfl (lv_at hl 2 rfl) ?_
    refine lv_if_eq (tgt := 78) hx hb dX8_takeShape_63 (by decide) (fun c_4 => ?_) (fun c_4 => ?_)
    · have hf := it_t c_4 hf
      exact j78 o_radix o_order (0 : Int32) o_shifts v3 s0 H locs ls hf hP hD hS (lv_sub hl [1, 2, 0] rfl)
    · have hf := it_f c_4 hf
      refine lv_aload_n hx hb dX8_takeShape_66 rfl (lv_at hl 1 rfl) ?_
      refine rd (ci := 8) (C := RX8) (T := TX8) (N := 10) hx hb hts inX8 hown hK hP 0 5 rfl rfl (by decide) (hts _ q_fX8_51) rfl dX8_takeShape_67 ?_
      refine lv_if_ne (tgt := 78) hx hb dX8_takeShape_70 (by decide) (fun c_5 => ?_) (fun c_5 => ?_)
      · have hf := it_f c_5 hf
        exact j78 o_radix o_order (0 : Int32) o_shifts v3 s0 H locs ls hf hP hD hS (lv_sub hl [1, 2, 0] rfl)
      · have hf := it_t c_5 hf
        refine lv_aload_n hx hb dX8_takeShape_73 rfl (lv_at hl 1 rfl) ?_
        refine lv_iconst (v := (1 : Int32)) hx hb dX8_takeShape_74 (by decide) ?_
        obtain ⟨o_stages_6, o_shifts_7, e_8, hf⟩ := bd2_x hf
        refine call_v [.int (1 : Int32)] [] ⟨hx, hb, hml, hown, hts⟩ hK hP hD hS hA hl.1 (tX8_addStage l G cI cJ cZ H.size h_o h_o_shifts o_size o_log o_wordBits o_limit o_radix o_order o_near o_seed (0 : Int32) o_shifts (1 : Int32) o_stages_6 o_shifts_7 e_8) (cwV 1 hts (gv q_mX8_57 q_i_yX8_addStage q_s_yX8_addStage q_n_RX8 q_k_yX8_addStage) rfl rfl rfl (by decide +kernel) ⟨by decide, by decide⟩) rfl rfl (Nat.le_of_ble_eq_true rfl) dX8_takeShape_75 ⟨Nat.zero_le _, Nat.zero_le _⟩ (ci := 8) rfl 0 rfl [0, 1] [] [0, 1] rfl rfl (ws2 := (wX8_takeShape cI cJ cZ h_o h_o_shifts o_size o_log o_wordBits o_limit o_radix o_order o_near o_seed o_stages_6 o_shifts_7)) rfl (fun H locs hP hD hS => ?_)
        refine W.eq (g2 := F0 m 78 ls []) rfl ?_
        exact j78 o_radix o_order o_stages_6 o_shifts_7 v3 s0 H locs ls hf hP hD hS (lv_sub hl [1, 2, 0] rfl)
  have j33 : ∀ (o_radix : Int32) (o_order : Int32) (o_stages : Int32) (o_shifts : Nat → Int32) (s0 : Int32) (H : Heap) (locs : List Loc) (ls : Array Slot), fX8_takeShape_33 o_log o_radix o_order o_stages o_shifts s0 = some (out_o_radix, out_o_order, out_o_stages, out_o_shifts) → va_P G vwCl (wX8_takeShape cI cJ cZ h_o h_o_shifts o_size o_log o_wordBits o_limit o_radix o_order o_near o_seed o_stages o_shifts) H → va_D A (wX8_takeShape cI cJ cZ h_o h_o_shifts o_size o_log o_wordBits o_limit o_radix o_order o_near o_seed o_stages o_shifts) → va_S A s.heap H locs → lv_has ls 6 [(0, .ref h_o)] → W p l e ({ frames := 1, cells := 0, slots := 0, locals := 21 } : Room) s m ([.ref h_o, .int p1, .int p2] : List Value).toArray below meth c H locs 0 0 Q (F0 m 33 ls [.int s0]) := by
    intro o_radix o_order o_stages o_shifts s0 H locs ls hf hP hD hS hl
    unfold fX8_takeShape_33 at hf
    refine lv_istore_n (lv' := [(3, .int s0), (0, .ref h_o)]) hx hb dX8_takeShape_33 rfl hl (by decide) rfl (fun ls hl => ?_)
    refine lv_aload_n hx hb dX8_takeShape_34 rfl (lv_at hl 1 rfl) ?_
    refine rd (ci := 8) (C := RX8) (T := TX8) (N := 10) hx hb hts inX8 hown hK hP 0 4 rfl rfl (by decide) (hts _ q_fX8_48) rfl dX8_takeShape_35 ?_
    refine lv_iconst (v := (4 : Int32)) hx hb dX8_takeShape_38 (by decide) ?_
    refine lv_icmp_ne (tgt := 51) hx hb dX8_takeShape_39 (by decide) (fun c_3 => ?_) (fun c_3 => ?_)
    · have hf := it_f c_3 hf
      refine lv_aload_n hx hb dX8_takeShape_51 rfl (lv_at hl 1 rfl) ?_
      refine rd (ci := 8) (C := RX8) (T := TX8) (N := 10) hx hb hts inX8 hown hK hP 0 1 rfl rfl (by decide) (hts _ q_fX8_39) rfl dX8_takeShape_52 ?_
      exact j55 o_radix o_order o_stages o_shifts s0 o_log H locs ls hf hP hD hS (lv_sub hl [1, 0] rfl)
    · have hf := it_t c_3 hf
      refine lv_aload_n hx hb dX8_takeShape_42 rfl (lv_at hl 1 rfl) ?_
      refine rd (ci := 8) (C := RX8) (T := TX8) (N := 10) hx hb hts inX8 hown hK hP 0 1 rfl rfl (by decide) (hts _ q_fX8_39) rfl dX8_takeShape_43 ?_
      refine lv_iconst (v := (1 : Int32)) hx hb dX8_takeShape_46 (by decide) ?_
      refine lv_ishr hx hb dX8_takeShape_47 ?_
      refine lv_goto (tgt := 55) hx hb dX8_takeShape_48 (by decide) ?_
      exact j55 o_radix o_order o_stages o_shifts s0 (o_log >>> ((1 : Int32) &&& 31)) H locs ls hf hP hD hS (lv_sub hl [1, 0] rfl)
  have j32 : ∀ (o_radix : Int32) (o_order : Int32) (o_stages : Int32) (o_shifts : Nat → Int32) (H : Heap) (locs : List Loc) (ls : Array Slot), fX8_takeShape_32 o_log o_radix o_order o_stages o_shifts = some (out_o_radix, out_o_order, out_o_stages, out_o_shifts) → va_P G vwCl (wX8_takeShape cI cJ cZ h_o h_o_shifts o_size o_log o_wordBits o_limit o_radix o_order o_near o_seed o_stages o_shifts) H → va_D A (wX8_takeShape cI cJ cZ h_o h_o_shifts o_size o_log o_wordBits o_limit o_radix o_order o_near o_seed o_stages o_shifts) → va_S A s.heap H locs → lv_has ls 6 [(0, .ref h_o)] → W p l e ({ frames := 1, cells := 0, slots := 0, locals := 21 } : Room) s m ([.ref h_o, .int p1, .int p2] : List Value).toArray below meth c H locs 0 0 Q (F0 m 32 ls []) := by
    intro o_radix o_order o_stages o_shifts H locs ls hf hP hD hS hl
    unfold fX8_takeShape_32 at hf
    refine lv_iconst (v := (0 : Int32)) hx hb dX8_takeShape_32 (by decide) ?_
    exact j33 o_radix o_order o_stages o_shifts (0 : Int32) H locs ls hf hP hD hS (lv_sub hl [0] rfl)
  unfold fX8_takeShape at hf
  obtain ⟨H, eH⟩ : ∃ H, H = s.heap := ⟨_, rfl⟩
  obtain ⟨locs, elocs⟩ : ∃ z : List Loc, z = [] := ⟨_, rfl⟩
  have hP : va_P G vwCl (wX8_takeShape cI cJ cZ h_o h_o_shifts o_size o_log o_wordBits o_limit o_radix o_order o_near o_seed o_stages o_shifts) H := by rw [eH]; exact hP
  have hS : va_S A s.heap H locs := by rw [eH, elocs]; exact hS
  suffices hgo : W p l e ({ frames := 1, cells := 0, slots := 0, locals := 21 } : Room) s m ([.ref h_o, .int p1, .int p2] : List Value).toArray below meth c H locs 0 0 Q (F0 m 0 ls []) by rw [eH, elocs] at hgo; exact hgo
  clear eH elocs
  refine lv_aload_n hx hb dX8_takeShape_0 rfl (lv_at hl 0 rfl) ?_
  refine lv_iload_n hx hb dX8_takeShape_1 rfl (lv_at hl 1 rfl) ?_
  refine wr (ci := 8) (C := RX8) (T := TX8) (N := 10) hx hb hts inX8 tyX8 tyX8_ok nmX8 hown hK hP hD hS 0 4 rfl rfl (by decide) (hts _ q_fX8_48) rfl rfl rfl (Nat.le_of_ble_eq_true rfl) dX8_takeShape_2 (ws2 := (wX8_takeShape cI cJ cZ h_o h_o_shifts o_size o_log o_wordBits o_limit p1 o_order o_near o_seed o_stages o_shifts)) rfl (fun H locs hP hD hS => ?_)
  refine lv_aload_n hx hb dX8_takeShape_5 rfl (lv_at hl 0 rfl) ?_
  refine lv_iload_n hx hb dX8_takeShape_6 rfl (lv_at hl 2 rfl) ?_
  refine wr (ci := 8) (C := RX8) (T := TX8) (N := 10) hx hb hts inX8 tyX8 tyX8_ok nmX8 hown hK hP hD hS 0 5 rfl rfl (by decide) (hts _ q_fX8_51) rfl rfl rfl (Nat.le_of_ble_eq_true rfl) dX8_takeShape_7 (ws2 := (wX8_takeShape cI cJ cZ h_o h_o_shifts o_size o_log o_wordBits o_limit p1 p2 o_near o_seed o_stages o_shifts)) rfl (fun H locs hP hD hS => ?_)
  refine lv_aload_n hx hb dX8_takeShape_10 rfl (lv_at hl 0 rfl) ?_
  refine rd (ci := 8) (C := RX8) (T := TX8) (N := 10) hx hb hts inX8 hown hK hP 0 4 rfl rfl (by decide) (hts _ q_fX8_48) rfl dX8_takeShape_11 ?_
  refine lv_iconst (v := (4 : Int32)) hx hb dX8_takeShape_14 (by decide) ?_
  refine lv_icmp_ne (tgt := 32) hx hb dX8_takeShape_15 (by decide) (fun c_1 => ?_) (fun c_1 => ?_)
  · have hf := it_f c_1 hf
    exact j32 p1 p2 o_stages o_shifts H locs ls hf hP hD hS (lv_sub hl [0] rfl)
  · have hf := it_t c_1 hf
    refine lv_aload_n hx hb dX8_takeShape_18 rfl (lv_at hl 0 rfl) ?_
    refine rd (ci := 8) (C := RX8) (T := TX8) (N := 10) hx hb hts inX8 hown hK hP 0 1 rfl rfl (by decide) (hts _ q_fX8_39) rfl dX8_takeShape_19 ?_
    refine lv_iconst (v := (1 : Int32)) hx hb dX8_takeShape_22 (by decide) ?_
    refine lv_iand hx hb dX8_takeShape_23 ?_
    refine lv_iconst (v := (1 : Int32)) hx hb dX8_takeShape_24 (by decide) ?_
    refine lv_icmp_ne (tgt := 32) hx hb dX8_takeShape_25 (by decide) (fun c_2 => ?_) (fun c_2 => ?_)
    · have hf := it_f c_2 hf
      exact j32 p1 p2 o_stages o_shifts H locs ls hf hP hD hS (lv_sub hl [0] rfl)
    · have hf := it_t c_2 hf
      refine lv_iconst (v := (1 : Int32)) hx hb dX8_takeShape_28 (by decide) ?_
      refine lv_goto (tgt := 33) hx hb dX8_takeShape_29 (by decide) ?_
      exact j33 p1 p2 o_stages o_shifts (1 : Int32) H locs ls hf hP hD hS (lv_sub hl [0] rfl)
def wX8_takeDefaults (cI cJ cZ : ClassId) (h_o h_o_shifts : Nat) (o_size : Int32) (o_log : Int32) (o_wordBits : Int32) (o_limit : Int32) (o_radix : Int32) (o_order : Int32) (o_near : Int32) (o_seed : Int32) (o_stages : Int32) (o_shifts : Nat → Int32) : va_W := [(h_o, .inr (8, [.int o_size, .int o_log, .int o_wordBits, .int o_limit, .int o_radix, .int o_order, .int o_near, .int o_seed, .int o_stages, .ref h_o_shifts])), (h_o_shifts, .inl (cI, 5, .inl o_shifts))]
def fX8_takeDefaults (o_size : Int32) (o_log : Int32) (o_wordBits : Int32) (o_limit : Int32) (o_radix : Int32) (o_order : Int32) (o_near : Int32) (o_seed : Int32) (o_stages : Int32) (o_shifts : Nat → Int32) : Option (Int32 × Int32 × Int32 × Int32 × Int32 × Int32 × Int32 × Int32 × Int32 × (Nat → Int32)) :=
  bd2 (fX8_takeSize o_size o_log (8 : Int32)) (fun o_size_1 o_log_2 =>
  bd2 (fX8_takeBits o_wordBits o_limit (16 : Int32)) (fun o_wordBits_4 o_limit_5 =>
  bd4 (fX8_takeShape o_log_2 o_radix o_order o_stages o_shifts (2 : Int32) (0 : Int32)) (fun o_radix_7 o_order_8 o_stages_9 o_shifts_10 =>
  some (o_size_1, o_log_2, o_wordBits_4, o_limit_5, o_radix_7, o_order_8, (1 : Int32), (0 : Int32), o_stages_9, o_shifts_10))))
set_option maxHeartbeats 4000000 in
set_option maxRecDepth 100000 in
theorem tX8_takeDefaults (l : Launch) (G : va_G) (cI cJ cZ : ClassId) (sz : Nat) (h_o h_o_shifts : Nat) (o_size : Int32) (o_log : Int32) (o_wordBits : Int32) (o_limit : Int32) (o_radix : Int32) (o_order : Int32) (o_near : Int32) (o_seed : Int32) (o_stages : Int32) (o_shifts : Nat → Int32) (out_o_size : Int32) (out_o_log : Int32) (out_o_wordBits : Int32) (out_o_limit : Int32) (out_o_radix : Int32) (out_o_order : Int32) (out_o_near : Int32) (out_o_seed : Int32) (out_o_stages : Int32) (out_o_shifts : Nat → Int32) (hf : fX8_takeDefaults o_size o_log o_wordBits o_limit o_radix o_order o_near o_seed o_stages o_shifts = some (out_o_size, out_o_log, out_o_wordBits, out_o_limit, out_o_radix, out_o_order, out_o_near, out_o_seed, out_o_stages, out_o_shifts)) : Met l yX8_takeDefaults (Cond.code yX8_takeDefaults cX8_takeDefaults 1 none :: BIG) ({ frames := 2, cells := 0, slots := 0, locals := 46 } : Room) (cP G (TY3 cI cJ cZ) [.ref h_o] sz (wX8_takeDefaults cI cJ cZ h_o h_o_shifts o_size o_log o_wordBits o_limit o_radix o_order o_near o_seed o_stages o_shifts)) (cQ G (TY3 cI cJ cZ) sz (wX8_takeDefaults cI cJ cZ h_o h_o_shifts o_size o_log o_wordBits o_limit o_radix o_order o_near o_seed o_stages o_shifts) (wX8_takeDefaults cI cJ cZ h_o h_o_shifts out_o_size out_o_log out_o_wordBits out_o_limit out_o_radix out_o_order out_o_near out_o_seed out_o_stages out_o_shifts) none) 0 0 (va_A (wX8_takeDefaults cI cJ cZ h_o h_o_shifts o_size o_log o_wordBits o_limit o_radix o_order o_near o_seed o_stages o_shifts) sz) := by
  refine met_v (cc := cX8_takeDefaults) (maxL := 1) (plainFor_of_name (by decide)) (Nat.le_of_ble_eq_true rfl) (fun p e s m below meth c A ls Q hx hb hml hts hown hK hP hD hS hA hl hret => ?_)
  have hown : s.vm.findClass RX8 = some m.cls := hown
  have hl : lv_has ls 1 [(0, .ref h_o)] := hl
  unfold fX8_takeDefaults at hf
  obtain ⟨H, eH⟩ : ∃ H, H = s.heap := ⟨_, rfl⟩
  obtain ⟨locs, elocs⟩ : ∃ z : List Loc, z = [] := ⟨_, rfl⟩
  have hP : va_P G vwCl (wX8_takeDefaults cI cJ cZ h_o h_o_shifts o_size o_log o_wordBits o_limit o_radix o_order o_near o_seed o_stages o_shifts) H := by rw [eH]; exact hP
  have hS : va_S A s.heap H locs := by rw [eH, elocs]; exact hS
  suffices hgo : W p l e ({ frames := 2, cells := 0, slots := 0, locals := 46 } : Room) s m ([.ref h_o] : List Value).toArray below meth c H locs 0 0 Q (F0 m 0 ls []) by rw [eH, elocs] at hgo; exact hgo
  clear eH elocs
  refine lv_aload_n hx hb dX8_takeDefaults_0 rfl (lv_at hl 0 rfl) ?_
  refine lv_bipush (v := (8 : Int32)) hx hb dX8_takeDefaults_1 (by decide) ?_
  obtain ⟨o_size_1, o_log_2, e_3, hf⟩ := bd2_x hf
  refine call_v [.int (8 : Int32)] [] ⟨hx, hb, hml, hown, hts⟩ hK hP hD hS hA hl.1 (tX8_takeSize l G cI cJ cZ H.size h_o h_o_shifts o_size o_log o_wordBits o_limit o_radix o_order o_near o_seed o_stages (8 : Int32) o_size_1 o_log_2 e_3) (cwV 1 hts (gv q_mX8_18 q_i_yX8_takeSize q_s_yX8_takeSize q_n_RX8 q_k_yX8_takeSize) rfl rfl rfl (by decide +kernel) ⟨by decide, by decide⟩) rfl rfl (Nat.le_of_ble_eq_true rfl) dX8_takeDefaults_3 ⟨Nat.zero_le _, Nat.zero_le _⟩ (ci := 8) rfl 0 rfl [0] [1] [1, 0] rfl rfl (ws2 := (wX8_takeDefaults cI cJ cZ h_o h_o_shifts o_size_1 o_log_2 o_wordBits o_limit o_radix o_order o_near o_seed o_stages o_shifts)) rfl (fun H locs hP hD hS => ?_)
  refine W.eq (g2 := F0 m 6 ls []) rfl ?_
  refine lv_aload_n hx hb dX8_takeDefaults_6 rfl (lv_at hl 0 rfl) ?_
  refine lv_bipush (v := (16 : Int32)) hx hb dX8_takeDefaults_7 (by decide) ?_
  obtain ⟨o_wordBits_4, o_limit_5, e_6, hf⟩ := bd2_x hf
  refine call_v [.int (16 : Int32)] [] ⟨hx, hb, hml, hown, hts⟩ hK hP hD hS hA hl.1 (tX8_takeBits l G cI cJ cZ H.size h_o h_o_shifts o_size_1 o_log_2 o_wordBits o_limit o_radix o_order o_near o_seed o_stages (16 : Int32) o_wordBits_4 o_limit_5 e_6) (cwV 1 hts (gv q_mX8_22 q_i_yX8_takeBits q_s_yX8_takeBits q_n_RX8 q_k_yX8_takeBits) rfl rfl rfl (by decide +kernel) ⟨by decide, by decide⟩) rfl rfl (Nat.le_of_ble_eq_true rfl) dX8_takeDefaults_9 ⟨Nat.zero_le _, Nat.zero_le _⟩ (ci := 8) rfl 0 rfl [0] [1] [1, 0] rfl rfl (ws2 := (wX8_takeDefaults cI cJ cZ h_o h_o_shifts o_size_1 o_log_2 o_wordBits_4 o_limit_5 o_radix o_order o_near o_seed o_stages o_shifts)) rfl (fun H locs hP hD hS => ?_)
  refine W.eq (g2 := F0 m 12 ls []) rfl ?_
  refine lv_aload_n hx hb dX8_takeDefaults_12 rfl (lv_at hl 0 rfl) ?_
  refine lv_iconst (v := (1 : Int32)) hx hb dX8_takeDefaults_13 (by decide) ?_
  refine wr (ci := 8) (C := RX8) (T := TX8) (N := 10) hx hb hts inX8 tyX8 tyX8_ok nmX8 hown hK hP hD hS 0 6 rfl rfl (by decide) (hts _ q_fX8_25) rfl rfl rfl (Nat.le_of_ble_eq_true rfl) dX8_takeDefaults_14 (ws2 := (wX8_takeDefaults cI cJ cZ h_o h_o_shifts o_size_1 o_log_2 o_wordBits_4 o_limit_5 o_radix o_order (1 : Int32) o_seed o_stages o_shifts)) rfl (fun H locs hP hD hS => ?_)
  refine lv_aload_n hx hb dX8_takeDefaults_17 rfl (lv_at hl 0 rfl) ?_
  refine lv_iconst (v := (0 : Int32)) hx hb dX8_takeDefaults_18 (by decide) ?_
  refine wr (ci := 8) (C := RX8) (T := TX8) (N := 10) hx hb hts inX8 tyX8 tyX8_ok nmX8 hown hK hP hD hS 0 7 rfl rfl (by decide) (hts _ q_fX8_29) rfl rfl rfl (Nat.le_of_ble_eq_true rfl) dX8_takeDefaults_19 (ws2 := (wX8_takeDefaults cI cJ cZ h_o h_o_shifts o_size_1 o_log_2 o_wordBits_4 o_limit_5 o_radix o_order (1 : Int32) (0 : Int32) o_stages o_shifts)) rfl (fun H locs hP hD hS => ?_)
  refine lv_aload_n hx hb dX8_takeDefaults_22 rfl (lv_at hl 0 rfl) ?_
  refine lv_iconst (v := (2 : Int32)) hx hb dX8_takeDefaults_23 (by decide) ?_
  refine lv_iconst (v := (0 : Int32)) hx hb dX8_takeDefaults_24 (by decide) ?_
  obtain ⟨o_radix_7, o_order_8, o_stages_9, o_shifts_10, e_11, hf⟩ := bd4_x hf
  refine call_v [.int (2 : Int32), .int (0 : Int32)] [] ⟨hx, hb, hml, hown, hts⟩ hK hP hD hS hA hl.1 (tX8_takeShape l G cI cJ cZ H.size h_o h_o_shifts o_size_1 o_log_2 o_wordBits_4 o_limit_5 o_radix o_order (1 : Int32) (0 : Int32) o_stages o_shifts (2 : Int32) (0 : Int32) o_radix_7 o_order_8 o_stages_9 o_shifts_10 e_11) (cwV 2 hts (gv q_mX8_32 q_i_yX8_takeShape q_s_yX8_takeShape q_n_RX8 q_k_yX8_takeShape) rfl rfl rfl (by decide +kernel) ⟨by decide, by decide⟩) rfl rfl (Nat.le_of_ble_eq_true rfl) dX8_takeDefaults_25 ⟨Nat.zero_le _, Nat.zero_le _⟩ (ci := 8) rfl 0 rfl [0, 1] [] [0, 1] rfl rfl (ws2 := (wX8_takeDefaults cI cJ cZ h_o h_o_shifts o_size_1 o_log_2 o_wordBits_4 o_limit_5 o_radix_7 o_order_8 (1 : Int32) (0 : Int32) o_stages_9 o_shifts_10)) rfl (fun H locs hP hD hS => ?_)
  refine W.eq (g2 := F0 m 28 ls []) rfl ?_
  cases hf
  exact hret _ _ _ _ dX8_takeDefaults_28 hP hD hS
def wX8_copyFrom (cI cJ cZ : ClassId) (h_o h_a1 h_o_shifts h_a1_shifts : Nat) (o_size : Int32) (o_log : Int32) (o_wordBits : Int32) (o_limit : Int32) (o_radix : Int32) (o_order : Int32) (o_near : Int32) (o_seed : Int32) (o_stages : Int32) (a1_size : Int32) (a1_log : Int32) (a1_wordBits : Int32) (a1_limit : Int32) (a1_radix : Int32) (a1_order : Int32) (a1_near : Int32) (a1_seed : Int32) (a1_stages : Int32) (o_shifts : Nat → Int32) : va_W := [(h_o, .inr (8, [.int o_size, .int o_log, .int o_wordBits, .int o_limit, .int o_radix, .int o_order, .int o_near, .int o_seed, .int o_stages, .ref h_o_shifts])), (h_a1, .inr (8, [.int a1_size, .int a1_log, .int a1_wordBits, .int a1_limit, .int a1_radix, .int a1_order, .int a1_near, .int a1_seed, .int a1_stages, .ref h_a1_shifts])), (h_o_shifts, .inl (cI, 5, .inl o_shifts))]
def fX8_copyFrom (o_size : Int32) (o_log : Int32) (o_wordBits : Int32) (o_limit : Int32) (o_radix : Int32) (o_order : Int32) (o_near : Int32) (o_seed : Int32) (o_stages : Int32) (a1_size : Int32) (a1_log : Int32) (a1_wordBits : Int32) (a1_radix : Int32) (a1_order : Int32) (a1_near : Int32) (a1_seed : Int32) (o_shifts : Nat → Int32) : Option (Int32 × Int32 × Int32 × Int32 × Int32 × Int32 × Int32 × Int32 × Int32 × (Nat → Int32)) :=
  bd2 (fX8_takeBits o_wordBits o_limit a1_wordBits) (fun o_wordBits_1 o_limit_2 =>
  bd4 (fX8_takeShape a1_log o_radix o_order o_stages o_shifts a1_radix a1_order) (fun o_radix_4 o_order_5 o_stages_6 o_shifts_7 =>
  some (a1_size, a1_log, o_wordBits_1, o_limit_2, o_radix_4, o_order_5, a1_near, a1_seed, o_stages_6, o_shifts_7)))
set_option maxHeartbeats 4000000 in
set_option maxRecDepth 100000 in
theorem tX8_copyFrom (l : Launch) (G : va_G) (cI cJ cZ : ClassId) (sz : Nat) (h_o h_a1 h_o_shifts h_a1_shifts : Nat) (o_size : Int32) (o_log : Int32) (o_wordBits : Int32) (o_limit : Int32) (o_radix : Int32) (o_order : Int32) (o_near : Int32) (o_seed : Int32) (o_stages : Int32) (a1_size : Int32) (a1_log : Int32) (a1_wordBits : Int32) (a1_limit : Int32) (a1_radix : Int32) (a1_order : Int32) (a1_near : Int32) (a1_seed : Int32) (a1_stages : Int32) (o_shifts : Nat → Int32) (out_o_size : Int32) (out_o_log : Int32) (out_o_wordBits : Int32) (out_o_limit : Int32) (out_o_radix : Int32) (out_o_order : Int32) (out_o_near : Int32) (out_o_seed : Int32) (out_o_stages : Int32) (out_o_shifts : Nat → Int32) (hf : fX8_copyFrom o_size o_log o_wordBits o_limit o_radix o_order o_near o_seed o_stages a1_size a1_log a1_wordBits a1_radix a1_order a1_near a1_seed o_shifts = some (out_o_size, out_o_log, out_o_wordBits, out_o_limit, out_o_radix, out_o_order, out_o_near, out_o_seed, out_o_stages, out_o_shifts)) : Met l yX8_copyFrom (Cond.code yX8_copyFrom cX8_copyFrom 2 none :: BIG) ({ frames := 2, cells := 0, slots := 0, locals := 46 } : Room) (cP G (TY3 cI cJ cZ) [.ref h_o, .ref h_a1] sz (wX8_copyFrom cI cJ cZ h_o h_a1 h_o_shifts h_a1_shifts o_size o_log o_wordBits o_limit o_radix o_order o_near o_seed o_stages a1_size a1_log a1_wordBits a1_limit a1_radix a1_order a1_near a1_seed a1_stages o_shifts)) (cQ G (TY3 cI cJ cZ) sz (wX8_copyFrom cI cJ cZ h_o h_a1 h_o_shifts h_a1_shifts o_size o_log o_wordBits o_limit o_radix o_order o_near o_seed o_stages a1_size a1_log a1_wordBits a1_limit a1_radix a1_order a1_near a1_seed a1_stages o_shifts) (wX8_copyFrom cI cJ cZ h_o h_a1 h_o_shifts h_a1_shifts out_o_size out_o_log out_o_wordBits out_o_limit out_o_radix out_o_order out_o_near out_o_seed out_o_stages a1_size a1_log a1_wordBits a1_limit a1_radix a1_order a1_near a1_seed a1_stages out_o_shifts) none) 0 0 (va_A (wX8_copyFrom cI cJ cZ h_o h_a1 h_o_shifts h_a1_shifts o_size o_log o_wordBits o_limit o_radix o_order o_near o_seed o_stages a1_size a1_log a1_wordBits a1_limit a1_radix a1_order a1_near a1_seed a1_stages o_shifts) sz) := by
  refine met_v (cc := cX8_copyFrom) (maxL := 2) (plainFor_of_name (by decide)) (Nat.le_of_ble_eq_true rfl) (fun p e s m below meth c A ls Q hx hb hml hts hown hK hP hD hS hA hl hret => ?_)
  have hown : s.vm.findClass RX8 = some m.cls := hown
  have hl : lv_has ls 2 [(0, .ref h_o), (1, .ref h_a1)] := hl
  unfold fX8_copyFrom at hf
  obtain ⟨H, eH⟩ : ∃ H, H = s.heap := ⟨_, rfl⟩
  obtain ⟨locs, elocs⟩ : ∃ z : List Loc, z = [] := ⟨_, rfl⟩
  have hP : va_P G vwCl (wX8_copyFrom cI cJ cZ h_o h_a1 h_o_shifts h_a1_shifts o_size o_log o_wordBits o_limit o_radix o_order o_near o_seed o_stages a1_size a1_log a1_wordBits a1_limit a1_radix a1_order a1_near a1_seed a1_stages o_shifts) H := by rw [eH]; exact hP
  have hS : va_S A s.heap H locs := by rw [eH, elocs]; exact hS
  suffices hgo : W p l e ({ frames := 2, cells := 0, slots := 0, locals := 46 } : Room) s m ([.ref h_o, .ref h_a1] : List Value).toArray below meth c H locs 0 0 Q (F0 m 0 ls []) by rw [eH, elocs] at hgo; exact hgo
  clear eH elocs
  refine lv_aload_n hx hb dX8_copyFrom_0 rfl (lv_at hl 0 rfl) ?_
  refine lv_aload_n hx hb dX8_copyFrom_1 rfl (lv_at hl 1 rfl) ?_
  refine rd (ci := 8) (C := RX8) (T := TX8) (N := 10) hx hb hts inX8 hown hK hP 1 0 rfl rfl (by decide) (hts _ q_fX8_36) rfl dX8_copyFrom_2 ?_
  refine wr (ci := 8) (C := RX8) (T := TX8) (N := 10) hx hb hts inX8 tyX8 tyX8_ok nmX8 hown hK hP hD hS 0 0 rfl rfl (by decide) (hts _ q_fX8_36) rfl rfl rfl (Nat.le_of_ble_eq_true rfl) dX8_copyFrom_5 (ws2 := (wX8_copyFrom cI cJ cZ h_o h_a1 h_o_shifts h_a1_shifts a1_size o_log o_wordBits o_limit o_radix o_order o_near o_seed o_stages a1_size a1_log a1_wordBits a1_limit a1_radix a1_order a1_near a1_seed a1_stages o_shifts)) rfl (fun H locs hP hD hS => ?_)
  refine lv_aload_n hx hb dX8_copyFrom_8 rfl (lv_at hl 0 rfl) ?_
  refine lv_aload_n hx hb dX8_copyFrom_9 rfl (lv_at hl 1 rfl) ?_
  refine rd (ci := 8) (C := RX8) (T := TX8) (N := 10) hx hb hts inX8 hown hK hP 1 1 rfl rfl (by decide) (hts _ q_fX8_39) rfl dX8_copyFrom_10 ?_
  refine wr (ci := 8) (C := RX8) (T := TX8) (N := 10) hx hb hts inX8 tyX8 tyX8_ok nmX8 hown hK hP hD hS 0 1 rfl rfl (by decide) (hts _ q_fX8_39) rfl rfl rfl (Nat.le_of_ble_eq_true rfl) dX8_copyFrom_13 (ws2 := (wX8_copyFrom cI cJ cZ h_o h_a1 h_o_shifts h_a1_shifts a1_size a1_log o_wordBits o_limit o_radix o_order o_near o_seed o_stages a1_size a1_log a1_wordBits a1_limit a1_radix a1_order a1_near a1_seed a1_stages o_shifts)) rfl (fun H locs hP hD hS => ?_)
  refine lv_aload_n hx hb dX8_copyFrom_16 rfl (lv_at hl 0 rfl) ?_
  refine lv_aload_n hx hb dX8_copyFrom_17 rfl (lv_at hl 1 rfl) ?_
  refine rd (ci := 8) (C := RX8) (T := TX8) (N := 10) hx hb hts inX8 hown hK hP 1 2 rfl rfl (by decide) (hts _ q_fX8_42) rfl dX8_copyFrom_18 ?_
  obtain ⟨o_wordBits_1, o_limit_2, e_3, hf⟩ := bd2_x hf
  refine call_v [.int a1_wordBits] [] ⟨hx, hb, hml, hown, hts⟩ hK hP hD hS hA hl.1 (tX8_takeBits l G cI cJ cZ H.size h_o h_o_shifts a1_size a1_log o_wordBits o_limit o_radix o_order o_near o_seed o_stages a1_wordBits o_wordBits_1 o_limit_2 e_3) (cwV 1 hts (gv q_mX8_22 q_i_yX8_takeBits q_s_yX8_takeBits q_n_RX8 q_k_yX8_takeBits) rfl rfl rfl (by decide +kernel) ⟨by decide, by decide⟩) rfl rfl (Nat.le_of_ble_eq_true rfl) dX8_copyFrom_21 ⟨Nat.zero_le _, Nat.zero_le _⟩ (ci := 8) rfl 0 rfl [0] [1, 2] [2, 0, 1] rfl rfl (ws2 := (wX8_copyFrom cI cJ cZ h_o h_a1 h_o_shifts h_a1_shifts a1_size a1_log o_wordBits_1 o_limit_2 o_radix o_order o_near o_seed o_stages a1_size a1_log a1_wordBits a1_limit a1_radix a1_order a1_near a1_seed a1_stages o_shifts)) rfl (fun H locs hP hD hS => ?_)
  refine W.eq (g2 := F0 m 24 ls []) rfl ?_
  refine lv_aload_n hx hb dX8_copyFrom_24 rfl (lv_at hl 0 rfl) ?_
  refine lv_aload_n hx hb dX8_copyFrom_25 rfl (lv_at hl 1 rfl) ?_
  refine rd (ci := 8) (C := RX8) (T := TX8) (N := 10) hx hb hts inX8 hown hK hP 1 6 rfl rfl (by decide) (hts _ q_fX8_25) rfl dX8_copyFrom_26 ?_
  refine wr (ci := 8) (C := RX8) (T := TX8) (N := 10) hx hb hts inX8 tyX8 tyX8_ok nmX8 hown hK hP hD hS 0 6 rfl rfl (by decide) (hts _ q_fX8_25) rfl rfl rfl (Nat.le_of_ble_eq_true rfl) dX8_copyFrom_29 (ws2 := (wX8_copyFrom cI cJ cZ h_o h_a1 h_o_shifts h_a1_shifts a1_size a1_log o_wordBits_1 o_limit_2 o_radix o_order a1_near o_seed o_stages a1_size a1_log a1_wordBits a1_limit a1_radix a1_order a1_near a1_seed a1_stages o_shifts)) rfl (fun H locs hP hD hS => ?_)
  refine lv_aload_n hx hb dX8_copyFrom_32 rfl (lv_at hl 0 rfl) ?_
  refine lv_aload_n hx hb dX8_copyFrom_33 rfl (lv_at hl 1 rfl) ?_
  refine rd (ci := 8) (C := RX8) (T := TX8) (N := 10) hx hb hts inX8 hown hK hP 1 7 rfl rfl (by decide) (hts _ q_fX8_29) rfl dX8_copyFrom_34 ?_
  refine wr (ci := 8) (C := RX8) (T := TX8) (N := 10) hx hb hts inX8 tyX8 tyX8_ok nmX8 hown hK hP hD hS 0 7 rfl rfl (by decide) (hts _ q_fX8_29) rfl rfl rfl (Nat.le_of_ble_eq_true rfl) dX8_copyFrom_37 (ws2 := (wX8_copyFrom cI cJ cZ h_o h_a1 h_o_shifts h_a1_shifts a1_size a1_log o_wordBits_1 o_limit_2 o_radix o_order a1_near a1_seed o_stages a1_size a1_log a1_wordBits a1_limit a1_radix a1_order a1_near a1_seed a1_stages o_shifts)) rfl (fun H locs hP hD hS => ?_)
  refine lv_aload_n hx hb dX8_copyFrom_40 rfl (lv_at hl 0 rfl) ?_
  refine lv_aload_n hx hb dX8_copyFrom_41 rfl (lv_at hl 1 rfl) ?_
  refine rd (ci := 8) (C := RX8) (T := TX8) (N := 10) hx hb hts inX8 hown hK hP 1 4 rfl rfl (by decide) (hts _ q_fX8_48) rfl dX8_copyFrom_42 ?_
  refine lv_aload_n hx hb dX8_copyFrom_45 rfl (lv_at hl 1 rfl) ?_
  refine rd (ci := 8) (C := RX8) (T := TX8) (N := 10) hx hb hts inX8 hown hK hP 1 5 rfl rfl (by decide) (hts _ q_fX8_51) rfl dX8_copyFrom_46 ?_
  obtain ⟨o_radix_4, o_order_5, o_stages_6, o_shifts_7, e_8, hf⟩ := bd4_x hf
  refine call_v [.int a1_radix, .int a1_order] [] ⟨hx, hb, hml, hown, hts⟩ hK hP hD hS hA hl.1 (tX8_takeShape l G cI cJ cZ H.size h_o h_o_shifts a1_size a1_log o_wordBits_1 o_limit_2 o_radix o_order a1_near a1_seed o_stages o_shifts a1_radix a1_order o_radix_4 o_order_5 o_stages_6 o_shifts_7 e_8) (cwV 2 hts (gv q_mX8_32 q_i_yX8_takeShape q_s_yX8_takeShape q_n_RX8 q_k_yX8_takeShape) rfl rfl rfl (by decide +kernel) ⟨by decide, by decide⟩) rfl rfl (Nat.le_of_ble_eq_true rfl) dX8_copyFrom_49 ⟨Nat.zero_le _, Nat.zero_le _⟩ (ci := 8) rfl 0 rfl [0, 2] [1] [1, 0, 2] rfl rfl (ws2 := (wX8_copyFrom cI cJ cZ h_o h_a1 h_o_shifts h_a1_shifts a1_size a1_log o_wordBits_1 o_limit_2 o_radix_4 o_order_5 a1_near a1_seed o_stages_6 a1_size a1_log a1_wordBits a1_limit a1_radix a1_order a1_near a1_seed a1_stages o_shifts_7)) rfl (fun H locs hP hD hS => ?_)
  refine W.eq (g2 := F0 m 52 ls []) rfl ?_
  cases hf
  exact hret _ _ _ _ dX8_copyFrom_52 hP hD hS
def wX8_reversedPlace (cI cJ cZ : ClassId) (h_o h_o_shifts : Nat) (o_size : Int32) (o_log : Int32) (o_wordBits : Int32) (o_limit : Int32) (o_radix : Int32) (o_order : Int32) (o_near : Int32) (o_seed : Int32) (o_stages : Int32) (o_shifts : Nat → Int32) : va_W := [(h_o, .inr (8, [.int o_size, .int o_log, .int o_wordBits, .int o_limit, .int o_radix, .int o_order, .int o_near, .int o_seed, .int o_stages, .ref h_o_shifts])), (h_o_shifts, .inl (cI, 5, .inl o_shifts))]
def fX8_reversedPlace_12 (o_shifts : Nat → Int32) : Nat → Int32 → Int32 → Int32 → Option (Int32)
  | 0, _, _, _ => none
  | n + 1, v2, v3, v4 =>
    if v4 < 0 then (
      some v3
    ) else (
      gd (inb v4 5) (
      nm (o_shifts (Int32.toNatClampNeg v4)) (fun v5_4 =>
      nm ((v3 <<< (v5_4 &&& 31)) ||| (v2 &&& (((1 : Int32) <<< (v5_4 &&& 31)) - (1 : Int32)))) (fun v3_5 =>
      nm (v2 >>> (v5_4 &&& 31)) (fun v2_6 =>
      nm (v4 + (-1 : Int32)) (fun v4_7 =>
      fX8_reversedPlace_12 o_shifts n v2_6 v3_5 v4_7)))))
    )
def fX8_reversedPlace (o_stages : Int32) (o_shifts : Nat → Int32) (p1 : Int32) : Option (Int32) :=
  nm (o_stages - (1 : Int32)) (fun v4_1 =>
  fX8_reversedPlace_12 o_shifts FU p1 (0 : Int32) v4_1)
set_option maxHeartbeats 4000000 in
set_option maxRecDepth 100000 in
theorem tX8_reversedPlace (l : Launch) (G : va_G) (cI cJ cZ : ClassId) (sz : Nat) (h_o h_o_shifts : Nat) (o_size : Int32) (o_log : Int32) (o_wordBits : Int32) (o_limit : Int32) (o_radix : Int32) (o_order : Int32) (o_near : Int32) (o_seed : Int32) (o_stages : Int32) (o_shifts : Nat → Int32) (p1 : Int32) (r : Int32) (hf : fX8_reversedPlace o_stages o_shifts p1 = some r) : Met l yX8_reversedPlace (Cond.code yX8_reversedPlace cX8_reversedPlace 6 (some .int) :: BIG) ({ frames := 0, cells := 0, slots := 0, locals := 0 } : Room) (cP G (TY3 cI cJ cZ) [.ref h_o, .int p1] sz (wX8_reversedPlace cI cJ cZ h_o h_o_shifts o_size o_log o_wordBits o_limit o_radix o_order o_near o_seed o_stages o_shifts)) (cQ G (TY3 cI cJ cZ) sz (wX8_reversedPlace cI cJ cZ h_o h_o_shifts o_size o_log o_wordBits o_limit o_radix o_order o_near o_seed o_stages o_shifts) (wX8_reversedPlace cI cJ cZ h_o h_o_shifts o_size o_log o_wordBits o_limit o_radix o_order o_near o_seed o_stages o_shifts) (some (.int r))) 0 0 (va_A (wX8_reversedPlace cI cJ cZ h_o h_o_shifts o_size o_log o_wordBits o_limit o_radix o_order o_near o_seed o_stages o_shifts) sz) := by
  refine met_i (cc := cX8_reversedPlace) (maxL := 6) (plainFor_of_name (by decide)) (Nat.le_of_ble_eq_true rfl) (fun p e s m below meth c A ls Q hx hb hml hts hown hK hP hD hS hA hl hret => ?_)
  have hown : s.vm.findClass RX8 = some m.cls := hown
  have hl : lv_has ls 6 [(0, .ref h_o), (1, .int p1)] := hl
  have j12 : ∀ (n : Nat) (v2 : Int32) (v3 : Int32) (v4 : Int32) (H : Heap) (locs : List Loc) (ls : Array Slot), fX8_reversedPlace_12 o_shifts n v2 v3 v4 = some r → va_P G vwCl (wX8_reversedPlace cI cJ cZ h_o h_o_shifts o_size o_log o_wordBits o_limit o_radix o_order o_near o_seed o_stages o_shifts) H → va_D A (wX8_reversedPlace cI cJ cZ h_o h_o_shifts o_size o_log o_wordBits o_limit o_radix o_order o_near o_seed o_stages o_shifts) → va_S A s.heap H locs → lv_has ls 6 [(0, .ref h_o), (2, .int v2), (3, .int v3), (4, .int v4)] → W p l e ({ frames := 0, cells := 0, slots := 0, locals := 0 } : Room) s m ([.ref h_o, .int p1] : List Value).toArray below meth c H locs 0 0 Q (F0 m 12 ls []) := by
    intro n
    induction n with
    | zero =>
      intro v2 v3 v4 H locs ls hf
      have hf : (none : Option (Int32)) = some r := hf
      cases hf
    | succ n ih =>
      intro v2 v3 v4 H locs ls hf hP hD hS hl
      rw [fX8_reversedPlace_12.eq_2] at hf
      refine lv_iload hx hb dX8_reversedPlace_12 (lv_at hl 3 rfl) ?_
      refine lv_if_lt (tgt := 51) hx hb dX8_reversedPlace_14 (by decide) (fun c_2 => ?_) (fun c_2 => ?_)
      · have hf := it_t c_2 hf
        refine lv_iload_n hx hb dX8_reversedPlace_51 rfl (lv_at hl 2 rfl) ?_
        cases hf
        exact hret _ _ _ _ dX8_reversedPlace_52 hP hD hS
      · have hf := it_f c_2 hf
        refine lv_aload_n hx hb dX8_reversedPlace_17 rfl (lv_at hl 0 rfl) ?_
        refine rd (ci := 8) (C := RX8) (T := TX8) (N := 10) hx hb hts inX8 hown hK hP 0 9 rfl rfl (by decide) (hts _ q_fX8_9) rfl dX8_reversedPlace_18 ?_
        refine lv_iload hx hb dX8_reversedPlace_21 (lv_at hl 3 rfl) ?_
        obtain ⟨g_3, hf⟩ := gd_x hf
        refine va_iald hx hb hK hP 1 0 rfl rfl (inb_x g_3) dX8_reversedPlace_23 ?_
        refine lv_topi (fun v5_4 ev5_4 => ?_)
        have hf := nm_x ev5_4 hf
        refine lv_istore (lv' := [(5, .int v5_4), (0, .ref h_o), (2, .int v2), (3, .int v3), (4, .int v4)]) hx hb dX8_reversedPlace_24 hl (by decide) rfl (fun ls hl => ?_)
        refine lv_iload_n hx hb dX8_reversedPlace_26 rfl (lv_at hl 3 rfl) ?_
        refine lv_iload hx hb dX8_reversedPlace_27 (lv_at hl 0 rfl) ?_
        refine lv_ishl hx hb dX8_reversedPlace_29 ?_
        refine lv_iload_n hx hb dX8_reversedPlace_30 rfl (lv_at hl 2 rfl) ?_
        refine lv_iconst (v := (1 : Int32)) hx hb dX8_reversedPlace_31 (by decide) ?_
        refine lv_iload hx hb dX8_reversedPlace_32 (lv_at hl 0 rfl) ?_
        refine lv_ishl hx hb dX8_reversedPlace_34 ?_
        refine lv_iconst (v := (1 : Int32)) hx hb dX8_reversedPlace_35 (by decide) ?_
        refine lv_isub hx hb dX8_reversedPlace_36 ?_
        refine lv_iand hx hb dX8_reversedPlace_37 ?_
        refine lv_ior hx hb dX8_reversedPlace_38 ?_
        refine lv_topi (fun v3_5 ev3_5 => ?_)
        have hf := nm_x ev3_5 hf
        refine lv_istore_n (lv' := [(3, .int v3_5), (5, .int v5_4), (0, .ref h_o), (2, .int v2), (4, .int v4)]) hx hb dX8_reversedPlace_39 rfl hl (by decide) rfl (fun ls hl => ?_)
        refine lv_iload_n hx hb dX8_reversedPlace_40 rfl (lv_at hl 3 rfl) ?_
        refine lv_iload hx hb dX8_reversedPlace_41 (lv_at hl 1 rfl) ?_
        refine lv_ishr hx hb dX8_reversedPlace_43 ?_
        refine lv_topi (fun v2_6 ev2_6 => ?_)
        have hf := nm_x ev2_6 hf
        refine lv_istore_n (lv' := [(2, .int v2_6), (3, .int v3_5), (5, .int v5_4), (0, .ref h_o), (4, .int v4)]) hx hb dX8_reversedPlace_44 rfl hl (by decide) rfl (fun ls hl => ?_)
        obtain ⟨v4_7, ev4_7⟩ : ∃ y : Int32, y = v4 + (-1 : Int32) := ⟨_, rfl⟩
        have hf := nm_x ev4_7 hf
        refine lv_iinc (v := v4_7) (lv' := [(4, .int v4_7), (2, .int v2_6), (3, .int v3_5), (5, .int v5_4), (0, .ref h_o)]) hx hb dX8_reversedPlace_45 hl (k := 4) rfl (by rw [ev4_7]; rfl) (by decide) rfl (fun ls hl => ?_)
        refine lv_goto (tgt := 12) hx hb dX8_reversedPlace_48 (by decide) ?_
        exact ih v2_6 v3_5 v4_7 H locs ls hf hP hD hS (lv_sub hl [4, 1, 2, 0] rfl)
  unfold fX8_reversedPlace at hf
  obtain ⟨H, eH⟩ : ∃ H, H = s.heap := ⟨_, rfl⟩
  obtain ⟨locs, elocs⟩ : ∃ z : List Loc, z = [] := ⟨_, rfl⟩
  have hP : va_P G vwCl (wX8_reversedPlace cI cJ cZ h_o h_o_shifts o_size o_log o_wordBits o_limit o_radix o_order o_near o_seed o_stages o_shifts) H := by rw [eH]; exact hP
  have hS : va_S A s.heap H locs := by rw [eH, elocs]; exact hS
  suffices hgo : W p l e ({ frames := 0, cells := 0, slots := 0, locals := 0 } : Room) s m ([.ref h_o, .int p1] : List Value).toArray below meth c H locs 0 0 Q (F0 m 0 ls []) by rw [eH, elocs] at hgo; exact hgo
  clear eH elocs
  refine lv_iload_n hx hb dX8_reversedPlace_0 rfl (lv_at hl 1 rfl) ?_
  refine lv_istore_n (lv' := [(2, .int p1), (0, .ref h_o), (1, .int p1)]) hx hb dX8_reversedPlace_1 rfl hl (by decide) rfl (fun ls hl => ?_)
  refine lv_iconst (v := (0 : Int32)) hx hb dX8_reversedPlace_2 (by decide) ?_
  refine lv_istore_n (lv' := [(3, .int (0 : Int32)), (2, .int p1), (0, .ref h_o), (1, .int p1)]) hx hb dX8_reversedPlace_3 rfl hl (by decide) rfl (fun ls hl => ?_)
  refine lv_aload_n hx hb dX8_reversedPlace_4 rfl (lv_at hl 2 rfl) ?_
  refine rd (ci := 8) (C := RX8) (T := TX8) (N := 10) hx hb hts inX8 hown hK hP 0 8 rfl rfl (by decide) (hts _ q_fX8_54) rfl dX8_reversedPlace_5 ?_
  refine lv_iconst (v := (1 : Int32)) hx hb dX8_reversedPlace_8 (by decide) ?_
  refine lv_isub hx hb dX8_reversedPlace_9 ?_
  refine lv_topi (fun v4_1 ev4_1 => ?_)
  have hf := nm_x ev4_1 hf
  refine lv_istore (lv' := [(4, .int v4_1), (3, .int (0 : Int32)), (2, .int p1), (0, .ref h_o), (1, .int p1)]) hx hb dX8_reversedPlace_10 hl (by decide) rfl (fun ls hl => ?_)
  exact j12 FU p1 (0 : Int32) v4_1 H locs ls hf hP hD hS (lv_sub hl [3, 2, 1, 0] rfl)
def wX8_digitOf (cI cJ cZ : ClassId) (h_o h_o_shifts : Nat) (o_size : Int32) (o_log : Int32) (o_wordBits : Int32) (o_limit : Int32) (o_radix : Int32) (o_order : Int32) (o_near : Int32) (o_seed : Int32) (o_stages : Int32) (o_shifts : Nat → Int32) : va_W := [(h_o, .inr (8, [.int o_size, .int o_log, .int o_wordBits, .int o_limit, .int o_radix, .int o_order, .int o_near, .int o_seed, .int o_stages, .ref h_o_shifts])), (h_o_shifts, .inl (cI, 5, .inl o_shifts))]
def fX8_digitOf_39 (o_stages : Int32) (o_shifts : Nat → Int32) (v2 : Int32) (v3 : Int32) : Option (Int32) :=
  nm ((o_stages - (1 : Int32)) - v2) (fun i_6 =>
  gd (inb i_6 5) (
  some (v3 &&& (((1 : Int32) <<< ((o_shifts (Int32.toNatClampNeg i_6)) &&& 31)) - (1 : Int32)))))
def fX8_digitOf_10 (o_stages : Int32) (o_shifts : Nat → Int32) : Nat → Int32 → Int32 → Int32 → Option (Int32)
  | 0, _, _, _ => none
  | n + 1, v2, v3, v4 =>
    if v4 ≤ ((o_stages - (1 : Int32)) - v2) then (
      fX8_digitOf_39 o_stages o_shifts v2 v3
    ) else (
      gd (inb v4 5) (
      nm (v3 >>> ((o_shifts (Int32.toNatClampNeg v4)) &&& 31)) (fun v3_4 =>
      nm (v4 + (-1 : Int32)) (fun v4_5 =>
      fX8_digitOf_10 o_stages o_shifts n v2 v3_4 v4_5)))
    )
def fX8_digitOf (o_stages : Int32) (o_shifts : Nat → Int32) (p1 : Int32) (p2 : Int32) : Option (Int32) :=
  nm (o_stages - (1 : Int32)) (fun v4_1 =>
  fX8_digitOf_10 o_stages o_shifts FU p2 p1 v4_1)
set_option maxHeartbeats 4000000 in
set_option maxRecDepth 100000 in
theorem tX8_digitOf (l : Launch) (G : va_G) (cI cJ cZ : ClassId) (sz : Nat) (h_o h_o_shifts : Nat) (o_size : Int32) (o_log : Int32) (o_wordBits : Int32) (o_limit : Int32) (o_radix : Int32) (o_order : Int32) (o_near : Int32) (o_seed : Int32) (o_stages : Int32) (o_shifts : Nat → Int32) (p1 : Int32) (p2 : Int32) (r : Int32) (hf : fX8_digitOf o_stages o_shifts p1 p2 = some r) : Met l yX8_digitOf (Cond.code yX8_digitOf cX8_digitOf 5 (some .int) :: BIG) ({ frames := 0, cells := 0, slots := 0, locals := 0 } : Room) (cP G (TY3 cI cJ cZ) [.ref h_o, .int p1, .int p2] sz (wX8_digitOf cI cJ cZ h_o h_o_shifts o_size o_log o_wordBits o_limit o_radix o_order o_near o_seed o_stages o_shifts)) (cQ G (TY3 cI cJ cZ) sz (wX8_digitOf cI cJ cZ h_o h_o_shifts o_size o_log o_wordBits o_limit o_radix o_order o_near o_seed o_stages o_shifts) (wX8_digitOf cI cJ cZ h_o h_o_shifts o_size o_log o_wordBits o_limit o_radix o_order o_near o_seed o_stages o_shifts) (some (.int r))) 0 0 (va_A (wX8_digitOf cI cJ cZ h_o h_o_shifts o_size o_log o_wordBits o_limit o_radix o_order o_near o_seed o_stages o_shifts) sz) := by
  refine met_i (cc := cX8_digitOf) (maxL := 5) (plainFor_of_name (by decide)) (Nat.le_of_ble_eq_true rfl) (fun p e s m below meth c A ls Q hx hb hml hts hown hK hP hD hS hA hl hret => ?_)
  have hown : s.vm.findClass RX8 = some m.cls := hown
  have hl : lv_has ls 5 [(0, .ref h_o), (1, .int p1), (2, .int p2)] := hl
  have j39 : ∀ (v2 : Int32) (v3 : Int32) (H : Heap) (locs : List Loc) (ls : Array Slot), fX8_digitOf_39 o_stages o_shifts v2 v3 = some r → va_P G vwCl (wX8_digitOf cI cJ cZ h_o h_o_shifts o_size o_log o_wordBits o_limit o_radix o_order o_near o_seed o_stages o_shifts) H → va_D A (wX8_digitOf cI cJ cZ h_o h_o_shifts o_size o_log o_wordBits o_limit o_radix o_order o_near o_seed o_stages o_shifts) → va_S A s.heap H locs → lv_has ls 5 [(0, .ref h_o), (2, .int v2), (3, .int v3)] → W p l e ({ frames := 0, cells := 0, slots := 0, locals := 0 } : Room) s m ([.ref h_o, .int p1, .int p2] : List Value).toArray below meth c H locs 0 0 Q (F0 m 39 ls []) := by
    intro v2 v3 H locs ls hf hP hD hS hl
    unfold fX8_digitOf_39 at hf
    refine lv_iload_n hx hb dX8_digitOf_39 rfl (lv_at hl 2 rfl) ?_
    refine lv_iconst (v := (1 : Int32)) hx hb dX8_digitOf_40 (by decide) ?_
    refine lv_aload_n hx hb dX8_digitOf_41 rfl (lv_at hl 0 rfl) ?_
    refine rd (ci := 8) (C := RX8) (T := TX8) (N := 10) hx hb hts inX8 hown hK hP 0 9 rfl rfl (by decide) (hts _ q_fX8_9) rfl dX8_digitOf_42 ?_
    refine lv_aload_n hx hb dX8_digitOf_45 rfl (lv_at hl 0 rfl) ?_
    refine rd (ci := 8) (C := RX8) (T := TX8) (N := 10) hx hb hts inX8 hown hK hP 0 8 rfl rfl (by decide) (hts _ q_fX8_54) rfl dX8_digitOf_46 ?_
    refine lv_iconst (v := (1 : Int32)) hx hb dX8_digitOf_49 (by decide) ?_
    refine lv_isub hx hb dX8_digitOf_50 ?_
    refine lv_iload_n hx hb dX8_digitOf_51 rfl (lv_at hl 1 rfl) ?_
    refine lv_isub hx hb dX8_digitOf_52 ?_
    refine lv_topi (fun i_6 ei_6 => ?_)
    have hf := nm_x ei_6 hf
    obtain ⟨g_7, hf⟩ := gd_x hf
    refine va_iald hx hb hK hP 1 0 rfl rfl (inb_x g_7) dX8_digitOf_53 ?_
    refine lv_ishl hx hb dX8_digitOf_54 ?_
    refine lv_iconst (v := (1 : Int32)) hx hb dX8_digitOf_55 (by decide) ?_
    refine lv_isub hx hb dX8_digitOf_56 ?_
    refine lv_iand hx hb dX8_digitOf_57 ?_
    cases hf
    exact hret _ _ _ _ dX8_digitOf_58 hP hD hS
  have j10 : ∀ (n : Nat) (v2 : Int32) (v3 : Int32) (v4 : Int32) (H : Heap) (locs : List Loc) (ls : Array Slot), fX8_digitOf_10 o_stages o_shifts n v2 v3 v4 = some r → va_P G vwCl (wX8_digitOf cI cJ cZ h_o h_o_shifts o_size o_log o_wordBits o_limit o_radix o_order o_near o_seed o_stages o_shifts) H → va_D A (wX8_digitOf cI cJ cZ h_o h_o_shifts o_size o_log o_wordBits o_limit o_radix o_order o_near o_seed o_stages o_shifts) → va_S A s.heap H locs → lv_has ls 5 [(0, .ref h_o), (2, .int v2), (3, .int v3), (4, .int v4)] → W p l e ({ frames := 0, cells := 0, slots := 0, locals := 0 } : Room) s m ([.ref h_o, .int p1, .int p2] : List Value).toArray below meth c H locs 0 0 Q (F0 m 10 ls []) := by
    intro n
    induction n with
    | zero =>
      intro v2 v3 v4 H locs ls hf
      have hf : (none : Option (Int32)) = some r := hf
      cases hf
    | succ n ih =>
      intro v2 v3 v4 H locs ls hf hP hD hS hl
      rw [fX8_digitOf_10.eq_2] at hf
      refine lv_iload hx hb dX8_digitOf_10 (lv_at hl 3 rfl) ?_
      refine lv_aload_n hx hb dX8_digitOf_12 rfl (lv_at hl 0 rfl) ?_
      refine rd (ci := 8) (C := RX8) (T := TX8) (N := 10) hx hb hts inX8 hown hK hP 0 8 rfl rfl (by decide) (hts _ q_fX8_54) rfl dX8_digitOf_13 ?_
      refine lv_iconst (v := (1 : Int32)) hx hb dX8_digitOf_16 (by decide) ?_
      refine lv_isub hx hb dX8_digitOf_17 ?_
      refine lv_iload_n hx hb dX8_digitOf_18 rfl (lv_at hl 1 rfl) ?_
      refine lv_isub hx hb dX8_digitOf_19 ?_
      refine lv_icmp_le (tgt := 39) hx hb dX8_digitOf_20 (by decide) (fun c_2 => ?_) (fun c_2 => ?_)
      · have hf := it_t c_2 hf
        exact j39 v2 v3 H locs ls hf hP hD hS (lv_sub hl [0, 1, 2] rfl)
      · have hf := it_f c_2 hf
        refine lv_iload_n hx hb dX8_digitOf_23 rfl (lv_at hl 2 rfl) ?_
        refine lv_aload_n hx hb dX8_digitOf_24 rfl (lv_at hl 0 rfl) ?_
        refine rd (ci := 8) (C := RX8) (T := TX8) (N := 10) hx hb hts inX8 hown hK hP 0 9 rfl rfl (by decide) (hts _ q_fX8_9) rfl dX8_digitOf_25 ?_
        refine lv_iload hx hb dX8_digitOf_28 (lv_at hl 3 rfl) ?_
        obtain ⟨g_3, hf⟩ := gd_x hf
        refine va_iald hx hb hK hP 1 0 rfl rfl (inb_x g_3) dX8_digitOf_30 ?_
        refine lv_ishr hx hb dX8_digitOf_31 ?_
        refine lv_topi (fun v3_4 ev3_4 => ?_)
        have hf := nm_x ev3_4 hf
        refine lv_istore_n (lv' := [(3, .int v3_4), (0, .ref h_o), (2, .int v2), (4, .int v4)]) hx hb dX8_digitOf_32 rfl hl (by decide) rfl (fun ls hl => ?_)
        obtain ⟨v4_5, ev4_5⟩ : ∃ y : Int32, y = v4 + (-1 : Int32) := ⟨_, rfl⟩
        have hf := nm_x ev4_5 hf
        refine lv_iinc (v := v4_5) (lv' := [(4, .int v4_5), (3, .int v3_4), (0, .ref h_o), (2, .int v2)]) hx hb dX8_digitOf_33 hl (k := 3) rfl (by rw [ev4_5]; rfl) (by decide) rfl (fun ls hl => ?_)
        refine lv_goto (tgt := 10) hx hb dX8_digitOf_36 (by decide) ?_
        exact ih v2 v3_4 v4_5 H locs ls hf hP hD hS (lv_sub hl [2, 3, 1, 0] rfl)
  unfold fX8_digitOf at hf
  obtain ⟨H, eH⟩ : ∃ H, H = s.heap := ⟨_, rfl⟩
  obtain ⟨locs, elocs⟩ : ∃ z : List Loc, z = [] := ⟨_, rfl⟩
  have hP : va_P G vwCl (wX8_digitOf cI cJ cZ h_o h_o_shifts o_size o_log o_wordBits o_limit o_radix o_order o_near o_seed o_stages o_shifts) H := by rw [eH]; exact hP
  have hS : va_S A s.heap H locs := by rw [eH, elocs]; exact hS
  suffices hgo : W p l e ({ frames := 0, cells := 0, slots := 0, locals := 0 } : Room) s m ([.ref h_o, .int p1, .int p2] : List Value).toArray below meth c H locs 0 0 Q (F0 m 0 ls []) by rw [eH, elocs] at hgo; exact hgo
  clear eH elocs
  refine lv_iload_n hx hb dX8_digitOf_0 rfl (lv_at hl 1 rfl) ?_
  refine lv_istore_n (lv' := [(3, .int p1), (0, .ref h_o), (1, .int p1), (2, .int p2)]) hx hb dX8_digitOf_1 rfl hl (by decide) rfl (fun ls hl => ?_)
  refine lv_aload_n hx hb dX8_digitOf_2 rfl (lv_at hl 1 rfl) ?_
  refine rd (ci := 8) (C := RX8) (T := TX8) (N := 10) hx hb hts inX8 hown hK hP 0 8 rfl rfl (by decide) (hts _ q_fX8_54) rfl dX8_digitOf_3 ?_
  refine lv_iconst (v := (1 : Int32)) hx hb dX8_digitOf_6 (by decide) ?_
  refine lv_isub hx hb dX8_digitOf_7 ?_
  refine lv_topi (fun v4_1 ev4_1 => ?_)
  have hf := nm_x ev4_1 hf
  refine lv_istore (lv' := [(4, .int v4_1), (3, .int p1), (0, .ref h_o), (1, .int p1), (2, .int p2)]) hx hb dX8_digitOf_8 hl (by decide) rfl (fun ls hl => ?_)
  exact j10 FU p2 p1 v4_1 H locs ls hf hP hD hS (lv_sub hl [2, 4, 1, 0] rfl)
def wX8_addedBeforeCut (cI cJ cZ : ClassId) (h_o h_o_shifts : Nat) (o_size : Int32) (o_log : Int32) (o_wordBits : Int32) (o_limit : Int32) (o_radix : Int32) (o_order : Int32) (o_near : Int32) (o_seed : Int32) (o_stages : Int32) : va_W := [(h_o, .inr (8, [.int o_size, .int o_log, .int o_wordBits, .int o_limit, .int o_radix, .int o_order, .int o_near, .int o_seed, .int o_stages, .ref h_o_shifts]))]
def fX8_addedBeforeCut (o_near : Int32) : Option (Int32) :=
  if o_near = (1 : Int32) then (
    some (8192 : Int32)
  ) else (
    some (0 : Int32)
  )
set_option maxHeartbeats 4000000 in
set_option maxRecDepth 100000 in
theorem tX8_addedBeforeCut (l : Launch) (G : va_G) (cI cJ cZ : ClassId) (sz : Nat) (h_o h_o_shifts : Nat) (o_size : Int32) (o_log : Int32) (o_wordBits : Int32) (o_limit : Int32) (o_radix : Int32) (o_order : Int32) (o_near : Int32) (o_seed : Int32) (o_stages : Int32) (r : Int32) (hf : fX8_addedBeforeCut o_near = some r) : Met l yX8_addedBeforeCut (Cond.code yX8_addedBeforeCut cX8_addedBeforeCut 1 (some .int) :: BIG) ({ frames := 0, cells := 0, slots := 0, locals := 0 } : Room) (cP G (TY3 cI cJ cZ) [.ref h_o] sz (wX8_addedBeforeCut cI cJ cZ h_o h_o_shifts o_size o_log o_wordBits o_limit o_radix o_order o_near o_seed o_stages)) (cQ G (TY3 cI cJ cZ) sz (wX8_addedBeforeCut cI cJ cZ h_o h_o_shifts o_size o_log o_wordBits o_limit o_radix o_order o_near o_seed o_stages) (wX8_addedBeforeCut cI cJ cZ h_o h_o_shifts o_size o_log o_wordBits o_limit o_radix o_order o_near o_seed o_stages) (some (.int r))) 0 0 (va_A (wX8_addedBeforeCut cI cJ cZ h_o h_o_shifts o_size o_log o_wordBits o_limit o_radix o_order o_near o_seed o_stages) sz) := by
  refine met_i (cc := cX8_addedBeforeCut) (maxL := 1) (plainFor_of_name (by decide)) (Nat.le_of_ble_eq_true rfl) (fun p e s m below meth c A ls Q hx hb hml hts hown hK hP hD hS hA hl hret => ?_)
  have hown : s.vm.findClass RX8 = some m.cls := hown
  have hl : lv_has ls 1 [(0, .ref h_o)] := hl
  unfold fX8_addedBeforeCut at hf
  obtain ⟨H, eH⟩ : ∃ H, H = s.heap := ⟨_, rfl⟩
  obtain ⟨locs, elocs⟩ : ∃ z : List Loc, z = [] := ⟨_, rfl⟩
  have hP : va_P G vwCl (wX8_addedBeforeCut cI cJ cZ h_o h_o_shifts o_size o_log o_wordBits o_limit o_radix o_order o_near o_seed o_stages) H := by rw [eH]; exact hP
  have hS : va_S A s.heap H locs := by rw [eH, elocs]; exact hS
  suffices hgo : W p l e ({ frames := 0, cells := 0, slots := 0, locals := 0 } : Room) s m ([.ref h_o] : List Value).toArray below meth c H locs 0 0 Q (F0 m 0 ls []) by rw [eH, elocs] at hgo; exact hgo
  clear eH elocs
  refine lv_aload_n hx hb dX8_addedBeforeCut_0 rfl (lv_at hl 0 rfl) ?_
  refine rd (ci := 8) (C := RX8) (T := TX8) (N := 10) hx hb hts inX8 hown hK hP 0 6 rfl rfl (by decide) (hts _ q_fX8_25) rfl dX8_addedBeforeCut_1 ?_
  refine lv_iconst (v := (1 : Int32)) hx hb dX8_addedBeforeCut_4 (by decide) ?_
  refine lv_icmp_ne (tgt := 14) hx hb dX8_addedBeforeCut_5 (by decide) (fun c_1 => ?_) (fun c_1 => ?_)
  · have hf := it_f c_1 hf
    refine lv_iconst (v := (0 : Int32)) hx hb dX8_addedBeforeCut_14 (by decide) ?_
    cases hf
    exact hret _ _ _ _ dX8_addedBeforeCut_15 hP hD hS
  · have hf := it_t c_1 hf
    refine lv_sipush (v := (8192 : Int32)) hx hb dX8_addedBeforeCut_8 (by decide) ?_
    refine lv_goto (tgt := 15) hx hb dX8_addedBeforeCut_11 (by decide) ?_
    cases hf
    exact hret _ _ _ _ dX8_addedBeforeCut_15 hP hD hS
def wX8_growOf (cI cJ cZ : ClassId) (h_o h_o_shifts : Nat) (o_size : Int32) (o_log : Int32) (o_wordBits : Int32) (o_limit : Int32) (o_radix : Int32) (o_order : Int32) (o_near : Int32) (o_seed : Int32) (o_stages : Int32) (o_shifts : Nat → Int32) : va_W := [(h_o, .inr (8, [.int o_size, .int o_log, .int o_wordBits, .int o_limit, .int o_radix, .int o_order, .int o_near, .int o_seed, .int o_stages, .ref h_o_shifts])), (h_o_shifts, .inl (cI, 5, .inl o_shifts))]
def fX8_growOf (o_order : Int32) (o_shifts : Nat → Int32) (p1 : Int32) : Option (Int32) :=
  gd (inb p1 5) (
  if (o_shifts (Int32.toNatClampNeg p1)) = (2 : Int32) then (
    some (12 : Int32)
  ) else (
    if o_order = 0 then (
      some (5 : Int32)
    ) else (
      some (6 : Int32)
    )
  ))
set_option maxHeartbeats 4000000 in
set_option maxRecDepth 100000 in
theorem tX8_growOf (l : Launch) (G : va_G) (cI cJ cZ : ClassId) (sz : Nat) (h_o h_o_shifts : Nat) (o_size : Int32) (o_log : Int32) (o_wordBits : Int32) (o_limit : Int32) (o_radix : Int32) (o_order : Int32) (o_near : Int32) (o_seed : Int32) (o_stages : Int32) (o_shifts : Nat → Int32) (p1 : Int32) (r : Int32) (hf : fX8_growOf o_order o_shifts p1 = some r) : Met l yX8_growOf (Cond.code yX8_growOf cX8_growOf 2 (some .int) :: BIG) ({ frames := 0, cells := 0, slots := 0, locals := 0 } : Room) (cP G (TY3 cI cJ cZ) [.ref h_o, .int p1] sz (wX8_growOf cI cJ cZ h_o h_o_shifts o_size o_log o_wordBits o_limit o_radix o_order o_near o_seed o_stages o_shifts)) (cQ G (TY3 cI cJ cZ) sz (wX8_growOf cI cJ cZ h_o h_o_shifts o_size o_log o_wordBits o_limit o_radix o_order o_near o_seed o_stages o_shifts) (wX8_growOf cI cJ cZ h_o h_o_shifts o_size o_log o_wordBits o_limit o_radix o_order o_near o_seed o_stages o_shifts) (some (.int r))) 0 0 (va_A (wX8_growOf cI cJ cZ h_o h_o_shifts o_size o_log o_wordBits o_limit o_radix o_order o_near o_seed o_stages o_shifts) sz) := by
  refine met_i (cc := cX8_growOf) (maxL := 2) (plainFor_of_name (by decide)) (Nat.le_of_ble_eq_true rfl) (fun p e s m below meth c A ls Q hx hb hml hts hown hK hP hD hS hA hl hret => ?_)
  have hown : s.vm.findClass RX8 = some m.cls := hown
  have hl : lv_has ls 2 [(0, .ref h_o), (1, .int p1)] := hl
  unfold fX8_growOf at hf
  obtain ⟨H, eH⟩ : ∃ H, H = s.heap := ⟨_, rfl⟩
  obtain ⟨locs, elocs⟩ : ∃ z : List Loc, z = [] := ⟨_, rfl⟩
  have hP : va_P G vwCl (wX8_growOf cI cJ cZ h_o h_o_shifts o_size o_log o_wordBits o_limit o_radix o_order o_near o_seed o_stages o_shifts) H := by rw [eH]; exact hP
  have hS : va_S A s.heap H locs := by rw [eH, elocs]; exact hS
  suffices hgo : W p l e ({ frames := 0, cells := 0, slots := 0, locals := 0 } : Room) s m ([.ref h_o, .int p1] : List Value).toArray below meth c H locs 0 0 Q (F0 m 0 ls []) by rw [eH, elocs] at hgo; exact hgo
  clear eH elocs
  refine lv_aload_n hx hb dX8_growOf_0 rfl (lv_at hl 0 rfl) ?_
  refine rd (ci := 8) (C := RX8) (T := TX8) (N := 10) hx hb hts inX8 hown hK hP 0 9 rfl rfl (by decide) (hts _ q_fX8_9) rfl dX8_growOf_1 ?_
  refine lv_iload_n hx hb dX8_growOf_4 rfl (lv_at hl 1 rfl) ?_
  obtain ⟨g_1, hf⟩ := gd_x hf
  refine va_iald hx hb hK hP 1 0 rfl rfl (inb_x g_1) dX8_growOf_5 ?_
  refine lv_iconst (v := (2 : Int32)) hx hb dX8_growOf_6 (by decide) ?_
  refine lv_icmp_ne (tgt := 13) hx hb dX8_growOf_7 (by decide) (fun c_2 => ?_) (fun c_2 => ?_)
  · have hf := it_f c_2 hf
    refine lv_aload_n hx hb dX8_growOf_13 rfl (lv_at hl 0 rfl) ?_
    refine rd (ci := 8) (C := RX8) (T := TX8) (N := 10) hx hb hts inX8 hown hK hP 0 5 rfl rfl (by decide) (hts _ q_fX8_51) rfl dX8_growOf_14 ?_
    refine lv_if_ne (tgt := 24) hx hb dX8_growOf_17 (by decide) (fun c_3 => ?_) (fun c_3 => ?_)
    · have hf := it_f c_3 hf
      refine lv_bipush (v := (6 : Int32)) hx hb dX8_growOf_24 (by decide) ?_
      cases hf
      exact hret _ _ _ _ dX8_growOf_26 hP hD hS
    · have hf := it_t c_3 hf
      refine lv_iconst (v := (5 : Int32)) hx hb dX8_growOf_20 (by decide) ?_
      refine lv_goto (tgt := 26) hx hb dX8_growOf_21 (by decide) ?_
      cases hf
      exact hret _ _ _ _ dX8_growOf_26 hP hD hS
  · have hf := it_t c_2 hf
    refine lv_bipush (v := (12 : Int32)) hx hb dX8_growOf_10 (by decide) ?_
    cases hf
    exact hret _ _ _ _ dX8_growOf_12 hP hD hS
