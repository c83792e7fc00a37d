/-! ===== the law's loop ===== -/
def LB (p : Program) (s : State) (m : MethodId) (c : Code) (b L : Nat) (xs : Nat → Int32) (G : va_G) (cI cJ cZ : ClassId) (A : Nat → Prop) : Prop :=
  p.tables.exec = Jvm.exec ∧ c.code = cL_law ∧ c.maxLocals = 7 ∧ s.vm.findClass RL = some m.cls ∧ (∀ w ∈ BIG, w.before #[Value.ref b] s = true) ∧ va_X b L xs s s.heap ∧ b < s.heap.size ∧ ¬ A b ∧ va_K G vwCl (TY3 cI cJ cZ) s ∧ (∀ q, s.heap.size ≤ q → A q) ∧ SX A s s.heap ∧ L ≤ 3072
theorem LB.le {p : Program} {s : State} {m : MethodId} {c : Code} {b L i cells slots : Nat} {xs : Nat → Int32} {G : va_G} {cI cJ cZ : ClassId} {A : Nat → Prop} (B : LB p s m c b L xs G cI cJ cZ A) (h1 : cells ≤ 1093) (h2 : slots ≤ 17153) (h3 : i + 6 ≤ L) : LE p s m c b L xs i G cI cJ cZ A cells slots := by
  obtain ⟨hx, hb, hml, hown, hts, hX, hbl, hbA, hK, hA, hSX, hL⟩ := B
  exact ⟨hx, hb, hml, hown, hts, hX, hbl, hbA, hK, hA, hSX, h1, h2, h3, hL⟩
theorem and63 (x : Int32) : ∃ k : Nat, k < 64 ∧ x &&& 63 = nI k := by
  refine ⟨(x &&& 63).toBitVec.toNat, ?_, ?_⟩
  · have h : (x &&& 63).toBitVec = x.toBitVec &&& 63#32 := rfl
    rw [h, BitVec.toNat_and]
    exact Nat.lt_of_le_of_lt Nat.and_le_right (by decide)
  · refine Int32.toBitVec_inj.mp ?_
    show _ = BitVec.ofNat 32 _
    rw [BitVec.ofNat_toNat, BitVec.setWidth_eq]
theorem le6 {i L : Nat} (hL : L ≤ 3072) (hi : i ≤ 3078) (h : ¬ Int32.ofNat L - 6 < nI i) : i + 6 ≤ L := by
  have e1 : (Int32.ofNat L).toInt = (L : Int) := nI_toInt (n := L) (by omega)
  have e2 : (nI i).toInt = (i : Int) := nI_toInt (by omega)
  rw [Int32.lt_iff_toInt_lt, Int32.toInt_sub, e1, e2, show (6 : Int32).toInt = 6 from by decide, Int.bmod_eq_of_le (by omega) (by omega)] at h
  omega
set_option maxHeartbeats 8000000 in
set_option maxRecDepth 100000 in
theorem lw_loop {p : Program} {l : Launch} {e : Env} {s : State} {m : MethodId} {below : List Frame} {meth : Method} {c : Code} {G : va_G} {cI cJ cZ : ClassId} {b L : Nat} {xs : Nat → Int32} {A : Nat → Prop} {h_o h_m h_x : Nat} {Q : State → Prop} (B : LB p s m c b L xs G cI cJ cZ A)
    (hpt : ∀ (i cells slots : Nat) (H : Heap) (locs : List Loc) (ls : Array Slot), LE p s m c b L xs i G cI cJ cZ A (cells + 1) (slots + 6) → LI G cI cJ cZ A s.heap H locs h_o h_m h_x → lv_has ls 7 (LV b h_o h_m h_x i) → (∀ (H1 : Heap) (locs1 : List Loc) (ls1 : Array Slot), LI G cI cJ cZ A s.heap H1 locs1 h_o h_m h_x → lv_has ls1 7 (LV b h_o h_m h_x i) → W p l e room_1 s m #[Value.ref b] below meth c H1 locs1 (cells + 1) (slots + 6) Q (F0 m 1821 ls1 [])) → W p l e room_1 s m #[Value.ref b] below meth c H locs cells slots Q (F0 m 403 ls []))
    (hend : ∀ (H : Heap) (locs : List Loc) (ls : Array Slot) (cells slots : Nat), cells ≤ 1093 → slots ≤ 17153 → va_S A s.heap H locs → W p l e room_1 s m #[Value.ref b] below meth c H locs cells slots Q (F0 m 1827 ls [])) :
    ∀ (d i cells slots : Nat) (H : Heap) (locs : List Loc) (ls : Array Slot), L < i + 6 * d + 6 → i ≤ 3078 → cells + d ≤ 1093 → slots + 6 * d ≤ 17153 → LI G cI cJ cZ A s.heap H locs h_o h_m h_x → lv_has ls 7 (LV b h_o h_m h_x i) → W p l e room_1 s m #[Value.ref b] below meth c H locs cells slots Q (F0 m 23 ls []) := by
  have B0 := B
  obtain ⟨hx, hb, hml, hown, hts, hX, hbl, hbA, hK, hA, hSX, hL⟩ := B0
  intro d
  induction d with
  | zero =>
    intro i cells slots H locs ls hd hi hc hs hI hl
    have hS : va_S A s.heap H locs := LI_el hI (fun _ _ _ hS => hS)
    refine lv_iload hx hb dL_law_23 (lv_at hl 4 rfl) ?_
    refine lv_aload_n hx hb dL_law_25 rfl (lv_at hl 0 rfl) ?_
    refine va_slen hx hb hX hbl hbA hS dL_law_26 ?_
    refine lv_bipush (v := 6) hx hb dL_law_27 (by decide) ?_
    refine lv_isub hx hb dL_law_29 ?_
    refine lv_icmp_gt (tgt := 1827) hx hb dL_law_30 (by decide) (fun _ => hend _ _ _ _ _ (by omega) (by omega) hS) (fun c0 => ?_)
    have := le6 hL hi c0
    omega
  | succ d ih =>
    intro i cells slots H locs ls hd hi hc hs hI hl
    have hS : va_S A s.heap H locs := LI_el hI (fun _ _ _ hS => hS)
    refine lv_iload hx hb dL_law_23 (lv_at hl 4 rfl) ?_
    refine lv_aload_n hx hb dL_law_25 rfl (lv_at hl 0 rfl) ?_
    refine va_slen hx hb hX hbl hbA hS dL_law_26 ?_
    refine lv_bipush (v := 6) hx hb dL_law_27 (by decide) ?_
    refine lv_isub hx hb dL_law_29 ?_
    refine lv_icmp_gt (tgt := 1827) hx hb dL_law_30 (by decide) (fun _ => hend _ _ _ _ _ (by omega) (by omega) hS) (fun c0 => ?_)
    have h6 := le6 hL hi c0
    have E : LE p s m c b L xs i G cI cJ cZ A cells slots := B.le (by omega) (by omega) h6
    have tail : ∀ (H1 : Heap) (locs1 : List Loc) (ls1 : Array Slot) (cells1 slots1 : Nat), cells1 ≤ cells + 1 → slots1 ≤ slots + 6 → LI G cI cJ cZ A s.heap H1 locs1 h_o h_m h_x → lv_has ls1 7 (LV b h_o h_m h_x i) → W p l e room_1 s m #[Value.ref b] below meth c H1 locs1 cells1 slots1 Q (F0 m 1821 ls1 []) := by
      intro H1 locs1 ls1 cells1 slots1 g1 g2 hI1 hl1
      refine lv_iinc (k := 4) hx hb dL_law_1821 hl1 rfl (nI_add i 6) (by decide) rfl (fun ls2 hl2 => ?_)
      refine lv_goto (tgt := 23) hx hb dL_law_1824 (by decide) ?_
      exact ih (i + 6) cells1 slots1 H1 locs1 ls2 (by omega) (by omega) (by omega) (by omega) hI1 (lv_sub hl2 [1, 2, 3, 4, 0] rfl)
    have t0 : ∀ (H1 : Heap) (locs1 : List Loc), LI G cI cJ cZ A s.heap H1 locs1 h_o h_m h_x → W p l e room_1 s m #[Value.ref b] below meth c H1 locs1 cells slots Q (F0 m 1821 ls []) := fun H1 locs1 hI1 => tail H1 locs1 ls cells slots (by omega) (by omega) hI1 hl
    clear ih
    refine lv_aload_n hx hb dL_law_33 rfl (lv_at hl 0 rfl) ?_
    refine lv_iload hx hb dL_law_34 (lv_at hl 4 rfl) ?_
    refine va_sld hx hb hX hbl hbA hS (vp_in_nI (by omega) (by omega)) dL_law_36 ?_
    refine lv_bipush (v := 63) hx hb dL_law_37 (by decide) ?_
    refine lv_iand hx hb dL_law_39 ?_
    obtain ⟨k, hk, ek⟩ := and63 (xs (nI i).toNatClampNeg)
    rw [ek]
    clear ek c0
    by_cases e0 : k = 0
    · subst e0
      exact lv_tableIn (tgt := 280) hx hb dL_law_40 (by decide +kernel) (by decide +kernel) rfl (by decide) (LI_el hI (fun hR hP hD hS => lw_feed E hR hP hD hS hl t0))
    by_cases e1 : k = 1
    · subst e1
      exact lv_tableIn (tgt := 353) hx hb dL_law_40 (by decide +kernel) (by decide +kernel) rfl (by decide) (LI_el hI (fun hR hP hD hS => lw_text E hR hP hD hS hl t0))
    by_cases e2 : k = 2
    · subst e2
      exact lv_tableIn (tgt := 378) hx hb dL_law_40 (by decide +kernel) (by decide +kernel) rfl (by decide) (LI_el hI (fun hR hP hD hS => lw_fault E hR hP hD hS hl t0))
    by_cases e3 : k = 3
    · subst e3
      exact lv_tableIn (tgt := 403) hx hb dL_law_40 (by decide +kernel) (by decide +kernel) rfl (by decide) (hpt i cells slots H locs ls (B.le (by omega) (by omega) h6) hI hl (fun H1 locs1 ls1 hI1 hl1 => tail H1 locs1 ls1 _ _ (Nat.le_refl _) (Nat.le_refl _) hI1 hl1))
    by_cases e4 : k = 4
    · subst e4
      exact lv_tableIn (tgt := 471) hx hb dL_law_40 (by decide +kernel) (by decide +kernel) rfl (by decide) (LI_el hI (fun hR hP hD hS => lw_turn E hR hP hD hS hl t0))
    by_cases e5 : k = 5
    · subst e5
      exact lv_tableIn (tgt := 508) hx hb dL_law_40 (by decide +kernel) (by decide +kernel) rfl (by decide) (LI_el hI (fun hR hP hD hS => lw_reversed E hR hP hD hS hl t0))
    by_cases e6 : k = 6
    · subst e6
      exact lv_tableIn (tgt := 533) hx hb dL_law_40 (by decide +kernel) (by decide +kernel) rfl (by decide) (LI_el hI (fun hR hP hD hS => lw_stage E hR hP hD hS hl t0))
    by_cases e7 : k = 7
    · subst e7
      exact lv_tableIn (tgt := 570) hx hb dL_law_40 (by decide +kernel) (by decide +kernel) rfl (by decide) (LI_el hI (fun hR hP hD hS => lw_set E hR hP hD hS hl t0))
    by_cases e8 : k = 8
    · subst e8
      exact lv_tableIn (tgt := 619) hx hb dL_law_40 (by decide +kernel) (by decide +kernel) rfl (by decide) (LI_el hI (fun hR hP hD hS => lw_beat E hR hP hD hS hl t0))
    by_cases e9 : k = 9
    · subst e9
      exact lv_tableIn (tgt := 632) hx hb dL_law_40 (by decide +kernel) (by decide +kernel) rfl (by decide) (LI_el hI (fun hR hP hD hS => lw_beatAll E hR hP hD hS hl t0))
    by_cases e10 : k = 10
    · subst e10
      exact lv_tableIn (tgt := 645) hx hb dL_law_40 (by decide +kernel) (by decide +kernel) rfl (by decide) (LI_el hI (fun hR hP hD hS => lw_turnBack E hR hP hD hS hl t0))
    by_cases e11 : k = 11
    · subst e11
      exact lv_tableIn (tgt := 658) hx hb dL_law_40 (by decide +kernel) (by decide +kernel) rfl (by decide) (LI_el hI (fun hR hP hD hS => lw_ahead E hR hP hD hS hl t0))
    by_cases e12 : k = 12
    · subst e12
      exact lv_tableIn (tgt := 695) hx hb dL_law_40 (by decide +kernel) (by decide +kernel) rfl (by decide) (LI_el hI (fun hR hP hD hS => lw_largest E hR hP hD hS hl t0))
    by_cases e13 : k = 13
    · subst e13
      exact lv_tableIn (tgt := 708) hx hb dL_law_40 (by decide +kernel) (by decide +kernel) rfl (by decide) (LI_el hI (fun hR hP hD hS => lw_left E hR hP hD hS hl t0))
    by_cases e14 : k = 14
    · subst e14
      exact lv_tableIn (tgt := 721) hx hb dL_law_40 (by decide +kernel) (by decide +kernel) rfl (by decide) (LI_el hI (fun hR hP hD hS => lw_bits E hR hP hD hS hl t0))
    by_cases e15 : k = 15
    · subst e15
      exact lv_tableIn (tgt := 734) hx hb dL_law_40 (by decide +kernel) (by decide +kernel) rfl (by decide) (LI_el hI (fun hR hP hD hS => lw_direct E hR hP hD hS hl t0))
    by_cases e16 : k = 16
    · subst e16
      exact lv_tableIn (tgt := 772) hx hb dL_law_40 (by decide +kernel) (by decide +kernel) rfl (by decide) (LI_el hI (fun hR hP hD hS => lw_off E hR hP hD hS hl t0))
    by_cases e17 : k = 17
    · subst e17
      exact lv_tableIn (tgt := 798) hx hb dL_law_40 (by decide +kernel) (by decide +kernel) rfl (by decide) (LI_el hI (fun hR hP hD hS => lw_worst E hR hP hD hS hl t0))
    by_cases e18 : k = 18
    · subst e18
      exact lv_tableIn (tgt := 824) hx hb dL_law_40 (by decide +kernel) (by decide +kernel) rfl (by decide) (LI_el hI (fun hR hP hD hS => lw_apart E hR hP hD hS hl t0))
    by_cases e19 : k = 19
    · subst e19
      exact lv_tableIn (tgt := 838) hx hb dL_law_40 (by decide +kernel) (by decide +kernel) rfl (by decide) (LI_el hI (fun hR hP hD hS => lw_energy E hR hP hD hS hl t0))
    by_cases e20 : k = 20
    · subst e20
      exact lv_tableIn (tgt := 864) hx hb dL_law_40 (by decide +kernel) (by decide +kernel) rfl (by decide) (LI_el hI (fun hR hP hD hS => lw_grown E hR hP hD hS hl t0))
    by_cases e21 : k = 21
    · subst e21
      exact lv_tableIn (tgt := 889) hx hb dL_law_40 (by decide +kernel) (by decide +kernel) rfl (by decide) (LI_el hI (fun hR hP hD hS => lw_returned E hR hP hD hS hl t0))
    by_cases e22 : k = 22
    · subst e22
      exact lv_tableIn (tgt := 903) hx hb dL_law_40 (by decide +kernel) (by decide +kernel) rfl (by decide) (LI_el hI (fun hR hP hD hS => lw_taper E hR hP hD hS hl t0))
    by_cases e23 : k = 23
    · subst e23
      exact lv_tableIn (tgt := 916) hx hb dL_law_40 (by decide +kernel) (by decide +kernel) rfl (by decide) (LI_el hI (fun hR hP hD hS => lw_shift E hR hP hD hS hl t0))
    by_cases e24 : k = 24
    · subst e24
      exact lv_tableIn (tgt := 941) hx hb dL_law_40 (by decide +kernel) (by decide +kernel) rfl (by decide) (LI_el hI (fun hR hP hD hS => lw_peak E hR hP hD hS hl t0))
    by_cases e25 : k = 25
    · subst e25
      exact lv_tableIn (tgt := 966) hx hb dL_law_40 (by decide +kernel) (by decide +kernel) rfl (by decide) (LI_el hI (fun hR hP hD hS => lw_over E hR hP hD hS hl t0))
    by_cases e26 : k = 26
    · subst e26
      exact lv_tableIn (tgt := 991) hx hb dL_law_40 (by decide +kernel) (by decide +kernel) rfl (by decide) (LI_el hI (fun hR hP hD hS => lw_noise E hR hP hD hS hl t0))
    by_cases e27 : k = 27
    · subst e27
      exact lv_tableIn (tgt := 1028) hx hb dL_law_40 (by decide +kernel) (by decide +kernel) rfl (by decide) (LI_el hI (fun hR hP hD hS => lw_best E hR hP hD hS hl t0))
    by_cases e28 : k = 28
    · subst e28
      exact lv_tableIn (tgt := 1041) hx hb dL_law_40 (by decide +kernel) (by decide +kernel) rfl (by decide) (LI_el hI (fun hR hP hD hS => lw_digit E hR hP hD hS hl t0))
    by_cases e29 : k = 29
    · subst e29
      exact lv_tableIn (tgt := 1078) hx hb dL_law_40 (by decide +kernel) (by decide +kernel) rfl (by decide) (LI_el hI (fun hR hP hD hS => lw_mirror E hR hP hD hS hl t0))
    by_cases e30 : k = 30
    · subst e30
      exact lv_tableIn (tgt := 1091) hx hb dL_law_40 (by decide +kernel) (by decide +kernel) rfl (by decide) (LI_el hI (fun hR hP hD hS => lw_loudest E hR hP hD hS hl t0))
    by_cases e31 : k = 31
    · subst e31
      exact lv_tableIn (tgt := 1104) hx hb dL_law_40 (by decide +kernel) (by decide +kernel) rfl (by decide) (LI_el hI (fun hR hP hD hS => lw_swing E hR hP hD hS hl t0))
    by_cases e32 : k = 32
    · subst e32
      exact lv_tableIn (tgt := 1142) hx hb dL_law_40 (by decide +kernel) (by decide +kernel) rfl (by decide) (LI_el hI (fun hR hP hD hS => lw_room E hR hP hD hS hl t0))
    by_cases e33 : k = 33
    · subst e33
      exact lv_tableIn (tgt := 1179) hx hb dL_law_40 (by decide +kernel) (by decide +kernel) rfl (by decide) (LI_el hI (fun hR hP hD hS => lw_foldWhole E hR hP hD hS hl t0))
    by_cases e34 : k = 34
    · subst e34
      exact lv_tableIn (tgt := 1205) hx hb dL_law_40 (by decide +kernel) (by decide +kernel) rfl (by decide) (LI_el hI (fun hR hP hD hS => lw_crossed E hR hP hD hS hl t0))
    by_cases e35 : k = 35
    · subst e35
      exact lv_tableIn (tgt := 1231) hx hb dL_law_40 (by decide +kernel) (by decide +kernel) rfl (by decide) (LI_el hI (fun hR hP hD hS => lw_lag E hR hP hD hS hl t0))
    by_cases e36 : k = 36
    · subst e36
      exact lv_tableIn (tgt := 1244) hx hb dL_law_40 (by decide +kernel) (by decide +kernel) rfl (by decide) (LI_el hI (fun hR hP hD hS => lw_sweep E hR hP hD hS hl t0))
    by_cases e37 : k = 37
    · subst e37
      exact lv_tableIn (tgt := 1269) hx hb dL_law_40 (by decide +kernel) (by decide +kernel) rfl (by decide) (LI_el hI (fun hR hP hD hS => lw_louder E hR hP hD hS hl t0))
    by_cases e38 : k = 38
    · subst e38
      exact lv_tableIn (tgt := 1294) hx hb dL_law_40 (by decide +kernel) (by decide +kernel) rfl (by decide) (LI_el hI (fun hR hP hD hS => lw_turnRound E hR hP hD hS hl t0))
    by_cases e39 : k = 39
    · subst e39
      exact lv_tableIn (tgt := 1307) hx hb dL_law_40 (by decide +kernel) (by decide +kernel) rfl (by decide) (LI_el hI (fun hR hP hD hS => lw_pair E hR hP hD hS hl t0))
    by_cases e40 : k = 40
    · subst e40
      exact lv_tableIn (tgt := 1356) hx hb dL_law_40 (by decide +kernel) (by decide +kernel) rfl (by decide) (LI_el hI (fun hR hP hD hS => lw_like E hR hP hD hS hl t0))
    by_cases e41 : k = 41
    · subst e41
      exact lv_tableIn (tgt := 1382) hx hb dL_law_40 (by decide +kernel) (by decide +kernel) rfl (by decide) (LI_el hI (fun hR hP hD hS => lw_period E hR hP hD hS hl t0))
    by_cases e42 : k = 42
    · subst e42
      exact lv_tableIn (tgt := 1395) hx hb dL_law_40 (by decide +kernel) (by decide +kernel) rfl (by decide) (LI_el hI (fun hR hP hD hS => lw_bin E hR hP hD hS hl t0))
    by_cases e43 : k = 43
    · subst e43
      exact lv_tableIn (tgt := 1420) hx hb dL_law_40 (by decide +kernel) (by decide +kernel) rfl (by decide) (LI_el hI (fun hR hP hD hS => lw_fold E hR hP hD hS hl t0))
    by_cases e44 : k = 44
    · subst e44
      exact lv_tableIn (tgt := 1445) hx hb dL_law_40 (by decide +kernel) (by decide +kernel) rfl (by decide) (LI_el hI (fun hR hP hD hS => lw_unfold E hR hP hD hS hl t0))
    by_cases e45 : k = 45
    · subst e45
      exact lv_tableIn (tgt := 1494) hx hb dL_law_40 (by decide +kernel) (by decide +kernel) rfl (by decide) (LI_el hI (fun hR hP hD hS => lw_note E hR hP hD hS hl t0))
    by_cases e46 : k = 46
    · subst e46
      exact lv_tableIn (tgt := 1559) hx hb dL_law_40 (by decide +kernel) (by decide +kernel) rfl (by decide) (LI_el hI (fun hR hP hD hS => lw_strike E hR hP hD hS hl t0))
    by_cases e47 : k = 47
    · subst e47
      exact lv_tableIn (tgt := 1584) hx hb dL_law_40 (by decide +kernel) (by decide +kernel) rfl (by decide) (LI_el hI (fun hR hP hD hS => lw_known E hR hP hD hS hl t0))
    by_cases e48 : k = 48
    · subst e48
      exact lv_tableIn (tgt := 1609) hx hb dL_law_40 (by decide +kernel) (by decide +kernel) rfl (by decide) (LI_el hI (fun hR hP hD hS => lw_values E hR hP hD hS hl t0))
    by_cases e49 : k = 49
    · subst e49
      exact lv_tableIn (tgt := 1634) hx hb dL_law_40 (by decide +kernel) (by decide +kernel) rfl (by decide) (LI_el hI (fun hR hP hD hS => lw_ask E hR hP hD hS hl t0))
    by_cases e50 : k = 50
    · subst e50
      exact lv_tableIn (tgt := 1671) hx hb dL_law_40 (by decide +kernel) (by decide +kernel) rfl (by decide) (LI_el hI (fun hR hP hD hS => lw_chance E hR hP hD hS hl t0))
    by_cases e51 : k = 51
    · subst e51
      exact lv_tableIn (tgt := 1720) hx hb dL_law_40 (by decide +kernel) (by decide +kernel) rfl (by decide) (LI_el hI (fun hR hP hD hS => lw_tried E hR hP hD hS hl t0))
    by_cases e52 : k = 52
    · subst e52
      exact lv_tableIn (tgt := 1757) hx hb dL_law_40 (by decide +kernel) (by decide +kernel) rfl (by decide) (LI_el hI (fun hR hP hD hS => lw_undo E hR hP hD hS hl t0))
    by_cases e53 : k = 53
    · subst e53
      exact lv_tableIn (tgt := 1770) hx hb dL_law_40 (by decide +kernel) (by decide +kernel) rfl (by decide) (LI_el hI (fun hR hP hD hS => lw_keep E hR hP hD hS hl t0))
    by_cases e54 : k = 54
    · subst e54
      exact lv_tableIn (tgt := 1783) hx hb dL_law_40 (by decide +kernel) (by decide +kernel) rfl (by decide) (LI_el hI (fun hR hP hD hS => lw_back E hR hP hD hS hl t0))
    by_cases e55 : k = 55
    · subst e55
      exact lv_tableIn (tgt := 1796) hx hb dL_law_40 (by decide +kernel) (by decide +kernel) rfl (by decide) (LI_el hI (fun hR hP hD hS => lw_count E hR hP hD hS hl t0))
    refine lv_tableOut (tgt := 1821) hx hb dL_law_40 (Or.inr ?_) (by decide) (t0 _ _ hI)
    rw [nI_toInt (by omega)]
    omega
