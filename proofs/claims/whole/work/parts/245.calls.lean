/-! ===== best ===== -/
def chR (ch : Nat) : Nat := if ch / 2 % 2 = 0 then 2 else 4
theorem chC_t : (List.range 8).all (fun ch => decide (nI ch &&& (1 : Int32) = nI (ch % 2)) && (decide (nI ch >>> ((2 : Int32) &&& 31) = nI (ch / 4)) && (decide (((nI ch &&& (2 : Int32)) = 0) = (chR ch = 2)) && (decide (nI ch / (4 : Int32) = nI (ch / 4)) && (decide (fX10_isOf (nI ch) 1 = some (if chR ch = 2 then 0 else 1)) && decide (nI ch - nI ch / (2 : Int32) * (2 : Int32) = nI (ch % 2))))))) = true := by decide +kernel
theorem ch_x {ch : Nat} (h : ch < 8) : nI ch &&& (1 : Int32) = nI (ch % 2) ∧ nI ch >>> ((2 : Int32) &&& 31) = nI (ch / 4) ∧ ((nI ch &&& (2 : Int32)) = 0) = (chR ch = 2) ∧ nI ch / (4 : Int32) = nI (ch / 4) ∧ fX10_isOf (nI ch) 1 = some (if chR ch = 2 then 0 else 1) ∧ nI ch - nI ch / (2 : Int32) * (2 : Int32) = nI (ch % 2) := by
  have h1 := all_x chC_t h
  simp only [Bool.and_eq_true, decide_eq_true_eq] at h1
  exact h1
theorem chR_x (ch : Nat) : chR ch = 2 ∨ chR ch = 4 := by
  unfold chR
  split
  · exact Or.inl rfl
  · exact Or.inr rfl
/-- how far off a wave run so is at a place -/
noncomputable def ofW (M rad ord nr lim : Nat) (c s : Nat → Int32) (w : RowZ) (k : Nat) : Int64 := offV ((runT M rad ord nr lim c s w).1.1 k) ((runT M rad ord nr lim c s w).1.2 k) (nI (tS M rad ord nr lim c s w)) (dirS M c s w k 0) (dirS M c s w k 1)
/-- .. at its worst -/
noncomputable def wsW (M rad ord nr lim : Nat) (c s : Nat → Int32) (w : RowZ) : Int64 := ofW M rad ord nr lim c s w (itr (fstG (ofW M rad ord nr lim c s w)) 1 (2 ^ M - 1) 0)
theorem offV_lt {M S t k i : Nat} {c s : Nat → Int32} {z w : RowZ} (hM : isM M) (hk : k < 2 ^ M) (hT : TBB c s) (hS : SB M z S t) (ht : t ≤ 5) (hB : BDz M w (2 ^ 15)) : (offV (z.1 k) (z.2 k) (nI S) (dirS M c s w k 0) (dirS M c s w k 1)).toInt < 2 ^ 62 := by
  obtain ⟨s1, s2, s3⟩ := SB_sh hS hk
  have h36 : 2 ^ (16 + 4 * t) ≤ 2 ^ 36 := Nat.pow_le_pow_right (by decide) (by omega)
  obtain ⟨a1, a2⟩ := shl_toInt (B := 2 ^ 36) (show S ≤ 62 by omega) (Nat.le_trans s2 h36) (by decide)
  obtain ⟨b1, b2⟩ := shl_toInt (B := 2 ^ 36) (show S ≤ 62 by omega) (Nat.le_trans s3 h36) (by decide)
  have d0 := dirS_bd (k := k) (i := 0) hM hT hB
  have d1 := dirS_bd (k := k) (i := 1) hM hT hB
  have hab : ∀ {v d : Int64}, v.toInt.natAbs ≤ 2 ^ 36 → ab6 d ≤ 2 ^ 36 → (abL (v * 16384 - d)).toInt < 2 ^ 62 := fun {v d} hv hd => by
    unfold ab6 at hd
    have e1 : (v * 16384).toInt = v.toInt * 16384 := i64_mul (by show _ ≤ v.toInt * 16384; omega) (by show v.toInt * 16384 < _; omega)
    have e2 : (v * 16384 - d).toInt = v.toInt * 16384 - d.toInt := by rw [i64_sub (by rw [e1]; omega) (by rw [e1]; omega), e1]
    unfold abL
    split
    · rw [e2]; omega
    · rw [Int64.toInt_neg, e2, bm64 (by omega) (by omega)]; omega
  unfold offV mxL
  split
  · exact hab (by rw [a1]; exact a2) d0
  · exact hab (by rw [b1]; exact b2) d1
theorem wsW_lt {M rad ord nr lim : Nat} {c s : Nat → Int32} {w : RowZ} (hc : CFG M rad ord nr lim) (hT : TBB c s) (hB : BDz M w (2 ^ 15)) : ¬ ((9223372036854775807 : Int64) ≤ wsW M rad ord nr lim c s w) := by
  obtain ⟨hM, hr, -⟩ := id hc
  have hN := isM_pow hM
  have hB16 : BDz M w (2 ^ 16) := fun p hp => by have := hB p hp; omega
  have hq : itr (fstG (ofW M rad ord nr lim c s w)) 1 (2 ^ M - 1) 0 < 2 ^ M := by
    have := itr_J (step := fstG (ofW M rad ord nr lim c s w)) (J := fun i best => best < i ∧ i ≤ 2 ^ M) (N := 2 ^ M) (fun i best hi hb => by unfold fstG; split <;> omega) (2 ^ M - 1) 1 0 (by omega) (by omega)
    omega
  have h2 := offV_lt (i := 0) hM hq hT (runT_SB hc hT hB16) (nst_le hM hr).2 hB
  rw [Int64.le_iff_toInt_le]
  have h3 : (9223372036854775807 : Int64).toInt = 9223372036854775807 := by decide
  rw [h3]
  intro h4
  have h5 : (wsW M rad ord nr lim c s w).toInt < 2 ^ 62 := h2
  omega
theorem best_ci {M bits rad ord nr sd ch : Nat} {o_turns_cos o_turns_sin o_wave_wasRe o_wave_wasIm : Nat → Int32} {o_sumsIm o_sumsRe : Nat → Int64} (hC : CF M bits rad ord nr sd) (hT : TBB o_turns_cos o_turns_sin) (hB : BDz M (o_wave_wasRe, o_wave_wasIm) (2 ^ 16)) (hch : ch < 8) (hs : ∀ k, k < 2 ^ M → o_sumsRe k = dirS M o_turns_cos o_turns_sin (o_wave_wasRe, o_wave_wasIm) k 0 ∧ o_sumsIm k = dirS M o_turns_cos o_turns_sin (o_wave_wasRe, o_wave_wasIm) k 1) (n : Nat) (o_trial_exp : Int32) (o_trial_done : Int32) (o_trial_backward : Int32) (o_trialWay_size : Int32) (o_trialWay_log : Int32) (o_trialWay_wordBits : Int32) (o_trialWay_limit : Int32) (o_trialWay_radix : Int32) (o_trialWay_order : Int32) (o_trialWay_near : Int32) (o_trialWay_seed : Int32) (o_trialWay_stages : Int32) (o_beater_spareIm : Nat → Int32) (o_beater_spareRe : Nat → Int32) (o_beater_wingIm : Nat → Int32) (o_beater_wingRe : Nat → Int32) (o_trial_halved : Nat → Int32) (o_trial_im : Nat → Int32) (o_trial_re : Nat → Int32) (o_trialWay_shifts : Nat → Int32) (v1 : Int32) (v2 : Int64) :
    ∃ a1 a2 a3 a4 a5 a6 a7 a8 a9 a10 a11 a12 a13 a14 a15 a16 a17 a18 a19 a20, fX9_best_13 (nI (2 ^ M)) (nI M) (nI bits) (nI rad) (nI ord) (nI nr) (nI sd) o_turns_cos o_turns_sin o_wave_wasIm o_wave_wasRe (n + 1) o_sumsIm o_sumsRe o_trial_exp o_trial_done o_trial_backward o_trialWay_size o_trialWay_log o_trialWay_wordBits o_trialWay_limit o_trialWay_radix o_trialWay_order o_trialWay_near o_trialWay_seed o_trialWay_stages o_beater_spareIm o_beater_spareRe o_beater_wingIm o_beater_wingRe o_trial_halved o_trial_im o_trial_re o_trialWay_shifts v1 v2 (nI ch) =
      fX9_best_13 (nI (2 ^ M)) (nI M) (nI bits) (nI rad) (nI ord) (nI nr) (nI sd) o_turns_cos o_turns_sin o_wave_wasIm o_wave_wasRe n o_sumsIm o_sumsRe a1 a2 a3 a4 a5 a6 a7 a8 a9 a10 a11 a12 a13 a14 a15 a16 a17 a18 a19 a20 (if v2 ≤ wsW M (chR ch) (ch / 4) (ch % 2) (lmN bits) o_turns_cos o_turns_sin (o_wave_wasRe, o_wave_wasIm) then v1 else nI ch) (if v2 ≤ wsW M (chR ch) (ch / 4) (ch % 2) (lmN bits) o_turns_cos o_turns_sin (o_wave_wasRe, o_wave_wasIm) then v2 else wsW M (chR ch) (ch / 4) (ch % 2) (lmN bits) o_turns_cos o_turns_sin (o_wave_wasRe, o_wave_wasIm)) (nI (ch + 1)) := by
  obtain ⟨hM, hbits, hr, ho, hn, hsd⟩ := id hC
  have hN := isM_pow hM
  obtain ⟨c1, c2, c3, -⟩ := ch_x hch
  have hcR : isRad (chR ch) := chR_x ch
  have hc : CFG M (chR ch) (ch / 4) (ch % 2) (lmN bits) := ⟨hM, hcR, by omega, by omega, lm_x hbits⟩
  obtain ⟨sh', e1, e2⟩ := copyFrom_eq hC o_trialWay_size o_trialWay_log o_trialWay_wordBits o_trialWay_limit o_trialWay_radix o_trialWay_order o_trialWay_near o_trialWay_seed o_trialWay_stages o_trialWay_shifts
  obtain ⟨sh2, d1, d2⟩ := takeShape_eq (rad := chR ch) (ord := ch / 4) hM hcR (by omega) (nI rad) (nI ord) (nI (nst M rad)) sh'
  obtain ⟨im', re', r1, r2⟩ := restartFrom_eq o_trial_exp o_trial_done o_trial_backward o_wave_wasIm o_wave_wasRe o_trial_im o_trial_re
  obtain ⟨ha2, im2, re2, si2, sr2, wi2, wr2, f1, f2⟩ := class_run hc d2 hT hB r2 o_trial_halved o_beater_spareIm o_beater_spareRe o_beater_wingIm o_beater_wingRe
  obtain ⟨q, hq, w1, w2⟩ := worstPlace_eq hM (nI (tS M (chR ch) (ch / 4) (ch % 2) (lmN bits) o_turns_cos o_turns_sin (o_wave_wasRe, o_wave_wasIm))) im2 re2 o_sumsIm o_sumsRe (ofW M (chR ch) (ch / 4) (ch % 2) (lmN bits) o_turns_cos o_turns_sin (o_wave_wasRe, o_wave_wasIm)) (fun k hk => by
    have := f2 k (by omega)
    dsimp only at this
    rw [(hs k hk).1, (hs k hk).2, this.1, this.2]
    rfl)
  have hoff : fX9_offSums (nI (tS M (chR ch) (ch / 4) (ch % 2) (lmN bits) o_turns_cos o_turns_sin (o_wave_wasRe, o_wave_wasIm))) im2 re2 o_sumsIm o_sumsRe (nI q) = some (wsW M (chR ch) (ch / 4) (ch % 2) (lmN bits) o_turns_cos o_turns_sin (o_wave_wasRe, o_wave_wasIm)) := by
    have := f2 q (by omega)
    dsimp only at this
    rw [offSums_eq (by omega), (hs q hq).1, (hs q hq).2, this.1, this.2, w2]
    rfl
  have e58 : ∀ s1 : Int32, s1 = nI (chR ch) → ∃ a1 a2 a3 a4 a5 a6 a7 a8 a9 a10 a11 a12 a13 a14 a15 a16 a17 a18 a19 a20, fX9_best_58 (nI (2 ^ M)) (nI M) (nI bits) (nI rad) (nI ord) (nI nr) (nI sd) o_turns_cos o_turns_sin o_wave_wasIm o_wave_wasRe (fX9_best_13 (nI (2 ^ M)) (nI M) (nI bits) (nI rad) (nI ord) (nI nr) (nI sd) o_turns_cos o_turns_sin o_wave_wasIm o_wave_wasRe n) o_sumsIm o_sumsRe o_trial_exp o_trial_done o_trial_backward (nI (2 ^ M)) (nI M) (nI bits) (nI (lmN bits)) (nI rad) (nI ord) (nI (ch % 2)) (nI sd) (nI (nst M rad)) o_beater_spareIm o_beater_spareRe o_beater_wingIm o_beater_wingRe o_trial_halved o_trial_im o_trial_re sh' v1 v2 (nI ch) s1 =
      fX9_best_13 (nI (2 ^ M)) (nI M) (nI bits) (nI rad) (nI ord) (nI nr) (nI sd) o_turns_cos o_turns_sin o_wave_wasIm o_wave_wasRe n o_sumsIm o_sumsRe a1 a2 a3 a4 a5 a6 a7 a8 a9 a10 a11 a12 a13 a14 a15 a16 a17 a18 a19 a20 (if v2 ≤ wsW M (chR ch) (ch / 4) (ch % 2) (lmN bits) o_turns_cos o_turns_sin (o_wave_wasRe, o_wave_wasIm) then v1 else nI ch) (if v2 ≤ wsW M (chR ch) (ch / 4) (ch % 2) (lmN bits) o_turns_cos o_turns_sin (o_wave_wasRe, o_wave_wasIm) then v2 else wsW M (chR ch) (ch / 4) (ch % 2) (lmN bits) o_turns_cos o_turns_sin (o_wave_wasRe, o_wave_wasIm)) (nI (ch + 1)) := by
    intro s1 es
    unfold fX9_best_58 fX9_best_125
    simp only [nm, nI_1]
    rw [es, c2, d1, bd4_s, r1, bd5_s, f1, bd10_s, w1, bd1_s, hoff, bd1_s]
    by_cases h9 : v2 ≤ wsW M (chR ch) (ch / 4) (ch % 2) (lmN bits) o_turns_cos o_turns_sin (o_wave_wasRe, o_wave_wasIm)
    · rw [if_pos h9, if_pos h9, if_pos h9]
      exact ⟨_, _, _, _, _, _, _, _, _, _, _, _, _, _, _, _, _, _, _, _, rfl⟩
    · rw [if_neg h9, if_neg h9, if_neg h9]
      exact ⟨_, _, _, _, _, _, _, _, _, _, _, _, _, _, _, _, _, _, _, _, rfl⟩
  rw [fX9_best_13.eq_2, if_neg (show ¬ ((8 : Int32) ≤ nI ch) from nI_ge hch (by decide)), e1, bd10_s, c1]
  simp only [nm]
  by_cases h2 : (nI ch &&& (2 : Int32)) = 0
  · rw [if_pos h2]
    exact e58 2 (by rw [c3] at h2; rw [h2]; rfl)
  · rw [if_neg h2]
    exact e58 4 (by rw [c3] at h2; rcases chR_x ch with q | q; exact absurd q h2; rw [q]; rfl)
theorem best_mi {M bits rad ord nr sd ch : Nat} {all told c s : Nat → Int32} {w : RowZ} (hC : CF M bits rad ord nr sd) (hm : MOK M told mX10_61 c s) (hT : TBB c s) (hB : BDz M w (2 ^ 15)) (hZ : ZR M w) (hw : WASR all 0 w) (t0 : told 0 = nI (2 ^ M)) (t1 : told 1 = nI bits) (t2 : told 2 = nI rad) (t3 : told 3 = nI ord) (t4 : told 4 = nI nr) (hch : ch < 8) (n : Nat) (li lr : Nat → Int32) (v1 : Int32) (v2 : Int64) :
    ∃ all' li' lr', fX10_best_12 (nI M) mX10_61 told (n + 1) 0 0 (nI rad) (nI ord) (nI nr) (nI (lmN bits)) 1 all li lr v1 v2 (nI ch) =
      fX10_best_12 (nI M) mX10_61 told n 0 0 (nI rad) (nI ord) (nI nr) (nI (lmN bits)) 1 all' li' lr' (if ch ≠ 0 ∧ v2 ≤ wsW M (chR ch) (ch / 4) (ch % 2) (lmN bits) c s w then v1 else nI ch) (if ch ≠ 0 ∧ v2 ≤ wsW M (chR ch) (ch / 4) (ch % 2) (lmN bits) c s w then v2 else wsW M (chR ch) (ch / 4) (ch % 2) (lmN bits) c s w) (nI (ch + 1)) ∧ FB1 all all' := by
  obtain ⟨hM, hbits, hr, ho, hn, hsd⟩ := id hC
  have hN := isM_pow hM
  obtain ⟨-, -, -, c4, c5, c6⟩ := ch_x hch
  have hcR : isRad (chR ch) := chR_x ch
  have hns := nst_le hM hcR
  have hc : CFG M (chR ch) (ch / 4) (ch % 2) (lmN bits) := ⟨hM, hcR, by omega, by omega, lm_x hbits⟩
  have hB16 : BDz M w (2 ^ 16) := fun p hp => by have := hB p hp; omega
  obtain ⟨al, a1, a2, a3, a4⟩ := asWas_x 0 (fun _ => 0) hw
  obtain ⟨al2, li2, lr2, ha2, e1, e2, e3⟩ := ref_run (b := 1) (by decide) hc hm hT hB16 hZ a2 li lr
  have hws := WASR_f e3 a3
  have eo := fun j (hj : j < 2 ^ M) => offOf_eq (b := 1) (by decide) hM hj hm hT e2.1 e2.2.1 hws (runT_SB hc hT hB16) hns.2 hB
  have eo' : ∀ j, j < 2 ^ M → fX10_offOf (nI 1) al2 mX10_61 told (nI j) = some (ofW M (chR ch) (ch / 4) (ch % 2) (lmN bits) c s w j) := eo
  have ew := worstAt_eq (b := 1) hM t0 _ eo'
  have hq : itr (fstG (ofW M (chR ch) (ch / 4) (ch % 2) (lmN bits) c s w)) 1 (2 ^ M - 1) 0 < 2 ^ M := by
    have := itr_J (step := fstG (ofW M (chR ch) (ch / 4) (ch % 2) (lmN bits) c s w)) (J := fun i best => best < i ∧ i ≤ 2 ^ M) (N := 2 ^ M) (fun i best hi hb => by unfold fstG; split <;> omega) (2 ^ M - 1) 1 0 (by omega) (by omega)
    omega
  have eq : fX10_offOf (nI 1) al2 mX10_61 told (nI (itr (fstG (ofW M (chR ch) (ch / 4) (ch % 2) (lmN bits) c s w)) 1 (2 ^ M - 1) 0)) = some (wsW M (chR ch) (ch / 4) (ch % 2) (lmN bits) c s w) := eo' _ hq
  refine ⟨al2, li2, lr2, ?_, FB1_t a4 (FRB_1 e3)⟩
  have e46 : ∀ s1 : Int32, s1 = nI (chR ch) → fX10_best_46 (nI M) mX10_61 told (fX10_best_12 (nI M) mX10_61 told n) 0 (nI 1) (nI rad) (nI (ch / 4)) (nI nr) (nI (lmN bits)) 1 al li lr v1 v2 (nI ch) s1 = fX10_best_12 (nI M) mX10_61 told n 0 0 (nI rad) (nI ord) (nI nr) (nI (lmN bits)) 1 al2 li2 lr2 (if ch ≠ 0 ∧ v2 ≤ wsW M (chR ch) (ch / 4) (ch % 2) (lmN bits) c s w then v1 else nI ch) (if ch ≠ 0 ∧ v2 ≤ wsW M (chR ch) (ch / 4) (ch % 2) (lmN bits) c s w then v2 else wsW M (chR ch) (ch / 4) (ch % 2) (lmN bits) c s w) (nI (ch + 1)) := by
    intro s1 es
    unfold fX10_best_46 fX10_best_83 fX10_best_89
    simp only [nm, nI_1]
    rw [es, c6, e1, bd3_s, ew, bd1_s, eq, bd1_s, asItIs_eq hbits t1 t2 t3 t4, bd6_s]
    by_cases h0 : ch = 0
    · subst h0
      rw [if_pos (show nI 0 = 0 from rfl), if_neg (fun q => q.1 rfl), if_neg (fun q => q.1 rfl)]
    · rw [if_neg (nI_ne0 (by omega) (by omega))]
      by_cases h9 : v2 ≤ wsW M (chR ch) (ch / 4) (ch % 2) (lmN bits) c s w
      · rw [if_pos h9, if_pos ⟨h0, h9⟩, if_pos ⟨h0, h9⟩, bd6_s]
      · rw [if_neg h9, if_neg (fun q => h9 q.2), if_neg (fun q => h9 q.2)]
  rw [fX10_best_12.eq_2, if_neg (show ¬ ((8 : Int32) ≤ nI ch) from nI_ge hch (by decide)), a1, bd2_s]
  simp only [nm]
  rw [c4, c5, bd1_s]
  rcases chR_x ch with q | q
  · rw [if_pos q, if_pos rfl]
    exact e46 2 (by rw [q]; rfl)
  · rw [if_neg (show ¬ (chR ch = 2) by omega), if_neg (show ¬ ((1 : Int32) = 0) by decide)]
    exact e46 4 (by rw [q]; rfl)
theorem k_best {o_imageKept : Int32} {o_taped : Int32} {o_way_size : Int32} {o_way_log : Int32} {o_way_wordBits : Int32} {o_way_limit : Int32} {o_way_radix : Int32} {o_way_order : Int32} {o_way_near : Int32} {o_way_seed : Int32} {o_way_stages : Int32} {o_way_shifts : Nat → Int32} {o_wave_exp : Int32} {o_wave_done : Int32} {o_wave_backward : Int32} {o_wave_re : Nat → Int32} {o_wave_im : Nat → Int32} {o_wave_wasRe : Nat → Int32} {o_wave_wasIm : Nat → Int32} {o_wave_halved : Nat → Int32} {o_past_next : Int32} {o_past_held : Int32} {o_past_cells : Nat → Int32} {o_notes_total : Int32} {o_notes_knownBy : Int32} {o_notes_kinds : Nat → Int32} {o_notes_targets : Nat → Int32} {o_notes_bins : Nat → Int32} {o_ring_size : Int32} {o_ring_log : Int32} {o_ring_powers : Nat → Int32} {o_turns_cos : Nat → Int32} {o_turns_sin : Nat → Int32} {o_reader_fault : Int32} {o_reader_faultPlace : Int32} {o_image : Nat → Int32} {o_tape : Nat → Int32} {m_tapeSize : Int32} {m_fault : Int32} {m_faultPlace : Int32} {m_bank : Int32} {m_isImage : Int32} {m_undos : Int32} {m_runRadix : Int32} {m_runOrder : Int32} {m_runNear : Int32} {m_runLimit : Int32} {m_runHalves : Int32} {m_power : Int32} {m_notedMany : Int32} {m_knownTold : Int32} {m_tape : Nat → Int32} {m_words : Nat → Int32} {m_told : Nat → Int32} {m_all : Nat → Int32} {m_quarter : Nat → Int32} {m_roots : Nat → Int32} {m_noted1 : Nat → Int32} (hR : REL o_imageKept o_taped o_way_size o_way_log o_way_wordBits o_way_limit o_way_radix o_way_order o_way_near o_way_seed o_way_stages o_way_shifts o_wave_exp o_wave_done o_wave_backward o_wave_re o_wave_im o_wave_wasRe o_wave_wasIm o_wave_halved o_past_next o_past_held o_past_cells o_notes_total o_notes_knownBy o_notes_kinds o_notes_targets o_notes_bins o_ring_size o_ring_log o_ring_powers o_turns_cos o_turns_sin o_reader_fault o_reader_faultPlace o_image o_tape m_tapeSize m_fault m_faultPlace m_bank m_isImage m_undos m_runRadix m_runOrder m_runNear m_runLimit m_runHalves m_power m_notedMany m_knownTold m_tape m_words m_told m_all m_quarter m_roots m_noted1)   (o_sumsIm : Nat → Int64) (o_sumsRe : Nat → Int64) (o_trial_exp : Int32) (o_trial_done : Int32) (o_trial_backward : Int32) (o_trialWay_size : Int32) (o_trialWay_log : Int32) (o_trialWay_wordBits : Int32) (o_trialWay_limit : Int32) (o_trialWay_radix : Int32) (o_trialWay_order : Int32) (o_trialWay_near : Int32) (o_trialWay_seed : Int32) (o_trialWay_stages : Int32) (o_beater_spareIm : Nat → Int32) (o_beater_spareRe : Nat → Int32) (o_beater_wingIm : Nat → Int32) (o_beater_wingRe : Nat → Int32) (o_trial_halved : Nat → Int32) (o_trial_im : Nat → Int32) (o_trial_re : Nat → Int32) (o_trialWay_shifts : Nat → Int32) (m_thrown : Int32) (m_laidIm : Nat → Int32) (m_laidRe : Nat → Int32) :
    ∃ (r : Int32) (out_o_sumsIm : Nat → Int64) (out_o_sumsRe : Nat → Int64) (out_o_trial_exp : Int32) (out_o_trial_done : Int32) (out_o_trial_backward : Int32) (out_o_trialWay_size : Int32) (out_o_trialWay_log : Int32) (out_o_trialWay_wordBits : Int32) (out_o_trialWay_limit : Int32) (out_o_trialWay_radix : Int32) (out_o_trialWay_order : Int32) (out_o_trialWay_near : Int32) (out_o_trialWay_seed : Int32) (out_o_trialWay_stages : Int32) (out_o_beater_spareIm : Nat → Int32) (out_o_beater_spareRe : Nat → Int32) (out_o_beater_wingIm : Nat → Int32) (out_o_beater_wingRe : Nat → Int32) (out_o_trial_halved : Nat → Int32) (out_o_trial_im : Nat → Int32) (out_o_trial_re : Nat → Int32) (out_o_trialWay_shifts : Nat → Int32) (out_m_thrown : Int32) (out_m_bank : Int32) (out_m_runRadix : Int32) (out_m_runOrder : Int32) (out_m_runNear : Int32) (out_m_runLimit : Int32) (out_m_runHalves : Int32) (out_m_all : Nat → Int32) (out_m_laidIm : Nat → Int32) (out_m_laidRe : Nat → Int32), fX9_best o_sumsIm o_sumsRe o_trial_exp o_trial_done o_trial_backward o_trialWay_size o_trialWay_log o_trialWay_wordBits o_trialWay_limit o_trialWay_radix o_trialWay_order o_trialWay_near o_trialWay_seed o_trialWay_stages o_way_size o_way_log o_way_wordBits o_way_radix o_way_order o_way_near o_way_seed o_beater_spareIm o_beater_spareRe o_beater_wingIm o_beater_wingRe o_trial_halved o_trial_im o_trial_re o_trialWay_shifts o_turns_cos o_turns_sin o_wave_wasIm o_wave_wasRe = some (r, out_o_sumsIm, out_o_sumsRe, out_o_trial_exp, out_o_trial_done, out_o_trial_backward, out_o_trialWay_size, out_o_trialWay_log, out_o_trialWay_wordBits, out_o_trialWay_limit, out_o_trialWay_radix, out_o_trialWay_order, out_o_trialWay_near, out_o_trialWay_seed, out_o_trialWay_stages, out_o_beater_spareIm, out_o_beater_spareRe, out_o_beater_wingIm, out_o_beater_wingRe, out_o_trial_halved, out_o_trial_im, out_o_trial_re, out_o_trialWay_shifts) ∧ fX10_best m_thrown m_bank m_runRadix m_runOrder m_runNear m_runLimit m_runHalves m_power m_all m_laidIm m_laidRe m_quarter m_told = some (r, out_m_thrown, out_m_bank, out_m_runRadix, out_m_runOrder, out_m_runNear, out_m_runLimit, out_m_runHalves, out_m_all, out_m_laidIm, out_m_laidRe) ∧ REL o_imageKept o_taped o_way_size o_way_log o_way_wordBits o_way_limit o_way_radix o_way_order o_way_near o_way_seed o_way_stages o_way_shifts o_wave_exp o_wave_done o_wave_backward o_wave_re o_wave_im o_wave_wasRe o_wave_wasIm o_wave_halved o_past_next o_past_held o_past_cells o_notes_total o_notes_knownBy o_notes_kinds o_notes_targets o_notes_bins o_ring_size o_ring_log o_ring_powers o_turns_cos o_turns_sin o_reader_fault o_reader_faultPlace o_image o_tape m_tapeSize m_fault m_faultPlace out_m_bank m_isImage m_undos out_m_runRadix out_m_runOrder out_m_runNear out_m_runLimit out_m_runHalves m_power m_notedMany m_knownTold m_tape m_words m_told out_m_all m_quarter m_roots m_noted1 := by
  have hR0 := hR
  obtain ⟨M, bits, rad, ord, nr, sd, hC, hW, hT, hG, hm, hV, hP, hI, hN, hA, hF1, hF2⟩ := hR
  obtain ⟨hM, hbits, hr, ho, hn, hsd⟩ := id hC
  obtain ⟨rfl, rfl, rfl, rfl, rfl, rfl, rfl, rfl, rfl, hSH⟩ := hW
  obtain ⟨rfl, rfl, rfl, rfl, rfl, rfl, rfl, rfl, rfl, t0, t1, t2, t3, t4, t5, hrt⟩ := hm
  have hN2 := isM_pow hM
  have hns := nst_le hM hr
  have hlm := lm_x hbits
  have hCG := CF_c hC
  have hV0 := hV
  obtain ⟨k, bk, rfl, rfl, hw, hws, hwi⟩ := hV
  have hMO := TRN_m hM hT t0
  have hTB := TRN_B hM hT
  have hB15 : BDz M (o_wave_wasRe, o_wave_wasIm) (2 ^ 15) := fun p hp => by have := hwi.2.2.2.2.2.1 p hp; omega
  have hB16 : BDz M (o_wave_wasRe, o_wave_wasIm) (2 ^ 16) := fun p hp => by have := hwi.2.2.2.2.2.1 p hp; omega
  have hZ := hwi.2.2.2.1
  obtain ⟨si', sr', s1, s2⟩ := fillSums_eq hM o_sumsIm o_sumsRe o_turns_cos o_turns_sin o_wave_wasIm o_wave_wasRe
  have key : ∀ d n m ch (al li lr : Nat → Int32) (o_trial_exp : Int32) (o_trial_done : Int32) (o_trial_backward : Int32) (o_trialWay_size : Int32) (o_trialWay_log : Int32) (o_trialWay_wordBits : Int32) (o_trialWay_limit : Int32) (o_trialWay_radix : Int32) (o_trialWay_order : Int32) (o_trialWay_near : Int32) (o_trialWay_seed : Int32) (o_trialWay_stages : Int32) (o_beater_spareIm : Nat → Int32) (o_beater_spareRe : Nat → Int32) (o_beater_wingIm : Nat → Int32) (o_beater_wingRe : Nat → Int32) (o_trial_halved : Nat → Int32) (o_trial_im : Nat → Int32) (o_trial_re : Nat → Int32) (o_trialWay_shifts : Nat → Int32) (v1 : Int32) (v2 : Int64), 1 ≤ ch → ch + d = 8 → d < n → d < m → FB1 m_all al → ∃ r o al' li' lr',
      fX9_best_13 (nI (2 ^ M)) (nI M) (nI bits) (nI rad) (nI ord) (nI nr) (nI sd) o_turns_cos o_turns_sin o_wave_wasIm o_wave_wasRe n si' sr' o_trial_exp o_trial_done o_trial_backward o_trialWay_size o_trialWay_log o_trialWay_wordBits o_trialWay_limit o_trialWay_radix o_trialWay_order o_trialWay_near o_trialWay_seed o_trialWay_stages o_beater_spareIm o_beater_spareRe o_beater_wingIm o_beater_wingRe o_trial_halved o_trial_im o_trial_re o_trialWay_shifts v1 v2 (nI ch) = some (r, o) ∧
      fX10_best_12 (nI M) mX10_61 m_told m 0 0 (nI rad) (nI ord) (nI nr) (nI (lmN bits)) 1 al li lr v1 v2 (nI ch) = some (r, 0, 0, nI rad, nI ord, nI nr, nI (lmN bits), 1, al', li', lr') ∧ FB1 m_all al' := by
    intro d
    induction d with
    | zero =>
      intro n m ch al li lr u1 u2 u3 u4 u5 u6 u7 u8 u9 u10 u11 u12 u13 u14 u15 u16 u17 u18 u19 u20 v1 v2 h0 h1 h2 h3 hF
      obtain ⟨n, rfl⟩ : ∃ m, n = m + 1 := ⟨n - 1, by omega⟩
      obtain ⟨m, rfl⟩ : ∃ m', m = m' + 1 := ⟨m - 1, by omega⟩
      obtain rfl : ch = 8 := by omega
      rw [fX9_best_13.eq_2, fX10_best_12.eq_2, if_pos (show (8 : Int32) ≤ nI 8 by decide), if_pos (show (8 : Int32) ≤ nI 8 by decide)]
      exact ⟨_, _, _, _, _, rfl, rfl, hF⟩
    | succ d ih =>
      intro n m ch al li lr u1 u2 u3 u4 u5 u6 u7 u8 u9 u10 u11 u12 u13 u14 u15 u16 u17 u18 u19 u20 v1 v2 h0 h1 h2 h3 hF
      obtain ⟨n, rfl⟩ : ∃ m, n = m + 1 := ⟨n - 1, by omega⟩
      obtain ⟨m, rfl⟩ : ∃ m', m = m' + 1 := ⟨m - 1, by omega⟩
      obtain ⟨a1, a2, a3, a4, a5, a6, a7, a8, a9, a10, a11, a12, a13, a14, a15, a16, a17, a18, a19, a20, c1⟩ := best_ci hC hTB hB16 (show ch < 8 by omega) s2 n u1 u2 u3 u4 u5 u6 u7 u8 u9 u10 u11 u12 u13 u14 u15 u16 u17 u18 u19 u20 v1 v2
      obtain ⟨al', li', lr', m1, m2⟩ := best_mi hC hMO hTB hB15 hZ (WASR_c (fun j h1 h2 => hF j (by omega)) hws) t0 t1 t2 t3 t4 (show ch < 8 by omega) m li lr v1 v2
      rw [c1, m1]
      have hch : ch ≠ 0 := by omega
      by_cases h9 : v2 ≤ wsW M (chR ch) (ch / 4) (ch % 2) (lmN bits) o_turns_cos o_turns_sin (o_wave_wasRe, o_wave_wasIm)
      · rw [if_pos h9, if_pos h9, if_pos ⟨hch, h9⟩, if_pos ⟨hch, h9⟩]
        exact ih n m (ch + 1) al' li' lr' a1 a2 a3 a4 a5 a6 a7 a8 a9 a10 a11 a12 a13 a14 a15 a16 a17 a18 a19 a20 v1 v2 (by omega) (by omega) (by omega) (by omega) (FB1_t hF m2)
      · rw [if_neg h9, if_neg h9, if_neg (fun q => h9 q.2), if_neg (fun q => h9 q.2)]
        exact ih n m (ch + 1) al' li' lr' a1 a2 a3 a4 a5 a6 a7 a8 a9 a10 a11 a12 a13 a14 a15 a16 a17 a18 a19 a20 _ _ (by omega) (by omega) (by omega) (by omega) (FB1_t hF m2)
  obtain ⟨a1, a2, a3, a4, a5, a6, a7, a8, a9, a10, a11, a12, a13, a14, a15, a16, a17, a18, a19, a20, c1⟩ := best_ci (ch := 0) hC hTB hB16 (by decide) s2 4095 o_trial_exp o_trial_done o_trial_backward o_trialWay_size o_trialWay_log o_trialWay_wordBits o_trialWay_limit o_trialWay_radix o_trialWay_order o_trialWay_near o_trialWay_seed o_trialWay_stages o_beater_spareIm o_beater_spareRe o_beater_wingIm o_beater_wingRe o_trial_halved o_trial_im o_trial_re o_trialWay_shifts 0 9223372036854775807
  obtain ⟨al', li', lr', m1, m2⟩ := best_mi (ch := 0) hC hMO hTB hB15 hZ hws t0 t1 t2 t3 t4 (by decide) 4095 m_laidIm m_laidRe 0 0
  have hlt := wsW_lt (M := M) (rad := chR 0) (ord := 0 / 4) (nr := 0 % 2) (lim := lmN bits) ⟨hM, chR_x 0, by decide, by decide, hlm⟩ hTB hB15
  rw [if_neg hlt, if_neg hlt] at c1
  rw [if_neg (fun q => q.1 rfl), if_neg (fun q => q.1 rfl)] at m1
  obtain ⟨r, ⟨b1, b2, b3, b4, b5, b6, b7, b8, b9, b10, b11, b12, b13, b14, b15, b16, b17, b18, b19, b20, b21, b22⟩, al2, li2, lr2, k1, k2, k3⟩ := key 7 4095 4095 1 al' li' lr' a1 a2 a3 a4 a5 a6 a7 a8 a9 a10 a11 a12 a13 a14 a15 a16 a17 a18 a19 a20 (nI 0) (wsW M (chR 0) (0 / 4) (0 % 2) (lmN bits) o_turns_cos o_turns_sin (o_wave_wasRe, o_wave_wasIm)) (by decide) (by decide) (by decide) (by decide) m2
  unfold fX9_best fX10_best
  rw [s1, bd2_s]
  exact ⟨_, _, _, _, _, _, _, _, _, _, _, _, _, _, _, _, _, _, _, _, _, _, _, _, _, _, _, _, _, _, _, _, _, c1.trans k1, m1.trans k2, M, bits, rad, ord, nr, sd, hC, ⟨rfl, rfl, rfl, rfl, rfl, rfl, rfl, rfl, rfl, hSH⟩, hT, hG, ⟨rfl, rfl, rfl, rfl, rfl, rfl, rfl, rfl, rfl, t0, t1, t2, t3, t4, t5, hrt⟩, WVR_1 k3 hV0, PSTR_1 k3 hP, IMGR_1 k3 hI, hN, hA, hF1, hF2⟩
