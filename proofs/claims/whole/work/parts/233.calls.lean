/-! ===== how far off ===== -/
theorem shl64 (a s : Int64) : a <<< s = a * ((1 : Int64) <<< s) := by
  apply Int64.toBitVec_inj.mp
  rw [Int64.toBitVec_shiftLeft, Int64.toBitVec_mul, Int64.toBitVec_shiftLeft]
  show a.toBitVec <<< (s.toBitVec.smod 64).toNat = a.toBitVec * (1#64 <<< (s.toBitVec.smod 64).toNat)
  rw [BitVec.shiftLeft_eq_mul_twoPow, BitVec.shiftLeft_eq_mul_twoPow, BitVec.one_mul]
theorem oneC_t : (List.range 64).all (fun S => decide ((1 : Int64) <<< (Int32.toInt64 (nI S) &&& 63) = lN (2 ^ S))) = true := by decide +kernel
theorem one_shl {S : Nat} (hS : S < 64) : (1 : Int64) <<< (Int32.toInt64 (nI S) &&& 63) = lN (2 ^ S) := of_decide_eq_true (all_x oneC_t hS)
theorem shl_toInt {x : Int32} {S B : Nat} (hS : S ≤ 62) (h : ab x * 2 ^ S ≤ B) (hB : B < 2 ^ 62) : (Int32.toInt64 x <<< (Int32.toInt64 (nI S) &&& 63)).toInt = x.toInt * 2 ^ S ∧ (x.toInt * 2 ^ S).natAbs ≤ B := by
  have hp : 2 ^ S < 2 ^ 63 := Nat.pow_lt_pow_right (by decide) (by omega)
  have e : (lN (2 ^ S)).toInt = (2 : Int) ^ S := by rw [pk_lT hp]; simp
  have hb : (x.toInt * 2 ^ S).natAbs ≤ B := by
    rw [Int.natAbs_mul, Int.natAbs_pow]
    exact h
  refine ⟨?_, hb⟩
  rw [shl64, one_shl (by omega), i64_mul (by rw [i64_w, e]; omega) (by rw [i64_w, e]; omega), i64_w, e]
theorem SB_sh {M S t : Nat} {z : RowZ} (h : SB M z S t) {p : Nat} (hp : p < 2 ^ M) : S ≤ 16 + 4 * t ∧ ab (z.1 p) * 2 ^ S ≤ 2 ^ (16 + 4 * t) ∧ ab (z.2 p) * 2 ^ S ≤ 2 ^ (16 + 4 * t) := by
  obtain ⟨B, h1, h2, h3, h4⟩ := h
  refine ⟨?_, Nat.le_trans (Nat.mul_le_mul_right _ (h3 p hp).1) h4, Nat.le_trans (Nat.mul_le_mul_right _ (h3 p hp).2) h4⟩
  have h5 : 2 ^ S ≤ 2 ^ (16 + 4 * t) := Nat.le_trans (Nat.le_mul_of_pos_left _ h1) h4
  exact (Nat.pow_le_pow_iff_right (by decide)).mp h5
theorem itr_J {σ : Type} {step : Nat → σ → σ} {J : Nat → σ → Prop} {N : Nat} (hJ : ∀ i s, i < N → J i s → J (i + 1) (step i s)) : ∀ d i s, i + d ≤ N → J i s → J (i + d) (itr step i d s) := by
  intro d
  induction d with
  | zero => intro i s _ h; exact h
  | succ d ih =>
    intro i s hi h
    have := ih (i + 1) (step i s) (by omega) (hJ i s (by omega) h)
    rw [show i + 1 + d = i + (d + 1) by omega] at this
    exact this
def ab6 (x : Int64) : Nat := x.toInt.natAbs
theorem dirS_bd {M k i : Nat} {c s : Nat → Int32} {w : RowZ} (hM : isM M) (hT : TBB c s) (hw : BDz M w (2 ^ 15)) : ab6 (dirS M c s w k i) ≤ 2 ^ 36 := by
  have hN := isM_pow hM
  have key := itr_J (step := fun n (acc : Int64) => acc + (if i = 0 then Int32.toInt64 (w.1 n) * Int32.toInt64 (c (n * k % 2 ^ M)) + Int32.toInt64 (w.2 n) * Int32.toInt64 (s (n * k % 2 ^ M)) else Int32.toInt64 (w.2 n) * Int32.toInt64 (c (n * k % 2 ^ M)) - Int32.toInt64 (w.1 n) * Int32.toInt64 (s (n * k % 2 ^ M)))) (J := fun n acc => ab6 acc ≤ n * 2 ^ 30) (N := 2 ^ M) (fun n acc hn h => ?_) (2 ^ M) 0 0 (by omega) (by decide)
  · unfold dirS
    have := Nat.mul_le_mul_right (2 ^ 30) hN.2
    rw [Nat.zero_add] at key
    omega
  · have hmod := Nat.mod_lt (n * k) (show 0 < 2 ^ M by omega)
    obtain ⟨c1, c2⟩ := hT _ (show n * k % 2 ^ M < 32 by omega)
    obtain ⟨w1, w2⟩ := hw n hn
    unfold ab at c1 c2 w1 w2
    unfold ab6 at *
    have m : ∀ {u v : Int32}, u.toInt.natAbs ≤ 2 ^ 15 → v.toInt.natAbs ≤ 16384 → (Int32.toInt64 u * Int32.toInt64 v).toInt = u.toInt * v.toInt ∧ (u.toInt * v.toInt).natAbs ≤ 2 ^ 29 := fun {u v} h1 h2 => by
      have h3 := ab_mul h1 h2
      refine ⟨?_, h3⟩
      rw [i64_mul (by rw [i64_w, i64_w]; omega) (by rw [i64_w, i64_w]; omega), i64_w, i64_w]
    obtain ⟨a1, a2⟩ := m w1 c1
    obtain ⟨b1, b2⟩ := m w2 c2
    obtain ⟨d1, d2⟩ := m w2 c1
    obtain ⟨e1, e2⟩ := m w1 c2
    have hn32 : n * 2 ^ 30 ≤ 32 * 2 ^ 30 := Nat.mul_le_mul_right _ (by omega)
    have e9 : (n + 1) * 2 ^ 30 = n * 2 ^ 30 + 2 ^ 30 := by rw [Nat.add_mul, Nat.one_mul]
    have fin : ∀ t : Int64, t.toInt.natAbs ≤ 2 ^ 30 → (acc + t).toInt.natAbs ≤ (n + 1) * 2 ^ 30 := fun t ht => by
      rw [i64_add (by omega) (by omega), e9]
      omega
    split
    · exact fin _ (by rw [i64_add (by rw [a1, b1]; omega) (by rw [a1, b1]; omega), a1, b1]; omega)
    · exact fin _ (by rw [i64_sub (by rw [d1, e1]; omega) (by rw [d1, e1]; omega), d1, e1]; omega)
def abL (x : Int64) : Int64 := if 0 < x then x else -x
def mxL (a b : Int64) : Int64 := if b < a then a else b
theorem apartBy_eq {a b : Int64} (ha : ab6 a ≤ 2 ^ 61) (hb : ab6 b ≤ 2 ^ 61) : fX10_apartBy a b = some (abL (a - b)) := by
  unfold fX10_apartBy abL
  unfold ab6 at ha hb
  have e : (a - b).toInt = a.toInt - b.toInt := i64_sub (by omega) (by omega)
  have e0 : (0 : Int64).toInt = 0 := by decide
  by_cases h : a ≤ b
  · rw [if_pos h]
    rw [Int64.le_iff_toInt_le] at h
    rw [if_neg (by rw [Int64.lt_iff_toInt_lt, e, e0]; omega), Int64.neg_sub]
  · rw [if_neg h]
    rw [Int64.le_iff_toInt_le] at h
    rw [if_pos (by rw [Int64.lt_iff_toInt_lt, e, e0]; omega)]
theorem mxL_eq (a b : Int64) : (if a ≤ b then some b else some a) = some (mxL a b) := by
  unfold mxL
  by_cases h : a ≤ b
  · rw [if_pos h, if_neg (by rw [Int64.lt_iff_toInt_lt]; rw [Int64.le_iff_toInt_le] at h; omega)]
  · rw [if_neg h, if_pos (by rw [Int64.lt_iff_toInt_lt]; rw [Int64.le_iff_toInt_le] at h; omega)]
/-- how far off a sum a point is -/
def offV (x y e : Int32) (d0 d1 : Int64) : Int64 := mxL (abL ((Int32.toInt64 x <<< (Int32.toInt64 e &&& 63)) * 16384 - d0)) (abL ((Int32.toInt64 y <<< (Int32.toInt64 e &&& 63)) * 16384 - d1))
theorem offSums_eq {k : Nat} (hk : k < 32) (e : Int32) (im re : Nat → Int32) (si sr : Nat → Int64) : fX9_offSums e im re si sr (nI k) = some (offV (re k) (im k) e (sr k) (si k)) := by
  unfold fX9_offSums fX9_scaled
  simp only [gd_t (inb_nI hk (by decide)), nI_clamp (show k < 2 ^ 31 by omega), bd1_s, nm]
  rfl
theorem offOf_eq {b M k S t : Nat} {all qua told c s : Nat → Int32} {z w : RowZ} (hb : b ≤ 22) (hM : isM M) (hk : k < 2 ^ M) (hm : MOK M told qua c s) (hT : TBB c s) (hz : RW all b z) (hx : all (136 * b + 128) = nI S) (hw : WASR all b w) (hS : SB M z S t) (ht : t ≤ 5) (hB : BDz M w (2 ^ 15)) :
    fX10_offOf (nI b) all qua told (nI k) = some (offV (z.1 k) (z.2 k) (nI S) (dirS M c s w k 0) (dirS M c s w k 1)) := by
  have hN := isM_pow hM
  obtain ⟨s1, s2, s3⟩ := SB_sh hS hk
  have h36 : 2 ^ (16 + 4 * t) ≤ 2 ^ 36 := Nat.pow_le_pow_right (by decide) (by omega)
  obtain ⟨a1, a2⟩ := shl_toInt (B := 2 ^ 36) (show S ≤ 62 by omega) (Nat.le_trans s2 h36) (by decide)
  obtain ⟨b1, b2⟩ := shl_toInt (B := 2 ^ 36) (show S ≤ 62 by omega) (Nat.le_trans s3 h36) (by decide)
  have hmul : ∀ {v : Int64}, v.toInt.natAbs ≤ 2 ^ 36 → ab6 (v * 16384) ≤ 2 ^ 61 := fun {v} hv => by
    unfold ab6
    rw [i64_mul (by show _ ≤ v.toInt * 16384; omega) (by show v.toInt * 16384 < _; omega)]
    show (v.toInt * 16384).natAbs ≤ 2 ^ 61
    omega
  have d0 := dirS_bd (k := k) (i := 0) hM hT hB
  have d1 := dirS_bd (k := k) (i := 1) hM hT hB
  have sw : ∀ v e : Int64, (v * 16384) <<< e = (v <<< e) * 16384 := fun v e => by
    rw [shl64, shl64 v]
    grind
  unfold fX10_offOf
  rw [of_eq hb (by omega), bd1_s, show (128 : Int32) = nI 128 from rfl, of_eq hb (by decide), bd1_s, show (0 : Int32) = nI 0 from rfl, directOf_eq hb hM hk (by decide) hm hw, bd1_s, hx, (hz k (by omega)).1, sw, apartBy_eq (hmul (by rw [a1]; exact a2)) (by omega), bd1_s, show (32 : Int32) + nI k = nI (32 + k) from nI_add 32 k, of_eq hb (by omega), bd1_s, bd1_s, show (1 : Int32) = nI 1 from rfl, directOf_eq hb hM hk (by decide) hm hw, bd1_s, ← Nat.add_assoc, (hz k (by omega)).2, sw, apartBy_eq (hmul (by rw [b1]; exact b2)) (by omega), bd1_s, mxL_eq]
  rfl
theorem fillSums_eq {M : Nat} (hM : isM M) (si sr : Nat → Int64) (c s wi wr : Nat → Int32) : ∃ si' sr', fX9_fillSums si sr (nI (2 ^ M)) c s wi wr = some (si', sr') ∧ ∀ k, k < 2 ^ M → sr' k = dirS M c s (wr, wi) k 0 ∧ si' k = dirS M c s (wr, wi) k 1 := by
  have hN := isM_pow hM
  unfold fX9_fillSums
  have hh := loopX (fun n i (y : (Nat → Int64) × (Nat → Int64)) => fX9_fillSums_2 (nI (2 ^ M)) c s wi wr n y.1 y.2 (nI i)) (fun i y => ∀ j, j < i → y.2 j = dirS M c s (wr, wi) j 0 ∧ y.1 j = dirS M c s (wr, wi) j 1) (2 ^ M) (fun y => some (y.1, y.2)) ?_ ?_ (2 ^ M) FU 0 (si, sr) (by omega) (FU_pos (by omega)) (fun j hj => by omega)
  · obtain ⟨y, hJ, e⟩ := hh
    exact ⟨y.1, y.2, e, hJ⟩
  · intro n i y hi hJ
    refine ⟨(vp_updL y.1 i (dirS M c s (wr, wi) i 1), vp_updL y.2 i (dirS M c s (wr, wi) i 0)), ?_, ?_⟩
    · intro j hj
      by_cases h9 : j = i
      · subst h9; exact ⟨pk_uLs, pk_uLs⟩
      · dsimp only
        rw [pk_uLn h9, pk_uLn h9]
        exact hJ j (by omega)
    · rw [fX9_fillSums_2.eq_2, if_neg (nI_ge hi (by omega)), show fX9_directSum (nI (2 ^ M)) c s wi wr (nI i) 0 = _ from directSum_eq (i := 0) hM hi (by decide) _ _ _ _, bd1_s, gd_t (inb_nI (show i < 32 by omega) (by decide)), show fX9_directSum (nI (2 ^ M)) c s wi wr (nI i) 1 = _ from directSum_eq (i := 1) hM hi (by decide) _ _ _ _]
      simp only [nm, bd1_s, gd_t (inb_nI (show i < 32 by omega) (by decide)), nI_clamp (show i < 2 ^ 31 by omega), nI_1]
  · intro n y hJ
    rw [fX9_fillSums_2.eq_2, if_pos (nI_le (Nat.le_refl _) (by omega))]
theorem worstPlace_eq {M : Nat} (hM : isM M) (e : Int32) (im re : Nat → Int32) (si sr : Nat → Int64) (f : Nat → Int64) (hf : ∀ k, k < 2 ^ M → f k = offV (re k) (im k) e (sr k) (si k)) : ∃ q, q < 2 ^ M ∧ fX9_worstPlace e im re si sr (nI (2 ^ M)) = some (nI q) ∧ q = itr (fstG f) 1 (2 ^ M - 1) 0 := by
  have hN := isM_pow hM
  unfold fX9_worstPlace
  have hc := loopJ (fun n p (best : Nat) => fX9_worstPlace_4 e im re si sr (nI (2 ^ M)) n (nI best) (nI p)) (fstG f) (2 ^ M) (fun best => some (nI best)) (fun i best => best < i ∧ i ≤ 2 ^ M) ?_ ?_ ?_ (2 ^ M - 1) FU 1 0 (by omega) (FU_pos (by omega)) (by omega)
  · exact ⟨_, hc.2.1, hc.1, rfl⟩
  · intro i best hi hb
    unfold fstG
    split <;> omega
  · intro n p best hp hb
    rw [fX9_worstPlace_4.eq_2, if_neg (nI_ge hp (by omega)), offSums_eq (by omega), bd1_s, offSums_eq (show best < 32 by omega), bd1_s, ← hf p hp, ← hf best (by omega)]
    unfold fstG fX9_worstPlace_33
    simp only [nm, nI_1]
    by_cases h : f p ≤ f best
    · rw [if_pos h, if_pos h]
    · rw [if_neg h, if_neg h]
  · intro n best hb
    rw [fX9_worstPlace_4.eq_2, if_pos (nI_le (Nat.le_refl _) (by omega))]
theorem worstAt_eq {b M : Nat} {all qua told : Nat → Int32} (hM : isM M) (h0 : told 0 = nI (2 ^ M)) (f : Nat → Int64) (hf : ∀ k, k < 2 ^ M → fX10_offOf (nI b) all qua told (nI k) = some (f k)) : fX10_worstAt (nI b) all qua told = some (nI (itr (fstG f) 1 (2 ^ M - 1) 0)) := by
  have hN := isM_pow hM
  unfold fX10_worstAt
  rw [show fX10_offOf (nI b) all qua told 0 = _ from hf 0 (by omega), bd1_s]
  have hc := loopJ (fun n p (best : Nat) => fX10_worstAt_11 (nI b) all qua told n (nI best) (f best) (nI p)) (fstG f) (2 ^ M) (fun best => some (nI best)) (fun i best => best < i ∧ i ≤ 2 ^ M) ?_ ?_ ?_ (2 ^ M - 1) FU 1 0 (by omega) (FU_pos (by omega)) (by omega)
  · exact hc.1
  · intro i best hi hb
    unfold fstG
    split <;> omega
  · intro n p best hp hb
    rw [fX10_worstAt_11.eq_2, size_eq, bd1_s, h0, if_neg (nI_ge hp (by omega)), hf p hp, bd1_s]
    unfold fstG fX10_worstAt_41 fX10_worstAt_55
    simp only [nm, nI_1]
    by_cases h : f p ≤ f best
    · rw [if_pos h, if_pos h, if_pos h]
    · rw [if_neg h, if_neg h, if_neg h]
  · intro n best hb
    rw [fX10_worstAt_11.eq_2, size_eq, bd1_s, h0, if_pos (nI_le (Nat.le_refl _) (by omega))]
/-- done, and forward -/
theorem fwd_c {M rad k bk : Nat} {all ha : Nat → Int32} {z : RowZ} {x : Int32} (hM : isM M) (hr : isRad rad) (hk : k ≤ nst M rad) (hbk : bk < 2) (hw : RWS all 0 z x k bk ha) :
    (k = nst M rad ∧ bk = 0 ∧ fX9_isDoneForward (nI k) (nI bk) (nI (nst M rad)) = some 1 ∧ fX10_isForward 0 (nI rad) (nI M) all = some 1) ∨ (fX9_isDoneForward (nI k) (nI bk) (nI (nst M rad)) = some 0 ∧ fX10_isForward 0 (nI rad) (nI M) all = some 0) := by
  have hns := nst_le hM hr
  obtain ⟨-, -, -, w4, -⟩ := RWS_0 hw
  have ed : fX10_isDone 0 (nI rad) (nI M) all = _ := isDone_eq (b := 0) (by decide) hM hr hk hw
  unfold fX9_isDoneForward fX10_isForward
  rw [ed, bd1_s, show (130 : Int32) = nI 130 from rfl, of0 (by decide), bd1_s, w4]
  by_cases h : k = nst M rad
  · rw [if_pos h, if_neg (show ¬ ((1 : Int32) = 0) by decide), if_neg (show ¬ (nI k < nI (nst M rad)) from nI_nlt (by omega) (by omega))]
    rcases (show bk = 0 ∨ bk = 1 by omega) with rfl | rfl
    · exact Or.inl ⟨h, rfl, rfl, rfl⟩
    · exact Or.inr ⟨rfl, rfl⟩
  · rw [if_neg h, if_pos (show (0 : Int32) = 0 from rfl), if_pos (nI_lt (by omega) (by omega))]
    right
    rcases (show bk = 0 ∨ bk = 1 by omega) with rfl | rfl
    · exact ⟨rfl, rfl⟩
    · exact ⟨rfl, rfl⟩
theorem k_off {o_imageKept : Int32} {o_taped : Int32} {o_way_size : Int32} {o_way_log : Int32} {o_way_wordBits : Int32} {o_way_limit : Int32} {o_way_radix : Int32} {o_way_order : Int32} {o_way_near : Int32} {o_way_seed : Int32} {o_way_stages : Int32} {o_way_shifts : Nat → Int32} {o_wave_exp : Int32} {o_wave_done : Int32} {o_wave_backward : Int32} {o_wave_re : Nat → Int32} {o_wave_im : Nat → Int32} {o_wave_wasRe : Nat → Int32} {o_wave_wasIm : Nat → Int32} {o_wave_halved : Nat → Int32} {o_past_next : Int32} {o_past_held : Int32} {o_past_cells : Nat → Int32} {o_notes_total : Int32} {o_notes_knownBy : Int32} {o_notes_kinds : Nat → Int32} {o_notes_targets : Nat → Int32} {o_notes_bins : Nat → Int32} {o_ring_size : Int32} {o_ring_log : Int32} {o_ring_powers : Nat → Int32} {o_turns_cos : Nat → Int32} {o_turns_sin : Nat → Int32} {o_reader_fault : Int32} {o_reader_faultPlace : Int32} {o_image : Nat → Int32} {o_tape : Nat → Int32} {m_tapeSize : Int32} {m_fault : Int32} {m_faultPlace : Int32} {m_bank : Int32} {m_isImage : Int32} {m_undos : Int32} {m_runRadix : Int32} {m_runOrder : Int32} {m_runNear : Int32} {m_runLimit : Int32} {m_runHalves : Int32} {m_power : Int32} {m_notedMany : Int32} {m_knownTold : Int32} {m_tape : Nat → Int32} {m_words : Nat → Int32} {m_told : Nat → Int32} {m_all : Nat → Int32} {m_quarter : Nat → Int32} {m_roots : Nat → Int32} {m_noted1 : Nat → Int32} (hR : REL o_imageKept o_taped o_way_size o_way_log o_way_wordBits o_way_limit o_way_radix o_way_order o_way_near o_way_seed o_way_stages o_way_shifts o_wave_exp o_wave_done o_wave_backward o_wave_re o_wave_im o_wave_wasRe o_wave_wasIm o_wave_halved o_past_next o_past_held o_past_cells o_notes_total o_notes_knownBy o_notes_kinds o_notes_targets o_notes_bins o_ring_size o_ring_log o_ring_powers o_turns_cos o_turns_sin o_reader_fault o_reader_faultPlace o_image o_tape m_tapeSize m_fault m_faultPlace m_bank m_isImage m_undos m_runRadix m_runOrder m_runNear m_runLimit m_runHalves m_power m_notedMany m_knownTold m_tape m_words m_told m_all m_quarter m_roots m_noted1) (p1 : Int32)  (o_sumsIm : Nat → Int64) (o_sumsRe : Nat → Int64) (m_thrown : Int32) :
    ∃ (r : Int64) (out_o_sumsIm : Nat → Int64) (out_o_sumsRe : Nat → Int64) (out_m_thrown : Int32), fX9_off o_sumsIm o_sumsRe o_wave_exp o_wave_done o_wave_backward o_way_size o_way_stages o_turns_cos o_turns_sin o_wave_im o_wave_re o_wave_wasIm o_wave_wasRe p1 = some (r, out_o_sumsIm, out_o_sumsRe) ∧ fX10_off m_thrown m_bank m_runRadix m_power m_all m_quarter m_told p1 = some (r, out_m_thrown) ∧ REL o_imageKept o_taped o_way_size o_way_log o_way_wordBits o_way_limit o_way_radix o_way_order o_way_near o_way_seed o_way_stages o_way_shifts o_wave_exp o_wave_done o_wave_backward o_wave_re o_wave_im o_wave_wasRe o_wave_wasIm o_wave_halved o_past_next o_past_held o_past_cells o_notes_total o_notes_knownBy o_notes_kinds o_notes_targets o_notes_bins o_ring_size o_ring_log o_ring_powers o_turns_cos o_turns_sin o_reader_fault o_reader_faultPlace o_image o_tape m_tapeSize m_fault m_faultPlace m_bank m_isImage m_undos m_runRadix m_runOrder m_runNear m_runLimit m_runHalves m_power m_notedMany m_knownTold m_tape m_words m_told m_all m_quarter m_roots m_noted1 := by
  have hR0 := hR
  obtain ⟨M, bits, rad, ord, nr, sd, hC, hW, hT, hG, hm, hV, hP, hI, hN, hA, hF1, hF2⟩ := hR
  obtain ⟨hM, hbits, hr, ho, hn, hsd⟩ := id hC
  obtain ⟨rfl, rfl, rfl, rfl, rfl, rfl, rfl, rfl, rfl, hSH⟩ := hW
  obtain ⟨rfl, rfl, rfl, rfl, rfl, rfl, rfl, rfl, rfl, t0, t1, t2, t3, t4, t5, hrt⟩ := hm
  have hN2 := isM_pow hM
  have hns := nst_le hM hr
  have hlm := lm_x hbits
  have hCG := CF_c hC
  obtain ⟨k, bk, rfl, rfl, hw, hws, hwi⟩ := hV
  have hMO := TRN_m hM hT t0
  have hTB := TRN_B hM hT
  unfold fX9_off fX10_off
  rcases place_c hM p1 with ⟨j, hj, rfl, e1, e2⟩ | ⟨e1, e2⟩
  · rw [e1, e2 _ t0, bd1_s, bd1_s, if_neg (show ¬ ((1 : Int32) = 0) by decide), if_neg (show ¬ ((1 : Int32) = 0) by decide)]
    rcases fwd_c hM hr hwi.1 hwi.2.1 hw with ⟨rfl, rfl, f1, f2⟩ | ⟨f1, f2⟩
    · obtain ⟨S, rfl, hS⟩ := hwi.2.2.2.2.2.2.2 rfl
      obtain ⟨si', sr', s1, s2⟩ := fillSums_eq hM o_sumsIm o_sumsRe o_turns_cos o_turns_sin o_wave_wasIm o_wave_wasRe
      have hB15 : BDz M (o_wave_wasRe, o_wave_wasIm) (2 ^ 15) := fun p hp => by have := hwi.2.2.2.2.2.1 p hp; omega
      have eo := offOf_eq (b := 0) (by decide) hM hj hMO hTB hw.1 hw.2.1 hws hS hns.2 hB15
      rw [f1, f2, bd1_s, bd1_s, if_neg (show ¬ ((1 : Int32) = 0) by decide), if_neg (show ¬ ((1 : Int32) = 0) by decide), s1, bd2_s, offSums_eq (by omega), bd1_s, (s2 j hj).1, (s2 j hj).2, show fX10_offOf 0 m_all mX10_61 m_told (nI j) = _ from eo, bd1_s]
      exact ⟨_, _, _, _, rfl, rfl, hR0⟩
    · rw [f1, f2]
      exact ⟨_, _, _, _, rfl, rfl, hR0⟩
  · rw [e1, e2 _ t0]
    exact ⟨_, _, _, _, rfl, rfl, hR0⟩
theorem k_worst {o_imageKept : Int32} {o_taped : Int32} {o_way_size : Int32} {o_way_log : Int32} {o_way_wordBits : Int32} {o_way_limit : Int32} {o_way_radix : Int32} {o_way_order : Int32} {o_way_near : Int32} {o_way_seed : Int32} {o_way_stages : Int32} {o_way_shifts : Nat → Int32} {o_wave_exp : Int32} {o_wave_done : Int32} {o_wave_backward : Int32} {o_wave_re : Nat → Int32} {o_wave_im : Nat → Int32} {o_wave_wasRe : Nat → Int32} {o_wave_wasIm : Nat → Int32} {o_wave_halved : Nat → Int32} {o_past_next : Int32} {o_past_held : Int32} {o_past_cells : Nat → Int32} {o_notes_total : Int32} {o_notes_knownBy : Int32} {o_notes_kinds : Nat → Int32} {o_notes_targets : Nat → Int32} {o_notes_bins : Nat → Int32} {o_ring_size : Int32} {o_ring_log : Int32} {o_ring_powers : Nat → Int32} {o_turns_cos : Nat → Int32} {o_turns_sin : Nat → Int32} {o_reader_fault : Int32} {o_reader_faultPlace : Int32} {o_image : Nat → Int32} {o_tape : Nat → Int32} {m_tapeSize : Int32} {m_fault : Int32} {m_faultPlace : Int32} {m_bank : Int32} {m_isImage : Int32} {m_undos : Int32} {m_runRadix : Int32} {m_runOrder : Int32} {m_runNear : Int32} {m_runLimit : Int32} {m_runHalves : Int32} {m_power : Int32} {m_notedMany : Int32} {m_knownTold : Int32} {m_tape : Nat → Int32} {m_words : Nat → Int32} {m_told : Nat → Int32} {m_all : Nat → Int32} {m_quarter : Nat → Int32} {m_roots : Nat → Int32} {m_noted1 : Nat → Int32} (hR : REL o_imageKept o_taped o_way_size o_way_log o_way_wordBits o_way_limit o_way_radix o_way_order o_way_near o_way_seed o_way_stages o_way_shifts o_wave_exp o_wave_done o_wave_backward o_wave_re o_wave_im o_wave_wasRe o_wave_wasIm o_wave_halved o_past_next o_past_held o_past_cells o_notes_total o_notes_knownBy o_notes_kinds o_notes_targets o_notes_bins o_ring_size o_ring_log o_ring_powers o_turns_cos o_turns_sin o_reader_fault o_reader_faultPlace o_image o_tape m_tapeSize m_fault m_faultPlace m_bank m_isImage m_undos m_runRadix m_runOrder m_runNear m_runLimit m_runHalves m_power m_notedMany m_knownTold m_tape m_words m_told m_all m_quarter m_roots m_noted1) (p1 : Int32)  (o_sumsIm : Nat → Int64) (o_sumsRe : Nat → Int64) (m_thrown : Int32) :
    ∃ (r : Int64) (out_o_sumsIm : Nat → Int64) (out_o_sumsRe : Nat → Int64) (out_m_thrown : Int32), fX9_worst o_sumsIm o_sumsRe o_wave_exp o_wave_done o_wave_backward o_way_size o_way_stages o_turns_cos o_turns_sin o_wave_im o_wave_re o_wave_wasIm o_wave_wasRe p1 = some (r, out_o_sumsIm, out_o_sumsRe) ∧ fX10_worst m_thrown m_bank m_runRadix m_power m_all m_quarter m_told p1 = some (r, out_m_thrown) ∧ REL o_imageKept o_taped o_way_size o_way_log o_way_wordBits o_way_limit o_way_radix o_way_order o_way_near o_way_seed o_way_stages o_way_shifts o_wave_exp o_wave_done o_wave_backward o_wave_re o_wave_im o_wave_wasRe o_wave_wasIm o_wave_halved o_past_next o_past_held o_past_cells o_notes_total o_notes_knownBy o_notes_kinds o_notes_targets o_notes_bins o_ring_size o_ring_log o_ring_powers o_turns_cos o_turns_sin o_reader_fault o_reader_faultPlace o_image o_tape m_tapeSize m_fault m_faultPlace m_bank m_isImage m_undos m_runRadix m_runOrder m_runNear m_runLimit m_runHalves m_power m_notedMany m_knownTold m_tape m_words m_told m_all m_quarter m_roots m_noted1 := by
  have hR0 := hR
  obtain ⟨M, bits, rad, ord, nr, sd, hC, hW, hT, hG, hm, hV, hP, hI, hN, hA, hF1, hF2⟩ := hR
  obtain ⟨hM, hbits, hr, ho, hn, hsd⟩ := id hC
  obtain ⟨rfl, rfl, rfl, rfl, rfl, rfl, rfl, rfl, rfl, hSH⟩ := hW
  obtain ⟨rfl, rfl, rfl, rfl, rfl, rfl, rfl, rfl, rfl, t0, t1, t2, t3, t4, t5, hrt⟩ := hm
  have hN2 := isM_pow hM
  have hns := nst_le hM hr
  have hlm := lm_x hbits
  have hCG := CF_c hC
  obtain ⟨k, bk, rfl, rfl, hw, hws, hwi⟩ := hV
  have hMO := TRN_m hM hT t0
  have hTB := TRN_B hM hT
  unfold fX9_worst fX10_worst
  rcases isIn_c p1 (show 1 < 2 ^ 30 by decide) with ⟨i, hi, rfl, q1, q2, q3⟩ | ⟨q1, q3⟩ | ⟨q1, q2, -, q3⟩
  · rw [if_neg q1, if_pos (show nI i ≤ 1 from q2), show fX10_isIn (nI i) 0 1 = _ from q3, bd1_s, if_neg (show ¬ ((1 : Int32) = 0) by decide)]
    rcases fwd_c hM hr hwi.1 hwi.2.1 hw with ⟨rfl, rfl, f1, f2⟩ | ⟨f1, f2⟩
    · obtain ⟨S, rfl, hS⟩ := hwi.2.2.2.2.2.2.2 rfl
      obtain ⟨si', sr', s1, s2⟩ := fillSums_eq hM o_sumsIm o_sumsRe o_turns_cos o_turns_sin o_wave_wasIm o_wave_wasRe
      have hB15 : BDz M (o_wave_wasRe, o_wave_wasIm) (2 ^ 15) := fun p hp => by have := hwi.2.2.2.2.2.1 p hp; omega
      have eo := fun j (hj : j < 2 ^ M) => offOf_eq (b := 0) (by decide) hM hj hMO hTB hw.1 hw.2.1 hws hS hns.2 hB15
      have ew : fX10_worstAt 0 m_all mX10_61 m_told = _ := worstAt_eq (b := 0) hM t0 _ eo
      obtain ⟨q, hq, w1, w2⟩ := worstPlace_eq hM (nI S) o_wave_im o_wave_re si' sr' (fun k => offV (o_wave_re k) (o_wave_im k) (nI S) (dirS M o_turns_cos o_turns_sin (o_wave_wasRe, o_wave_wasIm) k 0) (dirS M o_turns_cos o_turns_sin (o_wave_wasRe, o_wave_wasIm) k 1)) (fun k hk => by rw [(s2 k hk).1, (s2 k hk).2])
      rw [f1, f2, bd1_s, bd1_s, if_neg (show ¬ ((1 : Int32) = 0) by decide), if_neg (show ¬ ((1 : Int32) = 0) by decide), s1, bd2_s, w1, bd1_s, offSums_eq (by omega), bd1_s, (s2 q hq).1, (s2 q hq).2, ew, bd1_s, bd1_s]
      rcases (show i = 0 ∨ i = 1 by omega) with rfl | rfl
      · rw [if_neg (show ¬ (nI 0 = (1 : Int32)) by decide), if_pos (show nI 0 = 0 from rfl)]
        dsimp only
        rw [← w2, show fX10_offOf 0 m_all mX10_61 m_told (nI q) = _ from eo q hq, bd1_s]
        exact ⟨_, _, _, _, rfl, rfl, hR0⟩
      · rw [if_pos (show nI 1 = (1 : Int32) from rfl), if_neg (show ¬ (nI 1 = 0) by decide)]
        dsimp only
        rw [← w2]
        exact ⟨_, _, _, _, rfl, rfl, hR0⟩
    · rw [f1, f2]
      exact ⟨_, _, _, _, rfl, rfl, hR0⟩
  · exact ⟨_, _, _, _, by rw [if_pos q1], by rw [show fX10_isIn p1 0 1 = _ from q3, bd1_s, if_pos rfl], hR0⟩
  · exact ⟨_, _, _, _, by rw [if_neg q1, if_neg (show ¬ (p1 ≤ 1) from q2)], by rw [show fX10_isIn p1 0 1 = _ from q3, bd1_s, if_pos rfl], hR0⟩
