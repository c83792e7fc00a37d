/-! ===== the ring ===== -/
theorem pwC_t : (List.range 5).all (fun m => (List.range 32).all fun j => decide (pwT (m + 1) j < 97)) = true := by decide +kernel
theorem pw_lt {M j : Nat} (hM : isM M) (hj : j < 32) : pwT M j < 97 := by
  obtain ⟨m1, m5⟩ := hM
  have h := all_x (all_x pwC_t (show M - 1 < 5 by omega)) hj
  rw [show M - 1 + 1 = M by omega] at h
  exact of_decide_eq_true h
/-- a bin's sum, up to a place, with something else at one place -/
def smX (M k : Nat) (row : Nat → Int32) (p : Nat) (v : Int) : Nat → Int
  | 0 => 0
  | i + 1 => smX M k row p v i + (if i = p then v else (row i).toInt) * (pwT M (i * k % 2 ^ M) : Int)
theorem smX_v {M k p : Nat} {row : Nat → Int32} {v : Int} : ∀ i, smX M k row p v i = smX M k row p 0 i + (if p < i then v * (pwT M (p * k % 2 ^ M) : Int) else 0) := by
  intro i
  induction i with
  | zero => rw [if_neg (by omega)]; rfl
  | succ i ih =>
    show smX M k row p v i + (if i = p then v else (row i).toInt) * (pwT M (i * k % 2 ^ M) : Int) = smX M k row p 0 i + (if i = p then 0 else (row i).toInt) * (pwT M (i * k % 2 ^ M) : Int) + _
    rw [ih]
    by_cases h : i = p
    · subst h
      rw [if_pos rfl, if_pos rfl, if_neg (by omega), if_pos (by omega)]
      omega
    · rw [if_neg h, if_neg h]
      by_cases h2 : p < i
      · rw [if_pos h2, if_pos (by omega)]; omega
      · rw [if_neg h2, if_neg (by omega)]; omega
theorem rg_step {A w : Nat} {X x : Int} (h : A % 97 = rg X) : (A + rg x * w) % 97 = rg (X + x * (w : Int)) := by
  have e1 : x * (w : Int) = 97 * (x / 97 * w) + ((rg x * w : Nat) : Int) := by
    have e2 : ((rg x : Nat) : Int) = x % 97 := by unfold rg; omega
    rw [Int.natCast_mul, e2]
    have e3 : x = 97 * (x / 97) + x % 97 := by omega
    conv => lhs; rw [e3]
    rw [Int.add_mul, Int.mul_assoc]
  rw [e1]
  unfold rg at h ⊢
  omega
theorem rg_add {X : Int} {t : Nat} : (rg X + t) % 97 = rg (X + (t : Int)) := by
  unfold rg
  omega
theorem rootTo_eq {M e : Nat} (hM : isM M) (he : e < 2 ^ 32) {pw : Nat → Int32} (hp : ∀ j, j < 32 → pw j = nI (pwT M j)) : fX5_rootTo (nI (2 ^ M)) pw (nI e) = some (nI (pwT M (e % 2 ^ M))) := by
  have hN := isM_pow hM
  have hlt := Nat.mod_lt e (show 0 < 2 ^ M by omega)
  unfold fX5_rootTo
  simp only [nm]
  rw [msk hM he, gd_t (inb_nI (show e % 2 ^ M < 32 by omega) (by decide)), nI_clamp (by omega), hp _ (by omega)]
theorem root_eq {M e : Nat} (hM : isM M) (he : e < 2 ^ 20) {roots told : Nat → Int32} (h0 : told 0 = nI (2 ^ M)) (hp : ∀ j, j < 2 ^ M → roots j = nI (pwT M j)) : fX10_root roots told (nI e) = some (nI (pwT M (e % 2 ^ M))) := by
  have hN := isM_pow hM
  have hlt := Nat.mod_lt e (show 0 < 2 ^ M by omega)
  unfold fX10_root
  simp only [nm]
  rw [size_eq, bd1_s, h0, gd_t (nz_nI (by omega) (by omega)), rem_N hM he, gd_t (inb_nI (show e % 2 ^ M < 32 by omega) (by decide)), nI_clamp (by omega), hp _ hlt]
theorem binWithout_eq {M k p : Nat} (hM : isM M) (hk : k < 2 ^ M) {pw : Nat → Int32} (hpw : ∀ j, j < 32 → pw j = nI (pwT M j)) {P : Int32} (hP : ∀ n, n < 2 ^ M → (nI n = P ↔ n = p)) (row : Nat → Int32) : fX5_binWithout (nI (2 ^ M)) row pw (nI k) P = some (nI (rg (smX M k row p 0 (2 ^ M)))) := by
  have hN := isM_pow hM
  unfold fX5_binWithout
  have hh := loopX (fun n i (y : Nat) => fX5_binWithout_6 (nI (2 ^ M)) row pw n (nI k) P (nI y) (nI i)) (fun i y => y ≤ i * 9409 ∧ y % 97 = rg (smX M k row p 0 i)) (2 ^ M) (fun y => fX5_binWithout_50 (nI y)) ?_ ?_ (2 ^ M) FU 0 0 (by omega) (FU_pos (by omega)) ⟨by omega, rfl⟩
  · obtain ⟨y, ⟨h1, h2⟩, e⟩ := hh
    refine e.trans ?_
    unfold fX5_binWithout_50
    have h3 : y ≤ 32 * 9409 := Nat.le_trans h1 (Nat.mul_le_mul_right _ hN.2)
    rw [show (97 : Int32) = nI 97 from rfl, pk_rem (by omega) (by decide) (by decide), h2]
  · intro n i y hi hJ
    obtain ⟨h1, h2⟩ := hJ
    have hmod := Nat.mod_lt (i * k) (show 0 < 2 ^ M by omega)
    have hw := pw_lt hM (show i * k % 2 ^ M < 32 by omega)
    have hr := rg_lt (row i).toInt
    have hik : i * k ≤ 32 * 32 := Nat.mul_le_mul (by omega) (by omega)
    have hmul : rg (row i).toInt * pwT M (i * k % 2 ^ M) ≤ 97 * 97 := Nat.mul_le_mul (by omega) (by omega)
    have es : smX M k row p 0 (i + 1) = smX M k row p 0 i + (if i = p then 0 else (row i).toInt) * (pwT M (i * k % 2 ^ M) : Int) := rfl
    by_cases hp : i = p
    · refine ⟨y, ⟨Nat.le_trans h1 (Nat.mul_le_mul_right _ (by omega)), ?_⟩, ?_⟩
      · rw [es, if_pos hp, Int.zero_mul, Int.add_zero]; exact h2
      · rw [fX5_binWithout_6.eq_2, if_neg (nI_ge hi (by omega)), if_pos ((hP i hi).mpr hp), fX5_binWithout_44]
        simp only [nm, nI_1]
    · refine ⟨y + rg (row i).toInt * pwT M (i * k % 2 ^ M), ⟨by have : (i + 1) * 9409 = i * 9409 + 97 * 97 := Nat.succ_mul _ _; omega, ?_⟩, ?_⟩
      · rw [es, if_neg hp]; exact rg_step h2
      · rw [fX5_binWithout_6.eq_2, if_neg (nI_ge hi (by omega)), if_neg (fun q => hp ((hP i hi).mp q)), gd_t (inb_nI (show i < 32 by omega) (by decide)), fm97, bd1_s, pk_mul, rootTo_eq hM (by omega) hpw, bd1_s, nI_clamp (by omega)]
        unfold fX5_binWithout_44
        simp only [nm, nI_1, pk_mul, nI_add]
  · intro n y hJ
    rw [fX5_binWithout_6.eq_2, if_pos (nI_le (Nat.le_refl _) (by omega))]
theorem smX_bd {M k p : Nat} {row : Nat → Int32} {v : Int} (hM : isM M) (hr : ∀ i, i < 2 ^ M → ab (row i) ≤ 2 ^ 16) (hv : v.natAbs ≤ 2 ^ 16) : ∀ i, i ≤ 2 ^ M → (smX M k row p v i).natAbs ≤ i * 2 ^ 23 := by
  have hN := isM_pow hM
  intro i
  induction i with
  | zero => intro _; show Int.natAbs 0 ≤ _; exact Nat.zero_le _
  | succ i ih =>
    intro hi
    have h1 := ih (by omega)
    have hmod := Nat.mod_lt (i * k) (show 0 < 2 ^ M by omega)
    have hw := pw_lt hM (show i * k % 2 ^ M < 32 by omega)
    have h2 : ((if i = p then v else (row i).toInt) * (pwT M (i * k % 2 ^ M) : Int)).natAbs ≤ 2 ^ 16 * 97 := by
      refine ab_mul ?_ (by omega)
      split
      · exact hv
      · exact hr i (by omega)
    have h3 : (i + 1) * 2 ^ 23 = i * 2 ^ 23 + 2 ^ 23 := Nat.succ_mul _ _
    rw [h3]
    show (smX M k row p v i + (if i = p then v else (row i).toInt) * (pwT M (i * k % 2 ^ M) : Int)).natAbs ≤ _
    omega
theorem binWith_m {M k p : Nat} (hM : isM M) (hk : k < 2 ^ M) {all roots told row : Nat → Int32} (h0 : told 0 = nI (2 ^ M)) (hpw : ∀ j, j < 2 ^ M → roots j = nI (pwT M j)) (hrow : ∀ i, i < 2 ^ M → all (64 + i) = row i) (hb : ∀ i, i < 2 ^ M → ab (row i) ≤ 2 ^ 16) {P V : Int32} (hP : ∀ n, n < 2 ^ M → (nI n = P ↔ n = p)) (hV : ab V ≤ 2 ^ 16) : fX10_binWith 0 all roots told (nI k) P V = some (nI (rg (smX M k row p V.toInt (2 ^ M)))) := by
  have hN := isM_pow hM
  unfold fX10_binWith
  have hh := loopX (fun n i (y : Int64) => fX10_binWith_6 0 all roots told n (nI k) P V y (nI i)) (fun i y => y.toInt = smX M k row p V.toInt i) (2 ^ M) (fun y => fX10_binWith_56 y) ?_ ?_ (2 ^ M) FU 0 0 (by omega) (FU_pos (by omega)) rfl
  · obtain ⟨y, h1, e⟩ := hh
    refine e.trans ?_
    unfold fX10_binWith_56
    rw [inRing_eq, bd1_s, h1]
  · intro n i y hi hJ
    have hmod := Nat.mod_lt (i * k) (show 0 < 2 ^ M by omega)
    have hw := pw_lt hM (show i * k % 2 ^ M < 32 by omega)
    have hik : i * k ≤ 32 * 32 := Nat.mul_le_mul (by omega) (by omega)
    have hbd := smX_bd (k := k) (p := p) (v := V.toInt) hM hb hV i (by omega)
    have h32 : i * 2 ^ 23 ≤ 32 * 2 ^ 23 := Nat.mul_le_mul_right _ (by omega)
    have ew : (Int32.toInt64 (nI (pwT M (i * k % 2 ^ M)))).toInt = (pwT M (i * k % 2 ^ M) : Int) := by rw [i64_w, nI_toInt (by omega)]
    have go : ∀ s1 : Int32, ab s1 ≤ 2 ^ 16 → s1.toInt = (if i = p then V.toInt else (row i).toInt) → ∃ s', s'.toInt = smX M k row p V.toInt (i + 1) ∧ fX10_binWith_36 0 all roots told (fX10_binWith_6 0 all roots told n) (nI k) P V (nI i) y s1 = fX10_binWith_6 0 all roots told n (nI k) P V s' (nI (i + 1)) := fun s1 hs1 es1 => by
      have hmul : (s1.toInt * (pwT M (i * k % 2 ^ M) : Int)).natAbs ≤ 2 ^ 16 * 97 := ab_mul hs1 (by omega)
      have em : (Int32.toInt64 s1 * Int32.toInt64 (nI (pwT M (i * k % 2 ^ M)))).toInt = s1.toInt * (pwT M (i * k % 2 ^ M) : Int) := by
        rw [i64_mul (by rw [i64_w, ew]; omega) (by rw [i64_w, ew]; omega), i64_w, ew]
      refine ⟨y + Int32.toInt64 s1 * Int32.toInt64 (nI (pwT M (i * k % 2 ^ M))), ?_, ?_⟩
      · rw [i64_add (by rw [em, hJ]; omega) (by rw [em, hJ]; omega), em, hJ, es1]
        rfl
      · unfold fX10_binWith_36
        rw [pk_mul, root_eq hM (by omega) h0 hpw, bd1_s]
        simp only [nm, nI_1]
    show ∃ s' : Int64, s'.toInt = smX M k row p V.toInt (i + 1) ∧ fX10_binWith_6 0 all roots told (n + 1) (nI k) P V y (nI i) = _
    rw [fX10_binWith_6.eq_2, size_eq, bd1_s, h0, if_neg (nI_ge hi (by omega))]
    by_cases hp : i = p
    · rw [if_pos ((hP i hi).mpr hp)]
      exact go V hV (by rw [if_pos hp])
    · rw [if_neg (fun q => hp ((hP i hi).mp q)), show (64 : Int32) + nI i = nI (64 + i) from nI_add 64 i, of0 (by omega), bd1_s, hrow i hi]
      exact go (row i) (hb i hi) (by rw [if_neg hp])
  · intro n y hJ
    rw [fX10_binWith_6.eq_2, size_eq, bd1_s, h0, if_pos (nI_le (Nat.le_refl _) (by omega))]
theorem binWith_c {M k p v : Nat} (hM : isM M) (hk : k < 2 ^ M) (hp : p < 2 ^ M) (hv : v < 16) {pw : Nat → Int32} (hpw : ∀ j, j < 32 → pw j = nI (pwT M j)) (row : Nat → Int32) : fX5_binWith (nI (2 ^ M)) pw (nI (rg (smX M k row p 0 (2 ^ M)))) (nI v) (nI k) (nI p) = some (nI (rg (smX M k row p (v : Int) (2 ^ M)))) := by
  have hN := isM_pow hM
  have hpk : p * k ≤ 32 * 32 := Nat.mul_le_mul (by omega) (by omega)
  have hmod := Nat.mod_lt (p * k) (show 0 < 2 ^ M by omega)
  have hw := pw_lt hM (show p * k % 2 ^ M < 32 by omega)
  have hr := rg_lt (smX M k row p 0 (2 ^ M))
  have hmul : v * pwT M (p * k % 2 ^ M) ≤ 16 * 97 := Nat.mul_le_mul (by omega) (by omega)
  unfold fX5_binWith
  rw [pk_mul, rootTo_eq hM (by omega) hpw, bd1_s, pk_mul, nI_add, show (97 : Int32) = nI 97 from rfl, pk_rem (by omega) (by decide) (by decide), rg_add, smX_v (v := (v : Int)), if_pos hp, Int.natCast_mul]
theorem ne_m1 {n : Nat} (h : n < 2 ^ 31) : ¬ (nI n = -1) := fun q => by have := nI_toInt h; rw [q, show (-1 : Int32).toInt = -1 from rfl] at this; omega
theorem k_bin {o_imageKept : Int32} {o_taped : Int32} {o_way_size : Int32} {o_way_log : Int32} {o_way_wordBits : Int32} {o_way_limit : Int32} {o_way_radix : Int32} {o_way_order : Int32} {o_way_near : Int32} {o_way_seed : Int32} {o_way_stages : Int32} {o_way_shifts : Nat → Int32} {o_wave_exp : Int32} {o_wave_done : Int32} {o_wave_backward : Int32} {o_wave_re : Nat → Int32} {o_wave_im : Nat → Int32} {o_wave_wasRe : Nat → Int32} {o_wave_wasIm : Nat → Int32} {o_wave_halved : Nat → Int32} {o_past_next : Int32} {o_past_held : Int32} {o_past_cells : Nat → Int32} {o_notes_total : Int32} {o_notes_knownBy : Int32} {o_notes_kinds : Nat → Int32} {o_notes_targets : Nat → Int32} {o_notes_bins : Nat → Int32} {o_ring_size : Int32} {o_ring_log : Int32} {o_ring_powers : Nat → Int32} {o_turns_cos : Nat → Int32} {o_turns_sin : Nat → Int32} {o_reader_fault : Int32} {o_reader_faultPlace : Int32} {o_image : Nat → Int32} {o_tape : Nat → Int32} {m_tapeSize : Int32} {m_fault : Int32} {m_faultPlace : Int32} {m_bank : Int32} {m_isImage : Int32} {m_undos : Int32} {m_runRadix : Int32} {m_runOrder : Int32} {m_runNear : Int32} {m_runLimit : Int32} {m_runHalves : Int32} {m_power : Int32} {m_notedMany : Int32} {m_knownTold : Int32} {m_tape : Nat → Int32} {m_words : Nat → Int32} {m_told : Nat → Int32} {m_all : Nat → Int32} {m_quarter : Nat → Int32} {m_roots : Nat → Int32} {m_noted1 : Nat → Int32} (hR : REL o_imageKept o_taped o_way_size o_way_log o_way_wordBits o_way_limit o_way_radix o_way_order o_way_near o_way_seed o_way_stages o_way_shifts o_wave_exp o_wave_done o_wave_backward o_wave_re o_wave_im o_wave_wasRe o_wave_wasIm o_wave_halved o_past_next o_past_held o_past_cells o_notes_total o_notes_knownBy o_notes_kinds o_notes_targets o_notes_bins o_ring_size o_ring_log o_ring_powers o_turns_cos o_turns_sin o_reader_fault o_reader_faultPlace o_image o_tape m_tapeSize m_fault m_faultPlace m_bank m_isImage m_undos m_runRadix m_runOrder m_runNear m_runLimit m_runHalves m_power m_notedMany m_knownTold m_tape m_words m_told m_all m_quarter m_roots m_noted1) (p1 : Int32)  (m_thrown : Int32) :
    ∃ (r : Int32) (out_m_thrown : Int32), fX9_bin o_ring_size o_way_size o_ring_powers o_wave_wasRe p1 = some r ∧ fX10_bin m_thrown m_bank m_all m_roots m_told p1 = some (r, out_m_thrown) ∧ REL o_imageKept o_taped o_way_size o_way_log o_way_wordBits o_way_limit o_way_radix o_way_order o_way_near o_way_seed o_way_stages o_way_shifts o_wave_exp o_wave_done o_wave_backward o_wave_re o_wave_im o_wave_wasRe o_wave_wasIm o_wave_halved o_past_next o_past_held o_past_cells o_notes_total o_notes_knownBy o_notes_kinds o_notes_targets o_notes_bins o_ring_size o_ring_log o_ring_powers o_turns_cos o_turns_sin o_reader_fault o_reader_faultPlace o_image o_tape m_tapeSize m_fault m_faultPlace m_bank m_isImage m_undos m_runRadix m_runOrder m_runNear m_runLimit m_runHalves m_power m_notedMany m_knownTold m_tape m_words m_told m_all m_quarter m_roots m_noted1 := by
  have hR0 := hR
  obtain ⟨M, bits, rad, ord, nr, sd, hC, hW, hT, hG, hm, hV, hP, hI, hN, hA, hF1, hF2⟩ := hR
  obtain ⟨hM, hbits, hr, ho, hn, hsd⟩ := id hC
  obtain ⟨rfl, rfl, rfl, rfl, rfl, rfl, rfl, rfl, rfl, hSH⟩ := hW
  obtain ⟨rfl, rfl, rfl, rfl, rfl, rfl, rfl, rfl, rfl, t0, t1, t2, t3, t4, t5, hrt⟩ := hm
  have hN2 := isM_pow hM
  have hns := nst_le hM hr
  have hlm := lm_x hbits
  have hCG := CF_c hC
  obtain ⟨k, bk, rfl, rfl, hw, hws, hwi⟩ := hV
  obtain ⟨rfl, rfl, hpw⟩ := id hG
  have hws0 := WASR_0 hws
  unfold fX9_bin fX10_bin
  rcases place_c hM p1 with ⟨j, hj, rfl, e1, e2⟩ | ⟨e1, e2⟩
  · have hP : ∀ n, n < 2 ^ M → (nI n = (-1 : Int32) ↔ n = 32) := fun n hn => ⟨fun q => absurd q (ne_m1 (by omega)), fun q => by omega⟩
    have a1 := binWithout_eq (p := 32) hM hj hpw hP o_wave_wasRe
    have a2 := binWith_m (p := 32) (row := o_wave_wasRe) (V := 0) hM hj t0 hrt (fun i hi => (hws0 i (by omega)).1) (fun i hi => by have := (hwi.2.2.2.2.2.1 i hi).1; dsimp only at this; omega) hP (by decide)
    rw [e1, e2 _ t0, bd1_s, bd1_s, if_neg (show ¬ ((1 : Int32) = 0) by decide), if_neg (show ¬ ((1 : Int32) = 0) by decide), a1, bd1_s, a2, bd1_s]
    exact ⟨_, _, rfl, rfl, hR0⟩
  · rw [e1, e2 _ t0]
    exact ⟨_, _, rfl, rfl, hR0⟩
theorem k_fold {o_imageKept : Int32} {o_taped : Int32} {o_way_size : Int32} {o_way_log : Int32} {o_way_wordBits : Int32} {o_way_limit : Int32} {o_way_radix : Int32} {o_way_order : Int32} {o_way_near : Int32} {o_way_seed : Int32} {o_way_stages : Int32} {o_way_shifts : Nat → Int32} {o_wave_exp : Int32} {o_wave_done : Int32} {o_wave_backward : Int32} {o_wave_re : Nat → Int32} {o_wave_im : Nat → Int32} {o_wave_wasRe : Nat → Int32} {o_wave_wasIm : Nat → Int32} {o_wave_halved : Nat → Int32} {o_past_next : Int32} {o_past_held : Int32} {o_past_cells : Nat → Int32} {o_notes_total : Int32} {o_notes_knownBy : Int32} {o_notes_kinds : Nat → Int32} {o_notes_targets : Nat → Int32} {o_notes_bins : Nat → Int32} {o_ring_size : Int32} {o_ring_log : Int32} {o_ring_powers : Nat → Int32} {o_turns_cos : Nat → Int32} {o_turns_sin : Nat → Int32} {o_reader_fault : Int32} {o_reader_faultPlace : Int32} {o_image : Nat → Int32} {o_tape : Nat → Int32} {m_tapeSize : Int32} {m_fault : Int32} {m_faultPlace : Int32} {m_bank : Int32} {m_isImage : Int32} {m_undos : Int32} {m_runRadix : Int32} {m_runOrder : Int32} {m_runNear : Int32} {m_runLimit : Int32} {m_runHalves : Int32} {m_power : Int32} {m_notedMany : Int32} {m_knownTold : Int32} {m_tape : Nat → Int32} {m_words : Nat → Int32} {m_told : Nat → Int32} {m_all : Nat → Int32} {m_quarter : Nat → Int32} {m_roots : Nat → Int32} {m_noted1 : Nat → Int32} (hR : REL o_imageKept o_taped o_way_size o_way_log o_way_wordBits o_way_limit o_way_radix o_way_order o_way_near o_way_seed o_way_stages o_way_shifts o_wave_exp o_wave_done o_wave_backward o_wave_re o_wave_im o_wave_wasRe o_wave_wasIm o_wave_halved o_past_next o_past_held o_past_cells o_notes_total o_notes_knownBy o_notes_kinds o_notes_targets o_notes_bins o_ring_size o_ring_log o_ring_powers o_turns_cos o_turns_sin o_reader_fault o_reader_faultPlace o_image o_tape m_tapeSize m_fault m_faultPlace m_bank m_isImage m_undos m_runRadix m_runOrder m_runNear m_runLimit m_runHalves m_power m_notedMany m_knownTold m_tape m_words m_told m_all m_quarter m_roots m_noted1) (p1 : Int32)  (m_thrown : Int32) :
    ∃ (r : Int32) (out_m_thrown : Int32), fX9_fold o_way_size o_wave_wasIm o_wave_wasRe p1 = some r ∧ fX10_fold m_thrown m_bank m_all m_told p1 = some (r, out_m_thrown) ∧ REL o_imageKept o_taped o_way_size o_way_log o_way_wordBits o_way_limit o_way_radix o_way_order o_way_near o_way_seed o_way_stages o_way_shifts o_wave_exp o_wave_done o_wave_backward o_wave_re o_wave_im o_wave_wasRe o_wave_wasIm o_wave_halved o_past_next o_past_held o_past_cells o_notes_total o_notes_knownBy o_notes_kinds o_notes_targets o_notes_bins o_ring_size o_ring_log o_ring_powers o_turns_cos o_turns_sin o_reader_fault o_reader_faultPlace o_image o_tape m_tapeSize m_fault m_faultPlace m_bank m_isImage m_undos m_runRadix m_runOrder m_runNear m_runLimit m_runHalves m_power m_notedMany m_knownTold m_tape m_words m_told m_all m_quarter m_roots m_noted1 := by
  have hR0 := hR
  obtain ⟨M, bits, rad, ord, nr, sd, hC, hW, hT, hG, hm, hV, hP, hI, hN, hA, hF1, hF2⟩ := hR
  obtain ⟨hM, hbits, hr, ho, hn, hsd⟩ := id hC
  obtain ⟨rfl, rfl, rfl, rfl, rfl, rfl, rfl, rfl, rfl, hSH⟩ := hW
  obtain ⟨rfl, rfl, rfl, rfl, rfl, rfl, rfl, rfl, rfl, t0, t1, t2, t3, t4, t5, hrt⟩ := hm
  have hN2 := isM_pow hM
  have hns := nst_le hM hr
  have hlm := lm_x hbits
  have hCG := CF_c hC
  obtain ⟨k, bk, rfl, rfl, hw, hws, hwi⟩ := hV
  have hws0 := WASR_0 hws
  unfold fX9_fold fX10_fold
  rcases place_c hM p1 with ⟨j, hj, rfl, e1, e2⟩ | ⟨e1, e2⟩
  · have a1 : fX9_productSum o_wave_wasIm (nI (2 ^ M)) o_wave_wasRe (-1) (nI j) = _ := productSum_eq (i := 1) hM hj (by decide) o_wave_wasRe o_wave_wasIm
    have a2 := foldOf_eq (w := (o_wave_wasRe, o_wave_wasIm)) hM hj t0 hws0
    obtain ⟨r, b1, b2⟩ := fm97L (prS M o_wave_wasRe o_wave_wasIm 1 j)
    rw [e1, e2 _ t0, bd1_s, bd1_s, if_neg (show ¬ ((1 : Int32) = 0) by decide), if_neg (show ¬ ((1 : Int32) = 0) by decide), a1, bd1_s, b1, bd1_s, b2, a2, bd1_s, inRing_eq, bd1_s]
    exact ⟨_, _, rfl, rfl, hR0⟩
  · rw [e1, e2 _ t0]
    exact ⟨_, _, rfl, rfl, hR0⟩
/-- what a size is undone by, in the ring -/
def ivN (M : Nat) : Nat := [49, 73, 85, 91, 94].getD (M - 1) 0
theorem ivC_t : (List.range 5).all (fun m => decide (ivN (m + 1) < 97) && (decide (1 ≤ ivN (m + 1)) && (((List.range 97).all fun b => decide (((nI b * nI (2 ^ (m + 1)) - nI b * nI (2 ^ (m + 1)) / (97 : Int32) * (97 : Int32)) = 1) = (b = ivN (m + 1)))) && ((List.range 97).all fun t => decide (fX5_pointOf_18 (nI (m + 1)) FU (nI t) 0 = some (nI (ivN (m + 1) * t % 97))))))) = true := by decide +kernel
theorem iv_x {M : Nat} (hM : isM M) : ivN M < 97 ∧ 1 ≤ ivN M ∧ (∀ b, b < 97 → ((nI b * nI (2 ^ M) - nI b * nI (2 ^ M) / (97 : Int32) * (97 : Int32)) = 1) = (b = ivN M)) ∧ ∀ t, t < 97 → fX5_pointOf_18 (nI M) FU (nI t) 0 = some (nI (ivN M * t % 97)) := by
  obtain ⟨m1, m5⟩ := hM
  have h := all_x ivC_t (show M - 1 < 5 by omega)
  rw [show M - 1 + 1 = M by omega] at h
  simp only [Bool.and_eq_true, decide_eq_true_eq] at h
  exact ⟨h.1, h.2.1, fun b hb => of_decide_eq_true (all_x h.2.2.1 hb), fun t ht => of_decide_eq_true (all_x h.2.2.2 ht)⟩
theorem ufC_t : (List.range 5).all (fun m => (List.range (2 ^ (m + 1))).all fun k => (List.range (2 ^ (m + 1))).all fun p => decide ((-(nI k)) * nI p &&& (nI (2 ^ (m + 1)) - 1) = nI ((2 ^ (m + 1) - p * k % 2 ^ (m + 1)) % 2 ^ (m + 1)))) = true := by decide +kernel
theorem uf_x {M k p : Nat} (hM : isM M) (hk : k < 2 ^ M) (hp : p < 2 ^ M) : (-(nI k)) * nI p &&& (nI (2 ^ M) - 1) = nI ((2 ^ M - p * k % 2 ^ M) % 2 ^ M) := by
  obtain ⟨m1, m5⟩ := hM
  have h := all_x ufC_t (show M - 1 < 5 by omega)
  rw [show M - 1 + 1 = M by omega] at h
  exact of_decide_eq_true (all_x (all_x h hk) hp)
theorem unfold36 {M : Nat} (hM : isM M) {roots told : Nat → Int32} (h0 : told 0 = nI (2 ^ M)) (th a b c : Int32) : ∀ d n i, i + d = ivN M → d < n → fX10_unfold_36 roots told n th a b c (nI i) = fX10_unfold_56 roots told th a b c (nI (ivN M)) := by
  obtain ⟨i1, i2, i3, -⟩ := iv_x hM
  intro d
  induction d with
  | zero =>
    intro n i h1 h2
    obtain ⟨n, rfl⟩ : ∃ m, n = m + 1 := ⟨n - 1, by omega⟩
    obtain rfl : i = ivN M := by omega
    rw [fX10_unfold_36.eq_2, size_eq, bd1_s, h0, if_pos (by rw [i3 _ i1])]
  | succ d ih =>
    intro n i h1 h2
    obtain ⟨n, rfl⟩ : ∃ m, n = m + 1 := ⟨n - 1, by omega⟩
    rw [fX10_unfold_36.eq_2, size_eq, bd1_s, h0, if_neg (by rw [i3 _ (by omega)]; omega), nm, nI_1]
    exact ih n (i + 1) (by omega) (by omega)
theorem k_unfold {o_imageKept : Int32} {o_taped : Int32} {o_way_size : Int32} {o_way_log : Int32} {o_way_wordBits : Int32} {o_way_limit : Int32} {o_way_radix : Int32} {o_way_order : Int32} {o_way_near : Int32} {o_way_seed : Int32} {o_way_stages : Int32} {o_way_shifts : Nat → Int32} {o_wave_exp : Int32} {o_wave_done : Int32} {o_wave_backward : Int32} {o_wave_re : Nat → Int32} {o_wave_im : Nat → Int32} {o_wave_wasRe : Nat → Int32} {o_wave_wasIm : Nat → Int32} {o_wave_halved : Nat → Int32} {o_past_next : Int32} {o_past_held : Int32} {o_past_cells : Nat → Int32} {o_notes_total : Int32} {o_notes_knownBy : Int32} {o_notes_kinds : Nat → Int32} {o_notes_targets : Nat → Int32} {o_notes_bins : Nat → Int32} {o_ring_size : Int32} {o_ring_log : Int32} {o_ring_powers : Nat → Int32} {o_turns_cos : Nat → Int32} {o_turns_sin : Nat → Int32} {o_reader_fault : Int32} {o_reader_faultPlace : Int32} {o_image : Nat → Int32} {o_tape : Nat → Int32} {m_tapeSize : Int32} {m_fault : Int32} {m_faultPlace : Int32} {m_bank : Int32} {m_isImage : Int32} {m_undos : Int32} {m_runRadix : Int32} {m_runOrder : Int32} {m_runNear : Int32} {m_runLimit : Int32} {m_runHalves : Int32} {m_power : Int32} {m_notedMany : Int32} {m_knownTold : Int32} {m_tape : Nat → Int32} {m_words : Nat → Int32} {m_told : Nat → Int32} {m_all : Nat → Int32} {m_quarter : Nat → Int32} {m_roots : Nat → Int32} {m_noted1 : Nat → Int32} (hR : REL o_imageKept o_taped o_way_size o_way_log o_way_wordBits o_way_limit o_way_radix o_way_order o_way_near o_way_seed o_way_stages o_way_shifts o_wave_exp o_wave_done o_wave_backward o_wave_re o_wave_im o_wave_wasRe o_wave_wasIm o_wave_halved o_past_next o_past_held o_past_cells o_notes_total o_notes_knownBy o_notes_kinds o_notes_targets o_notes_bins o_ring_size o_ring_log o_ring_powers o_turns_cos o_turns_sin o_reader_fault o_reader_faultPlace o_image o_tape m_tapeSize m_fault m_faultPlace m_bank m_isImage m_undos m_runRadix m_runOrder m_runNear m_runLimit m_runHalves m_power m_notedMany m_knownTold m_tape m_words m_told m_all m_quarter m_roots m_noted1) (p1 : Int32) (p2 : Int32) (p3 : Int32)  (m_thrown : Int32) :
    ∃ (r : Int32) (out_m_thrown : Int32), fX9_unfold o_ring_size o_ring_log o_way_size o_ring_powers p1 p2 p3 = some r ∧ fX10_unfold m_thrown m_roots m_told p1 p2 p3 = some (r, out_m_thrown) ∧ REL o_imageKept o_taped o_way_size o_way_log o_way_wordBits o_way_limit o_way_radix o_way_order o_way_near o_way_seed o_way_stages o_way_shifts o_wave_exp o_wave_done o_wave_backward o_wave_re o_wave_im o_wave_wasRe o_wave_wasIm o_wave_halved o_past_next o_past_held o_past_cells o_notes_total o_notes_knownBy o_notes_kinds o_notes_targets o_notes_bins o_ring_size o_ring_log o_ring_powers o_turns_cos o_turns_sin o_reader_fault o_reader_faultPlace o_image o_tape m_tapeSize m_fault m_faultPlace m_bank m_isImage m_undos m_runRadix m_runOrder m_runNear m_runLimit m_runHalves m_power m_notedMany m_knownTold m_tape m_words m_told m_all m_quarter m_roots m_noted1 := by
  have hR0 := hR
  obtain ⟨M, bits, rad, ord, nr, sd, hC, hW, hT, hG, hm, hV, hP, hI, hN, hA, hF1, hF2⟩ := hR
  obtain ⟨hM, hbits, hr, ho, hn, hsd⟩ := id hC
  obtain ⟨rfl, rfl, rfl, rfl, rfl, rfl, rfl, rfl, rfl, hSH⟩ := hW
  obtain ⟨rfl, rfl, rfl, rfl, rfl, rfl, rfl, rfl, rfl, t0, t1, t2, t3, t4, t5, hrt⟩ := hm
  have hN2 := isM_pow hM
  have hns := nst_le hM hr
  have hlm := lm_x hbits
  have hCG := CF_c hC
  obtain ⟨rfl, rfl, hpw⟩ := id hG
  unfold fX9_unfold fX10_unfold
  rcases place_c hM p1 with ⟨j, hj, rfl, e1, e2⟩ | ⟨e1, e2⟩
  · rw [e1, e2 _ t0, bd1_s, bd1_s, if_neg (show ¬ ((1 : Int32) = 0) by decide), if_neg (show ¬ ((1 : Int32) = 0) by decide)]
    rcases isIn_c p2 (show 96 < 2 ^ 30 by decide) with ⟨i, hi, rfl, q1, q2, q3⟩ | ⟨q1, q3⟩ | ⟨q1, q2, q4, q3⟩
    · rw [if_neg q1, if_neg (show ¬ ((97 : Int32) ≤ nI i) from nI_ge (a := i) (b := 97) (by omega) (by decide)), show fX10_isIn (nI i) 0 96 = _ from q3, bd1_s, if_neg (show ¬ ((1 : Int32) = 0) by decide)]
      rcases place_c hM p3 with ⟨p, hp, rfl, u1, u2⟩ | ⟨u1, u2⟩
      · rw [u1, u2 _ t0, bd1_s, bd1_s, if_neg (show ¬ ((1 : Int32) = 0) by decide), if_neg (show ¬ ((1 : Int32) = 0) by decide)]
        obtain ⟨i1, i2, i3, i4⟩ := iv_x hM
        have hmod := Nat.mod_lt (2 ^ M - p * j % 2 ^ M) (show 0 < 2 ^ M by omega)
        have hpj : p * j ≤ 32 * 32 := Nat.mul_le_mul (by omega) (by omega)
        have hpm := Nat.mod_lt (p * j) (show 0 < 2 ^ M by omega)
        have hw := pw_lt hM (show (2 ^ M - p * j % 2 ^ M) % 2 ^ M < 32 by omega)
        have hmul : i * pwT M ((2 ^ M - p * j % 2 ^ M) % 2 ^ M) ≤ 97 * 97 := Nat.mul_le_mul (by omega) (by omega)
        have ht := Nat.mod_lt (i * pwT M ((2 ^ M - p * j % 2 ^ M) % 2 ^ M)) (show 0 < 97 by decide)
        have hmul2 : ivN M * (i * pwT M ((2 ^ M - p * j % 2 ^ M) % 2 ^ M) % 97) ≤ 97 * 97 := Nat.mul_le_mul (by omega) (by omega)
        have ec : fX5_pointOf (nI (2 ^ M)) (nI M) o_ring_powers (nI j) (nI i) (nI p) = some (nI (ivN M * (i * pwT M ((2 ^ M - p * j % 2 ^ M) % 2 ^ M) % 97) % 97)) := by
          unfold fX5_pointOf fX5_rootTo
          simp only [nm]
          rw [uf_x hM hj hp, gd_t (inb_nI (show (2 ^ M - p * j % 2 ^ M) % 2 ^ M < 32 by omega) (by decide)), bd1_s, nI_clamp (by omega), hpw _ (by omega), pk_mul, show (97 : Int32) = nI 97 from rfl, pk_rem (by omega) (by decide) (by decide), i4 _ ht]
        have em := unfold36 (roots := m_roots) hM t0 0 (nI j) (nI i) (nI p) (ivN M - 1) FU 1 (by omega) (FU_pos (by omega))
        rw [ec, bd1_s, show fX10_unfold_36 m_roots m_told FU 0 (nI j) (nI i) (nI p) 1 = _ from em]
        unfold fX10_unfold_56
        rw [size_eq, bd1_s, bd1_s, t0, gd_t (nz_nI (by omega) (by omega)), pk_mul, rem_N hM (by omega), pk_sub (by omega), root_eq hM (by omega) t0 hrt, bd1_s]
        simp only [nm]
        rw [pk_mul, show (97 : Int32) = nI 97 from rfl, pk_rem (by omega) (by decide) (by decide), pk_mul, pk_rem (by omega) (by decide) (by decide)]
        exact ⟨_, _, rfl, rfl, hR0⟩
      · rw [u1, u2 _ t0]
        exact ⟨_, _, rfl, rfl, hR0⟩
    · rw [if_pos q1, show fX10_isIn p2 0 96 = _ from q3, bd1_s, if_pos rfl]
      exact ⟨_, _, rfl, rfl, hR0⟩
    · rw [if_neg q1, if_pos (show (97 : Int32) ≤ p2 from by rw [Int32.le_iff_toInt_le, show (97 : Int32).toInt = 97 from rfl]; rw [Int32.lt_iff_toInt_lt, show (nI 96).toInt = 96 from rfl] at q4; omega), show fX10_isIn p2 0 96 = _ from q3, bd1_s, if_pos rfl]
      exact ⟨_, _, rfl, rfl, hR0⟩
  · rw [e1, e2 _ t0]
    exact ⟨_, _, rfl, rfl, hR0⟩
