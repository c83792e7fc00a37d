/-! ===== values of the reference; values ===== -/
theorem isSoBy_m {M p v kn : Nat} (hM : isM M) (hp : p < 2 ^ M) (hv : v < 16) (hk : kn ≤ 24) {all roots told row ki ta bi no co : Nat → Int32} {many kt : Int32} {c : Nat → Bool} (h0 : told 0 = nI (2 ^ M)) (hpw : ∀ j, j < 2 ^ M → roots j = nI (pwT M j)) (hrow : ∀ i, i < 2 ^ M → all (64 + i) = row i) (hb : ∀ i, i < 2 ^ M → ab (row i) ≤ 2 ^ 16) (hkb : fX10_knownBy many kt = some (nI kn)) (hN : ∀ i, i < kn → NOT1 M ki ta bi no i) (hc : ∀ i, i < kn → co i = if c i then 1 else 0) :
    ∀ d n k, k + d = kn → d < n → ∃ r, fX10_isSoBy_2 0 many kt all co no roots told n (nI p) (nI v) (nI k) = some r ∧ (r = 0 ∨ r = 1) ∧ (r = 1 ↔ ∀ i, k ≤ i → i < kn → gdn M row p ki ta bi c i v = true) := by
  have hN2 := isM_pow hM
  have hP : ∀ n, n < 2 ^ M → (nI n = nI p ↔ n = p) := fun n hn => nI_eq (by omega) (by omega)
  intro d
  induction d with
  | zero =>
    intro n k h1 h2
    obtain ⟨n, rfl⟩ : ∃ m, n = m + 1 := ⟨n - 1, by omega⟩
    rw [fX10_isSoBy_2.eq_2, hkb, bd1_s, if_pos (nI_le (by omega) (by omega))]
    exact ⟨1, rfl, Or.inr rfl, fun _ i hi hi2 => by omega, fun _ => rfl⟩
  | succ d ih =>
    intro n k h1 h2
    obtain ⟨n, rfl⟩ : ∃ m, n = m + 1 := ⟨n - 1, by omega⟩
    obtain ⟨r, i1, i2, i3⟩ := ih n (k + 1) (by omega) (by omega)
    have go : fX10_isSoBy_94 0 many kt all co no roots told (fX10_isSoBy_2 0 many kt all co no roots told n) (nI p) (nI v) (nI k) = some r := by
      unfold fX10_isSoBy_94
      rw [nm, nI_1]
      exact i1
    have good : gdn M row p ki ta bi c k v = true → (r = 1 ↔ ∀ i, k ≤ i → i < kn → gdn M row p ki ta bi c i v = true) := fun hg => by
      rw [i3]
      constructor
      · intro q i hi hi2
        by_cases e : i = k
        · subst e; exact hg
        · exact q i (by omega) hi2
      · intro q i hi hi2
        exact q i (by omega) hi2
    have e3 : (3 : Int32) * nI k = nI (3 * k) := pk_mul 3 k
    rw [fX10_isSoBy_2.eq_2, hkb, bd1_s, if_neg (nI_ge (by omega) (by omega)), nm, gd_t (inb_nI (show k < 24 by omega) (by decide)), nI_clamp (by omega), hc k (by omega), e3]
    by_cases hck : c k = true
    · rw [if_pos hck, if_neg (show ¬ ((1 : Int32) = 0) by decide), gd_t (inb_nI (show 3 * k < 72 by omega) (by decide)), nI_clamp (by omega)]
      rcases hN k (by omega) with ⟨t, ht, n1, n2, n3, n4⟩ | ⟨kk, vv, ee, q1, q2, q3, n1, n2, n3, n4, n5, n6⟩
      · rw [n3, if_neg (show ¬ ((0 : Int32) ≤ -1) by decide), go]
        refine ⟨r, rfl, i2, good ?_⟩
        unfold gdn
        rw [n1, decide_eq_true rfl, Bool.true_or, Bool.or_true]
      · have hcl : (ta k).toNatClampNeg = kk := by rw [n2, nI_clamp (by omega)]
        have hV : ab (nI v) ≤ 2 ^ 16 := by unfold ab; rw [nI_toInt (by omega)]; omega
        have hB := binWith_m hM q1 h0 hpw hrow hb hP hV
        rw [nI_toInt (show v < 2 ^ 31 by omega)] at hB
        rw [n4, if_pos (nI_pos' (by omega)), gd_t (inb_nI (show 3 * k < 72 by omega) (by decide)), hB, bd1_s, nm, nI_1, gd_t (inb_nI (show 3 * k + 1 < 72 by omega) (by decide)), nI_clamp (by omega), n5]
        have h2k : ¬ (ki k = 2) := fun q => by rw [n1] at q; have := (nI_eq (b := 2) (by omega) (by decide)).mp q; omega
        have eg : gdn M row p ki ta bi c k v = ((decide (nI (rg (smX M kk row p (v : Int) (2 ^ M))) < nI vv)) != (decide (nI ee = (1 : Int32)))) := by
          unfold gdn cnd
          rw [hck, decide_eq_false h2k, hcl, n1, n3]
          rfl
        have fin : ∀ s0 : Int32, s0 = (if nI (rg (smX M kk row p (v : Int) (2 ^ M))) < nI vv then 0 else 1) → ∃ r, fX10_isSoBy_67 0 many kt all co no roots told (fX10_isSoBy_2 0 many kt all co no roots told n) (nI p) (nI v) (nI k) (nI (3 * k)) s0 = some r ∧ (r = 0 ∨ r = 1) ∧ (r = 1 ↔ ∀ i, k ≤ i → i < kn → gdn M row p ki ta bi c i v = true) := by
          intro s0 hs0
          unfold fX10_isSoBy_67 fX10_isSoBy_89
          rw [nm, show nI (3 * k) + 2 = nI (3 * k + 2) from nI_add _ 2, gd_t (inb_nI (show 3 * k + 2 < 72 by omega) (by decide)), nI_clamp (by omega), n6]
          have one : ∀ s1 : Int32, s1 = (if nI ee = (1 : Int32) then 1 else 0) → ∃ r, (if s0 = s1 then fX10_isSoBy_94 0 many kt all co no roots told (fX10_isSoBy_2 0 many kt all co no roots told n) (nI p) (nI v) (nI k) else some 0) = some r ∧ (r = 0 ∨ r = 1) ∧ (r = 1 ↔ ∀ i, k ≤ i → i < kn → gdn M row p ki ta bi c i v = true) := by
            intro s1 hs1
            have hiff : (s0 = s1) ↔ gdn M row p ki ta bi c k v = true := by
              rw [eg, hs0, hs1]
              by_cases a : nI (rg (smX M kk row p (v : Int) (2 ^ M))) < nI vv
              · by_cases b : nI ee = (1 : Int32)
                · rw [if_pos a, if_pos b, decide_eq_true a, decide_eq_true b]; decide
                · rw [if_pos a, if_neg b, decide_eq_true a, decide_eq_false b]; decide
              · by_cases b : nI ee = (1 : Int32)
                · rw [if_neg a, if_pos b, decide_eq_false a, decide_eq_true b]; decide
                · rw [if_neg a, if_neg b, decide_eq_false a, decide_eq_false b]; decide
            by_cases hs : s0 = s1
            · rw [if_pos hs, go]
              exact ⟨r, rfl, i2, good (hiff.mp hs)⟩
            · rw [if_neg hs]
              exact ⟨0, rfl, Or.inl rfl, fun q => absurd q (by decide), fun q => absurd (hiff.mpr (q k (Nat.le_refl _) (by omega))) hs⟩
          by_cases b : nI ee = (1 : Int32)
          · rw [if_pos b]; exact one 1 (by rw [if_pos b])
          · rw [if_neg b]; exact one 0 (by rw [if_neg b])
        by_cases a : nI (rg (smX M kk row p (v : Int) (2 ^ M))) < nI vv
        · rw [if_pos a]; exact fin 0 (by rw [if_pos a])
        · rw [if_neg a]; exact fin 1 (by rw [if_neg a])
    · rw [if_neg hck, if_pos rfl, go]
      refine ⟨r, rfl, i2, good ?_⟩
      unfold gdn
      rw [Bool.eq_false_iff.mpr hck]
      rfl
theorem valuesOf_m {M p kn : Nat} (hM : isM M) (hp : p < 2 ^ M) (hk : kn ≤ 24) {all roots told row ki ta bi no co co' : Nat → Int32} {many kt : Int32} {c : Nat → Bool} (h0 : told 0 = nI (2 ^ M)) (hpw : ∀ j, j < 2 ^ M → roots j = nI (pwT M j)) (hrow : ∀ i, i < 2 ^ M → all (64 + i) = row i) (hb : ∀ i, i < 2 ^ M → ab (row i) ≤ 2 ^ 16) (hkb : fX10_knownBy many kt = some (nI kn)) (hN : ∀ i, i < kn → NOT1 M ki ta bi no i) (hl : fX10_layCounts many kt co no = some co') (hc : ∀ i, i < kn → co' i = if c i then 1 else 0) :
    ∃ r, fX10_valuesOf 0 many kt all co no roots told (nI p) = some (r, co') ∧ ∀ b, b < 32 → (tb r b = true ↔ b < 16 ∧ ∀ i, i < kn → gdn M row p ki ta bi c i b = true) := by
  unfold fX10_valuesOf
  rw [hl, bd1_s]
  have hh := loopX (fun f i (y : Int32) => fX10_valuesOf_8 0 many kt all no roots told f co' (nI p) y (nI i)) (fun i y => ∀ b, b < 32 → (tb y b = true ↔ b < i ∧ ∀ j, j < kn → gdn M row p ki ta bi c j b = true)) 16 (fun y => some (y, co')) ?_ ?_ 16 FU 0 0 (by omega) (FU_pos (by omega)) (fun b hb => by
    rw [show (0 : Int32) = nI 0 from rfl, tb_nI hb, Nat.zero_testBit]
    exact ⟨fun q => absurd q (by decide), fun q => absurd q.1 (by omega)⟩)
  · obtain ⟨y, a1, a2⟩ := hh
    exact ⟨y, a2, a1⟩
  · intro f i y hi hJ
    obtain ⟨r, r1, r2, r3⟩ := isSoBy_m hM hp hi hk h0 hpw hrow hb hkb hN hc kn FU 0 (by omega) (FU_pos (by omega))
    show ∃ s', _ ∧ fX10_valuesOf_8 0 many kt all no roots told (f + 1) co' (nI p) y (nI i) = _
    rw [fX10_valuesOf_8.eq_2, if_neg (show ¬ ((16 : Int32) ≤ nI i) from nI_ge hi (by decide)), show fX10_isSoBy 0 many kt all co' no roots told (nI p) (nI i) = some r from r1, bd1_s]
    unfold fX10_valuesOf_31
    rcases r2 with rfl | rfl
    · rw [if_pos rfl, nm, nm, nI_1]
      refine ⟨y ||| 0, fun b hb => ?_, rfl⟩
      rw [tb_or, show (0 : Int32) = nI 0 from rfl, tb_nI hb, Nat.zero_testBit, Bool.or_false, hJ b hb]
      constructor
      · intro q; exact ⟨by omega, q.2⟩
      · intro q
        refine ⟨?_, q.2⟩
        by_cases e : b = i
        · subst e
          exact absurd (r3.mpr (fun j _ hj => q.2 j hj)) (by decide)
        · omega
    · rw [if_neg (show ¬ ((1 : Int32) = 0) by decide), nm, nm, nI_1]
      refine ⟨y ||| ((1 : Int32) <<< (nI i &&& 31)), fun b hb => ?_, rfl⟩
      rw [tb_or, tb_pow (by omega) hb, Bool.or_eq_true, hJ b hb, decide_eq_true_eq]
      constructor
      · intro q
        rcases q with q | q
        · exact ⟨by omega, q.2⟩
        · subst q
          exact ⟨by omega, fun j hj => r3.mp rfl j (Nat.zero_le _) hj⟩
      · intro q
        by_cases e : b = i
        · exact Or.inr e.symm
        · exact Or.inl ⟨by omega, q.2⟩
  · intro f y hJ
    rw [fX10_valuesOf_8.eq_2, if_pos (show (16 : Int32) ≤ nI 16 by decide)]
theorem values_both {M p n : Nat} (hM : isM M) (hp : p < 2 ^ M) {all roots told pw row ki ta bi no co : Nat → Int32} {kb kt : Int32} (h0 : told 0 = nI (2 ^ M)) (hpc : ∀ j, j < 32 → pw j = nI (pwT M j)) (hpw : ∀ j, j < 2 ^ M → roots j = nI (pwT M j)) (hrow : ∀ i, i < 2 ^ M → all (64 + i) = row i) (hb : ∀ i, i < 2 ^ M → ab (row i) ≤ 2 ^ 16) (hn : n ≤ 24) (hkk : kb = kt) (hkt : kt = -1 ∨ ∃ j, j ≤ n ∧ kt = nI j) (hN : ∀ i, i < n → NOT1 M ki ta bi no i) :
    ∃ r co', fX9_valuesOf (nI n) kb (nI (2 ^ M)) bi ki ta pw row (nI p) = some r ∧ fX10_valuesOf 0 (nI n) kt all co no roots told (nI p) = some (r, co') ∧ ∀ b, b < 32 → tb r b = true → b < 16 := by
  subst hkk
  obtain ⟨kn, hkn, e1, e2⟩ : ∃ kn, kn ≤ n ∧ fX2_knownNow (nI n) kb = some (nI kn) ∧ fX10_knownBy (nI n) kb = some (nI kn) := by
    unfold fX2_knownNow fX10_knownBy
    rcases hkt with rfl | ⟨j, hj, rfl⟩
    · exact ⟨n, Nat.le_refl _, by rw [if_neg (show ¬ ((0 : Int32) ≤ -1) by decide)], by rw [if_neg (show ¬ ((0 : Int32) ≤ -1) by decide)]⟩
    · exact ⟨j, hj, by rw [if_pos (nI_pos' (by omega))], by rw [if_pos (nI_pos' (by omega))]⟩
  obtain ⟨v', co', c', s1, s2, s3, s4⟩ := counts_both hM (show kn ≤ 24 by omega) (fun i hi => hN i (by omega)) e1 e2 co
  obtain ⟨r, r1, r2⟩ := valuesOf_c (row := row) hM hp hn hpc hN s1 s3
  obtain ⟨r', r3, r4⟩ := valuesOf_m (row := row) hM hp (show kn ≤ 24 by omega) h0 hpw hrow hb e2 (fun i hi => hN i (by omega)) s2 s4
  have er : r = r' := tb_ext (fun i hi => by
    rw [Bool.eq_iff_iff, r2 i hi, r4 i hi]
    constructor
    · intro q; exact ⟨q.1, fun j hj => q.2 j (by omega) hj⟩
    · intro q; exact ⟨q.1, fun j _ hj => q.2 j hj⟩)
  subst er
  exact ⟨r, co', r1, r3, fun b hb q => ((r2 b hb).mp q).1⟩
theorem k_values {o_imageKept : Int32} {o_taped : Int32} {o_way_size : Int32} {o_way_log : Int32} {o_way_wordBits : Int32} {o_way_limit : Int32} {o_way_radix : Int32} {o_way_order : Int32} {o_way_near : Int32} {o_way_seed : Int32} {o_way_stages : Int32} {o_way_shifts : Nat → Int32} {o_wave_exp : Int32} {o_wave_done : Int32} {o_wave_backward : Int32} {o_wave_re : Nat → Int32} {o_wave_im : Nat → Int32} {o_wave_wasRe : Nat → Int32} {o_wave_wasIm : Nat → Int32} {o_wave_halved : Nat → Int32} {o_past_next : Int32} {o_past_held : Int32} {o_past_cells : Nat → Int32} {o_notes_total : Int32} {o_notes_knownBy : Int32} {o_notes_kinds : Nat → Int32} {o_notes_targets : Nat → Int32} {o_notes_bins : Nat → Int32} {o_ring_size : Int32} {o_ring_log : Int32} {o_ring_powers : Nat → Int32} {o_turns_cos : Nat → Int32} {o_turns_sin : Nat → Int32} {o_reader_fault : Int32} {o_reader_faultPlace : Int32} {o_image : Nat → Int32} {o_tape : Nat → Int32} {m_tapeSize : Int32} {m_fault : Int32} {m_faultPlace : Int32} {m_bank : Int32} {m_isImage : Int32} {m_undos : Int32} {m_runRadix : Int32} {m_runOrder : Int32} {m_runNear : Int32} {m_runLimit : Int32} {m_runHalves : Int32} {m_power : Int32} {m_notedMany : Int32} {m_knownTold : Int32} {m_tape : Nat → Int32} {m_words : Nat → Int32} {m_told : Nat → Int32} {m_all : Nat → Int32} {m_quarter : Nat → Int32} {m_roots : Nat → Int32} {m_noted1 : Nat → Int32} (hR : REL o_imageKept o_taped o_way_size o_way_log o_way_wordBits o_way_limit o_way_radix o_way_order o_way_near o_way_seed o_way_stages o_way_shifts o_wave_exp o_wave_done o_wave_backward o_wave_re o_wave_im o_wave_wasRe o_wave_wasIm o_wave_halved o_past_next o_past_held o_past_cells o_notes_total o_notes_knownBy o_notes_kinds o_notes_targets o_notes_bins o_ring_size o_ring_log o_ring_powers o_turns_cos o_turns_sin o_reader_fault o_reader_faultPlace o_image o_tape m_tapeSize m_fault m_faultPlace m_bank m_isImage m_undos m_runRadix m_runOrder m_runNear m_runLimit m_runHalves m_power m_notedMany m_knownTold m_tape m_words m_told m_all m_quarter m_roots m_noted1) (p1 : Int32)  (m_thrown : Int32) (m_counts : Nat → Int32) :
    ∃ (r : Int32) (out_m_thrown : Int32) (out_m_counts : Nat → Int32), fX9_values o_notes_total o_notes_knownBy o_ring_size o_way_size o_notes_bins o_notes_kinds o_notes_targets o_ring_powers o_wave_wasRe p1 = some r ∧ fX10_values m_thrown m_bank m_notedMany m_knownTold m_all m_counts m_noted1 m_roots m_told p1 = some (r, out_m_thrown, out_m_counts) ∧ REL o_imageKept o_taped o_way_size o_way_log o_way_wordBits o_way_limit o_way_radix o_way_order o_way_near o_way_seed o_way_stages o_way_shifts o_wave_exp o_wave_done o_wave_backward o_wave_re o_wave_im o_wave_wasRe o_wave_wasIm o_wave_halved o_past_next o_past_held o_past_cells o_notes_total o_notes_knownBy o_notes_kinds o_notes_targets o_notes_bins o_ring_size o_ring_log o_ring_powers o_turns_cos o_turns_sin o_reader_fault o_reader_faultPlace o_image o_tape m_tapeSize m_fault m_faultPlace m_bank m_isImage m_undos m_runRadix m_runOrder m_runNear m_runLimit m_runHalves m_power m_notedMany m_knownTold m_tape m_words m_told m_all m_quarter m_roots m_noted1 := by
  have hR0 := hR
  obtain ⟨M, bits, rad, ord, nr, sd, hC, hW, hT, hG, hm, hV, hP, hI, hN, hA, hF1, hF2⟩ := hR
  obtain ⟨hM, hbits, hr, ho, hn, hsd⟩ := id hC
  obtain ⟨rfl, rfl, rfl, rfl, rfl, rfl, rfl, rfl, rfl, hSH⟩ := hW
  obtain ⟨rfl, rfl, rfl, rfl, rfl, rfl, rfl, rfl, rfl, t0, t1, t2, t3, t4, t5, hrt⟩ := hm
  have hN2 := isM_pow hM
  have hns := nst_le hM hr
  have hlm := lm_x hbits
  have hCG := CF_c hC
  obtain ⟨k, bk, rfl, rfl, hw, hws, hwi⟩ := hV
  obtain ⟨rfl, rfl, hpw⟩ := id hG
  obtain ⟨n, rfl, n1, rfl, n2, n3, n4⟩ := id hN
  have hws0 := WASR_0 hws
  unfold fX9_values fX10_values
  rcases place_c hM p1 with ⟨j, hj, rfl, e1, e2⟩ | ⟨e1, e2⟩
  · obtain ⟨r, co', a1, a2, -⟩ := values_both (all := m_all) (co := m_counts) (row := o_wave_wasRe) hM hj t0 hpw hrt (fun i hi => (hws0 i (by omega)).1) (fun i hi => by have := (hwi.2.2.2.2.2.1 i hi).1; dsimp only at this; omega) n1 n2 n3 n4
    rw [e1, e2 _ t0, bd1_s, bd1_s, if_neg (show ¬ ((1 : Int32) = 0) by decide), if_neg (show ¬ ((1 : Int32) = 0) by decide), a1, bd1_s, a2, bd2_s]
    exact ⟨_, _, _, rfl, rfl, hR0⟩
  · rw [e1, e2 _ t0]
    exact ⟨_, _, _, rfl, rfl, hR0⟩
