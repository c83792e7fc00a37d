/-! ===== points changed before the first stage ===== -/
theorem fresh_c {k bk : Nat} {all ha : Nat → Int32} {z : RowZ} {x : Int32} (hk : k ≤ 5) (hbk : bk < 2) (hw : RWS all 0 z x k bk ha) :
    (k = 0 ∧ bk = 0 ∧ fX9_isFresh (nI k) (nI bk) = some 1 ∧ fX10_isFresh 0 all = some 1) ∨ (fX9_isFresh (nI k) (nI bk) = some 0 ∧ fX10_isFresh 0 all = some 0) := by
  obtain ⟨-, -, w3, w4, -⟩ := RWS_0 hw
  unfold fX9_isFresh fX10_isFresh
  rw [show (129 : Int32) = nI 129 from rfl, of0 (by decide), bd1_s, w3, show (130 : Int32) = nI 130 from rfl, of0 (by decide), bd1_s, w4]
  by_cases h : k = 0
  · subst h
    rw [if_pos (show nI 0 = 0 from rfl)]
    rcases (show bk = 0 ∨ bk = 1 by omega) with rfl | rfl
    · exact Or.inl ⟨rfl, rfl, rfl, rfl⟩
    · exact Or.inr ⟨rfl, rfl⟩
  · rw [if_neg (nI_ne0 (by omega) (by omega))]
    exact Or.inr ⟨rfl, rfl⟩
theorem settled {M rad lim : Nat} {all al0 al1 : Nat → Int32} {z y : RowZ} {ha wi wr : Nat → Int32} (hM : isM M) (hr : isRad rad) (hl : lim < 2 ^ 15) (hw : RWS all 0 z 0 0 0 ha) (h0 : ∀ j, j < 136 → al0 j = all j) (hF : FR al0 al1 0) (hy : RW al1 0 y) (hZ : ZR M y) (hB : BDz M y lim) :
    ∃ wi' wr' al2, fX7_settle y.2 y.1 wi wr = some (wi', wr') ∧ fX10_asTheyAre 0 al1 = some al2 ∧ WVR M rad lim al2 0 0 0 y.1 y.2 wr' wi' ha ∧ ∀ j, 136 ≤ j → al2 j = al0 j := by
  have hck : cpok 0 0 32 32 32 = true := by decide
  refine ⟨va_cpy y.2 wi 0 0 32, va_cpy y.1 wr 0 0 32, blk al1 64 al1 64, ?_, ?_, ?_, ?_⟩
  · unfold fX7_settle
    simp only [gd_t hck, nm]
    rfl
  · have := asTheyAre_eq (b := 0) (by decide) al1
    simp only [Nat.mul_zero, Nat.zero_add] at this
    exact this
  · have hyb : ∀ p, p < 32 → al1 p = y.1 p ∧ al1 (32 + p) = y.2 p := fun p hp => by
      have := hy p hp
      simp only [Nat.mul_zero, Nat.zero_add] at this
      exact this
    obtain ⟨-, w2, w3, w4, w5⟩ := RWS_0 hw
    have hcp : ∀ j, 64 ≤ j → j < 136 → al1 j = all j := fun j h1 h2 => by rw [hF j (Or.inr (by omega)), h0 j h2]
    have hyw : RE32 (va_cpy y.1 wr 0 0 32, va_cpy y.2 wi 0 0 32) y := fun p hp => ⟨sb_cpy0 hp, sb_cpy0 hp⟩
    refine ⟨0, 0, rfl, rfl, ⟨?_, ?_, ?_, ?_, ?_⟩, ?_, ?_⟩
    · intro p hp
      simp only [Nat.mul_zero, Nat.zero_add]
      rw [blk_out (by omega), blk_out (by omega)]
      exact hyb p hp
    · simp only [Nat.mul_zero, Nat.zero_add]
      rw [blk_out (by omega), hcp _ (by decide) (by decide), w2]
    · simp only [Nat.mul_zero, Nat.zero_add]
      rw [blk_out (by omega), hcp _ (by decide) (by decide), w3]
    · simp only [Nat.mul_zero, Nat.zero_add]
      rw [blk_out (by omega), hcp _ (by decide) (by decide), w4]
    · intro j hj
      simp only [Nat.mul_zero, Nat.zero_add]
      rw [blk_out (by omega), hcp _ (by omega) (by omega), w5 j hj]
    · intro p hp
      simp only [Nat.mul_zero, Nat.zero_add]
      rw [blk_in (by omega) (by omega), blk_in (by omega) (by omega), show 64 + p - 64 = p by omega, show 96 + p - 64 = 32 + p by omega, sb_cpy0 hp, sb_cpy0 hp]
      exact hyb p hp
    · have hB16 : BDz M y (2 ^ 16) := fun p hp => by have := hB p hp; omega
      exact ⟨Nat.zero_le _, by decide, hZ, ZR_z hyw hZ, hB16, BD_z hM hyw hB, fun _ _ => ⟨rfl, hB⟩, fun _ => ⟨0, rfl, B_SB hB16⟩⟩
  · intro j hj
    rw [blk_out (by omega), hF j (Or.inr (by omega))]
theorem inWord_c {lim : Nat} (hl : lim < 2 ^ 15) (v : Int32) : (ab v ≤ lim ∧ fX9_isInWord (nI lim) (Int32.toInt64 v) = some 1 ∧ fX10_isValue (nI lim) v = some 1) ∨ (fX9_isInWord (nI lim) (Int32.toInt64 v) = some 0 ∧ fX10_isValue (nI lim) v = some 0) := by
  have e1 : (nI lim).toInt = (lim : Int) := nI_toInt (by omega)
  have e2 : (-(nI lim)).toInt = -(lim : Int) := by rw [i32_neg (by omega), e1]
  unfold fX9_isInWord fX10_isValue ab
  simp only [Int64.lt_iff_toInt_lt, Int32.lt_iff_toInt_lt, i64_w, e1, e2]
  by_cases h1 : (lim : Int) < v.toInt
  · right
    rw [if_pos h1, if_neg (show ¬ (v.toInt < -(lim : Int)) by omega), if_pos h1]
    exact ⟨rfl, rfl⟩
  · by_cases h2 : v.toInt < -(lim : Int)
    · right
      rw [if_neg h1, if_pos h2, if_pos h2]
      exact ⟨rfl, rfl⟩
    · left
      rw [if_neg h1, if_neg h2, if_neg h2, if_neg h1]
      exact ⟨by omega, rfl, rfl⟩
theorem lay0 {k : Nat} (hk : k < 136) (all : Nat → Int32) (v : Int32) : fX10_lay 0 all (nI k) v = some (upd all k v) := by
  have := lay_eq (b := 0) (by decide) hk all v
  rw [Nat.mul_zero, Nat.zero_add] at this
  exact this
theorem k_set {o_imageKept : Int32} {o_taped : Int32} {o_way_size : Int32} {o_way_log : Int32} {o_way_wordBits : Int32} {o_way_limit : Int32} {o_way_radix : Int32} {o_way_order : Int32} {o_way_near : Int32} {o_way_seed : Int32} {o_way_stages : Int32} {o_way_shifts : Nat → Int32} {o_wave_exp : Int32} {o_wave_done : Int32} {o_wave_backward : Int32} {o_wave_re : Nat → Int32} {o_wave_im : Nat → Int32} {o_wave_wasRe : Nat → Int32} {o_wave_wasIm : Nat → Int32} {o_wave_halved : Nat → Int32} {o_past_next : Int32} {o_past_held : Int32} {o_past_cells : Nat → Int32} {o_notes_total : Int32} {o_notes_knownBy : Int32} {o_notes_kinds : Nat → Int32} {o_notes_targets : Nat → Int32} {o_notes_bins : Nat → Int32} {o_ring_size : Int32} {o_ring_log : Int32} {o_ring_powers : Nat → Int32} {o_turns_cos : Nat → Int32} {o_turns_sin : Nat → Int32} {o_reader_fault : Int32} {o_reader_faultPlace : Int32} {o_image : Nat → Int32} {o_tape : Nat → Int32} {m_tapeSize : Int32} {m_fault : Int32} {m_faultPlace : Int32} {m_bank : Int32} {m_isImage : Int32} {m_undos : Int32} {m_runRadix : Int32} {m_runOrder : Int32} {m_runNear : Int32} {m_runLimit : Int32} {m_runHalves : Int32} {m_power : Int32} {m_notedMany : Int32} {m_knownTold : Int32} {m_tape : Nat → Int32} {m_words : Nat → Int32} {m_told : Nat → Int32} {m_all : Nat → Int32} {m_quarter : Nat → Int32} {m_roots : Nat → Int32} {m_noted1 : Nat → Int32} (hR : REL o_imageKept o_taped o_way_size o_way_log o_way_wordBits o_way_limit o_way_radix o_way_order o_way_near o_way_seed o_way_stages o_way_shifts o_wave_exp o_wave_done o_wave_backward o_wave_re o_wave_im o_wave_wasRe o_wave_wasIm o_wave_halved o_past_next o_past_held o_past_cells o_notes_total o_notes_knownBy o_notes_kinds o_notes_targets o_notes_bins o_ring_size o_ring_log o_ring_powers o_turns_cos o_turns_sin o_reader_fault o_reader_faultPlace o_image o_tape m_tapeSize m_fault m_faultPlace m_bank m_isImage m_undos m_runRadix m_runOrder m_runNear m_runLimit m_runHalves m_power m_notedMany m_knownTold m_tape m_words m_told m_all m_quarter m_roots m_noted1) (p1 : Int32) (p2 : Int32) (p3 : Int32)  (m_thrown : Int32) :
    ∃ (r : Int32) (out_o_past_next : Int32) (out_o_past_held : Int32) (out_o_past_cells : Nat → Int32) (out_o_wave_im : Nat → Int32) (out_o_wave_re : Nat → Int32) (out_o_wave_wasIm : Nat → Int32) (out_o_wave_wasRe : Nat → Int32) (out_m_thrown : Int32) (out_m_undos : Int32) (out_m_all : Nat → Int32), fX9_set o_past_next o_past_held o_wave_exp o_wave_done o_wave_backward o_way_size o_way_limit o_past_cells o_wave_halved o_wave_im o_wave_re o_wave_wasIm o_wave_wasRe p1 p2 p3 = some (r, out_o_past_next, out_o_past_held, out_o_past_cells, out_o_wave_im, out_o_wave_re, out_o_wave_wasIm, out_o_wave_wasRe) ∧ fX10_set m_thrown m_bank m_undos m_runLimit m_all m_told p1 p2 p3 = some (r, out_m_thrown, out_m_undos, out_m_all) ∧ REL o_imageKept o_taped o_way_size o_way_log o_way_wordBits o_way_limit o_way_radix o_way_order o_way_near o_way_seed o_way_stages o_way_shifts o_wave_exp o_wave_done o_wave_backward out_o_wave_re out_o_wave_im out_o_wave_wasRe out_o_wave_wasIm o_wave_halved out_o_past_next out_o_past_held out_o_past_cells o_notes_total o_notes_knownBy o_notes_kinds o_notes_targets o_notes_bins o_ring_size o_ring_log o_ring_powers o_turns_cos o_turns_sin o_reader_fault o_reader_faultPlace o_image o_tape m_tapeSize m_fault m_faultPlace m_bank m_isImage out_m_undos m_runRadix m_runOrder m_runNear m_runLimit m_runHalves m_power m_notedMany m_knownTold m_tape m_words m_told out_m_all m_quarter m_roots m_noted1 := by
  have hR0 := hR
  obtain ⟨M, bits, rad, ord, nr, sd, hC, hW, hT, hG, hm, hV, hP, hI, hN, hA, hF1, hF2⟩ := hR
  obtain ⟨hM, hbits, hr, ho, hn, hsd⟩ := id hC
  obtain ⟨rfl, rfl, rfl, rfl, rfl, rfl, rfl, rfl, rfl, hSH⟩ := hW
  obtain ⟨rfl, rfl, rfl, rfl, rfl, rfl, rfl, rfl, rfl, t0, t1, t2, t3, t4, t5, hrt⟩ := hm
  have hN2 := isM_pow hM
  have hns := nst_le hM hr
  have hlm := lm_x hbits
  have hCG := CF_c hC
  have hV0 := hV
  obtain ⟨k, bk, rfl, rfl, hw, hws, hwi⟩ := hV
  unfold fX9_set fX10_set
  rcases place_c hM p1 with ⟨j, hj, rfl, e1, e2⟩ | ⟨e1, e2⟩
  · rw [e1, e2 _ t0, bd1_s, bd1_s, if_neg (show ¬ ((1 : Int32) = 0) by decide), if_neg (show ¬ ((1 : Int32) = 0) by decide)]
    rcases inWord_c hlm.2 p2 with ⟨a0, a1, a2⟩ | ⟨a1, a2⟩
    · rw [a1, a2, bd1_s, bd1_s, if_neg (show ¬ ((1 : Int32) = 0) by decide), if_neg (show ¬ ((1 : Int32) = 0) by decide)]
      rcases inWord_c hlm.2 p3 with ⟨b0, b1, b2⟩ | ⟨b1, b2⟩
      · rw [b1, b2, bd1_s, bd1_s, if_neg (show ¬ ((1 : Int32) = 0) by decide), if_neg (show ¬ ((1 : Int32) = 0) by decide)]
        rcases fresh_c (by have := hwi.1; omega) hwi.2.1 hw with ⟨rfl, rfl, f1, f2⟩ | ⟨f1, f2⟩
        · obtain ⟨x0, hB0⟩ := hwi.2.2.2.2.2.2.1 rfl rfl
          subst x0
          obtain ⟨nx', hd', ce', un', al', r1, r2, r3, r4⟩ := remember_x hV0 hP
          obtain ⟨w1, -⟩ := RWS_0 hw
          have hR1 : RW (upd (upd al' j p2) (32 + j) p3) 0 (upd o_wave_re j p2, upd o_wave_im j p3) := by
            intro p hp
            simp only [Nat.mul_zero, Nat.zero_add]
            constructor
            · rw [pk_un (by omega)]
              by_cases h : p = j
              · subst h; rw [pk_us, pk_us]
              · rw [pk_un h, pk_un h, r4 p (by omega)]; exact (w1 p hp).1
            · by_cases h : p = j
              · subst h; rw [pk_us, pk_us]
              · rw [pk_un (by omega), pk_un (by omega), pk_un h, r4 _ (by omega)]; exact (w1 p hp).2
          obtain ⟨wi', wr', al2, s1, s2, s3, s4⟩ := settled (y := (upd o_wave_re j p2, upd o_wave_im j p3)) (al0 := al') (wi := o_wave_wasIm) (wr := o_wave_wasRe) hM hr hlm.2 hw (fun i hi => r4 i (by omega)) (al1 := upd (upd al' j p2) (32 + j) p3) (fun i hi => by rw [pk_un (by omega), pk_un (by omega)]) hR1
            (fun p h1 h2 => by
              have h3 := hwi.2.2.1 p h1 h2
              dsimp only at h3 ⊢
              rw [pk_un (by omega), pk_un (by omega)]
              exact h3)
            (fun p hp => by
              have h3 := hB0 p hp
              dsimp only at h3 ⊢
              by_cases h : p = j
              · subst h; rw [pk_us, pk_us]; exact ⟨a0, b0⟩
              · rw [pk_un h, pk_un h]; exact h3)
          rw [f1, f2, bd1_s, bd1_s, if_neg (show ¬ ((1 : Int32) = 0) by decide), if_neg (show ¬ ((1 : Int32) = 0) by decide), r1, r2, bd3_s, bd2_s, lay0 (by omega), bd1_s, show (32 : Int32) + nI j = nI (32 + j) from nI_add 32 j, lay0 (by omega), bd1_s, s2, bd1_s]
          simp only [nm, gd_t (inb_nI (show j < 32 by omega) (by decide)), nI_clamp (show j < 2 ^ 31 by omega)]
          rw [s1]
          exact ⟨_, _, _, _, _, _, _, _, _, _, _, rfl, rfl, M, bits, rad, ord, nr, sd, hC, ⟨rfl, rfl, rfl, rfl, rfl, rfl, rfl, rfl, rfl, hSH⟩, hT, hG, ⟨rfl, rfl, rfl, rfl, rfl, rfl, rfl, rfl, rfl, t0, t1, t2, t3, t4, t5, hrt⟩, s3, PSTR_c (fun i hi => s4 i (by omega)) r3, IMGR_c (fun i h1 h2 => by rw [s4 i (by omega), r4 i (by omega)]) hI, hN, hA, hF1, hF2⟩
        · rw [f1, f2]
          exact ⟨_, _, _, _, _, _, _, _, _, _, _, rfl, rfl, hR0⟩
      · rw [b1, b2]
        exact ⟨_, _, _, _, _, _, _, _, _, _, _, rfl, rfl, hR0⟩
    · rw [a1, a2]
      exact ⟨_, _, _, _, _, _, _, _, _, _, _, rfl, rfl, hR0⟩
  · rw [e1, e2 _ t0]
    exact ⟨_, _, _, _, _, _, _, _, _, _, _, rfl, rfl, hR0⟩
