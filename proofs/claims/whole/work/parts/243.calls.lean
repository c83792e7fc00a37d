/-! ===== the greatest of two rows; apart, returned ===== -/
def MXP (n : Nat) (A B : Nat → Int64) (r : Int64) : Prop := (r = 0 ∨ ∃ p, p < n ∧ (r = A p ∨ r = B p)) ∧ 0 ≤ r ∧ ∀ p, p < n → A p ≤ r ∧ B p ≤ r
theorem MXP_le {n : Nat} {A B : Nat → Int64} {r s : Int64} (h1 : MXP n A B r) (h2 : MXP n A B s) : r ≤ s := by
  rcases h1.1 with rfl | ⟨p, hp, rfl | rfl⟩
  · exact h2.2.1
  · exact (h2.2.2 p hp).1
  · exact (h2.2.2 p hp).2
theorem MXP_u {n : Nat} {A B : Nat → Int64} {r s : Int64} (h1 : MXP n A B r) (h2 : MXP n A B s) : r = s := by
  have a := MXP_le h1 h2
  have b := MXP_le h2 h1
  rw [Int64.le_iff_toInt_le] at a b
  exact Int64.toInt_inj.mp (by omega)
theorem MXP_0 {A B : Nat → Int64} : MXP 0 A B 0 := ⟨Or.inl rfl, by decide, fun p hp => by omega⟩
theorem MXP_s {n : Nat} {A B : Nat → Int64} {r : Int64} (h : MXP n A B r) : MXP (n + 1) A B (if mxL (A n) (B n) < r then r else mxL (A n) (B n)) := by
  obtain ⟨h1, h2, h3⟩ := h
  have hm : A n ≤ mxL (A n) (B n) ∧ B n ≤ mxL (A n) (B n) := by
    unfold mxL
    simp only [Int64.le_iff_toInt_le]
    split
    · rename_i q; rw [Int64.lt_iff_toInt_lt] at q; omega
    · rename_i q; rw [Int64.lt_iff_toInt_lt] at q; omega
  simp only [Int64.le_iff_toInt_le] at h2 h3 hm
  split
  · rename_i q
    rw [Int64.lt_iff_toInt_lt] at q
    refine ⟨?_, by rw [Int64.le_iff_toInt_le]; exact h2, fun p hp => ?_⟩
    · rcases h1 with h1 | ⟨p, hp, e⟩
      · exact Or.inl h1
      · exact Or.inr ⟨p, by omega, e⟩
    · simp only [Int64.le_iff_toInt_le]
      by_cases e : p = n
      · subst e; omega
      · exact h3 p (by omega)
  · rename_i q
    rw [Int64.lt_iff_toInt_lt] at q
    refine ⟨Or.inr ⟨n, by omega, ?_⟩, by rw [Int64.le_iff_toInt_le]; omega, fun p hp => ?_⟩
    · unfold mxL
      split
      · exact Or.inl rfl
      · exact Or.inr rfl
    · simp only [Int64.le_iff_toInt_le]
      by_cases e : p = n
      · subst e; exact hm
      · have := h3 p (by omega); omega
def MX1 (n : Nat) (C : Nat → Int64) (r : Int64) : Prop := (r = 0 ∨ ∃ p, p < n ∧ r = C p) ∧ 0 ≤ r ∧ ∀ p, p < n → C p ≤ r
theorem MX1_0 {C : Nat → Int64} : MX1 0 C 0 := ⟨Or.inl rfl, by decide, fun p hp => by omega⟩
theorem MX1_s {n : Nat} {C : Nat → Int64} {r : Int64} (h : MX1 n C r) : MX1 (n + 1) C (if C n ≤ r then r else C n) := by
  obtain ⟨h1, h2, h3⟩ := h
  simp only [Int64.le_iff_toInt_le] at h2 h3
  split
  · rename_i q
    rw [Int64.le_iff_toInt_le] at q
    refine ⟨?_, by rw [Int64.le_iff_toInt_le]; exact h2, fun p hp => ?_⟩
    · rcases h1 with h1 | ⟨p, hp, e⟩
      · exact Or.inl h1
      · exact Or.inr ⟨p, by omega, e⟩
    · simp only [Int64.le_iff_toInt_le]
      by_cases e : p = n
      · subst e; omega
      · exact h3 p (by omega)
  · rename_i q
    rw [Int64.le_iff_toInt_le] at q
    refine ⟨Or.inr ⟨n, by omega, rfl⟩, by rw [Int64.le_iff_toInt_le]; omega, fun p hp => ?_⟩
    simp only [Int64.le_iff_toInt_le]
    by_cases e : p = n
    · subst e; omega
    · have := h3 p (by omega); omega
theorem MX1_P {A B C : Nat → Int64} {r : Int64} (h : MX1 64 C r) (e : ∀ p, p < 32 → C p = A p ∧ C (32 + p) = B p) : MXP 32 A B r := by
  obtain ⟨h1, h2, h3⟩ := h
  refine ⟨?_, h2, fun p hp => ?_⟩
  · rcases h1 with h1 | ⟨p, hp, q⟩
    · exact Or.inl h1
    · by_cases hl : p < 32
      · exact Or.inr ⟨p, hl, Or.inl (q.trans (e p hl).1)⟩
      · refine Or.inr ⟨p - 32, by omega, Or.inr (q.trans ?_)⟩
        have := (e (p - 32) (by omega)).2
        rw [show 32 + (p - 32) = p by omega] at this
        exact this
  · have a := h3 p (by omega)
    have b := h3 (32 + p) (by omega)
    rw [(e p hp).1] at a
    rw [(e p hp).2] at b
    exact ⟨a, b⟩
theorem MXP_32 {N : Nat} {A B : Nat → Int64} {r : Int64} (h : MXP N A B r) (hN : N ≤ 32) (e : ∀ p, N ≤ p → p < 32 → A p = 0 ∧ B p = 0) : MXP 32 A B r := by
  obtain ⟨h1, h2, h3⟩ := h
  refine ⟨?_, h2, fun p hp => ?_⟩
  · rcases h1 with h1 | ⟨p, hp, q⟩
    · exact Or.inl h1
    · exact Or.inr ⟨p, by omega, q⟩
  · by_cases hl : p < N
    · exact h3 p hl
    · rw [(e p (by omega) hp).1, (e p (by omega) hp).2]
      exact ⟨h2, h2⟩
theorem MXP_e {n : Nat} {A B A' B' : Nat → Int64} {r : Int64} (e : ∀ p, p < n → A p = A' p ∧ B p = B' p) (h : MXP n A B r) : MXP n A' B' r := by
  obtain ⟨h1, h2, h3⟩ := h
  refine ⟨?_, h2, fun p hp => ?_⟩
  · rcases h1 with h1 | ⟨p, hp, q⟩
    · exact Or.inl h1
    · refine Or.inr ⟨p, hp, ?_⟩
      rw [← (e p hp).1, ← (e p hp).2]
      exact q
  · rw [← (e p hp).1, ← (e p hp).2]
    exact h3 p hp
def shV (x : Int32) (S : Nat) : Int64 := Int32.toInt64 x <<< (Int32.toInt64 (nI S) &&& 63)
theorem shV_0 (S : Nat) : shV 0 S = 0 := by
  unfold shV
  rw [shl64]
  exact Int64.zero_mul
theorem shV_bd {M S t : Nat} {z : RowZ} (hS : SB M z S t) (ht : t ≤ 10) (hZ : ZR M z) {p : Nat} (hp : p < 32) : ab6 (shV (z.1 p) S) ≤ 2 ^ 56 ∧ ab6 (shV (z.2 p) S) ≤ 2 ^ 56 := by
  by_cases hl : p < 2 ^ M
  · obtain ⟨s1, s2, s3⟩ := SB_sh hS hl
    have h56 : 2 ^ (16 + 4 * t) ≤ 2 ^ 56 := Nat.pow_le_pow_right (by decide) (by omega)
    obtain ⟨a1, a2⟩ := shl_toInt (B := 2 ^ 56) (show S ≤ 62 by omega) (Nat.le_trans s2 h56) (by decide)
    obtain ⟨b1, b2⟩ := shl_toInt (B := 2 ^ 56) (show S ≤ 62 by omega) (Nat.le_trans s3 h56) (by decide)
    unfold ab6 shV
    rw [a1, b1]
    exact ⟨a2, b2⟩
  · obtain ⟨e1, e2⟩ := hZ p (by omega) hp
    rw [e1, e2, shV_0]
    exact ⟨by decide, by decide⟩
theorem abL_c {a b : Int64} (ha : ab6 a ≤ 2 ^ 61) (hb : ab6 b ≤ 2 ^ 61) : abL (a - b) = abL (b - a) := by
  have h1 := apartBy_eq ha hb
  have h2 := apartBy_eq hb ha
  unfold fX10_apartBy at h1 h2
  unfold ab6 at ha hb
  by_cases h : a ≤ b
  · rw [if_pos h] at h1
    by_cases h' : b ≤ a
    · rw [Int64.le_iff_toInt_le] at h h'
      have : a = b := Int64.toInt_inj.mp (by omega)
      rw [this]
    · rw [if_neg h'] at h2
      exact Option.some.inj (h1.symm.trans h2)
  · rw [if_neg h] at h1
    rw [if_pos (show b ≤ a by rw [Int64.le_iff_toInt_le] at h ⊢; omega)] at h2
    exact Option.some.inj (h1.symm.trans h2)
def dfV (y y' : RowZ) (S S' : Nat) (i : Nat) (p : Nat) : Int64 := abL (shV (if i = 0 then y.1 p else y.2 p) S - shV (if i = 0 then y'.1 p else y'.2 p) S')
theorem dfV_0 {y y' : RowZ} {S S' M : Nat} (hy : ZR M y) (hy' : ZR M y') : ∀ p, 2 ^ M ≤ p → p < 32 → dfV y y' S S' 0 p = 0 ∧ dfV y y' S S' 1 p = 0 := fun p h1 h2 => by
  unfold dfV
  rw [if_pos rfl, if_pos rfl, if_neg (by decide), if_neg (by decide), (hy p h1 h2).1, (hy p h1 h2).2, (hy' p h1 h2).1, (hy' p h1 h2).2, shV_0, shV_0]
  exact ⟨by decide, by decide⟩
theorem runT_Z {M rad ord nr lim : Nat} {c s : Nat → Int32} {z : RowZ} (h : ZR M z) : ZR M (runT M rad ord nr lim c s z).1 := ZR_run (nst M rad) 0 (z, 0, 0, fun _ => 0) h
theorem apart96 {M : Nat} (hM : isM M) {z z' : RowZ} {S S' : Nat} {o_trial_re o_trial_im o_otherTrial_re o_otherTrial_im : Nat → Int32} (h1 : RE32 (o_trial_re, o_trial_im) z) (h2 : RE32 (o_otherTrial_re, o_otherTrial_im) z') (o_otherTrial_done : Int32) (o_otherTrial_backward : Int32) (o_trial_done : Int32) (o_trial_backward : Int32) (o_trialWay_size : Int32) (o_trialWay_log : Int32) (o_trialWay_wordBits : Int32) (o_trialWay_limit : Int32) (o_trialWay_radix : Int32) (o_trialWay_order : Int32) (o_trialWay_near : Int32) (o_trialWay_seed : Int32) (o_trialWay_stages : Int32) (o_beater_spareIm : Nat → Int32) (o_beater_spareRe : Nat → Int32) (o_beater_wingIm : Nat → Int32) (o_beater_wingRe : Nat → Int32) (o_otherTrial_halved : Nat → Int32) (o_trial_halved : Nat → Int32) (o_trialWay_shifts : Nat → Int32) :
    ∃ r o, fX9_apart_96 (nI (2 ^ M)) FU (nI S') o_otherTrial_done o_otherTrial_backward (nI S) o_trial_done o_trial_backward o_trialWay_size o_trialWay_log o_trialWay_wordBits o_trialWay_limit o_trialWay_radix o_trialWay_order o_trialWay_near o_trialWay_seed o_trialWay_stages o_beater_spareIm o_beater_spareRe o_beater_wingIm o_beater_wingRe o_otherTrial_halved o_otherTrial_im o_otherTrial_re o_trial_halved o_trial_im o_trial_re o_trialWay_shifts ((0 : Int64)) ((0 : Int32)) = some (r, o) ∧ MXP (2 ^ M) (dfV z z' S S' 0) (dfV z z' S S' 1) r := by
  have hN := isM_pow hM
  have hh := loopX (fun n i (y : Int64) => fX9_apart_96 (nI (2 ^ M)) n (nI S') o_otherTrial_done o_otherTrial_backward (nI S) o_trial_done o_trial_backward o_trialWay_size o_trialWay_log o_trialWay_wordBits o_trialWay_limit o_trialWay_radix o_trialWay_order o_trialWay_near o_trialWay_seed o_trialWay_stages o_beater_spareIm o_beater_spareRe o_beater_wingIm o_beater_wingRe o_otherTrial_halved o_otherTrial_im o_otherTrial_re o_trial_halved o_trial_im o_trial_re o_trialWay_shifts y (nI i)) (fun i y => MXP i (dfV z z' S S' 0) (dfV z z' S S' 1) y) (2 ^ M) (fun y => some (y, (nI S'), o_otherTrial_done, o_otherTrial_backward, (nI S), o_trial_done, o_trial_backward, o_trialWay_size, o_trialWay_log, o_trialWay_wordBits, o_trialWay_limit, o_trialWay_radix, o_trialWay_order, o_trialWay_near, o_trialWay_seed, o_trialWay_stages, o_beater_spareIm, o_beater_spareRe, o_beater_wingIm, o_beater_wingRe, o_otherTrial_halved, o_otherTrial_im, o_otherTrial_re, o_trial_halved, o_trial_im, o_trial_re, o_trialWay_shifts)) ?_ ?_ (2 ^ M) FU 0 0 (by omega) (FU_pos (by omega)) MXP_0
  · obtain ⟨y, hJ, e⟩ := hh
    exact ⟨y, _, e, hJ⟩
  · intro n i y hi hJ
    refine ⟨_, MXP_s hJ, ?_⟩
    rw [fX9_apart_96.eq_2, if_neg (nI_ge hi (by omega))]
    unfold fX9_scaled
    have e1 := h1 i (by omega)
    have e2 := h2 i (by omega)
    dsimp only at e1 e2
    simp only [nm, bd1_s, gd_t (inb_nI (show i < 32 by omega) (by decide)), nI_clamp (show i < 2 ^ 31 by omega), nI_1, e1.1, e1.2, e2.1, e2.2]
    rfl
  · intro n y hJ
    rw [fX9_apart_96.eq_2, if_pos (nI_le (Nat.le_refl _) (by omega))]
theorem apart_c {M bits rad ord nr sd : Nat} {o_turns_cos o_turns_sin o_wave_wasRe o_wave_wasIm o_way_shifts : Nat → Int32} (hC : CF M bits rad ord nr sd) (hSH : SHF M rad ord o_way_shifts) (hT : TBB o_turns_cos o_turns_sin) (hB : BDz M (o_wave_wasRe, o_wave_wasIm) (2 ^ 16)) (o_otherTrial_exp : Int32) (o_otherTrial_done : Int32) (o_otherTrial_backward : Int32) (o_trial_exp : Int32) (o_trial_done : Int32) (o_trial_backward : Int32) (o_trialWay_size : Int32) (o_trialWay_log : Int32) (o_trialWay_wordBits : Int32) (o_trialWay_limit : Int32) (o_trialWay_radix : Int32) (o_trialWay_order : Int32) (o_trialWay_near : Int32) (o_trialWay_seed : Int32) (o_trialWay_stages : Int32) (o_beater_spareIm : Nat → Int32) (o_beater_spareRe : Nat → Int32) (o_beater_wingIm : Nat → Int32) (o_beater_wingRe : Nat → Int32) (o_otherTrial_halved : Nat → Int32) (o_otherTrial_im : Nat → Int32) (o_otherTrial_re : Nat → Int32) (o_trial_halved : Nat → Int32) (o_trial_im : Nat → Int32) (o_trial_re : Nat → Int32) (o_trialWay_shifts : Nat → Int32) :
    ∃ r o, fX9_apart o_otherTrial_exp o_otherTrial_done o_otherTrial_backward o_trial_exp o_trial_done o_trial_backward o_trialWay_size o_trialWay_log o_trialWay_wordBits o_trialWay_limit o_trialWay_radix o_trialWay_order o_trialWay_near o_trialWay_seed o_trialWay_stages (nI (2 ^ M)) (nI M) (nI bits) (nI (lmN bits)) (nI rad) (nI ord) (nI nr) (nI sd) (nI (nst M rad)) o_beater_spareIm o_beater_spareRe o_beater_wingIm o_beater_wingRe o_otherTrial_halved o_otherTrial_im o_otherTrial_re o_trial_halved o_trial_im o_trial_re o_trialWay_shifts o_turns_cos o_turns_sin o_wave_wasIm o_wave_wasRe o_way_shifts = some (r, o) ∧ MXP (2 ^ M) (dfV (runT M rad (1 - ord) nr (lmN bits) o_turns_cos o_turns_sin (o_wave_wasRe, o_wave_wasIm)).1 (runT M rad ord nr (lmN bits) o_turns_cos o_turns_sin (o_wave_wasRe, o_wave_wasIm)).1 (tS M rad (1 - ord) nr (lmN bits) o_turns_cos o_turns_sin (o_wave_wasRe, o_wave_wasIm)) (tS M rad ord nr (lmN bits) o_turns_cos o_turns_sin (o_wave_wasRe, o_wave_wasIm)) 0) (dfV (runT M rad (1 - ord) nr (lmN bits) o_turns_cos o_turns_sin (o_wave_wasRe, o_wave_wasIm)).1 (runT M rad ord nr (lmN bits) o_turns_cos o_turns_sin (o_wave_wasRe, o_wave_wasIm)).1 (tS M rad (1 - ord) nr (lmN bits) o_turns_cos o_turns_sin (o_wave_wasRe, o_wave_wasIm)) (tS M rad ord nr (lmN bits) o_turns_cos o_turns_sin (o_wave_wasRe, o_wave_wasIm)) 1) r := by
  obtain ⟨hM, hbits, hr, ho, hn, hsd⟩ := id hC
  obtain ⟨sh', e1, e2⟩ := copyFrom_eq hC o_trialWay_size o_trialWay_log o_trialWay_wordBits o_trialWay_limit o_trialWay_radix o_trialWay_order o_trialWay_near o_trialWay_seed o_trialWay_stages o_trialWay_shifts
  obtain ⟨sh2, d1, d2⟩ := takeShape_eq (ord := 1 - ord) hM hr (by omega) (nI rad) (nI ord) (nI (nst M rad)) sh'
  obtain ⟨im', re', r1, r2⟩ := restartFrom_eq o_trial_exp o_trial_done o_trial_backward o_wave_wasIm o_wave_wasRe o_trial_im o_trial_re
  obtain ⟨im3, re3, r3, r4⟩ := restartFrom_eq o_otherTrial_exp o_otherTrial_done o_otherTrial_backward o_wave_wasIm o_wave_wasRe o_otherTrial_im o_otherTrial_re
  obtain ⟨ha2, im2, re2, si2, sr2, wi2, wr2, f1, f2⟩ := class_run (ord := 1 - ord) (nr := nr) ⟨hM, hr, by omega, hn, lm_x hbits⟩ d2 hT hB r2 o_trial_halved o_beater_spareIm o_beater_spareRe o_beater_wingIm o_beater_wingRe
  obtain ⟨ha4, im4, re4, si4, sr4, wi4, wr4, f3, f4⟩ := class_run (CF_c hC) hSH hT hB r4 o_otherTrial_halved si2 sr2 wi2 wr2
  have eo : (1 : Int32) - nI ord = nI (1 - ord) := by rw [show (1 : Int32) = nI 1 from rfl, pk_sub (by omega)]
  unfold fX9_apart
  rw [e1, bd10_s, eo, d1, bd4_s, r1, bd5_s, r3, bd5_s, f1, bd10_s, f3, bd10_s]
  exact apart96 hM f2 f4 ..
theorem apart30_0 {al byO li lr : Nat → Int32} {by0 : Nat → Int64} (P : Int32) (Q T : Nat → Int32) (k9 : Int32 → Int32 → Int32 → Int32 → Int32 → Int32 → Int32 → (Nat → Int32) → (Nat → Int64) → (Nat → Int32) → (Nat → Int32) → Int64 → Int32 → Option (Int64 × Int32 × Int32 × Int32 × Int32 × Int32 × Int32 × Int32 × (Nat → Int32) × (Nat → Int64) × (Nat → Int32) × (Nat → Int32))) (th a b c d e : Int32) {z : RowZ} {S : Nat} (hz : RW al 1 z) (hx : al (136 * 1 + 128) = nI S) :
    ∃ by', fX10_apart_30 P Q T k9 FU th (nI 1) a b c d e al by0 li lr 0 0 0 = fX10_apart_105 P Q T k9 th (nI 1) a b c d e al by' li lr 0 0 ∧ ∀ p, p < 32 → by' p = shV (z.1 p) S ∧ by' (32 + p) = shV (z.2 p) S := by
  have hh := loopX (fun n i (y : Nat → Int64) => fX10_apart_30 P Q T k9 n th (nI 1) a b c d e al y li lr 0 0 (nI i)) (fun i y => ∀ p, p < i → y p = shV (al (136 * 1 + p)) S) 64 (fun y => fX10_apart_105 P Q T k9 th (nI 1) a b c d e al y li lr 0 0) ?_ ?_ 64 FU 0 by0 (by omega) (FU_pos (by omega)) (fun p hp => by omega)
  · obtain ⟨y, hJ, e⟩ := hh
    refine ⟨y, e, fun p hp => ?_⟩
    rw [hJ p (by omega), hJ (32 + p) (by omega), ← Nat.add_assoc, (hz p hp).1, (hz p hp).2]
    exact ⟨rfl, rfl⟩
  · intro n i y hi hJ
    refine ⟨vp_updL y i (shV (al (136 * 1 + i)) S), fun p hp => ?_, ?_⟩
    · by_cases h9 : p = i
      · subst h9; exact pk_uLs
      · rw [pk_uLn h9]; exact hJ p (by omega)
    · rw [fX10_apart_30.eq_2, if_neg (show ¬ ((64 : Int32) ≤ nI i) from nI_ge hi (by decide)), of_eq (by decide) (by omega), bd1_s, show (128 : Int32) = nI 128 from rfl, of_eq (by decide) (by decide), bd1_s, hx]
      unfold fX10_apart_74 fX10_apart_98
      simp only [nm, gd_t (inb_nI hi (by decide)), nI_clamp (show i < 2 ^ 31 by omega), nI_1]
      rw [if_pos True.intro, if_pos (show (0 : Int64) ≤ 0 by decide)]
      rfl
  · intro n y hJ
    rw [fX10_apart_30.eq_2, if_pos (show (64 : Int32) ≤ nI 64 from by decide)]
theorem apart30_1 {al li lr : Nat → Int32} {by0 : Nat → Int64} (P : Int32) (Q T : Nat → Int32) (k9 : Int32 → Int32 → Int32 → Int32 → Int32 → Int32 → Int32 → (Nat → Int32) → (Nat → Int64) → (Nat → Int32) → (Nat → Int32) → Int64 → Int32 → Option (Int64 × Int32 × Int32 × Int32 × Int32 × Int32 × Int32 × Int32 × (Nat → Int32) × (Nat → Int64) × (Nat → Int32) × (Nat → Int32))) (th a b c d e : Int32) {z z' : RowZ} {S S' : Nat} (hz : RW al 1 z) (hx : al (136 * 1 + 128) = nI S) (hb : ∀ p, p < 32 → by0 p = shV (z'.1 p) S' ∧ by0 (32 + p) = shV (z'.2 p) S')
    (b1 : ∀ p, p < 32 → ab6 (shV (z.1 p) S) ≤ 2 ^ 61 ∧ ab6 (shV (z.2 p) S) ≤ 2 ^ 61) (b2 : ∀ p, p < 32 → ab6 (shV (z'.1 p) S') ≤ 2 ^ 61 ∧ ab6 (shV (z'.2 p) S') ≤ 2 ^ 61) :
    ∃ by' r, fX10_apart_30 P Q T k9 FU th (nI 1) a b c d e al by0 li lr 0 1 0 = fX10_apart_105 P Q T k9 th (nI 1) a b c d e al by' li lr r 1 ∧ MXP 32 (dfV z z' S S' 0) (dfV z z' S S' 1) r := by
  have hv : ∀ i, i < 64 → fX10_apartBy (shV (al (136 * 1 + i)) S) (by0 i) = some (abL (shV (al (136 * 1 + i)) S - by0 i)) := fun i hi => by
    by_cases hl : i < 32
    · rw [(hz i hl).1, (hb i hl).1]
      exact apartBy_eq (b1 i hl).1 (b2 i hl).1
    · obtain ⟨j, rfl⟩ : ∃ j, i = 32 + j := ⟨i - 32, by omega⟩
      rw [← Nat.add_assoc, (hz j (by omega)).2, (hb j (by omega)).2]
      exact apartBy_eq (b1 j (by omega)).2 (b2 j (by omega)).2
  have hh := loopX (fun n i (y : (Nat → Int64) × Int64) => fX10_apart_30 P Q T k9 n th (nI 1) a b c d e al y.1 li lr y.2 1 (nI i)) (fun i y => (∀ p, i ≤ p → y.1 p = by0 p) ∧ MX1 i (fun p => abL (shV (al (136 * 1 + p)) S - by0 p)) y.2) 64 (fun y => fX10_apart_105 P Q T k9 th (nI 1) a b c d e al y.1 li lr y.2 1) ?_ ?_ 64 FU 0 (by0, 0) (by omega) (FU_pos (by omega)) ⟨fun _ _ => rfl, MX1_0⟩
  · obtain ⟨y, hJ, e⟩ := hh
    refine ⟨y.1, y.2, e, MX1_P hJ.2 (fun p hp => ?_)⟩
    rw [← Nat.add_assoc, (hz p hp).1, (hz p hp).2, (hb p hp).1, (hb p hp).2]
    exact ⟨rfl, rfl⟩
  · intro n i y hi hJ
    refine ⟨(vp_updL y.1 i (shV (al (136 * 1 + i)) S), if abL (shV (al (136 * 1 + i)) S - by0 i) ≤ y.2 then y.2 else abL (shV (al (136 * 1 + i)) S - by0 i)), ⟨fun p hp => ?_, MX1_s (C := fun p => abL (shV (al (136 * 1 + p)) S - by0 p)) hJ.2⟩, ?_⟩
    · dsimp only
      rw [pk_uLn (by omega)]; exact hJ.1 p (by omega)
    · rw [fX10_apart_30.eq_2, if_neg (show ¬ ((64 : Int32) ≤ nI i) from nI_ge hi (by decide)), of_eq (by decide) (by omega), bd1_s, show (128 : Int32) = nI 128 from rfl, of_eq (by decide) (by decide), bd1_s, hx]
      unfold fX10_apart_74 fX10_apart_98
      simp only [nm, gd_t (inb_nI hi (by decide)), nI_clamp (show i < 2 ^ 31 by omega), nI_1]
      rw [if_neg (show ¬ ((1 : Int32) = 0) by decide), hJ.1 i (by omega), show fX10_apartBy (Int32.toInt64 (al (136 * 1 + i)) <<< (Int32.toInt64 (nI S) &&& 63)) (by0 i) = _ from hv i hi, bd1_s]
      by_cases h9 : abL (shV (al (136 * 1 + i)) S - by0 i) ≤ y.2
      · rw [if_pos h9, if_pos h9]; rfl
      · rw [if_neg h9, if_neg h9]; rfl
  · intro n y hJ
    rw [fX10_apart_30.eq_2, if_pos (show (64 : Int32) ≤ nI 64 from by decide)]
theorem apart_m {M bits rad ord nr sd : Nat} {all told c s : Nat → Int32} {w : RowZ} (hC : CF M bits rad ord nr sd) (hm : MOK M told mX10_61 c s) (hT : TBB c s) (hB : BDz M w (2 ^ 16)) (hZ : ZR M w) (hw : WASR all 0 w) (t1 : told 1 = nI bits) (t2 : told 2 = nI rad) (t3 : told 3 = nI ord) (t4 : told 4 = nI nr) (th : Int32) (li lr : Nat → Int32) (by0 : Nat → Int64) :
    ∃ r all' by' li' lr', fX10_apart th 0 (nI rad) (nI ord) (nI nr) (nI (lmN bits)) 1 (nI M) all by0 li lr mX10_61 told = some (r, 0, 0, nI rad, nI ord, nI nr, nI (lmN bits), 1, all', by', li', lr') ∧ FB1 all all' ∧
      MXP 32 (dfV (runT M rad 1 nr (lmN bits) c s w).1 (runT M rad 0 nr (lmN bits) c s w).1 (tS M rad 1 nr (lmN bits) c s w) (tS M rad 0 nr (lmN bits) c s w) 0) (dfV (runT M rad 1 nr (lmN bits) c s w).1 (runT M rad 0 nr (lmN bits) c s w).1 (tS M rad 1 nr (lmN bits) c s w) (tS M rad 0 nr (lmN bits) c s w) 1) r := by
  obtain ⟨hM, hbits, hr, ho, hn, hsd⟩ := id hC
  have hns := nst_le hM hr
  have hc : ∀ o, o < 2 → CFG M rad o nr (lmN bits) := fun o h => ⟨hM, hr, h, hn, lm_x hbits⟩
  obtain ⟨al, a1, a2, -, a4⟩ := asWas_x 0 (fun _ => 0) hw
  obtain ⟨al2, li2, lr2, ha2, e1, e2, e3⟩ := ref_run (b := 1) (by decide) (hc 0 (by decide)) hm hT hB hZ a2 li lr
  have hF2 := FB1_t a4 (FRB_1 e3)
  obtain ⟨al3, a5, a6, -, a8⟩ := asWas_x 0 (fun _ => 0) (WASR_c (fun j h1 h2 => hF2 j (by omega)) hw)
  obtain ⟨al4, li4, lr4, ha4, e5, e6, e7⟩ := ref_run (b := 1) (by decide) (hc 1 (by decide)) hm hT hB hZ a6 li2 lr2
  have hF4 := FB1_t hF2 (FB1_t a8 (FRB_1 e7))
  have b0 := fun p (hp : p < 32) => shV_bd (runT_SB (hc 0 (by decide)) hT hB) (by omega) (runT_Z (rad := rad) (ord := 0) (nr := nr) (lim := lmN bits) (c := c) (s := s) hZ) hp
  have b1 := fun p (hp : p < 32) => shV_bd (runT_SB (hc 1 (by decide)) hT hB) (by omega) (runT_Z (rad := rad) (ord := 1) (nr := nr) (lim := lmN bits) (c := c) (s := s) hZ) hp
  have h9 : ∀ F, ∃ r by', fX10_apart_9 (nI M) mX10_61 told (F + 1 + 1 + 1) 0 0 (nI rad) (nI ord) (nI nr) (nI (lmN bits)) 1 all by0 li lr 0 0 = some (r, 0, 0, nI rad, nI ord, nI nr, nI (lmN bits), 1, al4, by', li4, lr4) ∧
      MXP 32 (dfV (runT M rad 1 nr (lmN bits) c s w).1 (runT M rad 0 nr (lmN bits) c s w).1 (tS M rad 1 nr (lmN bits) c s w) (tS M rad 0 nr (lmN bits) c s w) 0) (dfV (runT M rad 1 nr (lmN bits) c s w).1 (runT M rad 0 nr (lmN bits) c s w).1 (tS M rad 1 nr (lmN bits) c s w) (tS M rad 0 nr (lmN bits) c s w) 1) r := by
    intro F
    obtain ⟨by2, x1, x2⟩ := apart30_0 (byO := li) (by0 := by0) (li := li2) (lr := lr2) (nI M) mX10_61 told (fX10_apart_9 (nI M) mX10_61 told (F + 1 + 1)) 0 (nI rad) 0 (nI nr) (nI (lmN bits)) 1 e2.1 e2.2.1
    obtain ⟨by3, r, x3, x4⟩ := apart30_1 (by0 := by2) (li := li4) (lr := lr4) (nI M) mX10_61 told (fX10_apart_9 (nI M) mX10_61 told (F + 1)) 0 (nI rad) 1 (nI nr) (nI (lmN bits)) 1 e6.1 e6.2.1 x2 (fun p hp => ⟨by have := (b1 p hp).1; omega, by have := (b1 p hp).2; omega⟩) (fun p hp => ⟨by have := (b0 p hp).1; omega, by have := (b0 p hp).2; omega⟩)
    refine ⟨r, by3, ?_, x4⟩
    rw [fX10_apart_9.eq_2, if_neg (show ¬ ((2 : Int32) ≤ 0) by decide), a1, bd2_s, show fX10_beatsAll (nI 1) (nI rad) 0 (nI nr) (nI (lmN bits)) 1 (nI M) al li lr mX10_61 told = _ from e1, bd3_s, x1, fX10_apart_105, asItIs_eq hbits t1 t2 t3 t4, bd6_s]
    simp only [nm]
    rw [show (0 : Int32) + 1 = 1 from rfl, fX10_apart_9.eq_2, if_neg (show ¬ ((2 : Int32) ≤ 1) by decide), a5, bd2_s, show fX10_beatsAll (nI 1) (nI rad) 1 (nI nr) (nI (lmN bits)) 1 (nI M) al3 li2 lr2 mX10_61 told = _ from e5, bd3_s, x3, fX10_apart_105, asItIs_eq hbits t1 t2 t3 t4, bd6_s]
    simp only [nm]
    rw [show (1 : Int32) + 1 = 2 from rfl, fX10_apart_9.eq_2, if_pos (show (2 : Int32) ≤ 2 by decide)]
  obtain ⟨r, by3, y1, y2⟩ := h9 4093
  exact ⟨r, al4, by3, li4, lr4, y1, hF4, y2⟩
theorem k_apart {o_imageKept : Int32} {o_taped : Int32} {o_way_size : Int32} {o_way_log : Int32} {o_way_wordBits : Int32} {o_way_limit : Int32} {o_way_radix : Int32} {o_way_order : Int32} {o_way_near : Int32} {o_way_seed : Int32} {o_way_stages : Int32} {o_way_shifts : Nat → Int32} {o_wave_exp : Int32} {o_wave_done : Int32} {o_wave_backward : Int32} {o_wave_re : Nat → Int32} {o_wave_im : Nat → Int32} {o_wave_wasRe : Nat → Int32} {o_wave_wasIm : Nat → Int32} {o_wave_halved : Nat → Int32} {o_past_next : Int32} {o_past_held : Int32} {o_past_cells : Nat → Int32} {o_notes_total : Int32} {o_notes_knownBy : Int32} {o_notes_kinds : Nat → Int32} {o_notes_targets : Nat → Int32} {o_notes_bins : Nat → Int32} {o_ring_size : Int32} {o_ring_log : Int32} {o_ring_powers : Nat → Int32} {o_turns_cos : Nat → Int32} {o_turns_sin : Nat → Int32} {o_reader_fault : Int32} {o_reader_faultPlace : Int32} {o_image : Nat → Int32} {o_tape : Nat → Int32} {m_tapeSize : Int32} {m_fault : Int32} {m_faultPlace : Int32} {m_bank : Int32} {m_isImage : Int32} {m_undos : Int32} {m_runRadix : Int32} {m_runOrder : Int32} {m_runNear : Int32} {m_runLimit : Int32} {m_runHalves : Int32} {m_power : Int32} {m_notedMany : Int32} {m_knownTold : Int32} {m_tape : Nat → Int32} {m_words : Nat → Int32} {m_told : Nat → Int32} {m_all : Nat → Int32} {m_quarter : Nat → Int32} {m_roots : Nat → Int32} {m_noted1 : Nat → Int32} (hR : REL o_imageKept o_taped o_way_size o_way_log o_way_wordBits o_way_limit o_way_radix o_way_order o_way_near o_way_seed o_way_stages o_way_shifts o_wave_exp o_wave_done o_wave_backward o_wave_re o_wave_im o_wave_wasRe o_wave_wasIm o_wave_halved o_past_next o_past_held o_past_cells o_notes_total o_notes_knownBy o_notes_kinds o_notes_targets o_notes_bins o_ring_size o_ring_log o_ring_powers o_turns_cos o_turns_sin o_reader_fault o_reader_faultPlace o_image o_tape m_tapeSize m_fault m_faultPlace m_bank m_isImage m_undos m_runRadix m_runOrder m_runNear m_runLimit m_runHalves m_power m_notedMany m_knownTold m_tape m_words m_told m_all m_quarter m_roots m_noted1)   (o_otherTrial_exp : Int32) (o_otherTrial_done : Int32) (o_otherTrial_backward : Int32) (o_trial_exp : Int32) (o_trial_done : Int32) (o_trial_backward : Int32) (o_trialWay_size : Int32) (o_trialWay_log : Int32) (o_trialWay_wordBits : Int32) (o_trialWay_limit : Int32) (o_trialWay_radix : Int32) (o_trialWay_order : Int32) (o_trialWay_near : Int32) (o_trialWay_seed : Int32) (o_trialWay_stages : Int32) (o_beater_spareIm : Nat → Int32) (o_beater_spareRe : Nat → Int32) (o_beater_wingIm : Nat → Int32) (o_beater_wingRe : Nat → Int32) (o_otherTrial_halved : Nat → Int32) (o_otherTrial_im : Nat → Int32) (o_otherTrial_re : Nat → Int32) (o_trial_halved : Nat → Int32) (o_trial_im : Nat → Int32) (o_trial_re : Nat → Int32) (o_trialWay_shifts : Nat → Int32) (m_thrown : Int32) (m_byOrder : Nat → Int64) (m_laidIm : Nat → Int32) (m_laidRe : Nat → Int32) :
    ∃ (r : Int64) (out_o_otherTrial_exp : Int32) (out_o_otherTrial_done : Int32) (out_o_otherTrial_backward : Int32) (out_o_trial_exp : Int32) (out_o_trial_done : Int32) (out_o_trial_backward : Int32) (out_o_trialWay_size : Int32) (out_o_trialWay_log : Int32) (out_o_trialWay_wordBits : Int32) (out_o_trialWay_limit : Int32) (out_o_trialWay_radix : Int32) (out_o_trialWay_order : Int32) (out_o_trialWay_near : Int32) (out_o_trialWay_seed : Int32) (out_o_trialWay_stages : Int32) (out_o_beater_spareIm : Nat → Int32) (out_o_beater_spareRe : Nat → Int32) (out_o_beater_wingIm : Nat → Int32) (out_o_beater_wingRe : Nat → Int32) (out_o_otherTrial_halved : Nat → Int32) (out_o_otherTrial_im : Nat → Int32) (out_o_otherTrial_re : Nat → Int32) (out_o_trial_halved : Nat → Int32) (out_o_trial_im : Nat → Int32) (out_o_trial_re : Nat → Int32) (out_o_trialWay_shifts : Nat → Int32) (out_m_thrown : Int32) (out_m_bank : Int32) (out_m_runRadix : Int32) (out_m_runOrder : Int32) (out_m_runNear : Int32) (out_m_runLimit : Int32) (out_m_runHalves : Int32) (out_m_all : Nat → Int32) (out_m_byOrder : Nat → Int64) (out_m_laidIm : Nat → Int32) (out_m_laidRe : Nat → Int32), fX9_apart o_otherTrial_exp o_otherTrial_done o_otherTrial_backward o_trial_exp o_trial_done o_trial_backward o_trialWay_size o_trialWay_log o_trialWay_wordBits o_trialWay_limit o_trialWay_radix o_trialWay_order o_trialWay_near o_trialWay_seed o_trialWay_stages o_way_size o_way_log o_way_wordBits o_way_limit o_way_radix o_way_order o_way_near o_way_seed o_way_stages o_beater_spareIm o_beater_spareRe o_beater_wingIm o_beater_wingRe o_otherTrial_halved o_otherTrial_im o_otherTrial_re o_trial_halved o_trial_im o_trial_re o_trialWay_shifts o_turns_cos o_turns_sin o_wave_wasIm o_wave_wasRe o_way_shifts = some (r, out_o_otherTrial_exp, out_o_otherTrial_done, out_o_otherTrial_backward, out_o_trial_exp, out_o_trial_done, out_o_trial_backward, out_o_trialWay_size, out_o_trialWay_log, out_o_trialWay_wordBits, out_o_trialWay_limit, out_o_trialWay_radix, out_o_trialWay_order, out_o_trialWay_near, out_o_trialWay_seed, out_o_trialWay_stages, out_o_beater_spareIm, out_o_beater_spareRe, out_o_beater_wingIm, out_o_beater_wingRe, out_o_otherTrial_halved, out_o_otherTrial_im, out_o_otherTrial_re, out_o_trial_halved, out_o_trial_im, out_o_trial_re, out_o_trialWay_shifts) ∧ fX10_apart m_thrown m_bank m_runRadix m_runOrder m_runNear m_runLimit m_runHalves m_power m_all m_byOrder m_laidIm m_laidRe m_quarter m_told = some (r, out_m_thrown, out_m_bank, out_m_runRadix, out_m_runOrder, out_m_runNear, out_m_runLimit, out_m_runHalves, out_m_all, out_m_byOrder, out_m_laidIm, out_m_laidRe) ∧ REL o_imageKept o_taped o_way_size o_way_log o_way_wordBits o_way_limit o_way_radix o_way_order o_way_near o_way_seed o_way_stages o_way_shifts o_wave_exp o_wave_done o_wave_backward o_wave_re o_wave_im o_wave_wasRe o_wave_wasIm o_wave_halved o_past_next o_past_held o_past_cells o_notes_total o_notes_knownBy o_notes_kinds o_notes_targets o_notes_bins o_ring_size o_ring_log o_ring_powers o_turns_cos o_turns_sin o_reader_fault o_reader_faultPlace o_image o_tape m_tapeSize m_fault m_faultPlace out_m_bank m_isImage m_undos out_m_runRadix out_m_runOrder out_m_runNear out_m_runLimit out_m_runHalves m_power m_notedMany m_knownTold m_tape m_words m_told out_m_all m_quarter m_roots m_noted1 := by
  have hR0 := hR
  obtain ⟨M, bits, rad, ord, nr, sd, hC, hW, hT, hG, hm, hV, hP, hI, hN, hA, hF1, hF2⟩ := hR
  obtain ⟨hM, hbits, hr, ho, hn, hsd⟩ := id hC
  obtain ⟨rfl, rfl, rfl, rfl, rfl, rfl, rfl, rfl, rfl, hSH⟩ := hW
  obtain ⟨rfl, rfl, rfl, rfl, rfl, rfl, rfl, rfl, rfl, t0, t1, t2, t3, t4, t5, hrt⟩ := hm
  have hN2 := isM_pow hM
  have hns := nst_le hM hr
  have hlm := lm_x hbits
  have hCG := CF_c hC
  have hV0 := hV
  obtain ⟨k, bk, rfl, rfl, hw, hws, hwi⟩ := hV
  have hMO := TRN_m hM hT t0
  have hTB := TRN_B hM hT
  have hB16 : BDz M (o_wave_wasRe, o_wave_wasIm) (2 ^ 16) := fun p hp => by have := hwi.2.2.2.2.2.1 p hp; omega
  have hZ := hwi.2.2.2.1
  obtain ⟨r, ⟨a1, a2, a3, a4, a5, a6, a7, a8, a9, a10, a11, a12, a13, a14, a15, a16, a17, a18, a19, a20, a21, a22, a23, a24, a25, a26⟩, e1, e2⟩ := apart_c hC hSH hTB hB16 o_otherTrial_exp o_otherTrial_done o_otherTrial_backward o_trial_exp o_trial_done o_trial_backward o_trialWay_size o_trialWay_log o_trialWay_wordBits o_trialWay_limit o_trialWay_radix o_trialWay_order o_trialWay_near o_trialWay_seed o_trialWay_stages o_beater_spareIm o_beater_spareRe o_beater_wingIm o_beater_wingRe o_otherTrial_halved o_otherTrial_im o_otherTrial_re o_trial_halved o_trial_im o_trial_re o_trialWay_shifts
  obtain ⟨r', all', by', li', lr', e3, e4, e5⟩ := apart_m hC hMO hTB hB16 hZ hws t1 t2 t3 t4 m_thrown m_laidIm m_laidRe m_byOrder
  have hc : ∀ o, o < 2 → CFG M rad o nr (lmN bits) := fun o h => ⟨hM, hr, h, hn, lm_x hbits⟩
  have e6 := MXP_32 e2 hN2.2 (dfV_0 (runT_Z hZ) (runT_Z hZ))
  have er : r = r' := by
    rcases (show ord = 0 ∨ ord = 1 by omega) with rfl | rfl
    · exact MXP_u e6 e5
    · have b0 := fun p (hp : p < 32) => shV_bd (runT_SB (hc 0 (by decide)) hTB hB16) (by omega) (runT_Z (rad := rad) (ord := 0) (nr := nr) (lim := lmN bits) (c := o_turns_cos) (s := o_turns_sin) hZ) hp
      have b1 := fun p (hp : p < 32) => shV_bd (runT_SB (hc 1 (by decide)) hTB hB16) (by omega) (runT_Z (rad := rad) (ord := 1) (nr := nr) (lim := lmN bits) (c := o_turns_cos) (s := o_turns_sin) hZ) hp
      have ew : ∀ i, i < 2 → ∀ p, p < 32 → dfV (runT M rad (1 - 1) nr (lmN bits) o_turns_cos o_turns_sin (o_wave_wasRe, o_wave_wasIm)).1 (runT M rad 1 nr (lmN bits) o_turns_cos o_turns_sin (o_wave_wasRe, o_wave_wasIm)).1 (tS M rad (1 - 1) nr (lmN bits) o_turns_cos o_turns_sin (o_wave_wasRe, o_wave_wasIm)) (tS M rad 1 nr (lmN bits) o_turns_cos o_turns_sin (o_wave_wasRe, o_wave_wasIm)) i p = dfV (runT M rad 1 nr (lmN bits) o_turns_cos o_turns_sin (o_wave_wasRe, o_wave_wasIm)).1 (runT M rad 0 nr (lmN bits) o_turns_cos o_turns_sin (o_wave_wasRe, o_wave_wasIm)).1 (tS M rad 1 nr (lmN bits) o_turns_cos o_turns_sin (o_wave_wasRe, o_wave_wasIm)) (tS M rad 0 nr (lmN bits) o_turns_cos o_turns_sin (o_wave_wasRe, o_wave_wasIm)) i p := by
        intro i hi p hp
        have x0 := b0 p hp
        have x1 := b1 p hp
        unfold dfV
        rcases (show i = 0 ∨ i = 1 by omega) with rfl | rfl
        · rw [if_pos rfl, if_pos rfl]
          exact abL_c (Nat.le_trans x0.1 (by decide)) (Nat.le_trans x1.1 (by decide))
        · rw [if_neg (show ¬ (1 = 0) by decide), if_neg (show ¬ (1 = 0) by decide)]
          exact abL_c (Nat.le_trans x0.2 (by decide)) (Nat.le_trans x1.2 (by decide))
      exact MXP_u e6 (MXP_e (fun p hp => ⟨(ew 0 (by decide) p hp).symm, (ew 1 (by decide) p hp).symm⟩) e5)
  subst er
  exact ⟨_, _, _, _, _, _, _, _, _, _, _, _, _, _, _, _, _, _, _, _, _, _, _, _, _, _, _, _, _, _, _, _, _, _, _, _, _, _, e1, e3, M, bits, rad, ord, nr, sd, hC, ⟨rfl, rfl, rfl, rfl, rfl, rfl, rfl, rfl, rfl, hSH⟩, hT, hG, ⟨rfl, rfl, rfl, rfl, rfl, rfl, rfl, rfl, rfl, t0, t1, t2, t3, t4, t5, hrt⟩, WVR_1 e4 hV0, PSTR_1 e4 hP, IMGR_1 e4 hI, hN, hA, hF1, hF2⟩
