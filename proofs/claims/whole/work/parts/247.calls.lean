/-! ===== chance, noise ===== -/
theorem up_B {M B p : Nat} {z : RowZ} {u v : Int32} (hu : ab u ≤ B) (hv : ab v ≤ B) (h : BDz M z B) : BDz M (upd z.1 p u, upd z.2 p v) B := fun q hq => by
  dsimp only
  by_cases e : q = p
  · subst e; rw [pk_us, pk_us]; exact ⟨hu, hv⟩
  · rw [pk_un e, pk_un e]; exact h q hq
theorem up_Z {M p : Nat} {z : RowZ} {u v : Int32} (hp : p < 2 ^ M) (h : ZR M z) : ZR M (upd z.1 p u, upd z.2 p v) := fun q h1 h2 => by
  dsimp only
  rw [pk_un (by omega), pk_un (by omega)]; exact h q h1 h2
theorem up_RE {p : Nat} {z : RowZ} {re im : Nat → Int32} {u v : Int32} (h : RE32 (re, im) z) : RE32 (upd re p u, upd im p v) (upd z.1 p u, upd z.2 p v) := fun q hq => by
  dsimp only
  by_cases e : q = p
  · subst e; rw [pk_us, pk_us, pk_us, pk_us]; exact ⟨rfl, rfl⟩
  · rw [pk_un e, pk_un e, pk_un e, pk_un e]; exact h q hq
theorem noise_both {M lim a : Nat} (hM : isM M) (hl : lim < 2 ^ 15) (ha : a ≤ 99) {told li lr hh : Nat → Int32} (h0 : told 0 = nI (2 ^ M)) (P : Int32) (Q : Nat → Int32) (k26 : Int32 → Int32 → Int32 → Int32 → Int32 → Int32 → Int64 → (Nat → Int32) → (Nat → Int32) → (Nat → Int32) → Int32 → Int32 → Int32 → Int32 → Option (Int32 × Int32 × Int32 × Int32 × Int32 × Int32 × Int32 × Int64 × (Nat → Int32) × (Nat → Int32) × (Nat → Int32))) (rr ro rn rh v3 v4 v5 : Int32) :
    ∀ d n m p x (re im al : Nat → Int32) (z : RowZ), p + d = 2 ^ M → d < n → d < m → x < 2 ^ 31 → RE32 (re, im) z → RWS al 1 z 0 0 0 hh → BDz M z (2 ^ 16) → ZR M z →
    ∃ x' z' re' im' al', x' < 2 ^ 31 ∧ fX9_addNoise_2 (nI (2 ^ M)) (nI lim) n (nI x) im re (nI a) (nI p) = some (nI x', im', re') ∧
      fX10_chanceOf_40 P Q told k26 m (nI 1) rr ro rn (nI lim) rh (lN x) al li lr (nI a) v3 v4 v5 (nI p) = fX10_chanceOf_95 P Q told k26 (nI 1) rr ro rn (nI lim) rh (lN x') al' li lr (nI a) v3 v4 v5 ∧
      RE32 (re', im') z' ∧ RWS al' 1 z' 0 0 0 hh ∧ BDz M z' (2 ^ 16) ∧ ZR M z' ∧ FB1 al al' := by
  have hN := isM_pow hM
  intro d
  induction d with
  | zero =>
    intro n m p x re im al z h1 h2 h3 hx hr hw hB hZ
    obtain ⟨n, rfl⟩ : ∃ m, n = m + 1 := ⟨n - 1, by omega⟩
    obtain ⟨m, rfl⟩ : ∃ m', m = m' + 1 := ⟨m - 1, by omega⟩
    refine ⟨x, z, re, im, al, hx, ?_, ?_, hr, hw, hB, hZ, fun _ _ => rfl⟩
    · rw [fX9_addNoise_2.eq_2, if_pos (nI_le (by omega) (by omega))]
    · rw [fX10_chanceOf_40.eq_2, size_eq, bd1_s, h0, if_pos (nI_le (by omega) (by omega))]
  | succ d ih =>
    intro n m p x re im al z h1 h2 h3 hx hr hw hB hZ
    obtain ⟨n, rfl⟩ : ∃ m, n = m + 1 := ⟨n - 1, by omega⟩
    obtain ⟨m, rfl⟩ : ∃ m', m = m' + 1 := ⟨m - 1, by omega⟩
    have hp : p < 32 := by omega
    obtain ⟨r1, r2⟩ := hr p hp
    obtain ⟨w1, w2⟩ := hw.1 p hp
    dsimp only at r1 r2
    obtain ⟨u1, u2⟩ := RWS_up (p := p) (u := kp lim (z.1 p + (amt (nxD x) a - nI a))) (v := kp lim (z.2 p + (amt (nxD (nxD x)) a - nI a))) hp hw
    have b1 := kp_ab hl (z.1 p + (amt (nxD x) a - nI a))
    have b2 := kp_ab hl (z.2 p + (amt (nxD (nxD x)) a - nI a))
    obtain ⟨x', z', re', im', al', i1, i2, i3, i4, i5, i6, i7, i8⟩ := ih n m (p + 1) (nxD (nxD x)) _ _ _ _ (by omega) (by omega) (by omega) (nxD_lt _) (up_RE (p := p) (u := kp lim (z.1 p + (amt (nxD x) a - nI a))) (v := kp lim (z.2 p + (amt (nxD (nxD x)) a - nI a))) hr) u1 (up_B (by omega) (by omega) hB) (up_Z (by omega) hZ)
    refine ⟨x', z', re', im', al', i1, ?_, ?_, i4, i5, i6, i7, FB1_t (fun j hj => u2 j (by omega)) i8⟩
    · rw [fX9_addNoise_2.eq_2, if_neg (nI_ge (by omega) (by omega)), gd_t (inb_nI hp (by decide)), amount_eq ha, bd2_s]
      simp only [nI_clamp (show p < 2 ^ 31 by omega)]
      rw [kept_eq hl, bd1_s, gd_t (inb_nI hp (by decide))]
      simp only [nm]
      rw [gd_t (inb_nI hp (by decide)), amount_eq ha, bd2_s, kept_eq hl, bd1_s, gd_t (inb_nI hp (by decide)), r1, r2, nI_1]
      exact i2
    · rw [fX10_chanceOf_40.eq_2, size_eq, bd1_s, h0, if_neg (nI_ge (by omega) (by omega)), of_eq (by decide) (by omega), bd1_s, noisy_eq hx ha, bd2_s, lay_eq (by decide) (by omega), bd1_s, show (32 : Int32) + nI p = nI (32 + p) from nI_add 32 p, of_eq (by decide) (by omega), bd1_s, pk_un (by omega), noisy_eq (nxD_lt _) ha, bd2_s, lay_eq (by decide) (by omega), bd1_s, w1, show 136 * 1 + (32 + p) = 136 * 1 + 32 + p by omega, w2]
      simp only [nm, nI_1]
      rw [show 136 * 1 + 32 + p = 136 * 1 + (32 + p) by omega]
      exact i3
theorem try_both {M bits rad ord nr sd a : Nat} {o_turns_cos o_turns_sin o_wave_wasRe o_wave_wasIm o_way_shifts told al li lr : Nat → Int32} (hC : CF M bits rad ord nr sd) (hSH : SHF M rad ord o_way_shifts) (hT : TBB o_turns_cos o_turns_sin) (hB : BDz M (o_wave_wasRe, o_wave_wasIm) (2 ^ 16)) (hZ : ZR M (o_wave_wasRe, o_wave_wasIm)) (hm : MOK M told mX10_61 o_turns_cos o_turns_sin) (t1 : told 1 = nI bits) (t2 : told 2 = nI rad) (t3 : told 3 = nI ord) (t4 : told 4 = nI nr) (ha : a ≤ 99) (hw : WASR al 0 (o_wave_wasRe, o_wave_wasIm)) (n m x h j e : Nat) (hx : x < 2 ^ 31) (hj : j < 10) (W : Int32) (u1 u2 u3 : Int32) (u4 u5 u6 u7 u8 u9 u10 : Nat → Int32) :
    ∃ x' b c1 c2 c3 c4 c5 c6 c7 c8 c9 c10 al' li' lr', x' < 2 ^ 31 ∧ b ≤ 1 ∧
      fX9_noisyHits_29 (nI (2 ^ M)) (nI M) (nI (lmN bits)) (nI ord) (nI nr) (nI (nst M rad)) o_turns_cos o_turns_sin o_wave_wasIm o_wave_wasRe o_way_shifts (n + 1) (nI x) u1 u2 u3 u4 u5 u6 u7 u8 u9 u10 (nI a) (nI e) W (nI h) (nI (j + 1)) =
        fX9_noisyHits_76 (nI (2 ^ M)) (nI M) (nI (lmN bits)) (nI ord) (nI nr) (nI (nst M rad)) o_turns_cos o_turns_sin o_wave_wasIm o_wave_wasRe o_way_shifts (fX9_noisyHits_29 (nI (2 ^ M)) (nI M) (nI (lmN bits)) (nI ord) (nI nr) (nI (nst M rad)) o_turns_cos o_turns_sin o_wave_wasIm o_wave_wasRe o_way_shifts n) (nI x') c1 c2 c3 c4 c5 c6 c7 c8 c9 c10 (nI a) (nI e) W (nI (h + b)) (nI (j + 1)) ∧
      fX10_chanceOf_26 (nI M) mX10_61 told (m + 1) 0 (nI rad) (nI ord) (nI nr) (nI (lmN bits)) 1 (lN x) al li lr (nI a) (nI e) (nI h) (nI j) = fX10_chanceOf_26 (nI M) mX10_61 told m 0 (nI rad) (nI ord) (nI nr) (nI (lmN bits)) 1 (lN x') al' li' lr' (nI a) (nI e) (nI (h + b)) (nI (j + 1)) ∧ FB1 al al' := by
  obtain ⟨hM, hbits, hr, ho, hn, hsd⟩ := id hC
  have hN := isM_pow hM
  have hlm := lm_x hbits
  obtain ⟨al1, a1, a2, -, a4⟩ := asWas_x 0 (fun _ => 0) hw
  obtain ⟨im', re', r1, r2⟩ := restartFrom_eq u1 u2 u3 o_wave_wasIm o_wave_wasRe u9 u10
  obtain ⟨x', z', re2, im2, al2, i1, i2, i3, i4, i5, i6, i7, i8⟩ := noise_both (li := li) (lr := lr) (hh := fun _ => 0) hM hlm.2 ha hm.1 (nI M) mX10_61 (fX10_chanceOf_26 (nI M) mX10_61 told m) (nI rad) (nI ord) (nI nr) 1 (nI e) (nI h) (nI j) (2 ^ M) FU FU 0 x re' im' al1 _ (by omega) (FU_pos (by omega)) (FU_pos (by omega)) hx r2 a2 hB hZ
  obtain ⟨ha3, im3, re3, si3, sr3, wi3, wr3, f1, -⟩ := class_run (CF_c hC) hSH hT i6 i4 u8 u4 u5 u6 u7
  obtain ⟨al4, li4, lr4, e1, e2⟩ := expRun_m (CF_c hC) hm hT i6 i7 i5 li lr
  by_cases q : nI (tS M rad ord nr (lmN bits) o_turns_cos o_turns_sin z') < nI e
  · refine ⟨x', 0, nI (tS M rad ord nr (lmN bits) o_turns_cos o_turns_sin z'), nI (nst M rad), 0, si3, sr3, wi3, wr3, ha3, im3, re3, al4, li4, lr4, i1, by omega, ?_, ?_, FB1_t a4 (FB1_t i8 e2)⟩
    · rw [fX9_noisyHits_29.eq_2, if_neg (show ¬ ((10 : Int32) < nI (j + 1)) from nI_nlt (b := j + 1) (a := 10) (by omega) (by decide)), r1, bd5_s, show fX9_addNoise (nI x) (nI (2 ^ M)) (nI (lmN bits)) im' re' (nI a) = _ from i2, bd3_s, f1, bd10_s, if_pos q, show h + 0 = h from rfl]
    · rw [fX10_chanceOf_26.eq_2, if_neg (show ¬ ((10 : Int32) ≤ nI j) from nI_ge hj (by decide)), a1, bd2_s, show fX10_chanceOf_40 (nI M) mX10_61 told (fX10_chanceOf_26 (nI M) mX10_61 told m) FU (nI 1) (nI rad) (nI ord) (nI nr) (nI (lmN bits)) 1 (lN x) al1 li lr (nI a) (nI e) (nI h) (nI j) 0 = _ from i3, fX10_chanceOf_95, e1, bd4_s, if_pos q, fX10_chanceOf_110]
      simp only [nm]
      rw [asItIs_eq hbits t1 t2 t3 t4, bd6_s, nI_1, show nI h + 0 = nI (h + 0) from nI_add h 0]
  · refine ⟨x', 1, nI (tS M rad ord nr (lmN bits) o_turns_cos o_turns_sin z'), nI (nst M rad), 0, si3, sr3, wi3, wr3, ha3, im3, re3, al4, li4, lr4, i1, by omega, ?_, ?_, FB1_t a4 (FB1_t i8 e2)⟩
    · rw [fX9_noisyHits_29.eq_2, if_neg (show ¬ ((10 : Int32) < nI (j + 1)) from nI_nlt (b := j + 1) (a := 10) (by omega) (by decide)), r1, bd5_s, show fX9_addNoise (nI x) (nI (2 ^ M)) (nI (lmN bits)) im' re' (nI a) = _ from i2, bd3_s, f1, bd10_s, if_neg q, nm, nI_1]
    · rw [fX10_chanceOf_26.eq_2, if_neg (show ¬ ((10 : Int32) ≤ nI j) from nI_ge hj (by decide)), a1, bd2_s, show fX10_chanceOf_40 (nI M) mX10_61 told (fX10_chanceOf_26 (nI M) mX10_61 told m) FU (nI 1) (nI rad) (nI ord) (nI nr) (nI (lmN bits)) 1 (lN x) al1 li lr (nI a) (nI e) (nI h) (nI j) 0 = _ from i3, fX10_chanceOf_95, e1, bd4_s, if_neg q, fX10_chanceOf_110]
      simp only [nm]
      rw [asItIs_eq hbits t1 t2 t3 t4, bd6_s, nI_1, nI_1]
theorem chance_m {M bits rad ord nr sd a e : Nat} {o_turns_cos o_turns_sin o_wave_wasRe o_wave_wasIm o_way_shifts told m_all : Nat → Int32} (hC : CF M bits rad ord nr sd) (hSH : SHF M rad ord o_way_shifts) (hT : TBB o_turns_cos o_turns_sin) (hB : BDz M (o_wave_wasRe, o_wave_wasIm) (2 ^ 16)) (hZ : ZR M (o_wave_wasRe, o_wave_wasIm)) (hm : MOK M told mX10_61 o_turns_cos o_turns_sin) (t1 : told 1 = nI bits) (t2 : told 2 = nI rad) (t3 : told 3 = nI ord) (t4 : told 4 = nI nr) (ha : a ≤ 99) (hw : WASR m_all 0 (o_wave_wasRe, o_wave_wasIm)) :
    ∀ d m j x h (al li lr : Nat → Int32), j + d = 10 → d < m → x < 2 ^ 31 → FB1 m_all al → ∃ r x' al' li' lr', fX10_chanceOf_26 (nI M) mX10_61 told m 0 (nI rad) (nI ord) (nI nr) (nI (lmN bits)) 1 (lN x) al li lr (nI a) (nI e) (nI h) (nI j) = some (nI r, 0, nI rad, nI ord, nI nr, nI (lmN bits), 1, lN x', al', li', lr') ∧ FB1 m_all al' ∧ h ≤ r ∧ r ≤ h + d := by
  intro d
  induction d with
  | zero =>
    intro m j x h al li lr h1 h2 hx hF
    obtain ⟨m, rfl⟩ : ∃ m', m = m' + 1 := ⟨m - 1, by omega⟩
    obtain rfl : j = 10 := by omega
    rw [fX10_chanceOf_26.eq_2, if_pos (show (10 : Int32) ≤ nI 10 by decide)]
    exact ⟨_, _, _, _, _, rfl, hF, by omega, by omega⟩
  | succ d ih =>
    intro m j x h al li lr h1 h2 hx hF
    obtain ⟨m, rfl⟩ : ∃ m', m = m' + 1 := ⟨m - 1, by omega⟩
    obtain ⟨x', b, -, -, -, -, -, -, -, -, -, -, al', li', lr', i1, i2, -, i4, i5⟩ := try_both (li := li) (lr := lr) hC hSH hT hB hZ hm t1 t2 t3 t4 ha (WASR_c (fun j h1 h2 => hF j (by omega)) hw) 0 m x h j e hx (by omega) 0 0 0 0 (fun _ => 0) (fun _ => 0) (fun _ => 0) (fun _ => 0) (fun _ => 0) (fun _ => 0) (fun _ => 0)
    obtain ⟨r, x2, al2, li2, lr2, k1, k2, k3, k4⟩ := ih m (j + 1) x' (h + b) al' li' lr' (by omega) (by omega) i1 (FB1_t hF i5)
    exact ⟨r, x2, al2, li2, lr2, i4.trans k1, k2, by omega, by omega⟩
theorem chance_cm {M bits rad ord nr sd a e wn : Nat} {o_turns_cos o_turns_sin o_wave_wasRe o_wave_wasIm o_way_shifts told m_all : Nat → Int32} (hC : CF M bits rad ord nr sd) (hSH : SHF M rad ord o_way_shifts) (hT : TBB o_turns_cos o_turns_sin) (hB : BDz M (o_wave_wasRe, o_wave_wasIm) (2 ^ 16)) (hZ : ZR M (o_wave_wasRe, o_wave_wasIm)) (hm : MOK M told mX10_61 o_turns_cos o_turns_sin) (t1 : told 1 = nI bits) (t2 : told 2 = nI rad) (t3 : told 3 = nI ord) (t4 : told 4 = nI nr) (ha : a ≤ 99) (hwn : wn = 0 ∨ wn = 5) (hw : WASR m_all 0 (o_wave_wasRe, o_wave_wasIm)) :
    ∀ d n m j x h u1 u2 u3 u4 u5 u6 u7 u8 u9 u10 (al li lr : Nat → Int32), j + d = 10 → d < n → d < m → h ≤ j → x < 2 ^ 31 → FB1 m_all al → ∃ rc r o x' al' li' lr',
      fX9_noisyHits_29 (nI (2 ^ M)) (nI M) (nI (lmN bits)) (nI ord) (nI nr) (nI (nst M rad)) o_turns_cos o_turns_sin o_wave_wasIm o_wave_wasRe o_way_shifts n (nI x) u1 u2 u3 u4 u5 u6 u7 u8 u9 u10 (nI a) (nI e) (nI wn) (nI h) (nI (j + 1)) = some (nI rc, o) ∧
      fX10_chanceOf_26 (nI M) mX10_61 told m 0 (nI rad) (nI ord) (nI nr) (nI (lmN bits)) 1 (lN x) al li lr (nI a) (nI e) (nI h) (nI j) = some (nI r, 0, nI rad, nI ord, nI nr, nI (lmN bits), 1, lN x', al', li', lr') ∧ FB1 m_all al' ∧ r ≤ h + d ∧ rc ≤ h + d ∧ (wn = 0 → rc = r) ∧ (wn = 5 → (rc < 5 ↔ r < 5)) := by
  intro d
  induction d with
  | zero =>
    intro n m j x h u1 u2 u3 u4 u5 u6 u7 u8 u9 u10 al li lr h1 h2 h3 hh hx hF
    obtain ⟨n, rfl⟩ : ∃ m', n = m' + 1 := ⟨n - 1, by omega⟩
    obtain ⟨m, rfl⟩ : ∃ m', m = m' + 1 := ⟨m - 1, by omega⟩
    obtain rfl : j = 10 := by omega
    rw [fX9_noisyHits_29.eq_2, fX10_chanceOf_26.eq_2, if_pos (show (10 : Int32) ≤ nI 10 by decide), if_pos (show (10 : Int32) < nI (10 + 1) by decide)]
    exact ⟨_, _, _, _, _, _, _, rfl, rfl, hF, by omega, by omega, fun _ => rfl, fun _ => Iff.rfl⟩
  | succ d ih =>
    intro n m j x h u1 u2 u3 u4 u5 u6 u7 u8 u9 u10 al li lr h1 h2 h3 hh hx hF
    obtain ⟨n, rfl⟩ : ∃ m', n = m' + 1 := ⟨n - 1, by omega⟩
    obtain ⟨m, rfl⟩ : ∃ m', m = m' + 1 := ⟨m - 1, by omega⟩
    obtain ⟨x', b, c1, c2, c3, c4, c5, c6, c7, c8, c9, c10, al', li', lr', i1, i2, i3, i4, i5⟩ := try_both (li := li) (lr := lr) hC hSH hT hB hZ hm t1 t2 t3 t4 ha (WASR_c (fun j h1 h2 => hF j (by omega)) hw) n m x h j e hx (by omega) (nI wn) u1 u2 u3 u4 u5 u6 u7 u8 u9 u10
    obtain ⟨rc, r, o, x2, al2, li2, lr2, k1, k2, k3, k4, k5, k6, k7⟩ := ih n m (j + 1) x' (h + b) c1 c2 c3 c4 c5 c6 c7 c8 c9 c10 al' li' lr' (by omega) (by omega) (by omega) (by omega) i1 (FB1_t hF i5)
    have hgo : fX9_noisyHits_104 (nI (2 ^ M)) (nI M) (nI (lmN bits)) (nI ord) (nI nr) (nI (nst M rad)) o_turns_cos o_turns_sin o_wave_wasIm o_wave_wasRe o_way_shifts (fX9_noisyHits_29 (nI (2 ^ M)) (nI M) (nI (lmN bits)) (nI ord) (nI nr) (nI (nst M rad)) o_turns_cos o_turns_sin o_wave_wasIm o_wave_wasRe o_way_shifts n) (nI x') c1 c2 c3 c4 c5 c6 c7 c8 c9 c10 (nI a) (nI e) (nI wn) (nI (h + b)) (nI (j + 1)) = some (nI rc, o) := by
      unfold fX9_noisyHits_104
      simp only [nm, nI_1]
      exact k1
    rw [i3, i4]
    unfold fX9_noisyHits_76
    rcases hwn with rfl | rfl
    · rw [if_pos (show nI 0 ≤ 0 by decide), hgo]
      exact ⟨rc, r, o, x2, al2, li2, lr2, rfl, k2, k3, by omega, by omega, k6, k7⟩
    · rw [if_neg (show ¬ (nI 5 ≤ 0) by decide)]
      obtain ⟨rm, x3, al3, li3, lr3, p1, p2, p3, p4⟩ := chance_m (e := e) hC hSH hT hB hZ hm t1 t2 t3 t4 ha hw d m (j + 1) x' (h + b) al' li' lr' (by omega) (by omega) i1 (FB1_t hF i5)
      by_cases q1 : 5 ≤ h + b
      · rw [if_pos (nI_le q1 (by omega))]
        exact ⟨h + b, rm, _, x3, al3, li3, lr3, rfl, p1, p2, by omega, by omega, fun q => by omega, fun _ => by omega⟩
      · rw [if_neg (nI_ge (by omega) (by omega)), show nI (h + b) + (10 : Int32) = nI (h + b + 10) from nI_add _ 10, pk_sub (by omega)]
        by_cases q2 : 5 ≤ h + b + 10 - (j + 1)
        · rw [if_pos (nI_le q2 (by omega)), hgo]
          exact ⟨rc, r, o, x2, al2, li2, lr2, rfl, k2, k3, by omega, by omega, k6, k7⟩
        · rw [if_neg (nI_ge (by omega) (by omega))]
          exact ⟨h + b, rm, _, x3, al3, li3, lr3, rfl, p1, p2, by omega, by omega, fun q => by omega, fun _ => by omega⟩
theorem chance_all {M bits rad ord nr sd a e wn : Nat} {o_turns_cos o_turns_sin o_wave_wasRe o_wave_wasIm o_way_shifts told m_all : Nat → Int32} (hC : CF M bits rad ord nr sd) (hSH : SHF M rad ord o_way_shifts) (hT : TBB o_turns_cos o_turns_sin) (hB : BDz M (o_wave_wasRe, o_wave_wasIm) (2 ^ 16)) (hZ : ZR M (o_wave_wasRe, o_wave_wasIm)) (hm : MOK M told mX10_61 o_turns_cos o_turns_sin) (t1 : told 1 = nI bits) (t2 : told 2 = nI rad) (t3 : told 3 = nI ord) (t4 : told 4 = nI nr) (t5 : told 5 = nI sd) (ha : a ≤ 99) (hwn : wn = 0 ∨ wn = 5) (hw : WASR m_all 0 (o_wave_wasRe, o_wave_wasIm)) {p1 : Int32} (hp : ¬ (p1 < -1)) (al li lr : Nat → Int32) (hF : FB1 m_all al) (dr : Int64) (u0 u1 u2 u3 : Int32) (u4 u5 u6 u7 u8 u9 u10 : Nat → Int32) : ∃ rc r o x' al' li' lr',
      fX9_noisyHits u0 u1 u2 u3 (nI (2 ^ M)) (nI M) (nI (lmN bits)) (nI ord) (nI nr) (nI sd) (nI (nst M rad)) u4 u5 u6 u7 u8 u9 u10 o_turns_cos o_turns_sin o_wave_wasIm o_wave_wasRe o_way_shifts p1 (nI a) (nI e) (nI wn) = some (nI rc, o) ∧
      fX10_chanceOf 0 (nI rad) (nI ord) (nI nr) (nI (lmN bits)) 1 (nI M) dr al li lr mX10_61 told p1 (nI a) (nI e) = some (nI r, 0, nI rad, nI ord, nI nr, nI (lmN bits), 1, lN x', al', li', lr') ∧ FB1 m_all al' ∧ r ≤ 10 ∧ rc ≤ 10 ∧ (wn = 0 → rc = r) ∧ (wn = 5 → (rc < 5 ↔ r < 5)) := by
  have hsd : sd < 2 ^ 31 := by have := hC.2.2.2.2.2; omega
  have go : ∀ x, x < 2 ^ 31 → ∃ rc r o x' al' li' lr',
      fX9_noisyHits_29 (nI (2 ^ M)) (nI M) (nI (lmN bits)) (nI ord) (nI nr) (nI (nst M rad)) o_turns_cos o_turns_sin o_wave_wasIm o_wave_wasRe o_way_shifts FU (nI x) u1 u2 u3 u4 u5 u6 u7 u8 u9 u10 (nI a) (nI e) (nI wn) 0 1 = some (nI rc, o) ∧
      fX10_chanceOf_26 (nI M) mX10_61 told FU 0 (nI rad) (nI ord) (nI nr) (nI (lmN bits)) 1 (lN x) al li lr (nI a) (nI e) 0 0 = some (nI r, 0, nI rad, nI ord, nI nr, nI (lmN bits), 1, lN x', al', li', lr') ∧ FB1 m_all al' ∧ r ≤ 10 ∧ rc ≤ 10 ∧ (wn = 0 → rc = r) ∧ (wn = 5 → (rc < 5 ↔ r < 5)) := fun x hx => by
    obtain ⟨rc, r, o, x2, al2, li2, lr2, k1, k2, k3, k4, k5, k6, k7⟩ := chance_cm (e := e) hC hSH hT hB hZ hm t1 t2 t3 t4 ha hwn hw 10 FU FU 0 x 0 u1 u2 u3 u4 u5 u6 u7 u8 u9 u10 al li lr (by omega) (FU_pos (by omega)) (FU_pos (by omega)) (by omega) hx hF
    exact ⟨rc, r, o, x2, al2, li2, lr2, k1, k2, k3, by omega, by omega, k6, k7⟩
  by_cases h0 : p1 < 0
  · have hm1 : p1 = -1 := by
      rw [Int32.lt_iff_toInt_lt, show (0 : Int32).toInt = 0 from rfl] at h0
      rw [Int32.lt_iff_toInt_lt, show (-1 : Int32).toInt = -1 from rfl] at hp
      exact Int32.toInt_inj.mp (by rw [show (-1 : Int32).toInt = -1 from rfl]; omega)
    subst hm1
    unfold fX9_noisyHits fX10_chanceOf fX9_noisyHits_20 fX10_chanceOf_17
    rw [if_pos rfl, if_neg (show ¬ ((0 : Int32) ≤ -1) by decide), gd_t (show inb (5 : Int32) 12 = true by decide), show Int32.toNatClampNeg 5 = 5 from rfl, t5, nI_l hsd]
    exact go sd hsd
  · obtain ⟨x, hx, rfl⟩ := nI_of h0
    unfold fX9_noisyHits fX10_chanceOf fX9_noisyHits_20 fX10_chanceOf_17
    rw [if_neg (fun q => by have := nI_toInt hx; rw [q, show (-1 : Int32).toInt = -1 from rfl] at this; omega), if_pos (nI_pos' hx), nI_l hx]
    exact go x hx
theorem k_chance {o_imageKept : Int32} {o_taped : Int32} {o_way_size : Int32} {o_way_log : Int32} {o_way_wordBits : Int32} {o_way_limit : Int32} {o_way_radix : Int32} {o_way_order : Int32} {o_way_near : Int32} {o_way_seed : Int32} {o_way_stages : Int32} {o_way_shifts : Nat → Int32} {o_wave_exp : Int32} {o_wave_done : Int32} {o_wave_backward : Int32} {o_wave_re : Nat → Int32} {o_wave_im : Nat → Int32} {o_wave_wasRe : Nat → Int32} {o_wave_wasIm : Nat → Int32} {o_wave_halved : Nat → Int32} {o_past_next : Int32} {o_past_held : Int32} {o_past_cells : Nat → Int32} {o_notes_total : Int32} {o_notes_knownBy : Int32} {o_notes_kinds : Nat → Int32} {o_notes_targets : Nat → Int32} {o_notes_bins : Nat → Int32} {o_ring_size : Int32} {o_ring_log : Int32} {o_ring_powers : Nat → Int32} {o_turns_cos : Nat → Int32} {o_turns_sin : Nat → Int32} {o_reader_fault : Int32} {o_reader_faultPlace : Int32} {o_image : Nat → Int32} {o_tape : Nat → Int32} {m_tapeSize : Int32} {m_fault : Int32} {m_faultPlace : Int32} {m_bank : Int32} {m_isImage : Int32} {m_undos : Int32} {m_runRadix : Int32} {m_runOrder : Int32} {m_runNear : Int32} {m_runLimit : Int32} {m_runHalves : Int32} {m_power : Int32} {m_notedMany : Int32} {m_knownTold : Int32} {m_tape : Nat → Int32} {m_words : Nat → Int32} {m_told : Nat → Int32} {m_all : Nat → Int32} {m_quarter : Nat → Int32} {m_roots : Nat → Int32} {m_noted1 : Nat → Int32} (hR : REL o_imageKept o_taped o_way_size o_way_log o_way_wordBits o_way_limit o_way_radix o_way_order o_way_near o_way_seed o_way_stages o_way_shifts o_wave_exp o_wave_done o_wave_backward o_wave_re o_wave_im o_wave_wasRe o_wave_wasIm o_wave_halved o_past_next o_past_held o_past_cells o_notes_total o_notes_knownBy o_notes_kinds o_notes_targets o_notes_bins o_ring_size o_ring_log o_ring_powers o_turns_cos o_turns_sin o_reader_fault o_reader_faultPlace o_image o_tape m_tapeSize m_fault m_faultPlace m_bank m_isImage m_undos m_runRadix m_runOrder m_runNear m_runLimit m_runHalves m_power m_notedMany m_knownTold m_tape m_words m_told m_all m_quarter m_roots m_noted1) (p1 : Int32) (p2 : Int32) (p3 : Int32)  (o_dice_last : Int32) (o_trial_exp : Int32) (o_trial_done : Int32) (o_trial_backward : Int32) (o_beater_spareIm : Nat → Int32) (o_beater_spareRe : Nat → Int32) (o_beater_wingIm : Nat → Int32) (o_beater_wingRe : Nat → Int32) (o_trial_halved : Nat → Int32) (o_trial_im : Nat → Int32) (o_trial_re : Nat → Int32) (m_thrown : Int32) (m_drawn : Int64) (m_laidIm : Nat → Int32) (m_laidRe : Nat → Int32) :
    ∃ (r : Int32) (out_o_dice_last : Int32) (out_o_trial_exp : Int32) (out_o_trial_done : Int32) (out_o_trial_backward : Int32) (out_o_beater_spareIm : Nat → Int32) (out_o_beater_spareRe : Nat → Int32) (out_o_beater_wingIm : Nat → Int32) (out_o_beater_wingRe : Nat → Int32) (out_o_trial_halved : Nat → Int32) (out_o_trial_im : Nat → Int32) (out_o_trial_re : Nat → Int32) (out_m_thrown : Int32) (out_m_bank : Int32) (out_m_runRadix : Int32) (out_m_runOrder : Int32) (out_m_runNear : Int32) (out_m_runLimit : Int32) (out_m_runHalves : Int32) (out_m_drawn : Int64) (out_m_all : Nat → Int32) (out_m_laidIm : Nat → Int32) (out_m_laidRe : Nat → Int32), fX9_chance o_dice_last o_trial_exp o_trial_done o_trial_backward o_way_size o_way_log o_way_limit o_way_order o_way_near o_way_seed o_way_stages o_beater_spareIm o_beater_spareRe o_beater_wingIm o_beater_wingRe o_trial_halved o_trial_im o_trial_re o_turns_cos o_turns_sin o_wave_wasIm o_wave_wasRe o_way_shifts p1 p2 p3 = some (r, out_o_dice_last, out_o_trial_exp, out_o_trial_done, out_o_trial_backward, out_o_beater_spareIm, out_o_beater_spareRe, out_o_beater_wingIm, out_o_beater_wingRe, out_o_trial_halved, out_o_trial_im, out_o_trial_re) ∧ fX10_chance m_thrown m_bank m_runRadix m_runOrder m_runNear m_runLimit m_runHalves m_power m_drawn m_all m_laidIm m_laidRe m_quarter m_told p1 p2 p3 = some (r, out_m_thrown, out_m_bank, out_m_runRadix, out_m_runOrder, out_m_runNear, out_m_runLimit, out_m_runHalves, out_m_drawn, out_m_all, out_m_laidIm, out_m_laidRe) ∧ REL o_imageKept o_taped o_way_size o_way_log o_way_wordBits o_way_limit o_way_radix o_way_order o_way_near o_way_seed o_way_stages o_way_shifts o_wave_exp o_wave_done o_wave_backward o_wave_re o_wave_im o_wave_wasRe o_wave_wasIm o_wave_halved o_past_next o_past_held o_past_cells o_notes_total o_notes_knownBy o_notes_kinds o_notes_targets o_notes_bins o_ring_size o_ring_log o_ring_powers o_turns_cos o_turns_sin o_reader_fault o_reader_faultPlace o_image o_tape m_tapeSize m_fault m_faultPlace out_m_bank m_isImage m_undos out_m_runRadix out_m_runOrder out_m_runNear out_m_runLimit out_m_runHalves m_power m_notedMany m_knownTold m_tape m_words m_told out_m_all m_quarter m_roots m_noted1 := by
  have hR0 := hR
  obtain ⟨M, bits, rad, ord, nr, sd, hC, hW, hT, hG, hm, hV, hP, hI, hN, hA, hF1, hF2⟩ := hR
  obtain ⟨hM, hbits, hr, ho, hn, hsd⟩ := id hC
  obtain ⟨rfl, rfl, rfl, rfl, rfl, rfl, rfl, rfl, rfl, hSH⟩ := hW
  obtain ⟨rfl, rfl, rfl, rfl, rfl, rfl, rfl, rfl, rfl, t0, t1, t2, t3, t4, t5, hrt⟩ := hm
  have hN2 := isM_pow hM
  have hns := nst_le hM hr
  have hlm := lm_x hbits
  have hCG := CF_c hC
  have hV0 := hV
  obtain ⟨k, bk, rfl, rfl, hw, hws, hwi⟩ := hV
  have hMO := TRN_m hM hT t0
  have hTB := TRN_B hM hT
  have hB16 : BDz M (o_wave_wasRe, o_wave_wasIm) (2 ^ 16) := fun p hp => by have := hwi.2.2.2.2.2.1 p hp; omega
  unfold fX9_chance fX10_chance
  by_cases h1 : p1 < -1
  · rw [if_pos h1, if_pos h1]
    exact ⟨_, _, _, _, _, _, _, _, _, _, _, _, _, _, _, _, _, _, _, _, _, _, _, rfl, rfl, hR0⟩
  · rw [if_neg h1, if_neg h1]
    rcases isIn_d p2 (show 1 ≤ 99 by decide) (show 99 < 2 ^ 30 by decide) with ⟨a, ha1, ha2, rfl, q1, q2, q3⟩ | ⟨q1, q3⟩ | ⟨q1, q2, q3⟩
    · rw [if_neg (show ¬ (nI a < 1) from q1), if_neg (show ¬ ((99 : Int32) < nI a) from nI_nlt (b := a) (a := 99) ha2 (by decide)), show fX10_isIn (nI a) 1 99 = _ from q3, bd1_s, if_neg (show ¬ ((1 : Int32) = 0) by decide)]
      rcases isIn_c p3 (show 20 < 2 ^ 30 by decide) with ⟨e, he, rfl, u1, u2, u3⟩ | ⟨u1, u3⟩ | ⟨u1, u2, u4, u3⟩
      · rw [if_neg u1, if_pos (show nI e ≤ 20 from u2), show fX10_isIn (nI e) 0 20 = _ from u3, bd1_s, if_neg (show ¬ ((1 : Int32) = 0) by decide)]
        obtain ⟨rc, r, ⟨a1, a2, a3, a4, a5, a6, a7, a8, a9, a10, a11⟩, x', al', li', lr', k1, k2, k3, -, -, k6, -⟩ := chance_all (wn := 0) (a := a) (e := e) hC hSH hTB hB16 hwi.2.2.2.1 hMO t1 t2 t3 t4 t5 ha2 (Or.inl rfl) hws h1 m_all m_laidIm m_laidRe (fun _ _ => rfl) m_drawn o_dice_last o_trial_exp o_trial_done o_trial_backward o_beater_spareIm o_beater_spareRe o_beater_wingIm o_beater_wingRe o_trial_halved o_trial_im o_trial_re
        obtain rfl := k6 rfl
        rw [show fX9_noisyHits o_dice_last o_trial_exp o_trial_done o_trial_backward (nI (2 ^ M)) (nI M) (nI (lmN bits)) (nI ord) (nI nr) (nI sd) (nI (nst M rad)) o_beater_spareIm o_beater_spareRe o_beater_wingIm o_beater_wingRe o_trial_halved o_trial_im o_trial_re o_turns_cos o_turns_sin o_wave_wasIm o_wave_wasRe o_way_shifts p1 (nI a) (nI e) 0 = _ from k1, bd12_s, k2, bd11_s]
        exact ⟨_, _, _, _, _, _, _, _, _, _, _, _, _, _, _, _, _, _, _, _, _, _, _, rfl, rfl, M, bits, rad, ord, nr, sd, hC, ⟨rfl, rfl, rfl, rfl, rfl, rfl, rfl, rfl, rfl, hSH⟩, hT, hG, ⟨rfl, rfl, rfl, rfl, rfl, rfl, rfl, rfl, rfl, t0, t1, t2, t3, t4, t5, hrt⟩, WVR_1 k3 hV0, PSTR_1 k3 hP, IMGR_1 k3 hI, hN, hA, hF1, hF2⟩
      · rw [if_pos u1, show fX10_isIn p3 0 20 = _ from u3, bd1_s, if_pos rfl]
        exact ⟨_, _, _, _, _, _, _, _, _, _, _, _, _, _, _, _, _, _, _, _, _, _, _, rfl, rfl, hR0⟩
      · rw [if_neg u1, if_neg (show ¬ (p3 ≤ 20) from u2), show fX10_isIn p3 0 20 = _ from u3, bd1_s, if_pos rfl]
        exact ⟨_, _, _, _, _, _, _, _, _, _, _, _, _, _, _, _, _, _, _, _, _, _, _, rfl, rfl, hR0⟩
    · rw [if_pos (show p2 < 1 from q1), show fX10_isIn p2 1 99 = _ from q3, bd1_s, if_pos rfl]
      exact ⟨_, _, _, _, _, _, _, _, _, _, _, _, _, _, _, _, _, _, _, _, _, _, _, rfl, rfl, hR0⟩
    · rw [if_neg (show ¬ (p2 < 1) from q1), if_pos (show (99 : Int32) < p2 from q2), show fX10_isIn p2 1 99 = _ from q3, bd1_s, if_pos rfl]
      exact ⟨_, _, _, _, _, _, _, _, _, _, _, _, _, _, _, _, _, _, _, _, _, _, _, rfl, rfl, hR0⟩
theorem k_noise {o_imageKept : Int32} {o_taped : Int32} {o_way_size : Int32} {o_way_log : Int32} {o_way_wordBits : Int32} {o_way_limit : Int32} {o_way_radix : Int32} {o_way_order : Int32} {o_way_near : Int32} {o_way_seed : Int32} {o_way_stages : Int32} {o_way_shifts : Nat → Int32} {o_wave_exp : Int32} {o_wave_done : Int32} {o_wave_backward : Int32} {o_wave_re : Nat → Int32} {o_wave_im : Nat → Int32} {o_wave_wasRe : Nat → Int32} {o_wave_wasIm : Nat → Int32} {o_wave_halved : Nat → Int32} {o_past_next : Int32} {o_past_held : Int32} {o_past_cells : Nat → Int32} {o_notes_total : Int32} {o_notes_knownBy : Int32} {o_notes_kinds : Nat → Int32} {o_notes_targets : Nat → Int32} {o_notes_bins : Nat → Int32} {o_ring_size : Int32} {o_ring_log : Int32} {o_ring_powers : Nat → Int32} {o_turns_cos : Nat → Int32} {o_turns_sin : Nat → Int32} {o_reader_fault : Int32} {o_reader_faultPlace : Int32} {o_image : Nat → Int32} {o_tape : Nat → Int32} {m_tapeSize : Int32} {m_fault : Int32} {m_faultPlace : Int32} {m_bank : Int32} {m_isImage : Int32} {m_undos : Int32} {m_runRadix : Int32} {m_runOrder : Int32} {m_runNear : Int32} {m_runLimit : Int32} {m_runHalves : Int32} {m_power : Int32} {m_notedMany : Int32} {m_knownTold : Int32} {m_tape : Nat → Int32} {m_words : Nat → Int32} {m_told : Nat → Int32} {m_all : Nat → Int32} {m_quarter : Nat → Int32} {m_roots : Nat → Int32} {m_noted1 : Nat → Int32} (hR : REL o_imageKept o_taped o_way_size o_way_log o_way_wordBits o_way_limit o_way_radix o_way_order o_way_near o_way_seed o_way_stages o_way_shifts o_wave_exp o_wave_done o_wave_backward o_wave_re o_wave_im o_wave_wasRe o_wave_wasIm o_wave_halved o_past_next o_past_held o_past_cells o_notes_total o_notes_knownBy o_notes_kinds o_notes_targets o_notes_bins o_ring_size o_ring_log o_ring_powers o_turns_cos o_turns_sin o_reader_fault o_reader_faultPlace o_image o_tape m_tapeSize m_fault m_faultPlace m_bank m_isImage m_undos m_runRadix m_runOrder m_runNear m_runLimit m_runHalves m_power m_notedMany m_knownTold m_tape m_words m_told m_all m_quarter m_roots m_noted1) (p1 : Int32) (p2 : Int32)  (o_dice_last : Int32) (o_trial_exp : Int32) (o_trial_done : Int32) (o_trial_backward : Int32) (o_beater_spareIm : Nat → Int32) (o_beater_spareRe : Nat → Int32) (o_beater_wingIm : Nat → Int32) (o_beater_wingRe : Nat → Int32) (o_trial_halved : Nat → Int32) (o_trial_im : Nat → Int32) (o_trial_re : Nat → Int32) (m_thrown : Int32) (m_drawn : Int64) (m_laidIm : Nat → Int32) (m_laidRe : Nat → Int32) :
    ∃ (r : Int32) (out_o_dice_last : Int32) (out_o_trial_exp : Int32) (out_o_trial_done : Int32) (out_o_trial_backward : Int32) (out_o_beater_spareIm : Nat → Int32) (out_o_beater_spareRe : Nat → Int32) (out_o_beater_wingIm : Nat → Int32) (out_o_beater_wingRe : Nat → Int32) (out_o_trial_halved : Nat → Int32) (out_o_trial_im : Nat → Int32) (out_o_trial_re : Nat → Int32) (out_m_thrown : Int32) (out_m_bank : Int32) (out_m_runRadix : Int32) (out_m_runOrder : Int32) (out_m_runNear : Int32) (out_m_runLimit : Int32) (out_m_runHalves : Int32) (out_m_drawn : Int64) (out_m_all : Nat → Int32) (out_m_laidIm : Nat → Int32) (out_m_laidRe : Nat → Int32), fX9_noise o_dice_last o_trial_exp o_trial_done o_trial_backward o_way_size o_way_log o_way_limit o_way_order o_way_near o_way_seed o_way_stages o_beater_spareIm o_beater_spareRe o_beater_wingIm o_beater_wingRe o_trial_halved o_trial_im o_trial_re o_turns_cos o_turns_sin o_wave_wasIm o_wave_wasRe o_way_shifts p1 p2 = some (r, out_o_dice_last, out_o_trial_exp, out_o_trial_done, out_o_trial_backward, out_o_beater_spareIm, out_o_beater_spareRe, out_o_beater_wingIm, out_o_beater_wingRe, out_o_trial_halved, out_o_trial_im, out_o_trial_re) ∧ fX10_noise m_thrown m_bank m_runRadix m_runOrder m_runNear m_runLimit m_runHalves m_power m_drawn m_all m_laidIm m_laidRe m_quarter m_told p1 p2 = some (r, out_m_thrown, out_m_bank, out_m_runRadix, out_m_runOrder, out_m_runNear, out_m_runLimit, out_m_runHalves, out_m_drawn, out_m_all, out_m_laidIm, out_m_laidRe) ∧ REL o_imageKept o_taped o_way_size o_way_log o_way_wordBits o_way_limit o_way_radix o_way_order o_way_near o_way_seed o_way_stages o_way_shifts o_wave_exp o_wave_done o_wave_backward o_wave_re o_wave_im o_wave_wasRe o_wave_wasIm o_wave_halved o_past_next o_past_held o_past_cells o_notes_total o_notes_knownBy o_notes_kinds o_notes_targets o_notes_bins o_ring_size o_ring_log o_ring_powers o_turns_cos o_turns_sin o_reader_fault o_reader_faultPlace o_image o_tape m_tapeSize m_fault m_faultPlace out_m_bank m_isImage m_undos out_m_runRadix out_m_runOrder out_m_runNear out_m_runLimit out_m_runHalves m_power m_notedMany m_knownTold m_tape m_words m_told out_m_all m_quarter m_roots m_noted1 := by
  have hR0 := hR
  obtain ⟨M, bits, rad, ord, nr, sd, hC, hW, hT, hG, hm, hV, hP, hI, hN, hA, hF1, hF2⟩ := hR
  obtain ⟨hM, hbits, hr, ho, hn, hsd⟩ := id hC
  obtain ⟨rfl, rfl, rfl, rfl, rfl, rfl, rfl, rfl, rfl, hSH⟩ := hW
  obtain ⟨rfl, rfl, rfl, rfl, rfl, rfl, rfl, rfl, rfl, t0, t1, t2, t3, t4, t5, hrt⟩ := hm
  have hN2 := isM_pow hM
  have hns := nst_le hM hr
  have hlm := lm_x hbits
  have hCG := CF_c hC
  have hV0 := hV
  obtain ⟨k, bk, rfl, rfl, hw, hws, hwi⟩ := hV
  have hMO := TRN_m hM hT t0
  have hTB := TRN_B hM hT
  have hB16 : BDz M (o_wave_wasRe, o_wave_wasIm) (2 ^ 16) := fun p hp => by have := hwi.2.2.2.2.2.1 p hp; omega
  unfold fX9_noise fX10_noise
  by_cases h1 : p1 < -1
  · rw [if_pos h1, if_pos h1]
    exact ⟨_, _, _, _, _, _, _, _, _, _, _, _, _, _, _, _, _, _, _, _, _, _, _, rfl, rfl, hR0⟩
  · rw [if_neg h1, if_neg h1]
    rcases isIn_c p2 (show 20 < 2 ^ 30 by decide) with ⟨e, he, rfl, u1, u2, u3⟩ | ⟨u1, u3⟩ | ⟨u1, u2, u4, u3⟩
    · rw [if_neg u1, if_pos (show nI e ≤ 20 from u2), show fX10_isIn (nI e) 0 20 = _ from u3, bd1_s, if_neg (show ¬ ((1 : Int32) = 0) by decide)]
      have key : ∀ d n m a (al li lr : Nat → Int32) (dr : Int64) (u0 u1 u2 u3 : Int32) (u4 u5 u6 u7 u8 u9 u10 : Nat → Int32), a + d = 100 → d < n → d < m → FB1 m_all al → ∃ r o x' al' li' lr',
          fX9_noise_19 (nI (2 ^ M)) (nI M) (nI (lmN bits)) (nI ord) (nI nr) (nI sd) (nI (nst M rad)) o_turns_cos o_turns_sin o_wave_wasIm o_wave_wasRe o_way_shifts n u0 u1 u2 u3 u4 u5 u6 u7 u8 u9 u10 p1 (nI e) (nI a) = some (r, o) ∧
          fX10_noise_24 (nI M) mX10_61 m_told m 0 0 (nI rad) (nI ord) (nI nr) (nI (lmN bits)) 1 dr al li lr p1 (nI e) (nI a) = some (r, 0, 0, nI rad, nI ord, nI nr, nI (lmN bits), 1, x', al', li', lr') ∧ FB1 m_all al' := by
        intro d
        induction d with
        | zero =>
          intro n m a al li lr dr u0 u1 u2 u3 u4 u5 u6 u7 u8 u9 u10 h1 h2 h3 hF
          obtain ⟨n, rfl⟩ : ∃ m', n = m' + 1 := ⟨n - 1, by omega⟩
          obtain ⟨m, rfl⟩ : ∃ m', m = m' + 1 := ⟨m - 1, by omega⟩
          obtain rfl : a = 100 := by omega
          rw [fX9_noise_19.eq_2, fX10_noise_24.eq_2, if_pos (show (99 : Int32) < nI 100 by decide), if_pos (show (99 : Int32) < nI 100 by decide)]
          exact ⟨_, _, _, _, _, _, rfl, rfl, hF⟩
        | succ d ih =>
          intro n m a al li lr dr u0 u1 u2 u3 u4 u5 u6 u7 u8 u9 u10 h2 h3 h4 hF
          obtain ⟨n, rfl⟩ : ∃ m', n = m' + 1 := ⟨n - 1, by omega⟩
          obtain ⟨m, rfl⟩ : ∃ m', m = m' + 1 := ⟨m - 1, by omega⟩
          obtain ⟨rc, r, ⟨a1, a2, a3, a4, a5, a6, a7, a8, a9, a10, a11⟩, x', al', li', lr', k1, k2, k3, k4, k5, -, k7⟩ := chance_all (wn := 5) (a := a) (e := e) hC hSH hTB hB16 hwi.2.2.2.1 hMO t1 t2 t3 t4 t5 (by omega) (Or.inr rfl) hws h1 al li lr hF dr u0 u1 u2 u3 u4 u5 u6 u7 u8 u9 u10
          have hle : ¬ ((99 : Int32) < nI a) := nI_nlt (b := a) (a := 99) (by omega) (by decide)
          rw [fX9_noise_19.eq_2, fX10_noise_24.eq_2, if_neg hle, if_neg hle, show fX9_noisyHits u0 u1 u2 u3 (nI (2 ^ M)) (nI M) (nI (lmN bits)) (nI ord) (nI nr) (nI sd) (nI (nst M rad)) u4 u5 u6 u7 u8 u9 u10 o_turns_cos o_turns_sin o_wave_wasIm o_wave_wasRe o_way_shifts p1 (nI a) (nI e) 5 = _ from k1, bd12_s, k2, bd11_s]
          by_cases q : rc < 5
          · rw [if_pos (show nI rc < 5 from nI_lt (b := 5) q (by decide)), if_pos (show nI r < 5 from nI_lt (b := 5) ((k7 rfl).mp q) (by decide))]
            simp only [nm, nI_1]
            exact ih n m (a + 1) al' li' lr' (lN x') a1 a2 a3 a4 a5 a6 a7 a8 a9 a10 a11 (by omega) (by omega) (by omega) k3
          · rw [if_neg (show ¬ (nI rc < 5) from nI_nlt (b := 5) (by omega) (by omega)), if_neg (show ¬ (nI r < 5) from nI_nlt (b := 5) (by have := k7 rfl; omega) (by omega))]
            exact ⟨_, _, _, _, _, _, rfl, rfl, k3⟩
      obtain ⟨r, ⟨a1, a2, a3, a4, a5, a6, a7, a8, a9, a10, a11⟩, x', al', li', lr', k1, k2, k3⟩ := key 99 FU FU 1 m_all m_laidIm m_laidRe m_drawn o_dice_last o_trial_exp o_trial_done o_trial_backward o_beater_spareIm o_beater_spareRe o_beater_wingIm o_beater_wingRe o_trial_halved o_trial_im o_trial_re (by omega) (FU_pos (by omega)) (FU_pos (by omega)) (fun _ _ => rfl)
      exact ⟨_, _, _, _, _, _, _, _, _, _, _, _, _, _, _, _, _, _, _, _, _, _, _, k1, k2, M, bits, rad, ord, nr, sd, hC, ⟨rfl, rfl, rfl, rfl, rfl, rfl, rfl, rfl, rfl, hSH⟩, hT, hG, ⟨rfl, rfl, rfl, rfl, rfl, rfl, rfl, rfl, rfl, t0, t1, t2, t3, t4, t5, hrt⟩, WVR_1 k3 hV0, PSTR_1 k3 hP, IMGR_1 k3 hI, hN, hA, hF1, hF2⟩
    · rw [if_pos u1, show fX10_isIn p2 0 20 = _ from u3, bd1_s, if_pos rfl]
      exact ⟨_, _, _, _, _, _, _, _, _, _, _, _, _, _, _, _, _, _, _, _, _, _, _, rfl, rfl, hR0⟩
    · rw [if_neg u1, if_neg (show ¬ (p2 ≤ 20) from u2), show fX10_isIn p2 0 20 = _ from u3, bd1_s, if_pos rfl]
      exact ⟨_, _, _, _, _, _, _, _, _, _, _, _, _, _, _, _, _, _, _, _, _, _, _, rfl, rfl, hR0⟩
