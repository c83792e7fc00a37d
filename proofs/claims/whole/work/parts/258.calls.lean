/-! ===== lines read by both ===== -/
theorem tszC_t : (List.range 5).all (fun m => decide (fX8_takeSize 0 0 (nI (2 ^ (m + 1))) = some (nI (2 ^ (m + 1)), nI (m + 1)))) = true := by decide +kernel
theorem takeSize_eq {M : Nat} (hM : isM M) (x y : Int32) : fX8_takeSize x y (nI (2 ^ M)) = some (nI (2 ^ M), nI M) := by
  obtain ⟨m1, m5⟩ := hM
  have h := of_decide_eq_true (all_x tszC_t (show M - 1 < 5 by omega))
  rw [show M - 1 + 1 = M by omega] at h
  exact h
/-- a setting taken by both -/
theorem RD_set {B w v : Nat} (hB7 : B ≤ 700) (hw : w < 6) (hv : v ≤ 99999) (ho : OKS w v) {size log wb lim rad ord near seed : Int32} {re im : Nat → Int32} {tw tr ti pr : Int32} {isP isT told tW : Nat → Int32} (hR : RD B size log wb lim rad ord near seed re im tw tr ti pr isP isT told tW) (hp : w < 2 → pr ≤ 0) :
    ∃ size' log' wb' lim' rad' ord' near' seed', fX4_takeSetting (nI (cap v)) size log wb lim rad ord near seed (nI w) = some (size', log', wb', lim', rad', ord', near', seed') ∧ RD B size' log' wb' lim' rad' ord' near' seed' re im (tw ||| ((1 : Int32) <<< (nI w &&& 31))) tr ti pr isP (upd isT w 1) (upd told (6 + w) (nI v)) tW := by
  have ec : cap v = v := if_pos hv
  rw [ec]
  obtain ⟨M, bits, rd, od, nr, sd, np, hC, rfl, rfl, rfl, rfl, rfl, rfl, rfl, rfl, t6, t7, t8, t9, t10, t11, hT, hP, hW, hB, hZ, n1, rfl, n3, n4⟩ := hR
  obtain ⟨hM, hbits, hrd, hod, hnr, hsd⟩ := id hC
  have hT' : ∀ j, j < 6 → upd isT w 1 j = if tb (tw ||| ((1 : Int32) <<< (nI w &&& 31))) j = true then 1 else 0 := fun j hj => by
    rw [tb_or, tb_pow2 (by omega) (by omega)]
    by_cases e : j = w
    · subst e
      rw [pk_us, decide_eq_true rfl, Bool.or_true, if_pos rfl]
    · rw [pk_un e, decide_eq_false (fun q => e q.symm), Bool.or_false]
      exact hT j hj
  have zero : w < 2 → ∀ M' L, isM M' → BDz M' (re, im) L ∧ ZR M' (re, im) := fun h2 M' L hM' => by
    have hnp : np = 0 := by
      have := (nI_leI (b := 0) (by omega) (by decide)).mp (hp h2)
      omega
    obtain ⟨-, -, z⟩ := n3 hnp
    have h32 := isM_pow hM'
    refine ⟨fun p hp2 => ?_, fun p h1 h2 => z p h2⟩
    have := z p (by omega)
    dsimp only
    rw [this.1, this.2, ab_0]
    omega
  unfold fX4_takeSetting
  rcases (show w = 0 ∨ w = 1 ∨ w = 2 ∨ w = 3 ∨ w = 4 ∨ w = 5 by omega) with rfl | rfl | rfl | rfl | rfl | rfl
  · obtain ⟨M', hM', rfl⟩ := ho
    obtain ⟨z1, z2⟩ := zero (by decide) M' (lmN bits) hM'
    rw [if_pos (show nI 0 = (0 : Int32) from rfl), takeSize_eq hM', bd2_s]
    refine ⟨_, _, _, _, _, _, _, _, rfl, M', bits, rd, od, nr, sd, np, ⟨hM', hbits, hrd, hod, hnr, hsd⟩, rfl, rfl, rfl, rfl, rfl, rfl, rfl, rfl, pk_us, ?_, ?_, ?_, ?_, ?_, hT', hP, hW, z1, z2, n1, rfl, n3, n4⟩
    all_goals (rw [pk_un (by decide)]; assumption)
  · obtain ⟨z1, z2⟩ := zero (by decide) M (lmN v) hM
    rw [if_neg (show ¬ (nI 1 = (0 : Int32)) by decide), if_pos (show nI 1 = (1 : Int32) from rfl), takeBits_eq ho, bd2_s]
    refine ⟨_, _, _, _, _, _, _, _, rfl, M, v, rd, od, nr, sd, np, ⟨hM, ho, hrd, hod, hnr, hsd⟩, rfl, rfl, rfl, rfl, rfl, rfl, rfl, rfl, ?_, pk_us, ?_, ?_, ?_, ?_, hT', hP, hW, z1, z2, n1, rfl, n3, n4⟩
    all_goals (rw [pk_un (by decide)]; assumption)
  · rw [if_neg (show ¬ (nI 2 = (0 : Int32)) by decide), if_neg (show ¬ (nI 2 = (1 : Int32)) by decide), if_pos (show nI 2 = (2 : Int32) from rfl)]
    refine ⟨_, _, _, _, _, _, _, _, rfl, M, bits, v, od, nr, sd, np, ⟨hM, hbits, ho, hod, hnr, hsd⟩, rfl, rfl, rfl, rfl, rfl, rfl, rfl, rfl, ?_, ?_, pk_us, ?_, ?_, ?_, hT', hP, hW, hB, hZ, n1, rfl, n3, n4⟩
    all_goals (rw [pk_un (by decide)]; assumption)
  · rw [if_neg (show ¬ (nI 3 = (0 : Int32)) by decide), if_neg (show ¬ (nI 3 = (1 : Int32)) by decide), if_neg (show ¬ (nI 3 = (2 : Int32)) by decide), if_pos (show nI 3 = (3 : Int32) from rfl)]
    refine ⟨_, _, _, _, _, _, _, _, rfl, M, bits, rd, v, nr, sd, np, ⟨hM, hbits, hrd, ho, hnr, hsd⟩, rfl, rfl, rfl, rfl, rfl, rfl, rfl, rfl, ?_, ?_, ?_, pk_us, ?_, ?_, hT', hP, hW, hB, hZ, n1, rfl, n3, n4⟩
    all_goals (rw [pk_un (by decide)]; assumption)
  · rw [if_neg (show ¬ (nI 4 = (0 : Int32)) by decide), if_neg (show ¬ (nI 4 = (1 : Int32)) by decide), if_neg (show ¬ (nI 4 = (2 : Int32)) by decide), if_neg (show ¬ (nI 4 = (3 : Int32)) by decide), if_pos (show nI 4 = (4 : Int32) from rfl)]
    refine ⟨_, _, _, _, _, _, _, _, rfl, M, bits, rd, od, v, sd, np, ⟨hM, hbits, hrd, hod, ho, hsd⟩, rfl, rfl, rfl, rfl, rfl, rfl, rfl, rfl, ?_, ?_, ?_, ?_, pk_us, ?_, hT', hP, hW, hB, hZ, n1, rfl, n3, n4⟩
    all_goals (rw [pk_un (by decide)]; assumption)
  · rw [if_neg (show ¬ (nI 5 = (0 : Int32)) by decide), if_neg (show ¬ (nI 5 = (1 : Int32)) by decide), if_neg (show ¬ (nI 5 = (2 : Int32)) by decide), if_neg (show ¬ (nI 5 = (3 : Int32)) by decide), if_neg (show ¬ (nI 5 = (4 : Int32)) by decide)]
    refine ⟨_, _, _, _, _, _, _, _, rfl, M, bits, rd, od, nr, v, np, ⟨hM, hbits, hrd, hod, hnr, ho⟩, rfl, rfl, rfl, rfl, rfl, rfl, rfl, rfl, ?_, ?_, ?_, ?_, ?_, pk_us, hT', hP, hW, hB, hZ, n1, rfl, n3, n4⟩
    all_goals (rw [pk_un (by decide)]; assumption)
theorem setting_both {T0 : Nat → Int32} {B n a s w : Nat} (hB7 : B ≤ 700) (hn : n ≤ 700) (ha : a ≤ n) (hw : w < 6) {t t2 : Nat → Int32} (hT : ∀ j, j < n → t j = t2 j) {size log wb lim rad ord near seed : Int32} {re im : Nat → Int32} {tw tr ti pr : Int32} {isP isT told tW : Nat → Int32} (hR : RD B size log wb lim rad ord near seed re im tw tr ti pr isP isT told tW) (hp : w < 2 → pr ≤ 0) (hT0 : ∀ j, j < 6 → told j = T0 j) (fault fp k0 n0 km w0 : Int32) :
    LNR T0 B n a t2 fault fp (fX4_readLine_60 (nI n) t fault fp tw tr ti (nI a) k0 (nI s) n0 im re size log wb lim rad ord near seed (nI w))
      (bd9 (fX10_wordLine_23 (nI n) t2 mX10_52 fault fp (nI a) km w0 (nI s) isT told (nI w)) (fun r f p a b c d i o => fX10_lineRead_34 (nI n) t2 mX10_52 f p a b c d pr isP i o tW r)) := by
  have hTw : isT w = if tb tw w = true then 1 else 0 := by
    obtain ⟨M, bits, rd, od, nr, sd, np, hC, -, -, -, -, -, -, -, -, -, -, -, -, -, -, h, -⟩ := hR
    exact h w hw
  unfold fX4_readLine_60 fX4_readSetting fX10_wordLine_23
  rw [if_neg (show ¬ ((5 : Int32) < nI w) from nI_nlt (b := w) (a := 5) (by omega) (by decide)), gd_t (inb_nI hw (by decide)), nI_clamp (by omega), hTw, gd_t (inb_nI hw (by decide))]
  by_cases hb : tb tw w = true
  · rw [if_pos ((bit_t tw (by omega)).mpr hb), if_pos hb, if_neg (show ¬ ((1 : Int32) = 0) by decide)]
    exact Or.inl ⟨3, nI s, _, _, _, _, _, _, _, _, _, _, rfl, rfl, hT0⟩
  · rw [if_neg (fun q => hb ((bit_t tw (by omega)).mp q)), if_neg hb, if_pos rfl, nm, nm]
    obtain ⟨place, kind, start, number, next, mkind, which, mat, e1, e2, s', a', h1, h2, h3, rfl, rfl, rfl, rfl, hk⟩ := token_both hn ha hT k0 (nI s) n0 km w0 (nI s)
    rw [e1, e2, bd4_s, bd4_s]
    rcases hk with ⟨rfl, rfl, -⟩ | ⟨-, rfl, w9, -, hw9⟩ | ⟨h4, rfl, rfl, v, hv, rfl, rfl⟩ | ⟨-, rfl, rfl⟩ | ⟨-, rfl, rfl⟩
    · exact Or.inl ⟨1, nI s', _, _, _, _, _, _, _, _, _, _, rfl, rfl, hT0⟩
    · rcases hw9 with ⟨-, rfl⟩ | ⟨k, -, -, rfl, -⟩
      · exact Or.inl ⟨1, nI s', _, _, _, _, _, _, _, _, _, _, rfl, rfl, hT0⟩
      · exact Or.inl ⟨1, nI s', _, _, _, _, _, _, _, _, _, _, rfl, rfl, hT0⟩
    · obtain ⟨r, r1, r2, r3⟩ := isSet_both hw hv
      rw [if_pos rfl, if_pos rfl, show fX4_isSetting (nI (if v ≤ 99999 then v else 100000)) (nI w) = some r from r1, r2, bd1_s, bd1_s]
      rcases r3 with rfl | ⟨rfl, hv9, hok⟩
      · exact Or.inl ⟨2, nI s', _, _, _, _, _, _, _, _, _, _, rfl, rfl, hT0⟩
      · obtain ⟨size', log', wb', lim', rad', ord', near', seed', f1, f2⟩ := RD_set hB7 hw hv9 hok hR hp
        rw [if_neg (show ¬ ((1 : Int32) = 0) by decide), if_neg (show ¬ ((1 : Int32) = 0) by decide), show fX4_takeSetting (nI (if v ≤ 99999 then v else 100000)) size log wb lim rad ord near seed (nI w) = _ from f1, bd8_s, bd16_s, show (6 : Int32) + nI w = nI (6 + w) from nI_add 6 w, gd_t (inb_nI (show 6 + w < 12 by omega) (by decide)), nm, nI_clamp (by omega)]
        have hend := end_both (T0 := T0) hn h3 hT f2 (fun j hj => by rw [pk_un (show j ≠ 6 + w by omega)]; exact hT0 j hj) fault fp 2 (nI s') (nI (if v ≤ 99999 then v else 100000)) 2 (nI v) (nI s')
        have hlift : ∀ {C R}, LNR T0 B n a' t2 fault fp C R → LNR T0 B n a t2 fault fp C R := fun {C R} h => by
          rcases h with h | ⟨x1, x2, x3, x4, x5, x6, x7, x8, x9, x10, x11, x12, x13, x14, x15, x16, x17, x18, x19, x20, x21, x22, x23, x24, x25, y1, y2⟩
          · exact Or.inl h
          · exact Or.inr ⟨x1, x2, x3, x4, x5, x6, x7, x8, x9, x10, x11, x12, x13, x14, x15, x16, x17, x18, x19, x20, x21, x22, x23, x24, x25, by omega, y2⟩
        refine hlift ?_
        obtain ⟨place2, kind2, start2, number2, next2, mkind2, which2, mat2, -, g2, -⟩ := token_both hn h3 hT 2 (nI s') (nI (if v ≤ 99999 then v else 100000)) 2 (nI v) (nI s')
        rw [g2, bd4_s] at hend
        rw [g2, bd4_s, bd9_s]
        exact hend
    · exact Or.inl ⟨1, nI s', _, _, _, _, _, _, _, _, _, _, rfl, rfl, hT0⟩
    · exact Or.inl ⟨1, nI s', _, _, _, _, _, _, _, _, _, _, rfl, rfl, hT0⟩
