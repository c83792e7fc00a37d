/-! ===== points read by both ===== -/
theorem LNR_l {T0 : Nat → Int32} {B n a a' : Nat} (h : a ≤ a') {t2 : Nat → Int32} {fault fp : Int32} {C R} (hl : LNR T0 B n a' t2 fault fp C R) : LNR T0 B n a t2 fault fp C R := by
  rcases hl with hl | ⟨x1, x2, x3, x4, x5, x6, x7, x8, x9, x10, x11, x12, x13, x14, x15, x16, x17, x18, x19, x20, x21, x22, x23, x24, x25, y1, y2⟩
  · exact Or.inl hl
  · exact Or.inr ⟨x1, x2, x3, x4, x5, x6, x7, x8, x9, x10, x11, x12, x13, x14, x15, x16, x17, x18, x19, x20, x21, x22, x23, x24, x25, by omega, y2⟩
theorem tb_0 (i : Nat) (hi : i < 32) : tb 0 i = false := by rw [show (0 : Int32) = nI 0 from rfl, tb_nI hi, Nat.zero_testBit]
theorem RD_p0 {B M v : Nat} (hv : v < 2 ^ M) {X size log wb lim rad ord near seed : Int32} {re im : Nat → Int32} {tw tr ti pr : Int32} {isP isT told tW : Nat → Int32} (hs : size = nI (2 ^ M)) (hM : isM M) (hX : ∀ L, lim = nI L → L < 2 ^ 15 → ab X ≤ L) (hR : RD B size log wb lim rad ord near seed re im tw tr ti pr isP isT told tW) :
    RD (B + 1) size log wb lim rad ord near seed (upd re v X) im tw (tr ||| ((1 : Int32) <<< (nI v &&& 31))) ti (pr + 1) (upd isP v 1) isT told (upd tW (64 + v) X) := by
  have h32 := isM_pow hM
  obtain ⟨M', bits, rd, od, nr, sd, np, hC, e1, rfl, rfl, rfl, rfl, rfl, rfl, rfl, t6, t7, t8, t9, t10, t11, hT, hP, hW, hB, hZ, n1, rfl, n3, n4⟩ := hR
  have hm' := isM_pow hC.1
  have eM : M = M' := by
    rw [hs] at e1
    have := (nI_eq (by omega) (by omega)).mp e1
    exact Nat.le_antisymm ((Nat.pow_le_pow_iff_right (a := 2) (by decide)).mp (Nat.le_of_eq this)) ((Nat.pow_le_pow_iff_right (a := 2) (by decide)).mp (Nat.le_of_eq this.symm))
  subst eM
  have hx := hX (lmN bits) rfl (lm_x hC.2.1).2
  refine ⟨M, bits, rd, od, nr, sd, np + 1, hC, e1, rfl, rfl, rfl, rfl, rfl, rfl, rfl, t6, t7, t8, t9, t10, t11, hT, fun p hp => ?_, fun p hp => ?_, fun p hp => ?_, fun p h1 h2 => ?_, by omega, nI_1 np, fun q => by omega, fun _ q => ?_⟩
  · rw [tb_or, tb_pow2 (by omega) hp, pk_un (show 32 + p ≠ v by omega)]
    refine ⟨?_, (hP p hp).2⟩
    by_cases e : p = v
    · subst e; rw [pk_us, decide_eq_true rfl, Bool.or_true, if_pos rfl]
    · rw [pk_un e, decide_eq_false (fun q => e q.symm), Bool.or_false]; exact (hP p hp).1
  · rw [pk_un (show 96 + p ≠ 64 + v by omega)]
    refine ⟨?_, (hW p hp).2⟩
    by_cases e : p = v
    · subst e; rw [pk_us, pk_us]
    · rw [pk_un (show 64 + p ≠ 64 + v by omega), pk_un e]; exact (hW p hp).1
  · dsimp only
    refine ⟨?_, (hB p hp).2⟩
    by_cases e : p = v
    · subst e; rw [pk_us]; exact hx
    · rw [pk_un e]; exact (hB p hp).1
  · dsimp only
    rw [pk_un (by omega)]
    exact hZ p h1 h2
  · have := tb_0 v (by omega)
    rw [← q, tb_or, tb_or, tb_pow2 (by omega) (by omega), decide_eq_true rfl, Bool.or_true, Bool.true_or] at this
    exact absurd this (by decide)
theorem RD_p1 {B M v : Nat} (hv : v < 2 ^ M) {X size log wb lim rad ord near seed : Int32} {re im : Nat → Int32} {tw tr ti pr : Int32} {isP isT told tW : Nat → Int32} (hs : size = nI (2 ^ M)) (hM : isM M) (hX : ∀ L, lim = nI L → L < 2 ^ 15 → ab X ≤ L) (hR : RD B size log wb lim rad ord near seed re im tw tr ti pr isP isT told tW) :
    RD (B + 1) size log wb lim rad ord near seed re (upd im v X) tw tr (ti ||| ((1 : Int32) <<< (nI v &&& 31))) (pr + 1) (upd isP (v + 32) 1) isT told (upd tW (64 + (v + 32)) X) := by
  have h32 := isM_pow hM
  obtain ⟨M', bits, rd, od, nr, sd, np, hC, e1, rfl, rfl, rfl, rfl, rfl, rfl, rfl, t6, t7, t8, t9, t10, t11, hT, hP, hW, hB, hZ, n1, rfl, n3, n4⟩ := hR
  have hm' := isM_pow hC.1
  have eM : M = M' := by
    rw [hs] at e1
    have := (nI_eq (by omega) (by omega)).mp e1
    exact Nat.le_antisymm ((Nat.pow_le_pow_iff_right (a := 2) (by decide)).mp (Nat.le_of_eq this)) ((Nat.pow_le_pow_iff_right (a := 2) (by decide)).mp (Nat.le_of_eq this.symm))
  subst eM
  have hx := hX (lmN bits) rfl (lm_x hC.2.1).2
  refine ⟨M, bits, rd, od, nr, sd, np + 1, hC, e1, rfl, rfl, rfl, rfl, rfl, rfl, rfl, t6, t7, t8, t9, t10, t11, hT, fun p hp => ?_, fun p hp => ?_, fun p hp => ?_, fun p h1 h2 => ?_, by omega, nI_1 np, fun q => by omega, fun _ q => ?_⟩
  · rw [tb_or, tb_pow2 (by omega) hp, pk_un (show p ≠ v + 32 by omega)]
    refine ⟨(hP p hp).1, ?_⟩
    by_cases e : p = v
    · subst e; rw [Nat.add_comm 32 p, pk_us, decide_eq_true rfl, Bool.or_true, if_pos rfl]
    · rw [pk_un (show 32 + p ≠ v + 32 by omega), decide_eq_false (fun q => e q.symm), Bool.or_false]; exact (hP p hp).2
  · rw [pk_un (show 64 + p ≠ 64 + (v + 32) by omega)]
    refine ⟨(hW p hp).1, ?_⟩
    by_cases e : p = v
    · subst e; rw [show 96 + p = 64 + (p + 32) by omega, pk_us, pk_us]
    · rw [pk_un (show 96 + p ≠ 64 + (v + 32) by omega), pk_un e]; exact (hW p hp).2
  · dsimp only
    refine ⟨(hB p hp).1, ?_⟩
    by_cases e : p = v
    · subst e; rw [pk_us]; exact hx
    · rw [pk_un e]; exact (hB p hp).2
  · dsimp only
    rw [pk_un (by omega)]
    exact hZ p h1 h2
  · have := tb_0 v (by omega)
    rw [← q, tb_or, tb_or, tb_pow2 (by omega) (by omega), decide_eq_true rfl, Bool.or_true, Bool.or_true] at this
    exact absurd this (by decide)
/-- what both do once a point and its number are told -/
theorem point154 {T0 : Nat → Int32} {B n a M v i : Nat} (hn : n ≤ 700) (ha : a ≤ n) (hi : i < 2) (hv : v < 2 ^ M) (hM : isM M) {t t2 : Nat → Int32} (hT : ∀ j, j < n → t j = t2 j) {X size log wb lim rad ord near seed : Int32} {re im : Nat → Int32} {tw tr ti pr : Int32} {isP isT told tW : Nat → Int32} (hs : size = nI (2 ^ M)) (hX : ∀ L, lim = nI L → L < 2 ^ 15 → ab X ≤ L) (hR : RD B size log wb lim rad ord near seed re im tw tr ti pr isP isT told tW) (hT0 : ∀ j, j < 6 → told j = T0 j) (fault fp k0 s0 n0 km w0 at0 : Int32) :
    LNR T0 (B + 1) n a t2 fault fp (bd11 (fX4_readPoint_154 fault fp tr ti (nI a) k0 s0 n0 im re (nI v) (nI i) X) (fun r f p tr ti place kind start number im re => fX4_readLine_80 (nI n) t f p tw tr ti place kind start number im re size log wb lim rad ord near seed r))
      (bd10 (fX10_pointLine_166 (nI n) t2 mX10_52 fault fp (nI a) km w0 at0 (pr + 1) (upd isP (v + 32 * i) 1) tW ((64 : Int32) + nI (v + 32 * i)) X) (fun r f p a b c d pr isP tW => fX10_lineRead_34 (nI n) t2 mX10_52 f p a b c d pr isP isT told tW r)) := by
  have h32 := isM_pow hM
  have fin : ∀ {re' im' : Nat → Int32} {tr' ti' : Int32}, fX4_takePoint tr ti im re (nI v) (nI i) X = some (tr', ti', im', re') → RD (B + 1) size log wb lim rad ord near seed re' im' tw tr' ti' (pr + 1) (upd isP (v + 32 * i) 1) isT told (upd tW (64 + (v + 32 * i)) X) → LNR T0 (B + 1) n a t2 fault fp (bd11 (fX4_readPoint_154 fault fp tr ti (nI a) k0 s0 n0 im re (nI v) (nI i) X) (fun r f p tr ti place kind start number im re => fX4_readLine_80 (nI n) t f p tw tr ti place kind start number im re size log wb lim rad ord near seed r))
      (bd10 (fX10_pointLine_166 (nI n) t2 mX10_52 fault fp (nI a) km w0 at0 (pr + 1) (upd isP (v + 32 * i) 1) tW ((64 : Int32) + nI (v + 32 * i)) X) (fun r f p a b c d pr isP tW => fX10_lineRead_34 (nI n) t2 mX10_52 f p a b c d pr isP isT told tW r)) := fun {re' im' tr' ti'} h1 h2 => by
    have hend := end_both hn ha hT h2 hT0 fault fp k0 s0 n0 km w0 at0
    obtain ⟨place2, kind2, start2, number2, next2, mkind2, which2, mat2, -, g2, -⟩ := token_both hn ha hT k0 s0 n0 km w0 at0
    rw [g2, bd4_s] at hend
    unfold fX4_readPoint_154 fX10_pointLine_166
    rw [h1, bd4_s, bd11_s, show (64 : Int32) + nI (v + 32 * i) = nI (64 + (v + 32 * i)) from nI_add 64 _, gd_t (inb_nI (show 64 + (v + 32 * i) < 128 by omega) (by decide)), nm, nI_clamp (by omega), g2, bd4_s, bd10_s]
    exact hend
  rcases (show i = 0 ∨ i = 1 by omega) with rfl | rfl
  · refine fin ?_ (RD_p0 hv hs hM hX hR)
    unfold fX4_takePoint
    rw [if_pos (show nI 0 = 0 from rfl), gd_t (inb_nI (show v < 32 by omega) (by decide)), nm, nm, nI_clamp (by omega)]
  · refine fin ?_ (RD_p1 hv hs hM hX hR)
    unfold fX4_takePoint
    rw [if_neg (show ¬ (nI 1 = 0) by decide), gd_t (inb_nI (show v < 32 by omega) (by decide)), nm, nm, nI_clamp (by omega)]
theorem point72 {T0 : Nat → Int32} {B n a s M v i w : Nat} (hn : n ≤ 700) (ha : a ≤ n) (hi : i < 2) (hv : v < 2 ^ M) (hM : isM M) {t t2 : Nat → Int32} (hT : ∀ j, j < n → t j = t2 j) {T size log wb lim rad ord near seed : Int32} {re im : Nat → Int32} {tw tr ti pr : Int32} {isP isT told tW : Nat → Int32} (hs : size = nI (2 ^ M)) (hTT : T = if i = 0 then tr else ti) (hR : RD B size log wb lim rad ord near seed re im tw tr ti pr isP isT told tW) (hT0 : ∀ j, j < 6 → told j = T0 j) (fault fp k0 n0 km w0 : Int32) :
    LNR T0 (B + 1) n a t2 fault fp (bd11 (fX4_readPoint_72 (nI n) t lim fault fp tr ti (nI a) k0 (nI s) n0 im re (nI w) (nI i) (nI v) T) (fun r f p tr ti place kind start number im re => fX4_readLine_80 (nI n) t f p tw tr ti place kind start number im re size log wb lim rad ord near seed r))
      (bd10 (fX10_pointLine_69 (nI n) t2 told mX10_52 fault fp (nI a) km w0 (nI s) (pr + 1) isP tW (nI w) (nI v) (nI (32 * i))) (fun r f p a b c d pr isP tW => fX10_lineRead_34 (nI n) t2 mX10_52 f p a b c d pr isP isT told tW r)) := by
  have h32 := isM_pow hM
  obtain ⟨bits, hbits, hlim, t7, hisP⟩ : ∃ bits, (8 ≤ bits ∧ bits ≤ 16) ∧ lim = nI (lmN bits) ∧ told 7 = nI bits ∧ isP (v + 32 * i) = if tb T v = true then 1 else 0 := by
    obtain ⟨M', bits, rd, od, nr, sd, np, hC, -, -, -, e4, -, -, -, -, -, t7, -, -, -, -, -, hP, -⟩ := hR
    refine ⟨bits, hC.2.1, e4, t7, ?_⟩
    rw [hTT]
    rcases (show i = 0 ∨ i = 1 by omega) with rfl | rfl
    · rw [if_pos rfl]; exact (hP v (by omega)).1
    · rw [if_neg (show ¬ (1 = 0) by decide), show v + 32 * 1 = 32 + v by omega]; exact (hP v (by omega)).2
  have hlm := lm_x hbits
  unfold fX4_readPoint_72 fX10_pointLine_69
  rw [nm, nI_add, gd_t (inb_nI (show v + 32 * i < 64 by omega) (by decide)), nI_clamp (by omega), hisP, gd_t (inb_nI (show v + 32 * i < 64 by omega) (by decide))]
  by_cases hb : tb T v = true
  · rw [if_pos ((bit_t T (by omega)).mpr hb), if_pos hb, if_neg (show ¬ ((1 : Int32) = 0) by decide)]
    exact Or.inl ⟨3, nI s, _, _, _, _, _, _, _, _, _, _, rfl, rfl, hT0⟩
  · rw [if_neg (fun q => hb ((bit_t T (by omega)).mp q)), if_neg hb, if_pos rfl, nm]
    obtain ⟨place, kind, start, number, next, mkind, which, mat, e1, e2, s', a', h1, h2, h3, rfl, rfl, rfl, rfl, hk⟩ := token_both hn ha hT k0 (nI s) n0 km w0 (nI s)
    rw [e1, e2, bd4_s, bd4_s]
    rcases hk with ⟨rfl, rfl, -⟩ | ⟨-, rfl, w9, -, hw9⟩ | ⟨h4, rfl, rfl, x, hx, rfl, rfl⟩ | ⟨-, rfl, rfl⟩ | ⟨-, rfl, rfl⟩
    · exact Or.inl ⟨1, nI s', _, _, _, _, _, _, _, _, _, _, rfl, rfl, hT0⟩
    · rcases hw9 with ⟨-, rfl⟩ | ⟨k, -, -, rfl, -⟩
      · exact Or.inl ⟨1, nI s', _, _, _, _, _, _, _, _, _, _, rfl, rfl, hT0⟩
      · exact Or.inl ⟨1, nI s', _, _, _, _, _, _, _, _, _, _, rfl, rfl, hT0⟩
    · rw [if_pos rfl, if_pos rfl, gd_t (show inb (7 : Int32) 12 = true by decide), show Int32.toNatClampNeg 7 = 7 from rfl, t7, limitOf_eq hbits, bd1_s, hlim]
      by_cases hle : x ≤ lmN bits
      · have ex : (if x ≤ 99999 then x else 100000) = x := if_pos (by omega)
        have habx : ∀ L, lim = nI L → L < 2 ^ 15 → ab (nI x) ≤ L := fun L hL hL2 => by
          rw [hlim] at hL
          have := (nI_eq (by omega) (by omega)).mp hL
          unfold ab
          rw [nI_toInt (by omega)]
          omega
        have habn : ∀ L, lim = nI L → L < 2 ^ 15 → ab (-(nI x)) ≤ L := fun L hL hL2 => ab_neg (habx L hL hL2) (by omega)
        rw [ex, if_pos (nI_le hle (by omega)), if_pos (nI_le hle (by omega)), ← hlim]
        unfold fX4_readPoint_142 fX10_pointLine_154
        by_cases w7 : nI w = 7
        · rw [if_pos w7, if_pos w7]
          exact LNR_l (by omega) (point154 hn h3 hi hv hM hT hs habn hR hT0 fault fp 2 (nI s') (nI x) 2 (nI x) (nI s'))
        · rw [if_neg w7, if_neg w7]
          by_cases w9 : nI w = 9
          · rw [if_pos w9, if_pos w9]
            exact LNR_l (by omega) (point154 hn h3 hi hv hM hT hs habn hR hT0 fault fp 2 (nI s') (nI x) 2 (nI x) (nI s'))
          · rw [if_neg w9, if_neg w9]
            exact LNR_l (by omega) (point154 hn h3 hi hv hM hT hs habx hR hT0 fault fp 2 (nI s') (nI x) 2 (nI x) (nI s'))
      · rw [if_neg (nI_ge (show lmN bits < (if x ≤ 99999 then x else 100000) by split <;> omega) (by split <;> omega)), if_neg (nI_ge (by omega) (by omega))]
        exact Or.inl ⟨2, nI s', _, _, _, _, _, _, _, _, _, _, rfl, rfl, hT0⟩
    · exact Or.inl ⟨1, nI s', _, _, _, _, _, _, _, _, _, _, rfl, rfl, hT0⟩
    · exact Or.inl ⟨1, nI s', _, _, _, _, _, _, _, _, _, _, rfl, rfl, hT0⟩
theorem point_both {T0 : Nat → Int32} {B n a s w : Nat} (hn : n ≤ 700) (ha : a ≤ n) (hw : 6 ≤ w) (hw2 : w < 10) {t t2 : Nat → Int32} (hT : ∀ j, j < n → t j = t2 j) {size log wb lim rad ord near seed : Int32} {re im : Nat → Int32} {tw tr ti pr : Int32} {isP isT told tW : Nat → Int32} (hR : RD B size log wb lim rad ord near seed re im tw tr ti pr isP isT told tW) (hT0 : ∀ j, j < 6 → told j = T0 j) (fault fp k0 n0 km : Int32) :
    LNR T0 (B + 1) n a t2 fault fp (fX4_readLine_60 (nI n) t fault fp tw tr ti (nI a) k0 (nI s) n0 im re size log wb lim rad ord near seed (nI w))
      (bd10 (fX10_pointLine fault fp (nI n) (nI a) km (nI w) (nI s) pr isP t2 told tW mX10_52) (fun r f p a b c d pr isP tW => fX10_lineRead_34 (nI n) t2 mX10_52 f p a b c d pr isP isT told tW r)) := by
  obtain ⟨M, hM, hs, t6⟩ : ∃ M, isM M ∧ size = nI (2 ^ M) ∧ told 6 = nI (2 ^ M) := by
    obtain ⟨M', bits, rd, od, nr, sd, np, hC, e1, -, -, -, -, -, -, -, t6, -⟩ := hR
    exact ⟨M', hC.1, e1, t6⟩
  have h32 := isM_pow hM
  obtain ⟨place, kind, start, number, next, mkind, which, mat, e1, e2, s', a', h1, h2, h3, rfl, rfl, rfl, rfl, hk⟩ := token_both hn ha hT k0 (nI s) n0 km (nI w) (nI s)
  obtain ⟨i, hi, hc, hm⟩ : ∃ i, i < 2 ∧ (∀ {β : Type} (A C : β), (if nI w < 8 then A else C) = if i = 0 then A else C) ∧ True := by
    by_cases h8 : w < 8
    · exact ⟨0, by decide, fun A C => by rw [if_pos (show nI w < 8 from nI_lt (b := 8) h8 (by decide)), if_pos rfl], trivial⟩
    · exact ⟨1, by decide, fun A C => by rw [if_neg (show ¬ (nI w < 8) from nI_nlt (b := 8) (by omega) (by omega)), if_neg (by decide)], trivial⟩
  unfold fX4_readLine_60 fX4_readPoint fX10_pointLine
  rw [if_pos (show (5 : Int32) < nI w from nI_lt (a := 5) (by omega) (by omega)), nm, e2, bd4_s, hc]
  have e11 : (if i = 0 then fX4_readPoint_11 (nI n) t size lim fault fp tr ti (nI a) k0 (nI s) n0 im re (nI w) 0 else fX4_readPoint_11 (nI n) t size lim fault fp tr ti (nI a) k0 (nI s) n0 im re (nI w) 1) = fX4_readPoint_11 (nI n) t size lim fault fp tr ti (nI a) k0 (nI s) n0 im re (nI w) (nI i) := by
    rcases (show i = 0 ∨ i = 1 by omega) with rfl | rfl
    · rw [if_pos rfl]; rfl
    · rw [if_neg (by decide)]; rfl
  rw [e11]
  unfold fX4_readPoint_11
  rw [e1, bd4_s]
  rcases hk with ⟨rfl, rfl, -⟩ | ⟨-, rfl, w9, -, hw9⟩ | ⟨h4, rfl, rfl, v, hv, rfl, rfl⟩ | ⟨-, rfl, rfl⟩ | ⟨-, rfl, rfl⟩
  · exact Or.inl ⟨1, nI s', _, _, _, _, _, _, _, _, _, _, rfl, rfl, hT0⟩
  · rcases hw9 with ⟨-, rfl⟩ | ⟨k, -, -, rfl, -⟩
    · exact Or.inl ⟨1, nI s', _, _, _, _, _, _, _, _, _, _, rfl, rfl, hT0⟩
    · exact Or.inl ⟨1, nI s', _, _, _, _, _, _, _, _, _, _, rfl, rfl, hT0⟩
  · rw [if_pos rfl, if_pos rfl, gd_t (show inb (6 : Int32) 12 = true by decide), show Int32.toNatClampNeg 6 = 6 from rfl, t6, hs]
    by_cases hlt : v < 2 ^ M
    · have ex : (if v ≤ 99999 then v else 100000) = v := if_pos (by omega)
      rw [ex, if_pos (nI_lt hlt (by omega)), if_pos (nI_lt hlt (by omega)), hc, ← hs]
      have e69 : (if i = 0 then fX10_pointLine_69 (nI n) t2 told mX10_52 fault fp (nI a') 2 (nI v) (nI s') (pr + 1) isP tW (nI w) (nI v) 0 else fX10_pointLine_69 (nI n) t2 told mX10_52 fault fp (nI a') 2 (nI v) (nI s') (pr + 1) isP tW (nI w) (nI v) 32) = fX10_pointLine_69 (nI n) t2 told mX10_52 fault fp (nI a') 2 (nI v) (nI s') (pr + 1) isP tW (nI w) (nI v) (nI (32 * i)) := by
        rcases (show i = 0 ∨ i = 1 by omega) with rfl | rfl
        · rw [if_pos rfl]; rfl
        · rw [if_neg (by decide)]; rfl
      have e72 : (if nI i = 0 then fX4_readPoint_72 (nI n) t lim fault fp tr ti (nI a') 2 (nI s') (nI v) im re (nI w) (nI i) (nI v) tr else fX4_readPoint_72 (nI n) t lim fault fp tr ti (nI a') 2 (nI s') (nI v) im re (nI w) (nI i) (nI v) ti) = fX4_readPoint_72 (nI n) t lim fault fp tr ti (nI a') 2 (nI s') (nI v) im re (nI w) (nI i) (nI v) (if i = 0 then tr else ti) := by
        rcases (show i = 0 ∨ i = 1 by omega) with rfl | rfl
        · rw [if_pos (show nI 0 = 0 from rfl), if_pos rfl]
        · rw [if_neg (show ¬ (nI 1 = 0) by decide), if_neg (by decide)]
      rw [e69, e72]
      exact LNR_l (by omega) (point72 hn h3 hi hlt hM hT hs rfl hR hT0 fault fp 2 (nI v) 2 (nI v))
    · rw [if_neg (nI_nlt (show 2 ^ M ≤ (if v ≤ 99999 then v else 100000) by split <;> omega) (by split <;> omega)), if_neg (nI_nlt (by omega) (by omega))]
      exact Or.inl ⟨2, nI s', _, _, _, _, _, _, _, _, _, _, rfl, rfl, hT0⟩
  · exact Or.inl ⟨1, nI s', _, _, _, _, _, _, _, _, _, _, rfl, rfl, hT0⟩
  · exact Or.inl ⟨1, nI s', _, _, _, _, _, _, _, _, _, _, rfl, rfl, hT0⟩
