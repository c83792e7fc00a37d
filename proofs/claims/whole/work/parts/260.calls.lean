/-! ===== a line, all lines ===== -/
theorem RD_B {B B' : Nat} (h : B ≤ B') {size log wb lim rad ord near seed : Int32} {re im : Nat → Int32} {tw tr ti pr : Int32} {isP isT told tW : Nat → Int32} (hR : RD B size log wb lim rad ord near seed re im tw tr ti pr isP isT told tW) : RD B' size log wb lim rad ord near seed re im tw tr ti pr isP isT told tW := by
  obtain ⟨M, bits, rd, od, nr, sd, np, a1, a2, a3, a4, a5, a6, a7, a8, a9, b1, b2, b3, b4, b5, b6, c1, c2, c3, c4, c5, n1, n2, n3, n4⟩ := hR
  exact ⟨M, bits, rd, od, nr, sd, np, a1, a2, a3, a4, a5, a6, a7, a8, a9, b1, b2, b3, b4, b5, b6, c1, c2, c3, c4, c5, by omega, n2, n3, n4⟩
theorem LNR_B {T0 : Nat → Int32} {B n a : Nat} {t2 : Nat → Int32} {fault fp : Int32} {C R} (hl : LNR T0 B n a t2 fault fp C R) : LNR T0 (B + 1) n a t2 fault fp C R := by
  rcases hl with hl | ⟨x1, x2, x3, x4, x5, x6, x7, x8, x9, x10, x11, x12, x13, x14, x15, x16, x17, x18, x19, x20, x21, x22, x23, x24, x25, y1, y2, y3, y4, y5, y6⟩
  · exact Or.inl hl
  · exact Or.inr ⟨x1, x2, x3, x4, x5, x6, x7, x8, x9, x10, x11, x12, x13, x14, x15, x16, x17, x18, x19, x20, x21, x22, x23, x24, x25, y1, y2, y3, y4, RD_B (by omega) y5, y6⟩
theorem line_both {T0 : Nat → Int32} {B n a0 : Nat} (hB7 : B ≤ 700) (hn : n ≤ 700) {t t2 : Nat → Int32} (hT : ∀ j, j < n → t j = t2 j) {size log wb lim rad ord near seed : Int32} {re im : Nat → Int32} {tw tr ti pr : Int32} {isP isT told tW : Nat → Int32} (hR : RD B size log wb lim rad ord near seed re im tw tr ti pr isP isT told tW) (hT0 : ∀ j, j < 6 → told j = T0 j) {place kind start number next mkind which mat : Int32} (hK : TK n a0 t place kind start number next mkind which mat) (hk : kind ≠ 0) (fault fp : Int32) :
    LNR T0 (B + 1) n a0 t2 fault fp (fX4_readLine fault fp tw tr ti (nI n) place kind start number t im re size log wb lim rad ord near seed) (fX10_lineRead fault fp (nI n) next mkind which mat pr isP isT t2 told tW mX10_52) := by
  obtain ⟨s, a, h1, h2, h3, rfl, rfl, rfl, rfl, hkk⟩ := hK
  have bad : ∀ x : Int32, mkind ≠ 1 → LNR T0 (B + 1) n a0 t2 fault fp (fX4_readLine_17 (nI n) t fault fp tw tr ti (nI a) x (nI s) number im re size log wb lim rad ord near seed (-1)) (fX10_lineRead fault fp (nI n) (nI a) mkind which (nI s) pr isP isT t2 told tW mX10_52) := fun x hm => by
    have e : ∀ s0 : Int32, fX4_readLine_35 (nI n) t fault fp tw tr ti (nI a) x (nI s) number im re size log wb lim rad ord near seed (-1) s0 = fX4_readLine_54 fault fp tw tr ti (nI a) x (nI s) number im re size log wb lim rad ord near seed := fun s0 => by
      unfold fX4_readLine_35
      rw [if_pos rfl]
    have e2 : fX4_readLine_17 (nI n) t fault fp tw tr ti (nI a) x (nI s) number im re size log wb lim rad ord near seed (-1) = fX4_readLine_54 fault fp tw tr ti (nI a) x (nI s) number im re size log wb lim rad ord near seed := by
      unfold fX4_readLine_17
      rw [e, e]
      split <;> rfl
    unfold fX10_lineRead
    rw [e2, if_neg hm]
    exact Or.inl ⟨1, nI s, _, _, _, _, _, _, _, _, _, _, rfl, rfl, hT0⟩
  rcases hkk with ⟨rfl, -, -⟩ | ⟨h4, rfl, w, hw, hw9⟩ | ⟨-, rfl, rfl, -⟩ | ⟨-, rfl, rfl⟩ | ⟨-, rfl, rfl⟩
  · exact absurd rfl hk
  · rcases hw9 with ⟨rfl, rfl⟩ | ⟨k, hk10, rfl, rfl, rfl⟩
    · unfold fX4_readLine
      rw [if_pos rfl, hw, bd1_s]
      exact bad 1 (by decide)
    · unfold fX4_readLine fX10_lineRead
      rw [if_pos rfl, hw, bd1_s, if_pos rfl]
      have hm1 : ¬ (nI k = (-1 : Int32)) := ne_m1 (by omega)
      obtain ⟨np, n1, n2, n3, n4⟩ : ∃ np, np ≤ B ∧ pr = nI np ∧ (np = 0 → tr = 0 ∧ ti = 0) ∧ (0 < np → ¬ (tr ||| ti = 0)) := by
        obtain ⟨M, bits, rd, od, nr, sd, np, -, -, -, -, -, -, -, -, -, -, -, -, -, -, -, -, -, -, -, -, n1, n2, n3, n4⟩ := hR
        exact ⟨np, n1, n2, fun q => ⟨(n3 q).1, (n3 q).2.1⟩, n4⟩
      unfold fX4_readLine_17 fX4_readLine_35
      rw [if_neg hm1, if_neg hm1, if_pos rfl, if_neg (show ¬ ((1 : Int32) = 0) by decide)]
      by_cases h6 : k < 6
      · rw [if_pos (show nI k < 6 from nI_lt (b := 6) h6 (by decide))]
        unfold fX10_wordLine
        by_cases h2k : 2 ≤ k
        · have hs := LNR_B (LNR_l h1 (LNR_l h2 (setting_both (s := s) hB7 hn h3 h6 hT hR (fun q => by omega) hT0 fault fp 1 number 1 (nI k))))
          rw [if_pos (show (1 : Int32) < nI k from nI_lt (a := 1) (by omega) (by omega)), if_neg (show ¬ (nI k = 0) from nI_ne0 (by omega) (by omega)), if_neg (show ¬ (nI k = 1) from fun q => by have := (nI_eq (b := 1) (by omega) (by decide)).mp q; omega)]
          have e : ∀ {α : Type} (X : α), (if tr ||| ti = 0 then X else X) = X := fun X => by split <;> rfl
          rw [e]
          exact hs
        · rw [if_neg (show ¬ ((1 : Int32) < nI k) from nI_nlt (b := k) (a := 1) (by omega) (by decide)), n2]
          by_cases hnp : np = 0
          · have hs := LNR_B (LNR_l h1 (LNR_l h2 (setting_both (s := s) hB7 hn h3 h6 hT hR (fun q => by rw [n2, hnp]; decide) hT0 fault fp 1 number 1 (nI k))))
            rw [if_pos (show tr ||| ti = 0 by rw [(n3 hnp).1, (n3 hnp).2]; decide), if_pos (show nI np ≤ 0 by rw [hnp]; decide)]
            rw [n2] at hs
            exact hs
          · rw [if_neg (n4 (by omega)), if_neg (nI_nle (by omega) (by omega))]
            rcases (show k = 0 ∨ k = 1 by omega) with rfl | rfl
            · rw [if_pos (show nI 0 = 0 from rfl)]
              exact Or.inl ⟨1, nI s, _, _, _, _, _, _, _, _, _, _, rfl, rfl, hT0⟩
            · rw [if_neg (show ¬ (nI 1 = 0) by decide), if_pos (show nI 1 = 1 from rfl)]
              exact Or.inl ⟨1, nI s, _, _, _, _, _, _, _, _, _, _, rfl, rfl, hT0⟩
      · have hs := LNR_l h1 (LNR_l h2 (point_both (s := s) hn h3 (show 6 ≤ k by omega) hk10 hT hR hT0 fault fp 1 number 1))
        rw [if_neg (show ¬ (nI k < 6) from nI_nlt (b := 6) (by omega) (by omega)), if_neg (show ¬ (nI k = 0) from nI_ne0 (by omega) (by omega)), if_neg (show ¬ (nI k = 1) from fun q => by have := (nI_eq (b := 1) (by omega) (by decide)).mp q; omega)]
        have e : ∀ {α : Type} (X : α), (if tr ||| ti = 0 then X else X) = X := fun X => by split <;> rfl
        rw [e]
        exact hs
  · unfold fX4_readLine
    rw [if_neg (show ¬ ((2 : Int32) = 1) by decide)]
    exact bad 2 (by decide)
  · unfold fX4_readLine
    rw [if_neg (show ¬ ((3 : Int32) = 1) by decide)]
    exact bad 3 (by decide)
  · unfold fX4_readLine
    rw [if_neg (show ¬ ((4 : Int32) = 1) by decide)]
    exact bad 4 (by decide)
theorem lines_both {T0 : Nat → Int32} {n : Nat} (hn : n ≤ 700) {t t2 : Nat → Int32} (hT : ∀ j, j < n → t j = t2 j) (stages : Int32) (shifts : Nat → Int32) (ts th fault fp b0 ii un rr ro rn rl rh pw nm0 kt : Int32) (all roots : Nat → Int32) :
    ∀ d f g l a0 (size log wb lim rad ord near seed : Int32) (re im : Nat → Int32) (tw tr ti pr : Int32) (isP isT told tW : Nat → Int32) (place kind start number next mkind which mat : Int32), d = n - a0 → a0 ≤ n → d < f → d < g → l ≤ a0 → RD l size log wb lim rad ord near seed re im tw tr ti pr isP isT told tW → (∀ j, j < 6 → told j = T0 j) → TK n a0 t place kind start number next mkind which mat →
    (∃ fl fpl oc y1 y2 y3 y4 y5 y6 y7 told' y9, fX4_readAll_12 t f fault fp tw tr ti (nI n) place kind start number im re size log wb lim rad ord near seed stages shifts (nI l) = some (-1, fl, fpl, oc) ∧
      fX10_text_55 t2 mX10_52 g ts th fault fp (nI n) next mkind which mat pr b0 ii un rr ro rn rl rh pw nm0 kt all isP isT roots told tW (nI l) = some (-1, ts, th, fl, fpl, nI n, y1, y2, y3, y4, y5, b0, ii, un, rr, ro, rn, rl, rh, pw, nm0, kt, all, y6, y7, roots, told', y9) ∧ ∀ j, j < 6 → told' j = T0 j) ∨
    (∃ l' tw' tr' ti' place' kind' start' number' im' re' size' log' wb' lim' rad' ord' near' seed' pr' isP' isT' told' tW' next' mkind' which' mat', l' ≤ 700 ∧
      fX4_readAll_12 t f fault fp tw tr ti (nI n) place kind start number im re size log wb lim rad ord near seed stages shifts (nI l) = some (nI l', fault, fp, tw', tr', ti', nI n, place', kind', start', number', im', re', size', log', wb', lim', rad', ord', near', seed', stages, shifts) ∧
      fX10_text_55 t2 mX10_52 g ts th fault fp (nI n) next mkind which mat pr b0 ii un rr ro rn rl rh pw nm0 kt all isP isT roots told tW (nI l) = fX10_text_77 ts th fault fp (nI n) next' mkind' which' mat' pr' b0 ii un rr ro rn rl rh pw nm0 kt all isP' isT' roots told' tW' (nI l') ∧
      RD l' size' log' wb' lim' rad' ord' near' seed' re' im' tw' tr' ti' pr' isP' isT' told' tW' ∧ ∀ j, j < 6 → told' j = T0 j) := by
  intro d
  induction d using Nat.strongRecOn with
  | _ d ih =>
    intro f g l a0 size log wb lim rad ord near seed re im tw tr ti pr isP isT told tW place kind start number next mkind which mat hd ha hf hg hl hR hT0 hK
    obtain ⟨f, rfl⟩ : ∃ m, f = m + 1 := ⟨f - 1, by omega⟩
    obtain ⟨g, rfl⟩ : ∃ m, g = m + 1 := ⟨g - 1, by omega⟩
    by_cases hk : kind = 0
    · have hmk : mkind = 0 := by
        obtain ⟨s, a, -, -, -, -, -, -, -, hkk⟩ := hK
        rcases hkk with ⟨-, q, -⟩ | ⟨-, q, -⟩ | ⟨-, q, -⟩ | ⟨-, q, -⟩ | ⟨-, q, -⟩
        · exact q
        all_goals (rw [hk] at q; exact absurd q (by decide))
      right
      have e1 : fX4_readAll_12 t (f + 1) fault fp tw tr ti (nI n) place kind start number im re size log wb lim rad ord near seed stages shifts (nI l) = some (nI l, fault, fp, tw, tr, ti, nI n, place, kind, start, number, im, re, size, log, wb, lim, rad, ord, near, seed, stages, shifts) := by
        rw [fX4_readAll_12.eq_2, if_pos hk]
        split <;> rfl
      refine ⟨l, tw, tr, ti, place, kind, start, number, im, re, size, log, wb, lim, rad, ord, near, seed, pr, isP, isT, told, tW, next, mkind, which, mat, by omega, e1, ?_, hR, hT0⟩
      rw [fX10_text_55.eq_2, if_pos hmk]
    · have hmk : mkind ≠ 0 := by
        obtain ⟨s, a, -, -, -, -, -, -, -, hkk⟩ := hK
        rcases hkk with ⟨q, -, -⟩ | ⟨-, -, w, -, q⟩ | ⟨-, -, q, -⟩ | ⟨-, -, q⟩ | ⟨-, -, q⟩
        · exact absurd q hk
        · rcases q with ⟨-, q⟩ | ⟨k, -, -, q, -⟩
          · rw [q]; decide
          · rw [q]; decide
        all_goals (rw [q]; decide)
      have hsn : a0 < n := by
        obtain ⟨s, a, u1, u2, u3, -, -, -, -, hkk⟩ := hK
        rcases hkk with ⟨q, -, -⟩ | ⟨q, -⟩ | ⟨q, -⟩ | ⟨q, -⟩ | ⟨q, -⟩
        · exact absurd q hk
        all_goals omega
      rw [fX4_readAll_12.eq_2, fX10_text_55.eq_2, if_neg (show ¬ ((700 : Int32) ≤ nI l) from nI_ge (b := 700) (by omega) (by decide)), if_neg hk, if_neg hmk]
      rcases line_both (by omega) hn hT hR hT0 hK hk fault fp with ⟨fl, fpl, ⟨c1, c2, c3, c4, c5, c6, c7, c8, c9, c10, c11, c12, c13, c14, c15, c16, c17⟩, y1, y2, y3, y4, y5, y6, y7, told', y9, p1, p2, p3⟩ | ⟨tw', tr', ti', a', kind', start', number', im', re', size', log', wb', lim', rad', ord', near', seed', mk', which', mat', pr', isP', isT', told', tW', q1, q2, q3, q4, q5, q6⟩
      · rw [p1, p2, bd20_s, bd12_s, if_pos rfl, if_pos rfl]
        exact Or.inl ⟨fl, fpl, _, _, _, _, _, _, _, _, _, _, rfl, rfl, p3⟩
      · obtain ⟨place2, kind2, start2, number2, next2, mkind2, which2, mat2, g1, g2, g3⟩ := token_both hn q2 hT kind' start' number' mk' which' mat'
        rw [q3, q4, bd20_s, g2, bd4_s, bd12_s, if_neg (show ¬ ((1 : Int32) = 0) by decide), if_neg (show ¬ ((1 : Int32) = 0) by decide), nm, nm, g1, bd4_s, nI_1]
        exact ih (n - a') (by omega) f g (l + 1) a' _ _ _ _ _ _ _ _ _ _ _ _ _ _ _ _ _ _ _ _ _ _ _ _ _ _ rfl q2 (by omega) (by omega) (by omega) q5 q6 g3
