/-! ===== settings told ===== -/
theorem tb_pow2 {t i : Nat} (ht : t < 32) (hi : i < 32) : tb ((1 : Int32) <<< (nI t &&& 31)) i = decide (t = i) := by
  have h : 1 * 2 ^ t < 2 ^ 32 := by rw [Nat.one_mul]; exact Nat.pow_lt_pow_right (by decide) (by omega)
  rw [show (1 : Int32) = nI 1 from rfl, shl_nI (by omega) h, tb_nI hi, Nat.one_mul, Nat.testBit_two_pow]
/-- what was read so far -/
def RD (B : Nat) (size log wb lim rad ord near seed : Int32) (re im : Nat → Int32) (tw tr ti pr : Int32) (isP isT told tW : Nat → Int32) : Prop :=
  ∃ M bits rd od nr sd np, CF M bits rd od nr sd ∧ size = nI (2 ^ M) ∧ log = nI M ∧ wb = nI bits ∧ lim = nI (lmN bits) ∧ rad = nI rd ∧ ord = nI od ∧ near = nI nr ∧ seed = nI sd ∧
  told 6 = nI (2 ^ M) ∧ told 7 = nI bits ∧ told 8 = nI rd ∧ told 9 = nI od ∧ told 10 = nI nr ∧ told 11 = nI sd ∧
  (∀ j, j < 6 → isT j = if tb tw j = true then 1 else 0) ∧ (∀ p, p < 32 → isP p = (if tb tr p = true then 1 else 0) ∧ isP (32 + p) = if tb ti p = true then 1 else 0) ∧
  (∀ p, p < 32 → tW (64 + p) = re p ∧ tW (96 + p) = im p) ∧ BDz M (re, im) (lmN bits) ∧ ZR M (re, im) ∧
  np ≤ B ∧ pr = nI np ∧ (np = 0 → tr = 0 ∧ ti = 0 ∧ ∀ p, p < 32 → re p = 0 ∧ im p = 0) ∧ (0 < np → ¬ (tr ||| ti = 0))
/-- a line read by both: a fault at the same place, or a stop and what was told -/
def LNR (T0 : Nat → Int32) (B n a0 : Nat) (t2 : Nat → Int32) (fault fp : Int32) (C : Option (Int32 × Int32 × Int32 × Int32 × Int32 × Int32 × Int32 × Int32 × Int32 × Int32 × (Nat → Int32) × (Nat → Int32) × Int32 × Int32 × Int32 × Int32 × Int32 × Int32 × Int32 × Int32)) (R : Option (Int32 × Int32 × Int32 × Int32 × Int32 × Int32 × Int32 × Int32 × (Nat → Int32) × (Nat → Int32) × (Nat → Int32) × (Nat → Int32))) : Prop :=
  (∃ f fp' oc a b c d pr isP isT told tW, C = some (0, f, fp', oc) ∧ R = some (0, f, fp', a, b, c, d, pr, isP, isT, told, tW) ∧ ∀ j, j < 6 → told j = T0 j) ∨
  (∃ tw tr ti a' kind start number im re size log wb lim rad ord near seed mk which mat pr isP isT told tW, a0 < a' ∧ a' ≤ n ∧ C = some (1, fault, fp, tw, tr, ti, nI a', kind, start, number, im, re, size, log, wb, lim, rad, ord, near, seed) ∧
    R = bd4 (fX10_token (nI n) (nI a') mk which mat t2 mX10_52) (fun a b c d => some (1, fault, fp, a, b, c, d, pr, isP, isT, told, tW)) ∧ RD B size log wb lim rad ord near seed re im tw tr ti pr isP isT told tW ∧ ∀ j, j < 6 → told j = T0 j)
theorem end_both {T0 : Nat → Int32} {B n a : Nat} (hn : n ≤ 700) (ha : a ≤ n) {t t2 : Nat → Int32} (hT : ∀ j, j < n → t j = t2 j) {size log wb lim rad ord near seed : Int32} {re im : Nat → Int32} {tw tr ti pr : Int32} {isP isT told tW : Nat → Int32} (hR : RD B size log wb lim rad ord near seed re im tw tr ti pr isP isT told tW) (hT0 : ∀ j, j < 6 → told j = T0 j) (fault fp k0 s0 n0 km w0 at0 : Int32) :
    LNR T0 B n a t2 fault fp (fX4_readLine_80 (nI n) t fault fp tw tr ti (nI a) k0 s0 n0 im re size log wb lim rad ord near seed 1)
      (bd4 (fX10_token (nI n) (nI a) km w0 at0 t2 mX10_52) (fun a b c d => fX10_lineRead_34 (nI n) t2 mX10_52 fault fp a b c d pr isP isT told tW 1)) := by
  obtain ⟨place, kind, start, number, next, mkind, which, mat, e1, e2, s, a', h1, h2, h3, rfl, rfl, rfl, rfl, hk⟩ := token_both hn ha hT k0 s0 n0 km w0 at0
  rw [e2, bd4_s]
  unfold fX4_readLine_80 fX10_lineRead_34
  rw [if_neg (show ¬ ((1 : Int32) = 0) by decide), if_neg (show ¬ ((1 : Int32) = 0) by decide), e1, bd4_s]
  have bad : kind ≠ 3 → mkind ≠ 3 → LNR T0 B n a t2 fault fp (if kind = 3 then some (1, fault, fp, tw, tr, ti, nI a', kind, nI s, number, im, re, size, log, wb, lim, rad, ord, near, seed) else bd3 (fX4_failAtToken fault fp (nI s) 1) (fun r f p => if r = 0 then some (0, f, p, tw, tr, ti, nI a', kind, nI s, number, im, re, size, log, wb, lim, rad, ord, near, seed) else some (1, f, p, tw, tr, ti, nI a', kind, nI s, number, im, re, size, log, wb, lim, rad, ord, near, seed))) (if mkind = 3 then bd4 (fX10_token (nI n) (nI a') mkind which (nI s) t2 mX10_52) (fun a b c d => some (1, fault, fp, a, b, c, d, pr, isP, isT, told, tW)) else bd3 (fX10_wrong fault fp (nI s) 1) (fun r f p => gd (bl r) (some (r, f, p, nI a', mkind, which, nI s, pr, isP, isT, told, tW)))) := fun c1 c2 => by
    rw [if_neg c1, if_neg c2]
    exact Or.inl ⟨_, _, _, _, _, _, _, _, _, _, _, _, rfl, rfl, hT0⟩
  rcases hk with ⟨rfl, rfl, -⟩ | ⟨-, rfl, w, -, hw⟩ | ⟨-, rfl, rfl, -⟩ | ⟨h4, rfl, rfl⟩ | ⟨-, rfl, rfl⟩
  · exact bad (by decide) (by decide)
  · rcases hw with ⟨-, rfl⟩ | ⟨k, -, -, rfl, -⟩
    · exact bad (by decide) (by decide)
    · exact bad (by decide) (by decide)
  · exact bad (by decide) (by decide)
  · rw [if_pos rfl, if_pos rfl]
    exact Or.inr ⟨_, _, _, _, _, _, _, _, _, _, _, _, _, _, _, _, _, _, _, _, _, _, _, _, _, by omega, h3, rfl, rfl, hR, hT0⟩
  · exact bad (by decide) (by decide)
/-- what a word may be told -/
def OKS (w v : Nat) : Prop := if w = 0 then ∃ M, isM M ∧ v = 2 ^ M else if w = 1 then 8 ≤ v ∧ v ≤ 16 else if w = 2 then isRad v else if w = 5 then v ≤ 99999 else v < 2
def cap (v : Nat) : Nat := if v ≤ 99999 then v else 100000
theorem cap_lt (v : Nat) : cap v ≤ 100000 := by unfold cap; split <;> omega
theorem cap_le {v L : Nat} (hL : L ≤ 99999) : cap v ≤ L ↔ v ≤ L := by unfold cap; split <;> omega
theorem cap_eq {v L : Nat} (hL : L ≤ 99999) : cap v = L ↔ v = L := by unfold cap; split <;> omega
theorem eqI {v L : Nat} (hv : v < 2 ^ 31) (hL : L < 2 ^ 31) : (nI v = nI L) = (v = L) := propext (nI_eq hv hL)
theorem ltI {v L : Nat} (hv : v < 2 ^ 31) (hL : L < 2 ^ 31) : (nI v < nI L) = (v < L) := propext (nI_ltI hv hL)
theorem isSet_both {w v : Nat} (hw : w < 6) (hv : v < 1000000) : ∃ r, fX4_isSetting (nI (cap v)) (nI w) = some r ∧ fX10_isRight (nI w) (nI v) = some r ∧ (r = 0 ∨ (r = 1 ∧ v ≤ 99999 ∧ OKS w v)) := by
  have hc := cap_lt v
  have hpow : ∀ (L : Nat), L ≤ 99999 → ((nI (cap v) = nI L) ↔ (nI v = nI L)) := fun L hL => by
    rw [nI_eq (by omega) (by omega), nI_eq (by omega) (by omega)]
    exact cap_eq hL
  have hlt : ∀ (L : Nat), L ≤ 99999 → ((nI L < nI (cap v)) ↔ (nI L < nI v)) := fun L hL => by
    rw [nI_ltI (by omega) (by omega), nI_ltI (by omega) (by omega)]
    have := cap_le (v := v) hL
    omega
  have hlt2 : ∀ (L : Nat), L ≤ 99999 → ((nI (cap v) < nI L) ↔ (nI v < nI L)) := fun L hL => by
    rw [nI_ltI (by omega) (by omega), nI_ltI (by omega) (by omega)]
    unfold cap
    split <;> omega
  unfold fX4_isSetting fX10_isRight
  rcases (show w = 0 ∨ w = 1 ∨ w = 2 ∨ w = 3 ∨ w = 4 ∨ w = 5 by omega) with rfl | rfl | rfl | rfl | rfl | rfl
  · rw [if_pos (show nI 0 = (0 : Int32) from rfl), if_pos (show nI 0 = (0 : Int32) from rfl)]
    unfold fX10_isPower
    have one : ∀ L : Nat, L ≤ 99999 → (∃ M, isM M ∧ L = 2 ^ M) → nI v = nI L → v ≤ 99999 ∧ OKS 0 v := fun L hL hM q => by
      have := (nI_eq (by omega) (by omega)).mp q
      subst this
      exact ⟨hL, hM⟩
    by_cases h2 : nI v = nI 2
    · rw [if_pos (show nI (cap v) = (2 : Int32) from (hpow 2 (by decide)).mpr h2), if_pos (show nI v = (2 : Int32) from h2)]
      exact ⟨1, rfl, rfl, Or.inr ⟨rfl, one 2 (by decide) ⟨1, by unfold isM; omega, rfl⟩ h2⟩⟩
    · rw [if_neg (show ¬ (nI (cap v) = (2 : Int32)) from fun q => h2 ((hpow 2 (by decide)).mp q)), if_neg (show ¬ (nI v = (2 : Int32)) from h2)]
      by_cases h4 : nI v = nI 4
      · rw [if_pos (show nI (cap v) = (4 : Int32) from (hpow 4 (by decide)).mpr h4), if_pos (show nI v = (4 : Int32) from h4)]
        exact ⟨1, rfl, rfl, Or.inr ⟨rfl, one 4 (by decide) ⟨2, by unfold isM; omega, rfl⟩ h4⟩⟩
      · rw [if_neg (show ¬ (nI (cap v) = (4 : Int32)) from fun q => h4 ((hpow 4 (by decide)).mp q)), if_neg (show ¬ (nI v = (4 : Int32)) from h4)]
        by_cases h8 : nI v = nI 8
        · rw [if_pos (show nI (cap v) = (8 : Int32) from (hpow 8 (by decide)).mpr h8), if_pos (show nI v = (8 : Int32) from h8)]
          exact ⟨1, rfl, rfl, Or.inr ⟨rfl, one 8 (by decide) ⟨3, by unfold isM; omega, rfl⟩ h8⟩⟩
        · rw [if_neg (show ¬ (nI (cap v) = (8 : Int32)) from fun q => h8 ((hpow 8 (by decide)).mp q)), if_neg (show ¬ (nI v = (8 : Int32)) from h8)]
          by_cases h16 : nI v = nI 16
          · rw [if_pos (show nI (cap v) = (16 : Int32) from (hpow 16 (by decide)).mpr h16), if_pos (show nI v = (16 : Int32) from h16)]
            exact ⟨1, rfl, rfl, Or.inr ⟨rfl, one 16 (by decide) ⟨4, by unfold isM; omega, rfl⟩ h16⟩⟩
          · rw [if_neg (show ¬ (nI (cap v) = (16 : Int32)) from fun q => h16 ((hpow 16 (by decide)).mp q)), if_neg (show ¬ (nI v = (16 : Int32)) from h16)]
            by_cases h32 : nI v = nI 32
            · rw [if_pos (show nI (cap v) = (32 : Int32) from (hpow 32 (by decide)).mpr h32), if_pos (show nI v = (32 : Int32) from h32)]
              exact ⟨1, rfl, rfl, Or.inr ⟨rfl, one 32 (by decide) ⟨5, by unfold isM; omega, rfl⟩ h32⟩⟩
            · rw [if_neg (show ¬ (nI (cap v) = (32 : Int32)) from fun q => h32 ((hpow 32 (by decide)).mp q)), if_neg (show ¬ (nI v = (32 : Int32)) from h32)]
              exact ⟨0, rfl, rfl, Or.inl rfl⟩
  · rw [if_neg (show ¬ (nI 1 = (0 : Int32)) by decide), if_neg (show ¬ (nI 1 = (0 : Int32)) by decide), if_pos (show nI 1 = (1 : Int32) from rfl), if_pos (show nI 1 = (1 : Int32) from rfl)]
    unfold fX10_isIn
    by_cases h8 : nI v < nI 8
    · rw [if_pos (show nI (cap v) < (8 : Int32) from (hlt2 8 (by decide)).mpr h8), if_pos (show nI v < (8 : Int32) from h8)]
      exact ⟨0, rfl, rfl, Or.inl rfl⟩
    · rw [if_neg (show ¬ (nI (cap v) < (8 : Int32)) from fun q => h8 ((hlt2 8 (by decide)).mp q)), if_neg (show ¬ (nI v < (8 : Int32)) from h8)]
      by_cases h16 : nI 16 < nI v
      · rw [if_pos (show (16 : Int32) < nI (cap v) from (hlt 16 (by decide)).mpr h16), if_pos (show (16 : Int32) < nI v from h16)]
        exact ⟨0, rfl, rfl, Or.inl rfl⟩
      · rw [if_neg (show ¬ ((16 : Int32) < nI (cap v)) from fun q => h16 ((hlt 16 (by decide)).mp q)), if_neg (show ¬ ((16 : Int32) < nI v) from h16)]
        rw [nI_ltI (by omega) (by omega)] at h8 h16
        exact ⟨1, rfl, rfl, Or.inr ⟨rfl, by omega, show 8 ≤ v ∧ v ≤ 16 by omega⟩⟩
  · rw [if_neg (show ¬ (nI 2 = (0 : Int32)) by decide), if_neg (show ¬ (nI 2 = (0 : Int32)) by decide), if_neg (show ¬ (nI 2 = (1 : Int32)) by decide), if_neg (show ¬ (nI 2 = (1 : Int32)) by decide), if_pos (show nI 2 = (2 : Int32) from rfl), if_pos (show nI 2 = (2 : Int32) from rfl)]
    by_cases h2 : nI v = nI 2
    · rw [if_pos (show nI (cap v) = (2 : Int32) from (hpow 2 (by decide)).mpr h2), if_pos (show nI v = (2 : Int32) from h2)]
      have := (nI_eq (by omega) (by omega)).mp h2
      subst this
      exact ⟨1, rfl, rfl, Or.inr ⟨rfl, by decide, Or.inl rfl⟩⟩
    · rw [if_neg (show ¬ (nI (cap v) = (2 : Int32)) from fun q => h2 ((hpow 2 (by decide)).mp q)), if_neg (show ¬ (nI v = (2 : Int32)) from h2)]
      by_cases h4 : nI v = nI 4
      · rw [if_pos (show nI (cap v) = (4 : Int32) from (hpow 4 (by decide)).mpr h4), if_pos (show nI v = (4 : Int32) from h4)]
        have := (nI_eq (by omega) (by omega)).mp h4
        subst this
        exact ⟨1, rfl, rfl, Or.inr ⟨rfl, by decide, Or.inr rfl⟩⟩
      · rw [if_neg (show ¬ (nI (cap v) = (4 : Int32)) from fun q => h4 ((hpow 4 (by decide)).mp q)), if_neg (show ¬ (nI v = (4 : Int32)) from h4)]
        exact ⟨0, rfl, rfl, Or.inl rfl⟩
  · rw [if_neg (show ¬ (nI 3 = (0 : Int32)) by decide), if_neg (show ¬ (nI 3 = (0 : Int32)) by decide), if_neg (show ¬ (nI 3 = (1 : Int32)) by decide), if_neg (show ¬ (nI 3 = (1 : Int32)) by decide), if_neg (show ¬ (nI 3 = (2 : Int32)) by decide), if_neg (show ¬ (nI 3 = (2 : Int32)) by decide), if_pos (show nI 3 = (3 : Int32) from rfl), if_pos (show nI 3 = (3 : Int32) from rfl)]
    by_cases h1 : nI 1 < nI v
    · rw [if_pos (show (1 : Int32) < nI (cap v) from (hlt 1 (by decide)).mpr h1), if_pos (show (1 : Int32) < nI v from h1)]
      exact ⟨0, rfl, rfl, Or.inl rfl⟩
    · rw [if_neg (show ¬ ((1 : Int32) < nI (cap v)) from fun q => h1 ((hlt 1 (by decide)).mp q)), if_neg (show ¬ ((1 : Int32) < nI v) from h1)]
      rw [nI_ltI (by omega) (by omega)] at h1
      exact ⟨1, rfl, rfl, Or.inr ⟨rfl, by omega, show v < 2 by omega⟩⟩
  · rw [if_neg (show ¬ (nI 4 = (0 : Int32)) by decide), if_neg (show ¬ (nI 4 = (0 : Int32)) by decide), if_neg (show ¬ (nI 4 = (1 : Int32)) by decide), if_neg (show ¬ (nI 4 = (1 : Int32)) by decide), if_neg (show ¬ (nI 4 = (2 : Int32)) by decide), if_neg (show ¬ (nI 4 = (2 : Int32)) by decide), if_neg (show ¬ (nI 4 = (3 : Int32)) by decide), if_neg (show ¬ (nI 4 = (3 : Int32)) by decide), if_pos (show nI 4 = (4 : Int32) from rfl), if_pos (show nI 4 = (4 : Int32) from rfl)]
    by_cases h1 : nI 1 < nI v
    · rw [if_pos (show (1 : Int32) < nI (cap v) from (hlt 1 (by decide)).mpr h1), if_pos (show (1 : Int32) < nI v from h1)]
      exact ⟨0, rfl, rfl, Or.inl rfl⟩
    · rw [if_neg (show ¬ ((1 : Int32) < nI (cap v)) from fun q => h1 ((hlt 1 (by decide)).mp q)), if_neg (show ¬ ((1 : Int32) < nI v) from h1)]
      rw [nI_ltI (by omega) (by omega)] at h1
      exact ⟨1, rfl, rfl, Or.inr ⟨rfl, by omega, show v < 2 by omega⟩⟩
  · rw [if_neg (show ¬ (nI 5 = (0 : Int32)) by decide), if_neg (show ¬ (nI 5 = (0 : Int32)) by decide), if_neg (show ¬ (nI 5 = (1 : Int32)) by decide), if_neg (show ¬ (nI 5 = (1 : Int32)) by decide), if_neg (show ¬ (nI 5 = (2 : Int32)) by decide), if_neg (show ¬ (nI 5 = (2 : Int32)) by decide), if_neg (show ¬ (nI 5 = (3 : Int32)) by decide), if_neg (show ¬ (nI 5 = (3 : Int32)) by decide), if_neg (show ¬ (nI 5 = (4 : Int32)) by decide), if_neg (show ¬ (nI 5 = (4 : Int32)) by decide), if_pos (show nI 5 = (5 : Int32) from rfl)]
    by_cases h1 : nI 99999 < nI v
    · rw [if_pos (show (99999 : Int32) < nI (cap v) from (hlt 99999 (by decide)).mpr h1), if_pos (show (99999 : Int32) < nI v from h1)]
      exact ⟨0, rfl, rfl, Or.inl rfl⟩
    · rw [if_neg (show ¬ ((99999 : Int32) < nI (cap v)) from fun q => h1 ((hlt 99999 (by decide)).mp q)), if_neg (show ¬ ((99999 : Int32) < nI v) from h1)]
      rw [nI_ltI (by omega) (by omega)] at h1
      exact ⟨1, rfl, rfl, Or.inr ⟨rfl, by omega, show v ≤ 99999 by omega⟩⟩
