/-! ===== the reference's wings ===== -/
theorem rounded_14 {nr : Nat} (hn : nr < 2) (z : Int64) : fX10_rounded (nI nr) z 14 = some (rnd nr z) := by
  unfold fX10_rounded rnd
  rcases (show nr = 0 ∨ nr = 1 by omega) with rfl | rfl
  · rw [if_neg (show ¬ (nI 0 = (1 : Int32)) by decide), if_neg (by decide), Int64.add_zero]
  · rw [if_pos (show nI 1 = (1 : Int32) from rfl), if_pos rfl, show ((1 : Int64) <<< (Int32.toInt64 (14 - 1) &&& 63)) = 8192 by decide]
/-- the tables of turns, as the reference has them -/
def TBL (N : Nat) (qua told c s : Nat → Int32) : Prop := ∀ j, j < N → fX10_cosOf qua told (nI j) = some (c j) ∧ fX10_sinOf qua told (nI j) = some (s j)
theorem turnedRe_eq {nr N j : Nat} {qua told c s : Nat → Int32} (hn : nr < 2) (hT : TBL N qua told c s) (hj : j < N) (x y : Int32) : fX10_turnedRe (nI nr) qua told x y (nI j) = some (rnd nr (Int32.toInt64 x * Int32.toInt64 (c j) + Int32.toInt64 y * Int32.toInt64 (s j))) := by
  unfold fX10_turnedRe
  rw [(hT j hj).1, bd1_s, (hT j hj).2, bd1_s, rounded_14 hn, bd1_s]
theorem turnedIm_eq {nr N j : Nat} {qua told c s : Nat → Int32} (hn : nr < 2) (hT : TBL N qua told c s) (hj : j < N) (x y : Int32) : fX10_turnedIm (nI nr) qua told x y (nI j) = some (rnd nr (Int32.toInt64 y * Int32.toInt64 (c j) - Int32.toInt64 x * Int32.toInt64 (s j))) := by
  unfold fX10_turnedIm
  rw [(hT j hj).1, bd1_s, (hT j hj).2, bd1_s, rounded_14 hn, bd1_s]
def rotZ (m : Nat) (z : Int32 × Int32) : Int32 × Int32 := itr (fun _ z => (z.2, -z.1)) 0 m z
def gaS (r q : Nat) (x y : Nat → Int32) (t : Nat) (z : Int32 × Int32) : Int32 × Int32 := (z.1 + (rotZ (q * t * (4 / r) % 4) (x t, y t)).1, z.2 + (rotZ (q * t * (4 / r) % 4) (x t, y t)).2)
theorem rotZ_0 (x y : Int32) : rotZ 0 (x, y) = (x, y) := rfl
theorem rotZ_1 (x y : Int32) : rotZ 1 (x, y) = (y, -x) := rfl
theorem rotZ_2 (x y : Int32) : rotZ 2 (x, y) = (-x, -y) := rfl
theorem rotZ_3 (x y : Int32) : rotZ 3 (x, y) = (-y, - -x) := rfl
theorem ga_ad {sh q : Nat} (hs : sh = 1 ∨ sh = 2) (hq : q < 2 ^ sh) (x y : Nat → Int32) : itr (gaS (2 ^ sh) q x y) 0 (2 ^ sh) (0, 0) = (adRe sh q x y, adIm sh q x y) := by
  rcases hs with rfl | rfl
  · show gaS 2 q x y 1 (gaS 2 q x y 0 (0, 0)) = _
    have h : q = 0 ∨ q = 1 := by omega
    rcases h with rfl | rfl
    · simp [gaS, rotZ_0, adRe, adIm]
    · simp [gaS, rotZ_0, rotZ_2, adRe, adIm]
      grind
  · show gaS 4 q x y 3 (gaS 4 q x y 2 (gaS 4 q x y 1 (gaS 4 q x y 0 (0, 0)))) = _
    have h : q = 0 ∨ q = 1 ∨ q = 2 ∨ q = 3 := by omega
    rcases h with rfl | rfl | rfl | rfl
    · simp [gaS, rotZ_0, adRe, adIm]
      grind
    · simp [gaS, rotZ_0, rotZ_1, rotZ_2, rotZ_3, adRe, adIm]
      grind
    · simp [gaS, rotZ_0, rotZ_1, rotZ_2, rotZ_3, adRe, adIm]
      grind
    · simp [gaS, rotZ_0, rotZ_1, rotZ_2, rotZ_3, adRe, adIm]
      grind
def gaD (M sh lsp : Nat) : Bool := (List.range (2 ^ M)).all fun p =>
  decide (p - p % (2 ^ sh * 2 ^ lsp) + p % 2 ^ lsp = bsP lsp sh p) && (decide (p % (2 ^ sh * 2 ^ lsp) / 2 ^ lsp = qP lsp sh p) && (decide (qP lsp sh p < 2 ^ sh) && (List.range (2 ^ sh)).all fun t => decide (bsP lsp sh p + t * 2 ^ lsp < 2 ^ M) && decide (t * (p % 2 ^ lsp) * 2 ^ (M - lsp - sh) < 2 ^ M)))
def gaOK : Bool := (List.range 5).all fun m => (List.range 2).all fun h => (List.range 5).all fun lsp => !decide (lsp + (h + 1) ≤ m + 1) || gaD (m + 1) (h + 1) lsp
theorem gaOK_t : gaOK = true := by decide +kernel
theorem ga_x {M sh lsp p : Nat} (hM : isM M) (hs : sh = 1 ∨ sh = 2) (hl : lsp + sh ≤ M) (hp : p < 2 ^ M) : p - p % (2 ^ sh * 2 ^ lsp) + p % 2 ^ lsp = bsP lsp sh p ∧ p % (2 ^ sh * 2 ^ lsp) / 2 ^ lsp = qP lsp sh p ∧ qP lsp sh p < 2 ^ sh ∧ ∀ t, t < 2 ^ sh → bsP lsp sh p + t * 2 ^ lsp < 2 ^ M ∧ t * (p % 2 ^ lsp) * 2 ^ (M - lsp - sh) < 2 ^ M := by
  obtain ⟨m1, m5⟩ := hM
  have h1 := all_x (all_x (all_x gaOK_t (show M - 1 < 5 by omega)) (show sh - 1 < 2 by omega)) (show lsp < 5 by omega)
  rw [show M - 1 + 1 = M by omega, show sh - 1 + 1 = sh by omega] at h1
  simp only [decide_eq_true hl, Bool.not_true, Bool.false_or] at h1
  have h2 := all_x h1 hp
  simp only [Bool.and_eq_true, decide_eq_true_eq] at h2
  refine ⟨h2.1, h2.2.1, h2.2.2.1, fun t ht => ?_⟩
  have h3 := all_x h2.2.2.2 ht
  simp only [Bool.and_eq_true, decide_eq_true_eq] at h3
  exact h3
theorem p2_le {n : Nat} (h : n ≤ 5) : 1 ≤ 2 ^ n ∧ 2 ^ n ≤ 32 := by
  rcases (show n = 0 ∨ n = 1 ∨ n = 2 ∨ n = 3 ∨ n = 4 ∨ n = 5 by omega) with rfl | rfl | rfl | rfl | rfl | rfl <;> decide
theorem nz_nI {n : Nat} (h0 : 0 < n) (h : n < 2 ^ 31) : nz (nI n) = true := by
  have := nI_ne0 h0 h
  simp [nz, this]
theorem gathers_eq {b M ord nr sh lsp p : Nat} {all qua told c s : Nat → Int32} (hb : b ≤ 22) (hM : isM M) (ho : ord < 2) (hn : nr < 2) (hs : sh = 1 ∨ sh = 2) (hl : lsp + sh ≤ M) (hp : p < 2 ^ M) (hT : TBL (2 ^ M) qua told c s) (li lr : Nat → Int32) :
    fX10_gathers (nI b) (nI ord) (nI nr) all li lr qua told (nI p) (nI (2 ^ sh)) (nI (2 ^ lsp)) (nI (2 ^ (M - lsp - sh))) =
      some (upd li p (wvIm ord nr sh lsp M c s (fun i => all (136 * b + i)) (fun i => all (136 * b + 32 + i)) p), upd lr p (wvRe ord nr sh lsp M c s (fun i => all (136 * b + i)) (fun i => all (136 * b + 32 + i)) p)) := by
  obtain ⟨m1, m5⟩ := id hM
  obtain ⟨g1, g2, g3, g4⟩ := ga_x hM hs hl hp
  have hN := p2_le m5
  have hL := p2_le (show lsp ≤ 5 by omega)
  have hS := p2_le (show M - lsp - sh ≤ 5 by omega)
  have hR : 2 ^ sh = 2 ∨ 2 ^ sh = 4 := by rcases hs with rfl | rfl <;> decide
  have hRL : 2 ^ sh * 2 ^ lsp ≤ 4 * 32 := Nat.mul_le_mul (by omega) hL.2
  have hRL0 : 0 < 2 ^ sh * 2 ^ lsp := Nat.mul_pos (by omega) (by omega)
  obtain ⟨q, eq⟩ : ∃ q, q = qP lsp sh p := ⟨_, rfl⟩
  obtain ⟨k, ek⟩ : ∃ k, k = p % 2 ^ lsp := ⟨_, rfl⟩
  obtain ⟨st, est⟩ : ∃ st, st = 2 ^ (M - lsp - sh) := ⟨_, rfl⟩
  have hk : k < 2 ^ lsp := by rw [ek]; exact Nat.mod_lt _ (by omega)
  obtain ⟨X, eX⟩ : ∃ X : Nat → Int32, X = fun t => all (136 * b + (bsP lsp sh p + t * 2 ^ lsp)) := ⟨_, rfl⟩
  obtain ⟨Y, eY⟩ : ∃ Y : Nat → Int32, Y = fun t => all (136 * b + 32 + (bsP lsp sh p + t * 2 ^ lsp)) := ⟨_, rfl⟩
  have eu : uP M lsp sh p = k * st := by rw [ek, est]; rfl
  have ewr : wvRe ord nr sh lsp M c s (fun i => all (136 * b + i)) (fun i => all (136 * b + 32 + i)) p = wgRe ord nr sh (k * st) c s X Y q := by
    unfold wvRe; rw [eu, eX, eY, eq]
  have ewi : wvIm ord nr sh lsp M c s (fun i => all (136 * b + i)) (fun i => all (136 * b + 32 + i)) p = wgIm ord nr sh (k * st) c s X Y q := by
    unfold wvIm; rw [eu, eX, eY, eq]
  rw [ewr, ewi]
  unfold fX10_gathers
  simp only [nm]
  rw [pk_mul, gd_t (nz_nI hRL0 (by omega)), gd_t (nz_nI hRL0 (by omega)), gd_t (nz_nI (show 0 < 2 ^ lsp by omega) (by omega)), gd_t (nz_nI (show 0 < 2 ^ lsp by omega) (by omega)), pk_rem (by omega) hRL0 (by omega), pk_rem (by omega) (by omega) (by omega), pk_sub (Nat.mod_le _ _), pk_div (by have := Nat.mod_le p (2 ^ sh * 2 ^ lsp); omega) (by omega) (by omega), g2, ← ek, ← eq, ← est]
  obtain ⟨v5, e5⟩ : ∃ v5, v5 = p - p % (2 ^ sh * 2 ^ lsp) := ⟨_, rfl⟩
  rw [← e5]
  have hv5 : v5 + k = bsP lsp sh p := by rw [e5, ek]; exact g1
  have hq4 : q < 2 ^ sh := by rw [eq]; exact g3
  have htu : ∀ t, t < 2 ^ sh → t * k * st < 2 ^ M := fun t ht => by rw [ek, est]; exact (g4 t ht).2
  -- rotated
  have rot : ∀ (K : (Nat → Int32) → (Nat → Int32) → Int32 → Int32 → Int32 → Int32 → Int32 → Int32 → Int32 → Int32 → Int32 → Int32 → Option ((Nat → Int32) × (Nat → Int32))) (t : Nat), t < 2 ^ sh → ∀ (v8 v9 x y : Int32),
      fX10_gathers_125 (nI b) (nI ord) (nI nr) all qua told K li lr (nI p) (nI (2 ^ sh)) (nI (2 ^ lsp)) (nI st) (nI v5) (nI q) (nI k) v8 v9 (nI t) x y =
      K li lr (nI p) (nI (2 ^ sh)) (nI (2 ^ lsp)) (nI st) (nI v5) (nI q) (nI k) (v8 + (rotZ (q * t * (4 / 2 ^ sh) % 4) (x, y)).1) (v9 + (rotZ (q * t * (4 / 2 ^ sh) % 4) (x, y)).2) (nI (t + 1)) := by
    intro K t ht v8 v9 x y
    unfold fX10_gathers_125
    have hqt : q * t ≤ 4 * 4 := Nat.mul_le_mul (by omega) (by omega)
    have h4r : 4 / 2 ^ sh ≤ 2 := by rcases hR with h | h <;> rw [h] <;> decide
    have hqt4 : q * t * (4 / 2 ^ sh) ≤ 16 * 2 := Nat.mul_le_mul hqt h4r
    have em : ((nI q * nI t) * ((4 : Int32) / nI (2 ^ sh))) - ((nI q * nI t) * ((4 : Int32) / nI (2 ^ sh))) / (4 : Int32) * (4 : Int32) = nI (q * t * (4 / 2 ^ sh) % 4) := by
      rw [show (4 : Int32) = nI 4 from rfl, pk_div (by decide) (by omega) (by omega), pk_mul, pk_mul, pk_rem (by omega) (by decide) (by decide)]
    have hm := Nat.mod_lt (q * t * (4 / 2 ^ sh)) (show 0 < 4 by decide)
    obtain ⟨m, e_m⟩ : ∃ m, m = q * t * (4 / 2 ^ sh) % 4 := ⟨_, rfl⟩
    rw [← e_m] at em hm ⊢
    have hh := loopN (fun n i (z : Int32 × Int32) => fX10_gathers_128 (nI b) (nI ord) (nI nr) all qua told K n li lr (nI p) (nI (2 ^ sh)) (nI (2 ^ lsp)) (nI st) (nI v5) (nI q) (nI k) v8 v9 (nI t) z.1 z.2 (nI i)) (fun _ z => (z.2, -z.1)) m
      (fun z => K li lr (nI p) (nI (2 ^ sh)) (nI (2 ^ lsp)) (nI st) (nI v5) (nI q) (nI k) (v8 + z.1) (v9 + z.2) (nI (t + 1))) ?_ ?_ m FU 0 (x, y) (by omega) (FU_pos (by omega))
    · exact hh
    · intro n i z hi
      rw [fX10_gathers_128.eq_2, gd_t (nz_nI (by omega) (by omega)), em, if_neg (nI_ge hi (by omega))]
      simp only [nm, nI_1]
    · intro n z
      rw [fX10_gathers_128.eq_2, gd_t (nz_nI (by omega) (by omega)), em, if_pos (nI_le (Nat.le_refl _) (by omega)), fX10_gathers_163]
      simp only [nm, nI_1]
  have hh := loopN (fun n t (z : Int32 × Int32) => fX10_gathers_32 (nI b) (nI ord) (nI nr) all qua told n li lr (nI p) (nI (2 ^ sh)) (nI (2 ^ lsp)) (nI st) (nI v5) (nI q) (nI k) z.1 z.2 (nI t)) (gaS (2 ^ sh) q (inRe ord nr (k * st) c s X Y) (inIm ord nr (k * st) c s X Y)) (2 ^ sh)
      (fun z => fX10_gathers_183 (nI ord) (nI nr) qua told li lr (nI p) (nI st) (nI q) (nI k) z.1 z.2) ?_ ?_ (2 ^ sh) FU 0 (0, 0) (by omega) (FU_pos (by omega))
  · rw [ga_ad hs hq4] at hh
    refine Eq.trans hh ?_
    show fX10_gathers_183 (nI ord) (nI nr) qua told li lr (nI p) (nI st) (nI q) (nI k) (adRe sh q (inRe ord nr (k * st) c s X Y) (inIm ord nr (k * st) c s X Y)) (adIm sh q (inRe ord nr (k * st) c s X Y) (inIm ord nr (k * st) c s X Y)) = _
    obtain ⟨A, eA⟩ : ∃ A, A = adRe sh q (inRe ord nr (k * st) c s X Y) (inIm ord nr (k * st) c s X Y) := ⟨_, rfl⟩
    obtain ⟨B, eB⟩ : ∃ B, B = adIm sh q (inRe ord nr (k * st) c s X Y) (inIm ord nr (k * st) c s X Y) := ⟨_, rfl⟩
    unfold wgRe wgIm
    rw [← eA, ← eB]
    unfold fX10_gathers_183 fX10_gathers_200 fX10_gathers_201 fX10_gathers_235 fX10_gathers_268
    simp only [nm, gd_t (inb_nI (show p < 32 by omega) (by decide)), nI_clamp (show p < 2 ^ 31 by omega)]
    rcases (show ord = 0 ∨ ord = 1 by omega) with rfl | rfl
    · rw [if_neg (show ¬ (nI 0 = (1 : Int32)) by decide), if_pos trivial, if_pos trivial, if_neg (by omega), if_neg (by omega)]
    · rw [if_pos (show nI 1 = (1 : Int32) from rfl)]
      by_cases h0 : q = 0
      · rw [if_pos (show nI q ≤ 0 from by rw [h0]; decide), if_pos trivial, if_pos trivial, if_neg (by omega), if_neg (by omega)]
      · rw [if_neg (show ¬ (nI q ≤ 0) from nI_nle (by omega) (by omega)), if_neg (show ¬ ((1 : Int32) = 0) by decide), pk_mul, pk_mul, turnedRe_eq hn hT (htu q hq4), bd1_s, if_neg (show ¬ ((1 : Int32) = 0) by decide), turnedIm_eq hn hT (htu q hq4), bd1_s, if_pos (by omega), if_pos (by omega), Nat.mul_assoc q k st]
        rfl
  · intro n t z ht
    have hlt := (g4 t ht).1
    have e1 : fX10_of (nI b) all ((nI v5 + nI k) + (nI t * nI (2 ^ lsp))) = some (X t) := by
      rw [pk_mul, nI_add, nI_add, hv5, of_eq hb (by omega), eX]
    have e2 : fX10_of (nI b) all ((((32 : Int32) + nI v5) + nI k) + (nI t * nI (2 ^ lsp))) = some (Y t) := by
      rw [pk_mul, show (32 : Int32) = nI 32 from rfl, nI_add, nI_add, nI_add, show 32 + v5 + k + t * 2 ^ lsp = 32 + (bsP lsp sh p + t * 2 ^ lsp) by omega, of_eq hb (by omega), eY, ← Nat.add_assoc]
    rw [fX10_gathers_32.eq_2, if_neg (nI_ge ht (by omega)), e1, bd1_s, e2, bd1_s]
    unfold gaS inRe inIm
    rcases (show ord = 0 ∨ ord = 1 by omega) with rfl | rfl
    · rw [if_pos (show nI 0 = 0 from rfl)]
      by_cases h0 : t = 0
      · rw [if_pos (show nI t ≤ 0 from by rw [h0]; decide), rot _ t ht, if_neg (by omega), if_neg (by omega)]
      · rw [if_neg (show ¬ (nI t ≤ 0) from nI_nle (by omega) (by omega))]
        simp only [nm]
        rw [pk_mul, pk_mul, turnedRe_eq hn hT (htu t ht), bd1_s, turnedIm_eq hn hT (htu t ht), bd1_s, rot _ t ht, if_pos ⟨trivial, h0⟩, if_pos ⟨trivial, h0⟩, Nat.mul_assoc t k st]
        rfl
    · rw [if_neg (show ¬ (nI 1 = 0) by decide), rot _ t ht, if_neg (by omega), if_neg (by omega)]
  · intro n z
    rw [fX10_gathers_32.eq_2, if_pos (nI_le (Nat.le_refl _) (by omega))]
