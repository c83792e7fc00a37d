/-! ===== shifts of small numbers ===== -/
theorem cA2 {α β γ : Type} (f : α → β → γ) {a a' : α} {b b' : β} (h1 : a = a') (h2 : b = b') : f a b = f a' b' := by subst h1; subst h2; rfl
theorem s_l32 : (List.range 32).all (fun n => decide (((nI n &&& 31).toBitVec.smod 32).toNat = n)) = true := by decide +kernel
theorem shl_nI {a s : Nat} (hs : s < 32) (h : a * 2 ^ s < 2 ^ 32) : nI a <<< (nI s &&& 31) = nI (a * 2 ^ s) := pk_shlN _ s (of_decide_eq_true (all_x s_l32 hs)) h
theorem shr_nI {a s : Nat} (hs : s < 32) (h : a < 2 ^ 31) : nI a >>> (nI s &&& 31) = nI (a / 2 ^ s) := pk_shrN h _ s (of_decide_eq_true (all_x s_l32 hs))
/-! ===== turned by a table, rounded ===== -/
def rnd (nr : Nat) (z : Int64) : Int64 := (z + (if nr = 1 then 8192 else 0)) >>> (Int32.toInt64 14 &&& 63)
def twRe (nr : Nat) (c s x y : Int32) : Int32 := Int64.toInt32 (rnd nr (Int32.toInt64 x * Int32.toInt64 c + Int32.toInt64 y * Int32.toInt64 s))
def twIm (nr : Nat) (c s x y : Int32) : Int32 := Int64.toInt32 (rnd nr (Int32.toInt64 y * Int32.toInt64 c - Int32.toInt64 x * Int32.toInt64 s))
theorem added_eq {nr : Nat} (h : nr < 2) : ∃ r, fX8_addedBeforeCut (nI nr) = some r ∧ Int32.toInt64 r = if nr = 1 then 8192 else 0 := by
  rcases (show nr = 0 ∨ nr = 1 by omega) with rfl | rfl
  · exact ⟨0, rfl, rfl⟩
  · exact ⟨8192, rfl, rfl⟩
theorem turnWing_eq {nr r u : Nat} (hn : nr < 2) (hr : 1 ≤ r) (hr4 : r ≤ 4) (hu : (r - 1) * u < 32) (wi wr c s : Nat → Int32) :
    fX0_turnWing (nI nr) wi wr c s (nI r) (nI u) = some (blk wi 1 (fun k => twIm nr (c ((1 + k) * u)) (s ((1 + k) * u)) (wr (1 + k)) (wi (1 + k))) (r - 1), blk wr 1 (fun k => twRe nr (c ((1 + k) * u)) (s ((1 + k) * u)) (wr (1 + k)) (wi (1 + k))) (r - 1)) := by
  unfold fX0_turnWing
  obtain ⟨a, e1, e2⟩ := added_eq hn
  rw [e1, bd1_s]
  simp only [nm]
  rw [e2]
  have h := loopF (fun n i (z : (Nat → Int32) × (Nat → Int32)) => fX0_turnWing_10 c s n z.1 z.2 (nI r) (nI u) (if nr = 1 then 8192 else 0) (nI (1 + i)))
    (fun i => (blk wi 1 (fun k => twIm nr (c ((1 + k) * u)) (s ((1 + k) * u)) (wr (1 + k)) (wi (1 + k))) i, blk wr 1 (fun k => twRe nr (c ((1 + k) * u)) (s ((1 + k) * u)) (wr (1 + k)) (wi (1 + k))) i)) (r - 1)
    (some (blk wi 1 (fun k => twIm nr (c ((1 + k) * u)) (s ((1 + k) * u)) (wr (1 + k)) (wi (1 + k))) (r - 1), blk wr 1 (fun k => twRe nr (c ((1 + k) * u)) (s ((1 + k) * u)) (wr (1 + k)) (wi (1 + k))) (r - 1))) ?_ ?_ (r - 1) FU 0 (by omega) (FU_pos (by omega))
  · simp only [blk_0] at h
    exact h
  · intro n i hi
    dsimp only
    have hx : (1 + i) * u < 32 := Nat.lt_of_le_of_lt (Nat.mul_le_mul_right u (by omega)) hu
    rw [fX0_turnWing_10.eq_2, if_neg (nI_ge (show 1 + i < r by omega) (by omega))]
    simp only [nm, pk_mul, gd_t (inb_nI hx (by decide)), gd_t (inb_nI (show 1 + i < 4 by omega) (by decide)), nI_clamp (show (1 + i) * u < 2 ^ 31 by omega), nI_clamp (show 1 + i < 2 ^ 31 by omega), nI_1]
    rw [blk_out (show 1 + i < 1 ∨ 1 + i ≤ 1 + i by omega), blk_out (show 1 + i < 1 ∨ 1 + i ≤ 1 + i by omega)]
    exact cA2 (fun z1 z2 => fX0_turnWing_10 c s n z1 z2 (nI r) (nI u) (if nr = 1 then 8192 else 0) (nI (1 + i + 1))) (blk_s (a := wi) (b := 1) (i := i) (v := fun k => twIm nr (c ((1 + k) * u)) (s ((1 + k) * u)) (wr (1 + k)) (wi (1 + k)))) (blk_s (a := wr) (b := 1) (i := i) (v := fun k => twRe nr (c ((1 + k) * u)) (s ((1 + k) * u)) (wr (1 + k)) (wi (1 + k))))
  · intro n
    show fX0_turnWing_10 c s (n + 1) _ _ (nI r) (nI u) _ (nI (1 + (r - 1))) = _
    rw [fX0_turnWing_10.eq_2, if_pos (nI_le (show r ≤ 1 + (r - 1) by omega) (by omega))]
/-! ===== two and four added ===== -/
def adRe (sh q : Nat) (x y : Nat → Int32) : Int32 :=
  if sh = 1 then (if q = 0 then x 0 + x 1 else x 0 - x 1)
  else if q = 0 then (x 0 + x 2) + (x 1 + x 3) else if q = 1 then (x 0 - x 2) - (y 3 - y 1) else if q = 2 then (x 0 + x 2) - (x 1 + x 3) else (x 0 - x 2) + (y 3 - y 1)
def adIm (sh q : Nat) (x y : Nat → Int32) : Int32 :=
  if sh = 1 then (if q = 0 then y 0 + y 1 else y 0 - y 1)
  else if q = 0 then (y 0 + y 2) + (y 1 + y 3) else if q = 1 then (y 0 - y 2) - (x 1 - x 3) else if q = 2 then (y 0 + y 2) - (y 1 + y 3) else (y 0 - y 2) + (x 1 - x 3)
theorem addTwo_eq (wi wr : Nat → Int32) : ∃ wi' wr', fX0_addTwo wi wr = some (wi', wr') ∧ ∀ q, q < 2 → wr' q = adRe 1 q wr wi ∧ wi' q = adIm 1 q wr wi := by
  refine ⟨_, _, rfl, fun q hq => ?_⟩
  rcases (show q = 0 ∨ q = 1 by omega) with rfl | rfl <;> exact ⟨rfl, rfl⟩
theorem addFour_eq (wi wr : Nat → Int32) : ∃ wi' wr', fX0_addFour wi wr = some (wi', wr') ∧ ∀ q, q < 4 → wr' q = adRe 2 q wr wi ∧ wi' q = adIm 2 q wr wi := by
  refine ⟨_, _, rfl, fun q hq => ?_⟩
  rcases (show q = 0 ∨ q = 1 ∨ q = 2 ∨ q = 3 by omega) with rfl | rfl | rfl | rfl <;> exact ⟨rfl, rfl⟩
theorem ad_congr {sh : Nat} (hs : sh = 1 ∨ sh = 2) {x y x' y' : Nat → Int32} (h : ∀ q, q < 2 ^ sh → x q = x' q ∧ y q = y' q) (q : Nat) : adRe sh q x y = adRe sh q x' y' ∧ adIm sh q x y = adIm sh q x' y' := by
  rcases hs with rfl | rfl
  · obtain ⟨a0, b0⟩ := h 0 (by decide)
    obtain ⟨a1, b1⟩ := h 1 (by decide)
    simp [adRe, adIm, a0, b0, a1, b1]
  · obtain ⟨a0, b0⟩ := h 0 (by decide)
    obtain ⟨a1, b1⟩ := h 1 (by decide)
    obtain ⟨a2, b2⟩ := h 2 (by decide)
    obtain ⟨a3, b3⟩ := h 3 (by decide)
    simp [adRe, adIm, a0, b0, a1, b1, a2, b2, a3, b3]
/-! ===== a wing ===== -/
def inRe (ord nr u : Nat) (c s x y : Nat → Int32) (t : Nat) : Int32 := if ord = 0 ∧ t ≠ 0 then twRe nr (c (t * u)) (s (t * u)) (x t) (y t) else x t
def inIm (ord nr u : Nat) (c s x y : Nat → Int32) (t : Nat) : Int32 := if ord = 0 ∧ t ≠ 0 then twIm nr (c (t * u)) (s (t * u)) (x t) (y t) else y t
def wgRe (ord nr sh u : Nat) (c s x y : Nat → Int32) (q : Nat) : Int32 :=
  if ord ≠ 0 ∧ q ≠ 0 then twRe nr (c (q * u)) (s (q * u)) (adRe sh q (inRe ord nr u c s x y) (inIm ord nr u c s x y)) (adIm sh q (inRe ord nr u c s x y) (inIm ord nr u c s x y)) else adRe sh q (inRe ord nr u c s x y) (inIm ord nr u c s x y)
def wgIm (ord nr sh u : Nat) (c s x y : Nat → Int32) (q : Nat) : Int32 :=
  if ord ≠ 0 ∧ q ≠ 0 then twIm nr (c (q * u)) (s (q * u)) (adRe sh q (inRe ord nr u c s x y) (inIm ord nr u c s x y)) (adIm sh q (inRe ord nr u c s x y) (inIm ord nr u c s x y)) else adIm sh q (inRe ord nr u c s x y) (inIm ord nr u c s x y)
/-- n places from st on, len apart, taken from v -/
def stq (a : Nat → Int32) (st len : Nat) (v : Nat → Int32) (n : Nat) : Nat → Int32 := fun j => if st ≤ j ∧ (j - st) % len = 0 ∧ (j - st) / len < n then v ((j - st) / len) else a j
theorem stq_0 {a : Nat → Int32} {st len : Nat} {v : Nat → Int32} : stq a st len v 0 = a := by
  funext j
  exact if_neg (fun h => absurd h.2.2 (Nat.not_lt_zero _))
theorem stq_s {a : Nat → Int32} {st len i : Nat} {v : Nat → Int32} (hl : 0 < len) : upd (stq a st len v i) (st + i * len) (v i) = stq a st len v (i + 1) := by
  funext j
  show (if j = st + i * len then v i else if st ≤ j ∧ (j - st) % len = 0 ∧ (j - st) / len < i then v ((j - st) / len) else a j) = if st ≤ j ∧ (j - st) % len = 0 ∧ (j - st) / len < i + 1 then v ((j - st) / len) else a j
  by_cases h : j = st + i * len
  · have e1 : j - st = i * len := by omega
    have e2 : i * len % len = 0 := Nat.mul_mod_left i len
    have e3 : i * len / len = i := Nat.mul_div_cancel i hl
    rw [if_pos h, e1, e2, e3, if_pos ⟨by omega, rfl, Nat.lt_succ_self i⟩]
  · rw [if_neg h]
    have key : st ≤ j ∧ (j - st) % len = 0 ∧ (j - st) / len < i + 1 ↔ st ≤ j ∧ (j - st) % len = 0 ∧ (j - st) / len < i := by
      refine ⟨fun ⟨h1, h2, h3⟩ => ⟨h1, h2, ?_⟩, fun ⟨h1, h2, h3⟩ => ⟨h1, h2, by omega⟩⟩
      have h4 : (j - st) / len ≠ i := fun q => by
        have h5 := Nat.div_add_mod (j - st) len
        rw [h2, q, Nat.mul_comm] at h5
        omega
      omega
    by_cases h2 : st ≤ j ∧ (j - st) % len = 0 ∧ (j - st) / len < i
    · rw [if_pos h2, if_pos (key.mpr h2)]
    · rw [if_neg h2, if_neg (fun q => h2 (key.mp q))]
theorem beatWing_eq {ord nr sh lsp st u : Nat} (ho : ord < 2) (hn : nr < 2) (hs : sh = 1 ∨ sh = 2) (hl : lsp < 5) (hst : st + (2 ^ sh - 1) * 2 ^ lsp < 32) (hu : (2 ^ sh - 1) * u < 32) (re im wi wr c s : Nat → Int32) :
    ∃ wi' wr', fX0_beatWing (nI ord) (nI nr) im re wi wr c s (nI st) (nI lsp) (nI sh) (nI u) = some (stq im st (2 ^ lsp) (wgIm ord nr sh u c s (fun t => re (st + t * 2 ^ lsp)) (fun t => im (st + t * 2 ^ lsp))) (2 ^ sh), stq re st (2 ^ lsp) (wgRe ord nr sh u c s (fun t => re (st + t * 2 ^ lsp)) (fun t => im (st + t * 2 ^ lsp))) (2 ^ sh), wi', wr') := by
  obtain ⟨X, eX⟩ : ∃ X : Nat → Int32, X = fun t => re (st + t * 2 ^ lsp) := ⟨_, rfl⟩
  obtain ⟨Y, eY⟩ : ∃ Y : Nat → Int32, Y = fun t => im (st + t * 2 ^ lsp) := ⟨_, rfl⟩
  rw [← eX, ← eY]
  have hr : 1 ≤ 2 ^ sh ∧ 2 ^ sh ≤ 4 := by rcases hs with rfl | rfl <;> decide
  have hlen : 0 < 2 ^ lsp := Nat.two_pow_pos lsp
  have hlen16 : 2 ^ lsp ≤ 16 := by
    rcases (show lsp = 0 ∨ lsp = 1 ∨ lsp = 2 ∨ lsp = 3 ∨ lsp = 4 by omega) with rfl | rfl | rfl | rfl | rfl <;> decide
  have hpl : ∀ q, q < 2 ^ sh → st + q * 2 ^ lsp < 32 := fun q hq => Nat.lt_of_le_of_lt (Nat.add_le_add_left (Nat.mul_le_mul_right _ (by omega)) st) hst
  -- the end: what is in the wing goes back
  have fin : ∀ (wi wr : Nat → Int32), fX0_beatWing_109 im re wi wr (nI st) (nI lsp) (nI (2 ^ sh)) = some (stq im st (2 ^ lsp) wi (2 ^ sh), stq re st (2 ^ lsp) wr (2 ^ sh), wi, wr) := by
    intro wi wr
    unfold fX0_beatWing_109
    have h := loopF (fun n i (z : (Nat → Int32) × (Nat → Int32)) => fX0_beatWing_112 n z.1 z.2 wi wr (nI st) (nI lsp) (nI (2 ^ sh)) (nI i)) (fun i => (stq im st (2 ^ lsp) wi i, stq re st (2 ^ lsp) wr i)) (2 ^ sh) (some (stq im st (2 ^ lsp) wi (2 ^ sh), stq re st (2 ^ lsp) wr (2 ^ sh), wi, wr)) ?_ ?_ (2 ^ sh) FU 0 (by omega) (FU_pos (by omega))
    · simp only [stq_0] at h
      exact h
    · intro n i hi
      have hp := hpl i hi
      show fX0_beatWing_112 (n + 1) _ _ wi wr (nI st) (nI lsp) (nI (2 ^ sh)) (nI i) = _
      rw [fX0_beatWing_112.eq_2, if_neg (nI_ge hi (by omega))]
      simp only [nm, shl_nI (show lsp < 32 by omega) (show i * 2 ^ lsp < 2 ^ 32 by omega), nI_add, gd_t (inb_nI (show i < 4 by omega) (by decide)), gd_t (inb_nI hp (by decide)), nI_clamp (show st + i * 2 ^ lsp < 2 ^ 31 by omega), nI_clamp (show i < 2 ^ 31 by omega), nI_1]
      rw [stq_s hlen, stq_s hlen]
    · intro n
      show fX0_beatWing_112 (n + 1) _ _ wi wr (nI st) (nI lsp) (nI (2 ^ sh)) (nI (2 ^ sh)) = _
      rw [fX0_beatWing_112.eq_2, if_pos (nI_le (Nat.le_refl _) (by omega))]
  -- added, and turned behind it by order 1
  have mid : ∀ (wi wr : Nat → Int32), (∀ t, t < 2 ^ sh → wr t = inRe ord nr u c s X Y t ∧ wi t = inIm ord nr u c s X Y t) →
      ∃ wi' wr', fX0_beatWing_76 (nI ord) (nI nr) c s im re wi wr (nI st) (nI lsp) (nI sh) (nI u) (nI (2 ^ sh)) = some (stq im st (2 ^ lsp) (wgIm ord nr sh u c s X Y) (2 ^ sh), stq re st (2 ^ lsp) (wgRe ord nr sh u c s X Y) (2 ^ sh), wi', wr') := by
    intro wi wr hw
    have hq : ∀ (a : Nat → Int32) (v w : Nat → Int32), (∀ q, q < 2 ^ sh → v q = w q) → stq a st (2 ^ lsp) v (2 ^ sh) = stq a st (2 ^ lsp) w (2 ^ sh) := by
      intro a v w h
      funext j
      unfold stq
      by_cases hj : st ≤ j ∧ (j - st) % 2 ^ lsp = 0 ∧ (j - st) / 2 ^ lsp < 2 ^ sh
      · rw [if_pos hj, if_pos hj, h _ hj.2.2]
      · rw [if_neg hj, if_neg hj]
    have after : ∀ (wi wr : Nat → Int32), (∀ q, q < 2 ^ sh → wr q = adRe sh q (inRe ord nr u c s X Y) (inIm ord nr u c s X Y) ∧ wi q = adIm sh q (inRe ord nr u c s X Y) (inIm ord nr u c s X Y)) →
        ∃ wi' wr', fX0_beatWing_93 (nI ord) (nI nr) c s im re wi wr (nI st) (nI lsp) (nI u) (nI (2 ^ sh)) = some (stq im st (2 ^ lsp) (wgIm ord nr sh u c s X Y) (2 ^ sh), stq re st (2 ^ lsp) (wgRe ord nr sh u c s X Y) (2 ^ sh), wi', wr') := by
      intro wi wr hw
      unfold fX0_beatWing_93
      rcases (show ord = 0 ∨ ord = 1 by omega) with rfl | rfl
      · rw [if_pos (show nI 0 = 0 from rfl), fin]
        refine ⟨wi, wr, ?_⟩
        rw [hq im wi (wgIm 0 nr sh u c s X Y) (fun q h => by rw [(hw q h).2]; simp [wgIm]), hq re wr (wgRe 0 nr sh u c s X Y) (fun q h => by rw [(hw q h).1]; simp [wgRe])]
      · rw [if_neg (show ¬ nI 1 = 0 by decide), turnWing_eq hn hr.1 hr.2 hu, bd2_s, fin]
        have h1 := hq im (blk wi 1 (fun k => twIm nr (c ((1 + k) * u)) (s ((1 + k) * u)) (wr (1 + k)) (wi (1 + k))) (2 ^ sh - 1)) (wgIm 1 nr sh u c s X Y) (fun q h => by
          by_cases h0 : q = 0
          · subst h0
            rw [blk_out (by omega), (hw 0 h).2]; simp [wgIm]
          · rw [blk_in (by omega) (by omega), show 1 + (q - 1) = q by omega, (hw q h).1, (hw q h).2]; simp [wgIm, h0])
        have h2 := hq re (blk wr 1 (fun k => twRe nr (c ((1 + k) * u)) (s ((1 + k) * u)) (wr (1 + k)) (wi (1 + k))) (2 ^ sh - 1)) (wgRe 1 nr sh u c s X Y) (fun q h => by
          by_cases h0 : q = 0
          · subst h0
            rw [blk_out (by omega), (hw 0 h).1]; simp [wgRe]
          · rw [blk_in (by omega) (by omega), show 1 + (q - 1) = q by omega, (hw q h).1, (hw q h).2]; simp [wgRe, h0])
        rw [h1, h2]
        exact ⟨_, _, rfl⟩
    unfold fX0_beatWing_76
    rcases hs with rfl | rfl
    · obtain ⟨wi', wr', e, h⟩ := addTwo_eq wi wr
      rw [if_pos (show nI 1 = (1 : Int32) from rfl), e, bd2_s]
      refine after wi' wr' (fun q hq => ?_)
      have h1 := h q hq
      have h2 := ad_congr (sh := 1) (Or.inl rfl) hw q
      exact ⟨h1.1.trans h2.1, h1.2.trans h2.2⟩
    · obtain ⟨wi', wr', e, h⟩ := addFour_eq wi wr
      rw [if_neg (show ¬ nI 2 = (1 : Int32) by decide), e, bd2_s]
      refine after wi' wr' (fun q hq => ?_)
      have h1 := h q hq
      have h2 := ad_congr (sh := 2) (Or.inr rfl) hw q
      exact ⟨h1.1.trans h2.1, h1.2.trans h2.2⟩
  -- the beginning: places go into the wing
  unfold fX0_beatWing
  simp only [nm]
  rw [show (1 : Int32) = nI 1 from rfl, shl_nI (show sh < 32 by omega) (by rw [Nat.one_mul]; omega), Nat.one_mul]
  have h := loopF (fun n i (z : (Nat → Int32) × (Nat → Int32)) => fX0_beatWing_9 (nI ord) (nI nr) c s n im re z.1 z.2 (nI st) (nI lsp) (nI sh) (nI u) (nI (2 ^ sh)) (nI i)) (fun i => (blk wi 0 Y i, blk wr 0 X i)) (2 ^ sh)
    (fX0_beatWing_60 (nI ord) (nI nr) c s im re (blk wi 0 Y (2 ^ sh)) (blk wr 0 X (2 ^ sh)) (nI st) (nI lsp) (nI sh) (nI u) (nI (2 ^ sh))) ?_ ?_ (2 ^ sh) FU 0 (by omega) (FU_pos (by omega))
  · simp only [blk_0] at h
    rw [show (0 : Int32) = nI 0 from rfl]
    rw [h]
    have b0 : ∀ (a v : Nat → Int32) (t : Nat), t < 2 ^ sh → blk a 0 v (2 ^ sh) t = v t := fun a v t ht => by rw [blk_in (Nat.zero_le t) (by omega), Nat.sub_zero]
    unfold fX0_beatWing_60
    rcases (show ord = 0 ∨ ord = 1 by omega) with rfl | rfl
    · rw [if_pos (show nI 0 = 0 from rfl), turnWing_eq hn hr.1 hr.2 hu, bd2_s]
      refine mid _ _ (fun t ht => ?_)
      by_cases h0 : t = 0
      · subst h0
        refine ⟨?_, ?_⟩
        · rw [blk_out (b := 1) (Or.inl (by decide)), b0 _ _ 0 ht]; simp [inRe]
        · rw [blk_out (b := 1) (Or.inl (by decide)), b0 _ _ 0 ht]; simp [inIm]
      · refine ⟨?_, ?_⟩
        · rw [blk_in (b := 1) (by omega) (by omega), show 1 + (t - 1) = t by omega, b0 _ _ t ht, b0 _ _ t ht]; simp [inRe, h0]
        · rw [blk_in (b := 1) (by omega) (by omega), show 1 + (t - 1) = t by omega, b0 _ _ t ht, b0 _ _ t ht]; simp [inIm, h0]
    · rw [if_neg (show ¬ nI 1 = 0 by decide)]
      refine mid _ _ (fun t ht => ?_)
      rw [b0 _ _ t ht, b0 _ _ t ht]; simp [inRe, inIm]
  · intro n i hi
    have hp := hpl i hi
    show fX0_beatWing_9 (nI ord) (nI nr) c s (n + 1) im re _ _ (nI st) (nI lsp) (nI sh) (nI u) (nI (2 ^ sh)) (nI i) = _
    rw [fX0_beatWing_9.eq_2, if_neg (nI_ge hi (by omega))]
    simp only [nm, shl_nI (show lsp < 32 by omega) (show i * 2 ^ lsp < 2 ^ 32 by omega), nI_add, gd_t (inb_nI (show i < 4 by omega) (by decide)), gd_t (inb_nI hp (by decide)), nI_clamp (show st + i * 2 ^ lsp < 2 ^ 31 by omega), nI_clamp (show i < 2 ^ 31 by omega), nI_1]
    have b1 : ∀ (a v : Nat → Int32), upd (blk a 0 v i) i (v i) = blk a 0 v (i + 1) := fun a v => by
      have := blk_s (a := a) (b := 0) (i := i) (v := v)
      rw [Nat.zero_add] at this
      exact this
    rw [← b1 wr X, ← b1 wi Y, eX, eY]
  · intro n
    show fX0_beatWing_9 (nI ord) (nI nr) c s (n + 1) im re _ _ (nI st) (nI lsp) (nI sh) (nI u) (nI (2 ^ sh)) (nI (2 ^ sh)) = _
    rw [fX0_beatWing_9.eq_2, if_pos (nI_le (Nat.le_refl _) (by omega))]
