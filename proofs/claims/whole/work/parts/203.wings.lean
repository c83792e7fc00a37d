/-! ===== all wings of a stage ===== -/
theorem loopX {σ β : Type} (f : Nat → Nat → σ → Option β) (J : Nat → σ → Prop) (N : Nat) (K : σ → Option β)
    (hs : ∀ n i s, i < N → J i s → ∃ s', J (i + 1) s' ∧ f (n + 1) i s = f n (i + 1) s') (he : ∀ n s, J N s → f (n + 1) N s = K s) :
    ∀ d n i s, i + d = N → d < n → J i s → ∃ s', J N s' ∧ f n i s = K s' := by
  intro d
  induction d with
  | zero =>
    intro n i s h1 h2 hj
    obtain ⟨n, rfl⟩ : ∃ m, n = m + 1 := ⟨n - 1, by omega⟩
    have h3 : i = N := by omega
    subst h3
    exact ⟨s, hj, he n s hj⟩
  | succ d ih =>
    intro n i s h1 h2 hj
    obtain ⟨n, rfl⟩ : ∃ m, n = m + 1 := ⟨n - 1, by omega⟩
    obtain ⟨s', hj', e⟩ := hs n i s (by omega) hj
    obtain ⟨s2, h4, h5⟩ := ih n (i + 1) s' (by omega) (by omega) hj'
    exact ⟨s2, h4, e.trans h5⟩
def bsP (lsp sh p : Nat) : Nat := (p / 2 ^ (lsp + sh)) * 2 ^ (lsp + sh) + p % 2 ^ lsp
def qP (lsp sh p : Nat) : Nat := p / 2 ^ lsp % 2 ^ sh
def uP (M lsp sh p : Nat) : Nat := p % 2 ^ lsp * 2 ^ (M - lsp - sh)
def wix (lsp sh p : Nat) : Nat := (p / 2 ^ (lsp + sh)) * 2 ^ lsp + p % 2 ^ lsp
def wvRe (ord nr sh lsp M : Nat) (c s re im : Nat → Int32) (p : Nat) : Int32 := wgRe ord nr sh (uP M lsp sh p) c s (fun t => re (bsP lsp sh p + t * 2 ^ lsp)) (fun t => im (bsP lsp sh p + t * 2 ^ lsp)) (qP lsp sh p)
def wvIm (ord nr sh lsp M : Nat) (c s re im : Nat → Int32) (p : Nat) : Int32 := wgIm ord nr sh (uP M lsp sh p) c s (fun t => re (bsP lsp sh p + t * 2 ^ lsp)) (fun t => im (bsP lsp sh p + t * 2 ^ lsp)) (qP lsp sh p)
/-- where wings lie: decided for all of them -/
def wiA (M sh lsp : Nat) : Bool := (List.range (2 ^ (M - lsp - sh))).all fun g => (List.range (2 ^ lsp)).all fun k => (List.range (2 ^ sh)).all fun t =>
  let p := g * 2 ^ (lsp + sh) + k + t * 2 ^ lsp
  decide (p < 2 ^ M) && (decide (wix lsp sh p = g * 2 ^ lsp + k) && (decide (bsP lsp sh p = g * 2 ^ (lsp + sh) + k) && (decide (qP lsp sh p = t) && decide (p % 2 ^ lsp = k))))
def wiB (M sh lsp : Nat) : Bool := (List.range (2 ^ M)).all fun p =>
  let st := bsP lsp sh p
  decide (st ≤ p) && (decide ((p - st) % 2 ^ lsp = 0) && (decide ((p - st) / 2 ^ lsp = qP lsp sh p) && decide (qP lsp sh p < 2 ^ sh)))
def wiC (M sh lsp : Nat) : Bool := (List.range (2 ^ (M - lsp - sh))).all fun g => (List.range (2 ^ lsp)).all fun k =>
  decide (g * 2 ^ (lsp + sh) + k + (2 ^ sh - 1) * 2 ^ lsp < 32) && decide ((2 ^ sh - 1) * (k * 2 ^ (M - lsp - sh)) < 32)
def wiOK : Bool := (List.range 5).all fun m => (List.range 2).all fun h => (List.range 5).all fun lsp => !decide (lsp + (h + 1) ≤ m + 1) || (wiA (m + 1) (h + 1) lsp && (wiB (m + 1) (h + 1) lsp && wiC (m + 1) (h + 1) lsp))
theorem wiOK_t : wiOK = true := by decide +kernel
theorem wi_x {M sh lsp : Nat} (hM : isM M) (hs : sh = 1 ∨ sh = 2) (hl : lsp + sh ≤ M) : wiA M sh lsp = true ∧ wiB M sh lsp = true ∧ wiC M sh lsp = true := by
  obtain ⟨m1, m5⟩ := hM
  have h1 := all_x (all_x (all_x wiOK_t (show M - 1 < 5 by omega)) (show sh - 1 < 2 by omega)) (show lsp < 5 by omega)
  rw [show M - 1 + 1 = M by omega, show sh - 1 + 1 = sh by omega] at h1
  simp only [decide_eq_true hl, Bool.not_true, Bool.false_or, Bool.and_eq_true] at h1
  exact h1
theorem wi_A {M sh lsp g k t : Nat} (hM : isM M) (hs : sh = 1 ∨ sh = 2) (hl : lsp + sh ≤ M) (hg : g < 2 ^ (M - lsp - sh)) (hk : k < 2 ^ lsp) (ht : t < 2 ^ sh) :
    g * 2 ^ (lsp + sh) + k + t * 2 ^ lsp < 2 ^ M ∧ wix lsp sh (g * 2 ^ (lsp + sh) + k + t * 2 ^ lsp) = g * 2 ^ lsp + k ∧ bsP lsp sh (g * 2 ^ (lsp + sh) + k + t * 2 ^ lsp) = g * 2 ^ (lsp + sh) + k ∧ qP lsp sh (g * 2 ^ (lsp + sh) + k + t * 2 ^ lsp) = t ∧ (g * 2 ^ (lsp + sh) + k + t * 2 ^ lsp) % 2 ^ lsp = k := by
  have h := all_x (all_x (all_x (wi_x hM hs hl).1 hg) hk) ht
  simp only [Bool.and_eq_true, decide_eq_true_eq] at h
  exact h
theorem wi_B {M sh lsp p : Nat} (hM : isM M) (hs : sh = 1 ∨ sh = 2) (hl : lsp + sh ≤ M) (hp : p < 2 ^ M) : bsP lsp sh p ≤ p ∧ (p - bsP lsp sh p) % 2 ^ lsp = 0 ∧ (p - bsP lsp sh p) / 2 ^ lsp = qP lsp sh p ∧ qP lsp sh p < 2 ^ sh := by
  have h := all_x (wi_x hM hs hl).2.1 hp
  simp only [Bool.and_eq_true, decide_eq_true_eq] at h
  exact h
theorem wi_C {M sh lsp g k : Nat} (hM : isM M) (hs : sh = 1 ∨ sh = 2) (hl : lsp + sh ≤ M) (hg : g < 2 ^ (M - lsp - sh)) (hk : k < 2 ^ lsp) : g * 2 ^ (lsp + sh) + k + (2 ^ sh - 1) * 2 ^ lsp < 32 ∧ (2 ^ sh - 1) * (k * 2 ^ (M - lsp - sh)) < 32 := by
  have h := all_x (all_x (wi_x hM hs hl).2.2 hg) hk
  simp only [Bool.and_eq_true, decide_eq_true_eq] at h
  exact h
theorem wg_congr {ord nr sh u : Nat} (hs : sh = 1 ∨ sh = 2) {c s x y x' y' : Nat → Int32} (h : ∀ t, t < 2 ^ sh → x t = x' t ∧ y t = y' t) {q : Nat} (hq : q < 2 ^ sh) :
    wgRe ord nr sh u c s x y q = wgRe ord nr sh u c s x' y' q ∧ wgIm ord nr sh u c s x y q = wgIm ord nr sh u c s x' y' q := by
  have h1 : ∀ t, t < 2 ^ sh → inRe ord nr u c s x y t = inRe ord nr u c s x' y' t ∧ inIm ord nr u c s x y t = inIm ord nr u c s x' y' t := fun t ht => by
    simp only [inRe, inIm, (h t ht).1, (h t ht).2, and_self]
  obtain ⟨e1, e2⟩ := ad_congr hs h1 q
  simp only [wgRe, wgIm, e1, e2, and_self]
/-- the first w wings are done -/
def dnW (M lsp sh w : Nat) (v a : Nat → Int32) : Nat → Int32 := fun p => if p < 2 ^ M ∧ wix lsp sh p < w then v p else a p
theorem dnW_s {M lsp sh g k : Nat} (hM : isM M) (hs : sh = 1 ∨ sh = 2) (hl : lsp + sh ≤ M) (hg : g < 2 ^ (M - lsp - sh)) (hk : k < 2 ^ lsp) (v a x : Nat → Int32)
    (hv : ∀ t, t < 2 ^ sh → x t = v (g * 2 ^ (lsp + sh) + k + t * 2 ^ lsp)) :
    stq (dnW M lsp sh (g * 2 ^ lsp + k) v a) (g * 2 ^ (lsp + sh) + k) (2 ^ lsp) x (2 ^ sh) = dnW M lsp sh (g * 2 ^ lsp + k + 1) v a := by
  funext p
  unfold stq
  have hlen : 0 < 2 ^ lsp := Nat.two_pow_pos lsp
  by_cases h : g * 2 ^ (lsp + sh) + k ≤ p ∧ (p - (g * 2 ^ (lsp + sh) + k)) % 2 ^ lsp = 0 ∧ (p - (g * 2 ^ (lsp + sh) + k)) / 2 ^ lsp < 2 ^ sh
  · rw [if_pos h]
    obtain ⟨t, et⟩ : ∃ t, t = (p - (g * 2 ^ (lsp + sh) + k)) / 2 ^ lsp := ⟨_, rfl⟩
    rw [← et]
    have ht : t < 2 ^ sh := by rw [et]; exact h.2.2
    have ep : p = g * 2 ^ (lsp + sh) + k + t * 2 ^ lsp := by
      have h5 := Nat.div_add_mod (p - (g * 2 ^ (lsp + sh) + k)) (2 ^ lsp)
      rw [h.2.1, ← et, Nat.mul_comm] at h5
      omega
    obtain ⟨f1, f2, -⟩ := wi_A hM hs hl hg hk ht
    rw [hv t ht, ← ep]
    rw [← ep] at f1 f2
    exact (if_pos ⟨f1, by omega⟩).symm
  · rw [if_neg h]
    have hne : p < 2 ^ M → wix lsp sh p ≠ g * 2 ^ lsp + k := fun hp e => h (by
      obtain ⟨b1, b2, b3, b4⟩ := wi_B hM hs hl hp
      have e1 : p / 2 ^ (lsp + sh) = g ∧ p % 2 ^ lsp = k := by
        unfold wix at e
        have hm : p % 2 ^ lsp < 2 ^ lsp := Nat.mod_lt _ hlen
        have q1 : (p / 2 ^ (lsp + sh) * 2 ^ lsp + p % 2 ^ lsp) / 2 ^ lsp = p / 2 ^ (lsp + sh) := by
          rw [Nat.mul_comm, Nat.mul_add_div hlen, Nat.div_eq_of_lt hm, Nat.add_zero]
        have q2 : (g * 2 ^ lsp + k) / 2 ^ lsp = g := by
          rw [Nat.mul_comm, Nat.mul_add_div hlen, Nat.div_eq_of_lt hk, Nat.add_zero]
        rw [e, q2] at q1
        refine ⟨q1.symm, ?_⟩
        rw [← q1] at e
        omega
      have eb : bsP lsp sh p = g * 2 ^ (lsp + sh) + k := by unfold bsP; rw [e1.1, e1.2]
      rw [eb] at b1 b2 b3
      exact ⟨b1, b2, by omega⟩)
    unfold dnW
    by_cases hp : p < 2 ^ M
    · have := hne hp
      by_cases h2 : wix lsp sh p < g * 2 ^ lsp + k
      · rw [if_pos ⟨hp, h2⟩, if_pos ⟨hp, by omega⟩]
      · rw [if_neg (fun q => h2 q.2), if_neg (fun q => h2 (by omega))]
    · rw [if_neg (fun q => hp q.1), if_neg (fun q => hp q.1)]
theorem wix_lt {M lsp sh p : Nat} (hM : isM M) (hs : sh = 1 ∨ sh = 2) (hl : lsp + sh ≤ M) (hp : p < 2 ^ M) : wix lsp sh p < 2 ^ (M - lsp - sh) * 2 ^ lsp := by
  unfold wix
  have h1 : p / 2 ^ (lsp + sh) < 2 ^ (M - lsp - sh) := by
    rw [Nat.div_lt_iff_lt_mul (Nat.two_pow_pos _), ← Nat.pow_add]
    have : M - lsp - sh + (lsp + sh) = M := by omega
    rw [this]
    exact hp
  have h2 : p % 2 ^ lsp < 2 ^ lsp := Nat.mod_lt _ (Nat.two_pow_pos _)
  have h3 : p / 2 ^ (lsp + sh) * 2 ^ lsp + 2 ^ lsp ≤ 2 ^ (M - lsp - sh) * 2 ^ lsp := by
    have h4 := Nat.mul_le_mul_right (2 ^ lsp) (show p / 2 ^ (lsp + sh) + 1 ≤ 2 ^ (M - lsp - sh) from h1)
    rw [Nat.add_mul, Nat.one_mul] at h4
    exact h4
  omega
theorem beatWings_60_eq {M ord nr sh lsp : Nat} (hM : isM M) (ho : ord < 2) (hn : nr < 2) (hs : sh = 1 ∨ sh = 2) (hl : lsp + sh ≤ M) (re im wi wr c s : Nat → Int32) :
    ∃ wi' wr', fX0_beatWings_60 (nI M) (nI ord) (nI nr) c s im re wi wr (nI sh) (nI lsp) = some (dnW M lsp sh (2 ^ (M - lsp - sh) * 2 ^ lsp) (wvIm ord nr sh lsp M c s re im) im, dnW M lsp sh (2 ^ (M - lsp - sh) * 2 ^ lsp) (wvRe ord nr sh lsp M c s re im) re, wi', wr') := by
  obtain ⟨m1, m5⟩ := id hM
  have hp32 : ∀ n, n ≤ 5 → 2 ^ n ≤ 32 := fun n hn => by
    rcases (show n = 0 ∨ n = 1 ∨ n = 2 ∨ n = 3 ∨ n = 4 ∨ n = 5 by omega) with rfl | rfl | rfl | rfl | rfl | rfl <;> decide
  have hL := hp32 lsp (by omega)
  have hG := hp32 (M - lsp - sh) (by omega)
  have hLS := hp32 (lsp + sh) (by omega)
  unfold fX0_beatWings_60
  simp only [nm]
  rw [show (1 : Int32) = nI 1 from rfl, shl_nI (show lsp < 32 by omega) (by omega), pk_sub (show lsp ≤ M by omega), pk_sub (show sh ≤ M - lsp by omega), shl_nI (show M - lsp - sh < 32 by omega) (by omega), Nat.one_mul, Nat.one_mul]
  -- a wing
  have wing : ∀ g, g < 2 ^ (M - lsp - sh) → ∀ k, k < 2 ^ lsp → ∀ (wi wr : Nat → Int32), ∃ wi' wr', fX0_beatWing (nI ord) (nI nr) (dnW M lsp sh (g * 2 ^ lsp + k) (wvIm ord nr sh lsp M c s re im) im) (dnW M lsp sh (g * 2 ^ lsp + k) (wvRe ord nr sh lsp M c s re im) re) wi wr c s (nI (g * 2 ^ (lsp + sh) + k)) (nI lsp) (nI sh) (nI (k * 2 ^ (M - lsp - sh))) =
      some (dnW M lsp sh (g * 2 ^ lsp + k + 1) (wvIm ord nr sh lsp M c s re im) im, dnW M lsp sh (g * 2 ^ lsp + k + 1) (wvRe ord nr sh lsp M c s re im) re, wi', wr') := by
    intro g hg k hk wi wr
    obtain ⟨c1, c2⟩ := wi_C hM hs hl hg hk
    obtain ⟨wi', wr', e⟩ := beatWing_eq (u := k * 2 ^ (M - lsp - sh)) ho hn hs (show lsp < 5 by omega) c1 c2 (dnW M lsp sh (g * 2 ^ lsp + k) (wvRe ord nr sh lsp M c s re im) re) (dnW M lsp sh (g * 2 ^ lsp + k) (wvIm ord nr sh lsp M c s re im) im) wi wr c s
    refine ⟨wi', wr', ?_⟩
    have hin : ∀ t, t < 2 ^ sh → dnW M lsp sh (g * 2 ^ lsp + k) (wvRe ord nr sh lsp M c s re im) re (g * 2 ^ (lsp + sh) + k + t * 2 ^ lsp) = re (g * 2 ^ (lsp + sh) + k + t * 2 ^ lsp) ∧ dnW M lsp sh (g * 2 ^ lsp + k) (wvIm ord nr sh lsp M c s re im) im (g * 2 ^ (lsp + sh) + k + t * 2 ^ lsp) = im (g * 2 ^ (lsp + sh) + k + t * 2 ^ lsp) := by
      intro t ht
      obtain ⟨-, f2, -⟩ := wi_A hM hs hl hg hk ht
      exact ⟨if_neg (fun q => by have := q.2; omega), if_neg (fun q => by have := q.2; omega)⟩
    rw [e]
    rw [dnW_s hM hs hl hg hk (wvIm ord nr sh lsp M c s re im) im _ (fun t ht => ?_), dnW_s hM hs hl hg hk (wvRe ord nr sh lsp M c s re im) re _ (fun t ht => ?_)]
    · obtain ⟨-, -, f3, f4, f5⟩ := wi_A hM hs hl hg hk ht
      unfold wvRe uP
      rw [f3, f4, f5]
      exact (wg_congr hs hin ht).1
    · obtain ⟨-, -, f3, f4, f5⟩ := wi_A hM hs hl hg hk ht
      unfold wvIm uP
      rw [f3, f4, f5]
      exact (wg_congr hs hin ht).2
  -- a group
  have grp : ∀ (K : (Nat → Int32) → (Nat → Int32) → (Nat → Int32) → (Nat → Int32) → Int32 → Int32 → Int32 → Int32 → Int32 → Int32 → Option ((Nat → Int32) × (Nat → Int32) × (Nat → Int32) × (Nat → Int32))) (g : Nat), g < 2 ^ (M - lsp - sh) → ∀ (wi wr : Nat → Int32), ∃ wi' wr',
      fX0_beatWings_109 (nI ord) (nI nr) c s K FU (dnW M lsp sh (g * 2 ^ lsp) (wvIm ord nr sh lsp M c s re im) im) (dnW M lsp sh (g * 2 ^ lsp) (wvRe ord nr sh lsp M c s re im) re) wi wr (nI sh) (nI lsp) (nI (2 ^ lsp)) (nI (M - lsp - sh)) (nI (2 ^ (M - lsp - sh))) (nI g) (nI (g * 2 ^ (lsp + sh))) 0 =
      K (dnW M lsp sh ((g + 1) * 2 ^ lsp) (wvIm ord nr sh lsp M c s re im) im) (dnW M lsp sh ((g + 1) * 2 ^ lsp) (wvRe ord nr sh lsp M c s re im) re) wi' wr' (nI sh) (nI lsp) (nI (2 ^ lsp)) (nI (M - lsp - sh)) (nI (2 ^ (M - lsp - sh))) (nI (g + 1)) := by
    intro K g hg wi wr
    have hh := loopX (fun n k (z : (Nat → Int32) × (Nat → Int32) × (Nat → Int32) × (Nat → Int32)) => fX0_beatWings_109 (nI ord) (nI nr) c s K n z.1 z.2.1 z.2.2.1 z.2.2.2 (nI sh) (nI lsp) (nI (2 ^ lsp)) (nI (M - lsp - sh)) (nI (2 ^ (M - lsp - sh))) (nI g) (nI (g * 2 ^ (lsp + sh))) (nI k))
      (fun k z => z.1 = dnW M lsp sh (g * 2 ^ lsp + k) (wvIm ord nr sh lsp M c s re im) im ∧ z.2.1 = dnW M lsp sh (g * 2 ^ lsp + k) (wvRe ord nr sh lsp M c s re im) re) (2 ^ lsp)
      (fun z => K z.1 z.2.1 z.2.2.1 z.2.2.2 (nI sh) (nI lsp) (nI (2 ^ lsp)) (nI (M - lsp - sh)) (nI (2 ^ (M - lsp - sh))) (nI (g + 1))) ?_ ?_ (2 ^ lsp) FU 0 (dnW M lsp sh (g * 2 ^ lsp) (wvIm ord nr sh lsp M c s re im) im, dnW M lsp sh (g * 2 ^ lsp) (wvRe ord nr sh lsp M c s re im) re, wi, wr) (by omega) (FU_pos (by omega)) ⟨rfl, rfl⟩
    · obtain ⟨⟨i2, r2, wi', wr'⟩, ⟨e1, e2⟩, e⟩ := hh
      dsimp only at e1 e2 e
      refine ⟨wi', wr', ?_⟩
      rw [show (0 : Int32) = nI 0 from rfl, e, e1, e2, Nat.add_mul, Nat.one_mul]
    · intro n k z hk ⟨h1, h2⟩
      obtain ⟨i1, r1, a1, a2⟩ := z
      dsimp only at h1 h2 ⊢
      subst h1; subst h2
      obtain ⟨wi', wr', e⟩ := wing g hg k hk a1 a2
      refine ⟨(dnW M lsp sh (g * 2 ^ lsp + k + 1) (wvIm ord nr sh lsp M c s re im) im, dnW M lsp sh (g * 2 ^ lsp + k + 1) (wvRe ord nr sh lsp M c s re im) re, wi', wr'), ⟨rfl, rfl⟩, ?_⟩
      rw [fX0_beatWings_109.eq_2, if_neg (nI_ge hk (by omega)), nI_add, shl_nI (show M - lsp - sh < 32 by omega) (by
        have := Nat.mul_le_mul (Nat.le_of_lt hk) (Nat.le_refl (2 ^ (M - lsp - sh)))
        have h9 : 2 ^ lsp * 2 ^ (M - lsp - sh) ≤ 32 * 32 := Nat.mul_le_mul hL hG
        omega), e, bd4_s]
      simp only [nm, nI_1]
    · intro n z ⟨h1, h2⟩
      rw [fX0_beatWings_109.eq_2, if_pos (nI_le (Nat.le_refl _) (by omega)), fX0_beatWings_142]
      simp only [nm, nI_1]
  -- all groups
  have hh := loopX (fun n g (z : (Nat → Int32) × (Nat → Int32) × (Nat → Int32) × (Nat → Int32)) => fX0_beatWings_89 (nI ord) (nI nr) c s n z.1 z.2.1 z.2.2.1 z.2.2.2 (nI sh) (nI lsp) (nI (2 ^ lsp)) (nI (M - lsp - sh)) (nI (2 ^ (M - lsp - sh))) (nI g))
    (fun g z => z.1 = dnW M lsp sh (g * 2 ^ lsp) (wvIm ord nr sh lsp M c s re im) im ∧ z.2.1 = dnW M lsp sh (g * 2 ^ lsp) (wvRe ord nr sh lsp M c s re im) re) (2 ^ (M - lsp - sh)) (fun z => some (z.1, z.2.1, z.2.2.1, z.2.2.2)) ?_ ?_ (2 ^ (M - lsp - sh)) FU 0 (im, re, wi, wr) (by omega) (FU_pos (by omega)) ⟨?_, ?_⟩
  · obtain ⟨⟨i2, r2, wi', wr'⟩, ⟨e1, e2⟩, e⟩ := hh
    dsimp only at e1 e2 e
    refine ⟨wi', wr', ?_⟩
    rw [show (0 : Int32) = nI 0 from rfl, e, e1, e2]
  · intro n g z hg ⟨h1, h2⟩
    obtain ⟨i1, r1, a1, a2⟩ := z
    dsimp only at h1 h2 ⊢
    subst h1; subst h2
    obtain ⟨wi', wr', e⟩ := grp (fX0_beatWings_89 (nI ord) (nI nr) c s n) g hg a1 a2
    refine ⟨(dnW M lsp sh ((g + 1) * 2 ^ lsp) (wvIm ord nr sh lsp M c s re im) im, dnW M lsp sh ((g + 1) * 2 ^ lsp) (wvRe ord nr sh lsp M c s re im) re, wi', wr'), ⟨rfl, rfl⟩, ?_⟩
    rw [fX0_beatWings_89.eq_2, if_neg (nI_ge hg (by omega))]
    simp only [nm]
    rw [nI_add, shl_nI (show lsp + sh < 32 by omega) (by
      have h9 : g * 2 ^ (lsp + sh) ≤ 32 * 32 := Nat.mul_le_mul (by omega) hLS
      omega), e]
  · intro n z ⟨h1, h2⟩
    rw [fX0_beatWings_89.eq_2, if_pos (nI_le (Nat.le_refl _) (by omega))]
  · funext p
    exact (if_neg (fun q => by have := q.2; omega)).symm
  · funext p
    exact (if_neg (fun q => by have := q.2; omega)).symm
