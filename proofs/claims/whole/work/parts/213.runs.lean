/-! ===== many stages ===== -/
abbrev RunZ := RowZ × Int32 × Nat × (Nat → Int32)
/-- a stage: points, EXP, how often halved in all, how often at each stage -/
noncomputable def stp (hl bk M rad ord nr lim : Nat) (c s : Nat → Int32) (k : Nat) (y : RunZ) : RunZ :=
  (stE hl bk M rad ord nr lim k c s y.1, stX bk M rad k y.2.1 (stN hl M rad ord nr lim k y.1), y.2.2.1 + stN hl M rad ord nr lim k y.1, upd y.2.2.2 k (nI (stN hl M rad ord nr lim k y.1)))
/-- a shape with its numbers: what stages go by -/
def CFG (M rad ord nr lim : Nat) : Prop := isM M ∧ isRad rad ∧ ord < 2 ∧ nr < 2 ∧ 127 ≤ lim ∧ lim < 2 ^ 15
/-- points that are B at most, and how much that is with all halvings told -/
def SB (M : Nat) (z : RowZ) (S t : Nat) : Prop := ∃ B, 1 ≤ B ∧ B ≤ 2 ^ 16 ∧ BDz M z B ∧ B * 2 ^ S ≤ 2 ^ (16 + 4 * t)
theorem SB_s {bk M rad ord nr lim k S t : Nat} {c s : Nat → Int32} {z : RowZ} (hc : CFG M rad ord nr lim) (hk : k < nst M rad) (hT : TBB c s) (h : SB M z S t) : SB M (stE 1 bk M rad ord nr lim k c s z) (S + stN 1 M rad ord nr lim k z) (t + 1) := by
  obtain ⟨hM, hr, ho, hn, hl1, hl2⟩ := hc
  obtain ⟨B, h1, h2, h3, h4⟩ := h
  obtain ⟨B', g1, g2, g3, g4⟩ := st_bd (bk := bk) (c := c) (s := s) hM hr ho hn hl1 hl2 hk hT h1 h2 h3
  refine ⟨B', g1, g2, g3, ?_⟩
  have e1 : B' * 2 ^ (S + stN 1 M rad ord nr lim k z) = B' * 2 ^ stN 1 M rad ord nr lim k z * 2 ^ S := by rw [Nat.pow_add, Nat.mul_comm (2 ^ S), Nat.mul_assoc]
  have e2 : 2 ^ (16 + 4 * (t + 1)) = 16 * 2 ^ (16 + 4 * t) := by rw [show 16 + 4 * (t + 1) = 4 + (16 + 4 * t) by omega, Nat.pow_add]
  have e3 := Nat.mul_le_mul_right (2 ^ S) g4
  rw [Nat.mul_assoc 16] at e3
  rw [e1, e2]
  omega
theorem SB_B {M S t : Nat} {z : RowZ} (h : SB M z S t) : BDz M z (2 ^ 16) := by
  obtain ⟨B, h1, h2, h3, h4⟩ := h
  exact fun p hp => ⟨Nat.le_trans (h3 p hp).1 h2, Nat.le_trans (h3 p hp).2 h2⟩
theorem B_SB {M : Nat} {z : RowZ} {t : Nat} (h : BDz M z (2 ^ 16)) : SB M z 0 t := ⟨2 ^ 16, by decide, Nat.le_refl _, h, by rw [Nat.pow_zero, Nat.mul_one]; exact Nat.pow_le_pow_right (by decide) (by omega)⟩
/-- 16 bits, where all is halved -/
def RB (hl M : Nat) (z : RowZ) : Prop := hl ≠ 0 → BDz M z (2 ^ 16)
theorem RB_s {hl bk M rad ord nr lim k : Nat} {c s : Nat → Int32} {z : RowZ} (hhl : hl < 2) (hc : CFG M rad ord nr lim) (hk : k < nst M rad) (hT : TBB c s) (h : RB hl M z) : RB hl M (stE hl bk M rad ord nr lim k c s z) := fun h0 => by
  obtain rfl : hl = 1 := by omega
  exact SB_B (SB_s (t := 0) hc hk hT (B_SB (h h0)))
theorem SB_run {bk M rad ord nr lim : Nat} {c s : Nat → Int32} (hc : CFG M rad ord nr lim) (hT : TBB c s) : ∀ d k (y : RunZ) t, k + d ≤ nst M rad → SB M y.1 y.2.2.1 t → SB M (itr (stp 1 bk M rad ord nr lim c s) k d y).1 (itr (stp 1 bk M rad ord nr lim c s) k d y).2.2.1 (t + d) := by
  intro d
  induction d with
  | zero => intro k y t _ h; exact h
  | succ d ih =>
    intro k y t hk h
    have := ih (k + 1) (stp 1 bk M rad ord nr lim c s k y) (t + 1) (by omega) (SB_s hc (by omega) hT h)
    rw [show t + 1 + d = t + (d + 1) by omega] at this
    exact this
theorem ZR_run {hl bk M rad ord nr lim : Nat} {c s : Nat → Int32} : ∀ d k (y : RunZ), ZR M y.1 → ZR M (itr (stp hl bk M rad ord nr lim c s) k d y).1 := by
  intro d
  induction d with
  | zero => intro k y h; exact h
  | succ d ih => intro k y h; exact ih (k + 1) _ (OUT_Z stE_out h)
theorem doStages_eq {hl bk M rad ord nr lim k m : Nat} {h : Nat → Int32} (hhl : hl < 2) (hbk : bk < 2) (hc : CFG M rad ord nr lim) (hk : k ≤ nst M rad) (hm : m ≤ 5) (e : SHF M rad ord h) {c s : Nat → Int32} (hT : TBB c s) (z : RowZ) (hB : RB hl M z) (x : Int32) (ha si sr wi wr : Nat → Int32) :
    ∃ si' sr' wi' wr', fX0_doStages x (nI k) (nI bk) (nI (2 ^ M)) (nI M) (nI lim) (nI ord) (nI nr) (nI (nst M rad)) ha z.2 z.1 h si sr wi wr c s (nI m) (nI hl) =
      (let y := itr (stp hl bk M rad ord nr lim c s) k (min m (nst M rad - k)) (z, x, 0, ha)
       some (nI y.2.2.1, y.2.1, nI (k + min m (nst M rad - k)), y.2.2.2, y.1.2, y.1.1, si', sr', wi', wr')) := by
  obtain ⟨hM, hr, ho, hn, hl1, hl2⟩ := id hc
  have hns := nst_le hM hr
  unfold fX0_doStages
  have key : ∀ d n i k (y : RunZ) (si sr wi wr : Nat → Int32), k ≤ nst M rad → d = min (m - i) (nst M rad - k) → i ≤ m → d < n → RB hl M y.1 → ∃ si' sr' wi' wr',
      fX0_doStages_6 (nI bk) (nI (2 ^ M)) (nI M) (nI lim) (nI ord) (nI nr) (nI (nst M rad)) h c s n y.2.1 (nI k) y.2.2.2 y.1.2 y.1.1 si sr wi wr (nI m) (nI hl) (nI y.2.2.1) (nI i) =
      (let y' := itr (stp hl bk M rad ord nr lim c s) k d y
       some (nI y'.2.2.1, y'.2.1, nI (k + d), y'.2.2.2, y'.1.2, y'.1.1, si', sr', wi', wr')) := by
    intro d
    induction d with
    | zero =>
      intro n i k y si sr wi wr hk hd hi hn0 hB
      obtain ⟨n, rfl⟩ : ∃ m, n = m + 1 := ⟨n - 1, by omega⟩
      refine ⟨si, sr, wi, wr, ?_⟩
      rw [fX0_doStages_6.eq_2]
      by_cases h1 : m ≤ i
      · rw [if_pos (nI_le h1 (by omega))]; rfl
      · rw [if_neg (nI_ge (by omega) (by omega)), if_pos (nI_le (by omega) (by omega))]; rfl
    | succ d ih =>
      intro n i k y si sr wi wr hk hd hi hn0 hB
      obtain ⟨n, rfl⟩ : ∃ m, n = m + 1 := ⟨n - 1, by omega⟩
      have hk2 : k < nst M rad := by omega
      obtain ⟨si1, sr1, wi1, wr1, e1⟩ := doStage_eq hhl hbk hM hr ho hn hl1 (show lim < 2 ^ 20 by omega) hk2 e (show 1 ≤ 2 ^ 16 by decide) (show 2 ^ 16 ≤ 2 ^ 20 by decide) y.1 hB y.2.1 y.2.2.2 si sr wi wr c s
      obtain ⟨si2, sr2, wi2, wr2, e2⟩ := ih n (i + 1) (k + 1) (stp hl bk M rad ord nr lim c s k y) si1 sr1 wi1 wr1 (by omega) (by omega) (by omega) (by omega) (RB_s hhl hc hk2 hT hB)
      refine ⟨si2, sr2, wi2, wr2, ?_⟩
      rw [fX0_doStages_6.eq_2, if_neg (nI_ge (by omega) (by omega)), if_neg (nI_ge hk2 (by omega)), e1, bd10_s]
      simp only [nm, nI_1, nI_add]
      rw [show k + (d + 1) = k + 1 + d by omega]
      exact e2
  exact key _ FU 0 k (z, x, 0, ha) si sr wi wr hk (by rw [Nat.sub_zero]) (Nat.zero_le _) (FU_pos (by omega)) hB
/-- a bank holds a wave's points, its EXP, its stages done, whether it goes back, how often it was halved when -/
def RWS (all : Nat → Int32) (b : Nat) (z : RowZ) (x : Int32) (k bk : Nat) (ha : Nat → Int32) : Prop :=
  RW all b z ∧ all (136 * b + 128) = x ∧ all (136 * b + 129) = nI k ∧ all (136 * b + 130) = nI bk ∧ ∀ j, j < 5 → all (136 * b + (131 + j)) = if j < k then ha j else -2
/-- nothing outside bank b changed, nor its points as they were -/
def FRB (all all' : Nat → Int32) (b : Nat) : Prop := ∀ j, (j < 136 * b ∨ 136 * b + 136 ≤ j ∨ (136 * b + 64 ≤ j ∧ j < 136 * b + 128)) → all' j = all j
theorem FRB_t {a b c : Nat → Int32} {n : Nat} (h1 : FRB a b n) (h2 : FRB b c n) : FRB a c n := fun j hj => (h2 j hj).trans (h1 j hj)
theorem FRB_r {a : Nat → Int32} {n : Nat} : FRB a a n := fun _ _ => rfl
theorem BTS_x {all all' : Nat → Int32} {b k bk M rad n : Nat} {z z' : RowZ} {x : Int32} {ha : Nat → Int32} (hk : k < 5) (h : BTS all all' b k bk M rad n z') (hw : RWS all b z x k bk ha) : RWS all' b z' (stX bk M rad k x n) (k + 1) bk (upd ha k (nI n)) ∧ FRB all all' b := by
  obtain ⟨h1, h2, h3, h4, h5, h6, h7⟩ := h
  obtain ⟨w1, w2, w3, w4, w5⟩ := hw
  refine ⟨⟨h1, by rw [h2, w2], h3, by rw [h4, w4], fun j hj => ?_⟩, h7⟩
  by_cases hjk : j = k
  · subst hjk
    rw [h5, if_pos (by omega), pk_us]
  · rw [h6 j hj hjk, w5 j hj, pk_un hjk]
    by_cases h9 : j < k
    · rw [if_pos h9, if_pos (by omega)]
    · rw [if_neg h9, if_neg (by omega)]
/-- what a run of the reference stands on -/
def MOK (M : Nat) (told qua c s : Nat → Int32) : Prop := told 0 = nI (2 ^ M) ∧ TBL (2 ^ M) qua told c s
theorem beats_x {b hl bk M rad ord nr lim k : Nat} {all told qua c s ha : Nat → Int32} {z : RowZ} {x : Int32} (hb : b ≤ 22) (hhl : hl < 2) (hbk : bk < 2) (hc : CFG M rad ord nr lim) (hk : k < nst M rad) (hm : MOK M told qua c s) (hw : RWS all b z x k bk ha) (hZ : ZR M z) (hB : RB hl M z) (li lr : Nat → Int32) :
    ∃ all' li' lr', fX10_beats (nI b) (nI rad) (nI ord) (nI nr) (nI lim) (nI hl) (nI M) all li lr qua told = some (nI (stN hl M rad ord nr lim k z), all', li', lr') ∧ RWS all' b (stE hl bk M rad ord nr lim k c s z) (stX bk M rad k x (stN hl M rad ord nr lim k z)) (k + 1) bk (upd ha k (nI (stN hl M rad ord nr lim k z))) ∧ FRB all all' b := by
  obtain ⟨hM, hr, ho, hn, hl1, hl2⟩ := id hc
  have hns := nst_le hM hr
  obtain ⟨al, li1, lr1, e1, e2⟩ := beats_eq hb hhl hbk hM hr ho hn hl1 (show lim < 2 ^ 20 by omega) hk hm.1 hm.2 (show 1 ≤ 2 ^ 16 by decide) (show 2 ^ 16 ≤ 2 ^ 20 by decide) z hw.1 hZ hB hw.2.2.1 hw.2.2.2.1 li lr
  obtain ⟨g1, g2⟩ := BTS_x (by omega) e2 hw
  exact ⟨al, li1, lr1, e1, g1, g2⟩
theorem isDone_eq {b M rad k bk : Nat} {all ha : Nat → Int32} {z : RowZ} {x : Int32} (hb : b ≤ 22) (hM : isM M) (hr : isRad rad) (hk : k ≤ nst M rad) (hw : RWS all b z x k bk ha) : fX10_isDone (nI b) (nI rad) (nI M) all = some (if k = nst M rad then 1 else 0) := by
  have hns := nst_le hM hr
  unfold fX10_isDone
  rw [show (129 : Int32) = nI 129 from rfl, of_eq hb (by decide), bd1_s, hw.2.2.1, stagesMany_eq hM hr, bd1_s]
  by_cases h : k = nst M rad
  · rw [if_pos h, if_pos (by rw [h])]
  · rw [if_neg h, if_neg (fun q => h ((nI_eq (by omega) (by omega)).mp q))]
theorem beatsAll_eq {b hl bk M rad ord nr lim k : Nat} {all told qua c s ha : Nat → Int32} {z : RowZ} {x : Int32} (hb : b ≤ 22) (hhl : hl < 2) (hbk : bk < 2) (hc : CFG M rad ord nr lim) (hk : k ≤ nst M rad) (hm : MOK M told qua c s) (hT : TBB c s) (hw : RWS all b z x k bk ha) (hZ : ZR M z) (hB : RB hl M z) (S : Nat) (li lr : Nat → Int32) :
    ∃ all' li' lr', fX10_beatsAll (nI b) (nI rad) (nI ord) (nI nr) (nI lim) (nI hl) (nI M) all li lr qua told = some (all', li', lr') ∧
      (let y := itr (stp hl bk M rad ord nr lim c s) k (nst M rad - k) (z, x, S, ha)
       RWS all' b y.1 y.2.1 (nst M rad) bk y.2.2.2 ∧ FRB all all' b) := by
  obtain ⟨hM, hr, ho, hn, hl1, hl2⟩ := id hc
  have hns := nst_le hM hr
  unfold fX10_beatsAll
  have key : ∀ d n k (y : RunZ) (al li lr : Nat → Int32), k + d = nst M rad → d < n → RWS al b y.1 y.2.1 k bk y.2.2.2 → ZR M y.1 → RB hl M y.1 → ∃ all' li' lr',
      fX10_beatsAll_0 (nI b) (nI rad) (nI ord) (nI nr) (nI lim) (nI hl) (nI M) qua told n al li lr = some (all', li', lr') ∧
      (let y' := itr (stp hl bk M rad ord nr lim c s) k d y
       RWS all' b y'.1 y'.2.1 (nst M rad) bk y'.2.2.2 ∧ FRB al all' b) := by
    intro d
    induction d with
    | zero =>
      intro n k y al li lr hk hn0 hw hZ hB
      obtain ⟨n, rfl⟩ : ∃ m, n = m + 1 := ⟨n - 1, by omega⟩
      refine ⟨al, li, lr, ?_, ?_, FRB_r⟩
      · rw [fX10_beatsAll_0.eq_2, isDone_eq hb hM hr (by omega) hw, bd1_s, if_pos (show k = nst M rad by omega), if_neg (show ¬ ((1 : Int32) = 0) by decide)]
      · rw [← hk]; exact hw
    | succ d ih =>
      intro n k y al li lr hk hn0 hw hZ hB
      obtain ⟨n, rfl⟩ : ∃ m, n = m + 1 := ⟨n - 1, by omega⟩
      obtain ⟨al1, li1, lr1, e1, g1, g2⟩ := beats_x (c := c) (s := s) hb hhl hbk hc (show k < nst M rad by omega) hm hw hZ hB li lr
      obtain ⟨al2, li2, lr2, e2, g3, g4⟩ := ih n (k + 1) (stp hl bk M rad ord nr lim c s k y) al1 li1 lr1 (by omega) (by omega) g1 (OUT_Z stE_out hZ) (RB_s hhl hc (by omega) hT hB)
      refine ⟨al2, li2, lr2, ?_, g3, FRB_t g2 g4⟩
      rw [fX10_beatsAll_0.eq_2, isDone_eq hb hM hr (by omega) hw, bd1_s, if_neg (show ¬ (k = nst M rad) by omega), if_pos (show (0 : Int32) = 0 from rfl), e1, bd4_s, e2]
  exact key (nst M rad - k) FU k (z, x, S, ha) all li lr (by omega) (FU_pos (by omega)) hw hZ hB
