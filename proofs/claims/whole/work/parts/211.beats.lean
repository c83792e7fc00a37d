/-! ===== beats ===== -/
theorem lgk_congr {nr N k : Nat} {re im re' im' : Nat → Int32} (h : ∀ p, p < N → re p = re' p ∧ im p = im' p) : lgk nr N re im k = lgk nr N re' im' k := by
  unfold lgk
  rw [lgst_congr (re' := hvN nr N re' k) (im' := hvN nr N im' k)]
  intro p _ hp
  rw [hvN_I, hvN_I, hvN_I, hvN_I, if_pos (by omega), if_pos (by omega), if_pos (by omega), if_pos (by omega), (h p (by omega)).1, (h p (by omega)).2]
  exact ⟨rfl, rfl⟩
theorem ab_0 : ab 0 = 0 := by decide
theorem halvedNow_eq {b hl M rad ord nr lim k n B : Nat} {all told : Nat → Int32} {z : RowZ} (hb : b ≤ 22) (hhl : hl < 2) (hM : isM M) (hr : isRad rad) (ho : ord < 2) (hn : nr < 2) (hl2 : lim < 2 ^ 20) (hk : k < nst M rad) (h0 : told 0 = nI (2 ^ M)) (h1 : 1 ≤ B) (h2 : B ≤ 2 ^ 20)
    (hz : RW all b z) (hZ : ZR M z) (hB : hl ≠ 0 → BDz M z B) (hx : isHv hl nr M lim (grw M rad ord k) z n) :
    ∃ all', fX10_halvedNow (nI b) (nI ord) (nI nr) (nI lim) (nI hl) all told (nI (2 ^ shn M rad ord k)) = some (nI n, all') ∧ RW all' b (opHv nr M n z) ∧ FR all all' b := by
  have hN := isM_pow hM
  obtain ⟨-, -, -, -, s5⟩ := sh_x hM hr ho hk
  have e1 : fX10_halvedNow (nI b) (nI ord) (nI nr) (nI lim) (nI hl) all told (nI (2 ^ shn M rad ord k)) = fX10_halvedNow_26 (nI b) (nI nr) (nI lim) (nI hl) told FU all (nI (grw M rad ord k)) 0 := by
    unfold fX10_halvedNow grw
    rcases s5 with h | h <;> rw [h]
    · rw [if_neg (show ¬ (nI (2 ^ 1) = (4 : Int32)) by decide), if_neg (show ¬ ((1 : Nat) = 2) by decide)]
      rcases (show ord = 0 ∨ ord = 1 by omega) with rfl | rfl
      · rw [if_pos (show nI 0 = 0 from rfl), if_pos rfl]; rfl
      · rw [if_neg (show ¬ (nI 1 = 0) by decide), if_neg (by decide)]; rfl
    · rw [if_pos (show nI (2 ^ 2) = (4 : Int32) from rfl), if_pos rfl]; rfl
  rw [e1]
  rcases (show hl = 0 ∨ hl = 1 by omega) with rfl | rfl
  · have h3 := isHv_0 hx
    subst h3
    refine ⟨all, ?_, ?_, FR_r⟩
    · rw [show FU = 4095 + 1 from rfl, fX10_halvedNow_26.eq_2, if_pos (show nI 0 = 0 from rfl)]
      rfl
    · exact hz
  · obtain ⟨g1, g2, g3⟩ := isHv_1 (by decide) hx
    have hBD := hB (by decide)
    have h64 : ∀ j, j < 64 → ab (all (136 * b + j)) ≤ B := by
      intro j hj
      by_cases h32 : j < 32
      · rw [(hz j h32).1]
        by_cases hp : j < 2 ^ M
        · exact (hBD j hp).1
        · rw [(hZ j (by omega) h32).1, ab_0]; omega
      · have e9 := (hz (j - 32) (by omega)).2
        rw [show 136 * b + 32 + (j - 32) = 136 * b + j by omega] at e9
        rw [e9]
        by_cases hp : j - 32 < 2 ^ M
        · exact (hBD (j - 32) hp).2
        · rw [(hZ (j - 32) (by omega) (by omega)).2, ab_0]; omega
    have hlg : ∀ j, lgk nr (2 ^ M) (fun i => all (136 * b + i)) (fun i => all (136 * b + 32 + i)) j = lgk nr (2 ^ M) z.1 z.2 j := fun j => lgk_congr (fun p hp => hz p (by omega))
    refine ⟨_, halve_m hb hN.2 h0 hl2 grw_le hn h1 h2 h64 g1 (by rw [hlg]; exact g2) (fun j hj => by rw [hlg]; exact g3 j hj), ?_, ?_⟩
    · intro p hp
      obtain ⟨q1, q2⟩ := hz p hp
      unfold opHv
      dsimp only
      rw [hvN_I, hvN_I, blk_at (by omega), Nat.add_assoc, blk_at (by omega), ← Nat.add_assoc, q1, q2]
      by_cases h : p < 2 ^ M
      · rw [if_pos h, if_pos h]; exact ⟨rfl, rfl⟩
      · rw [if_neg h, if_neg h, (hZ p (by omega) hp).1, (hZ p (by omega) hp).2, hvI_0 hn]; exact ⟨rfl, rfl⟩
    · intro j hj
      exact blk_out (by omega)
/-- outside the points nothing changes -/
def OUT (M : Nat) (z y : RowZ) : Prop := ∀ p, 2 ^ M ≤ p → y.1 p = z.1 p ∧ y.2 p = z.2 p
theorem OUT_t {M : Nat} {x y z : RowZ} (h1 : OUT M x y) (h2 : OUT M y z) : OUT M x z := fun p hp => ⟨((h2 p hp).1).trans (h1 p hp).1, ((h2 p hp).2).trans (h1 p hp).2⟩
theorem OUT_r {M : Nat} {x : RowZ} : OUT M x x := fun _ _ => ⟨rfl, rfl⟩
theorem OUT_Z {M : Nat} {x y : RowZ} (h : OUT M x y) (hz : ZR M x) : ZR M y := fun p hp hq => ⟨((h p hp).1).trans (hz p hp hq).1, ((h p hp).2).trans (hz p hp hq).2⟩
theorem rev_out {M rad ord : Nat} {z : RowZ} : OUT M z (opRev M rad ord z) := fun p hp => ⟨if_neg (by omega), if_neg (by omega)⟩
theorem ng_out {M : Nat} {z : RowZ} : OUT M z (opNg M z) := fun p hp => ⟨rfl, if_neg (by omega)⟩
theorem hv_out {nr M n : Nat} {z : RowZ} : OUT M z (opHv nr M n z) := fun p hp => ⟨hvN_out hp n, hvN_out hp n⟩
theorem wg_out {M rad ord nr k : Nat} {c s : Nat → Int32} {z : RowZ} : OUT M z (opWg M rad ord nr k c s z) := fun p hp => ⟨if_neg (by omega), if_neg (by omega)⟩
theorem stA_out {M rad ord k : Nat} {z : RowZ} : OUT M z (stA M rad ord k z) := by
  unfold stA
  split
  · exact rev_out
  · exact OUT_r
theorem stB_out {hl M rad ord nr lim k : Nat} {z : RowZ} : OUT M z (stB hl M rad ord nr lim k z) := OUT_t stA_out hv_out
theorem stC_out {hl M rad ord nr lim k : Nat} {c s : Nat → Int32} {z : RowZ} : OUT M z (stC hl M rad ord nr lim k c s z) := OUT_t stB_out wg_out
theorem stD_out {hl M rad ord nr lim k : Nat} {c s : Nat → Int32} {z : RowZ} : OUT M z (stD hl M rad ord nr lim k c s z) := by
  unfold stD
  split
  · exact OUT_t stC_out rev_out
  · exact stC_out
theorem stE_out {hl bk M rad ord nr lim k : Nat} {c s : Nat → Int32} {z : RowZ} : OUT M z (stE hl bk M rad ord nr lim k c s z) := by
  unfold stE
  split
  · exact OUT_t stD_out ng_out
  · exact stD_out
theorem RW_upd {all : Nat → Int32} {b i : Nat} {v : Int32} {z : RowZ} (hz : RW all b z) (hi : 64 ≤ i) : RW (upd all (136 * b + i) v) b z := fun p hp => by
  rw [pk_un (by omega), pk_un (by omega)]
  exact hz p hp
theorem turnsOver_x {b M : Nat} {all : Nat → Int32} {z : RowZ} (hb : b ≤ 22) (hz : RW all b z) (hZ : ZR M z) : ∃ all', fX10_turnsOver (nI b) all = some all' ∧ RW all' b (opNg M z) ∧ FR all all' b := by
  refine ⟨_, turnsOver_eq hb all, fun p hp => ?_, fun j hj => blk_out (by omega)⟩
  obtain ⟨q1, q2⟩ := hz p hp
  rw [blk_out (by omega), blk_at hp, q1, q2]
  refine ⟨rfl, ?_⟩
  show -(z.2 p) = if p < 2 ^ M then -(z.2 p) else z.2 p
  by_cases h : p < 2 ^ M
  · rw [if_pos h]
  · rw [if_neg h, (hZ p (by omega) hp).2]; rfl
/-- what a stage does to a bank -/
def BTS (all all' : Nat → Int32) (b k bk M rad n : Nat) (z' : RowZ) : Prop :=
  RW all' b z' ∧ all' (136 * b + 128) = stX bk M rad k (all (136 * b + 128)) n ∧ all' (136 * b + 129) = nI (k + 1) ∧ all' (136 * b + 130) = all (136 * b + 130) ∧ all' (136 * b + (131 + k)) = nI n ∧
  (∀ j, j < 5 → j ≠ k → all' (136 * b + (131 + j)) = all (136 * b + (131 + j))) ∧ ∀ j, (j < 136 * b ∨ 136 * b + 136 ≤ j ∨ (136 * b + 64 ≤ j ∧ j < 136 * b + 128)) → all' j = all j
theorem beats_eq {b hl bk M rad ord nr lim k B : Nat} {all told qua c s : Nat → Int32} (hb : b ≤ 22) (hhl : hl < 2) (hbk : bk < 2) (hM : isM M) (hr : isRad rad) (ho : ord < 2) (hn : nr < 2) (hl1 : 127 ≤ lim) (hl2 : lim < 2 ^ 20) (hk : k < nst M rad) (h0 : told 0 = nI (2 ^ M)) (hT : TBL (2 ^ M) qua told c s)
    (h1 : 1 ≤ B) (h2 : B ≤ 2 ^ 20) (z : RowZ) (hz : RW all b z) (hZ : ZR M z) (hB : hl ≠ 0 → BDz M z B) (hd : all (136 * b + 129) = nI k) (hq : all (136 * b + 130) = nI bk) (li lr : Nat → Int32) :
    ∃ all' li' lr', fX10_beats (nI b) (nI rad) (nI ord) (nI nr) (nI lim) (nI hl) (nI M) all li lr qua told = some (nI (stN hl M rad ord nr lim k z), all', li', lr') ∧ BTS all all' b k bk M rad (stN hl M rad ord nr lim k z) (stE hl bk M rad ord nr lim k c s z) := by
  have hN := isM_pow hM
  have hns := nst_le hM hr
  obtain ⟨s1, s2, -, -, s5⟩ := sh_x hM hr ho hk
  -- the end
  have f70 : ∀ (l : Nat) (hlt : l < 2) (hll : l = 1 ↔ k + 1 = nst M rad) (n : Nat) (y : RowZ) (al li lr : Nat → Int32), RW al b y → ZR M y → FR all al b →
      ∃ all', fX10_beats_70 (nI b) (nI M) al li lr (nI k) (nI n) (nI l) = some (nI n, all', li, lr) ∧ BTS all all' b k bk M rad n (if bk ≠ 0 ∧ k + 1 = nst M rad then opNg M y else y) := by
    intro l hlt hll n y al li lr hy hZy hF
    unfold fX10_beats_70
    rw [show (131 : Int32) + nI k = nI (131 + k) from nI_add 131 k, lay_eq hb (by omega), bd1_s, show (128 : Int32) = nI 128 from rfl, of_eq hb (by decide), bd1_s, lay_eq hb (by decide), bd1_s, nI_1, show (129 : Int32) = nI 129 from rfl, lay_eq hb (by decide), bd1_s, pk_un (show 136 * b + 128 ≠ 136 * b + (131 + k) by omega), hF _ (Or.inr (by omega))]
    obtain ⟨A, eA⟩ : ∃ A, A = upd (upd (upd al (136 * b + (131 + k)) (nI n)) (136 * b + 128) (all (136 * b + 128) + nI n)) (136 * b + 129) (nI (k + 1)) := ⟨_, rfl⟩
    rw [← eA]
    have hA : RW A b y := by rw [eA]; exact RW_upd (RW_upd (RW_upd hy (by omega)) (by decide)) (by decide)
    have a128 : A (136 * b + 128) = all (136 * b + 128) + nI n := by rw [eA, pk_un (by omega), pk_us]
    have a129 : A (136 * b + 129) = nI (k + 1) := by rw [eA, pk_us]
    have a130 : A (136 * b + 130) = all (136 * b + 130) := by rw [eA, pk_un (by omega), pk_un (by omega), pk_un (by omega), hF _ (Or.inr (by omega))]
    have ak : A (136 * b + (131 + k)) = nI n := by rw [eA, pk_un (by omega), pk_un (by omega), pk_us]
    have aj : ∀ j, j < 5 → j ≠ k → A (136 * b + (131 + j)) = all (136 * b + (131 + j)) := fun j hj hjk => by rw [eA, pk_un (by omega), pk_un (by omega), pk_un (by omega), hF _ (Or.inr (by omega))]
    have ao : ∀ j, (j < 136 * b ∨ 136 * b + 136 ≤ j ∨ (136 * b + 64 ≤ j ∧ j < 136 * b + 128)) → A j = all j := fun j hj => by rw [eA, pk_un (by omega), pk_un (by omega), pk_un (by omega), hF _ (by omega)]
    have base : ¬ (bk ≠ 0 ∧ k + 1 = nst M rad) → BTS all A b k bk M rad n (if bk ≠ 0 ∧ k + 1 = nst M rad then opNg M y else y) := fun hno => by
      refine ⟨by rw [if_neg hno]; exact hA, ?_, a129, a130, ak, aj, ao⟩
      unfold stX
      rw [if_neg hno]; exact a128
    rcases (show l = 0 ∨ l = 1 by omega) with rfl | rfl
    · rw [if_pos (show nI 0 = 0 from rfl)]
      exact ⟨A, rfl, base (by omega)⟩
    · rw [if_neg (show ¬ (nI 1 = 0) by decide), show (130 : Int32) = nI 130 from rfl, of_eq hb (by decide), bd1_s, a130, hq]
      rcases (show bk = 0 ∨ bk = 1 by omega) with rfl | rfl
      · rw [if_neg (show ¬ (nI 0 = (1 : Int32)) by decide)]
        exact ⟨A, rfl, base (by omega)⟩
      · rw [if_pos (show nI 1 = (1 : Int32) from rfl)]
        obtain ⟨A2, e2, hA2, hF2⟩ := turnsOver_x (M := M) hb hA hZy
        rw [e2, bd1_s, of_eq hb (by decide), bd1_s, fX10_powerOf, bd1_s, lay_eq hb (by decide), bd1_s, hF2 _ (Or.inr (by omega)), a128]
        refine ⟨_, rfl, ?_, ?_, ?_, ?_, ?_, ?_, ?_⟩
        · rw [if_pos (by omega)]
          exact RW_upd hA2 (by decide)
        · unfold stX
          rw [if_pos (by omega), pk_us]
        · rw [pk_un (by omega), hF2 _ (Or.inr (by omega)), a129]
        · rw [pk_un (by omega), hF2 _ (Or.inr (by omega)), a130]
        · rw [pk_un (by omega), hF2 _ (Or.inr (by omega)), ak]
        · intro j hj hjk
          rw [pk_un (by omega), hF2 _ (Or.inr (by omega)), aj j hj hjk]
        · intro j hj
          rw [pk_un (by omega), hF2 _ (by omega), ao j hj]
  have f53 : ∀ (l : Nat) (hlt : l < 2) (hll : l = 1 ↔ k + 1 = nst M rad) (n : Nat) (y : RowZ) (al li lr : Nat → Int32), RW al b y → ZR M y → FR all al b →
      ∃ all' li' lr', fX10_beats_53 (nI b) (nI rad) (nI ord) (nI M) told al li lr (nI k) (nI n) (nI l) = some (nI n, all', li', lr') ∧ BTS all all' b k bk M rad n (let w := if ord ≠ 0 ∧ k + 1 = nst M rad then opRev M rad ord y else y; if bk ≠ 0 ∧ k + 1 = nst M rad then opNg M w else w) := by
    intro l hlt hll n y al li lr hy hZy hF
    unfold fX10_beats_53
    dsimp only
    rcases (show ord = 0 ∨ ord = 1 by omega) with rfl | rfl
    · rw [if_neg (show ¬ (nI 0 = (1 : Int32)) by decide), if_neg (show ¬ ((0 : Nat) ≠ 0 ∧ k + 1 = nst M rad) by omega)]
      obtain ⟨a', e, hx⟩ := f70 l hlt hll n y al li lr hy hZy hF
      exact ⟨a', li, lr, e, hx⟩
    · rw [if_pos (show nI 1 = (1 : Int32) from rfl)]
      rcases (show l = 0 ∨ l = 1 by omega) with rfl | rfl
      · rw [if_pos (show nI 0 = 0 from rfl), if_neg (show ¬ ((1 : Nat) ≠ 0 ∧ k + 1 = nst M rad) by omega)]
        obtain ⟨a', e, hx⟩ := f70 0 hlt hll n y al li lr hy hZy hF
        exact ⟨a', li, lr, e, hx⟩
      · rw [if_neg (show ¬ (nI 1 = 0) by decide), if_pos (show (1 : Nat) ≠ 0 ∧ k + 1 = nst M rad by omega)]
        obtain ⟨al2, li2, lr2, e2, hy2, hF2⟩ := reverses_eq hb hM hr (show 1 < 2 by decide) h0 hy li lr
        rw [e2, bd3_s]
        obtain ⟨a', e, hx⟩ := f70 1 hlt hll n _ al2 li2 lr2 hy2 (OUT_Z rev_out hZy) (FR_t hF hF2)
        exact ⟨a', li2, lr2, e, hx⟩
  have f23 : ∀ (y : RowZ) (hy : y = stA M rad ord k z) (al li lr : Nat → Int32), RW al b y → FR all al b →
      ∃ all' li' lr', fX10_beats_23 (nI b) (nI rad) (nI ord) (nI nr) (nI lim) (nI hl) (nI M) qua told al li lr (nI k) = some (nI (stN hl M rad ord nr lim k z), all', li', lr') ∧ BTS all all' b k bk M rad (stN hl M rad ord nr lim k z) (stE hl bk M rad ord nr lim k c s z) := by
    intro y hy al li lr hyR hF
    have hZy : ZR M y := by rw [hy]; exact OUT_Z stA_out hZ
    have hx : isHv hl nr M lim (grw M rad ord k) y (stN hl M rad ord nr lim k z) := by
      unfold stN
      rw [← hy]
      exact nHv_x hn h1 h2 (fun q => by rw [hy]; exact stA_bd hM hr ho (hB q)) hl1 grw_le
    unfold fX10_beats_23
    obtain ⟨al2, e2, hy2, hF2⟩ := halvedNow_eq hb hhl hM hr ho hn hl2 hk h0 h1 h2 hyR hZy (fun q => by rw [hy]; exact stA_bd hM hr ho (hB q)) hx
    obtain ⟨al3, li3, lr3, e3, hy3, hF3⟩ := wings_eq hb hM hr ho hn hk h0 hT hy2 li lr
    rw [s2, bd1_s, e2, bd2_s, e3, bd3_s, stagesMany_eq hM hr, bd1_s]
    have hZ3 : ZR M (opWg M rad ord nr k c s (opHv nr M (stN hl M rad ord nr lim k z) y)) := OUT_Z wg_out (OUT_Z hv_out hZy)
    have hF9 := FR_t hF (FR_t hF2 hF3)
    have hlast : (nI k = nI (nst M rad) - 1) ↔ k + 1 = nst M rad := by
      rw [show (1 : Int32) = nI 1 from rfl, pk_sub (by omega), nI_eq (by omega) (by omega)]
      omega
    unfold stE stD stC stB
    rw [← hy]
    by_cases hq2 : k + 1 = nst M rad
    · rw [if_pos (hlast.mpr hq2)]
      exact f53 1 (by decide) ⟨fun _ => hq2, fun _ => rfl⟩ _ _ al3 li3 lr3 hy3 hZ3 hF9
    · rw [if_neg (fun q => hq2 (hlast.mp q))]
      exact f53 0 (by decide) ⟨fun q => absurd q (by decide), fun q => absurd q hq2⟩ _ _ al3 li3 lr3 hy3 hZ3 hF9
  unfold fX10_beats
  rw [show (129 : Int32) = nI 129 from rfl, of_eq hb (by decide), bd1_s, hd]
  by_cases h00 : ord = 0
  · rw [if_pos (by rw [h00]; rfl)]
    by_cases hk0 : k = 0
    · rw [if_pos (by rw [hk0]; rfl)]
      obtain ⟨al2, li2, lr2, e2, hy2, hF2⟩ := reverses_eq hb hM hr ho h0 hz li lr
      rw [e2, bd3_s]
      exact f23 _ (by unfold stA; rw [if_pos ⟨h00, hk0⟩]) al2 li2 lr2 hy2 hF2
    · rw [if_neg (nI_ne0 (by omega) (by omega))]
      exact f23 z (by unfold stA; rw [if_neg (by omega)]) all li lr hz FR_r
  · rw [if_neg (nI_ne0 (by omega) (by omega))]
    exact f23 z (by unfold stA; rw [if_neg (by omega)]) all li lr hz FR_r
