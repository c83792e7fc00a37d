/-! ===== runs tried ===== -/
theorem RE_r {z : RowZ} : RE32 z z := fun _ _ => ⟨rfl, rfl⟩
theorem RE_s {z y : RowZ} (h : RE32 z y) : RE32 y z := fun p hp => ⟨(h p hp).1.symm, (h p hp).2.symm⟩
theorem RE_t {x y z : RowZ} (h1 : RE32 x y) (h2 : RE32 y z) : RE32 x z := fun p hp => ⟨(h1 p hp).1.trans (h2 p hp).1, (h1 p hp).2.trans (h2 p hp).2⟩
theorem rev_re {M rad ord : Nat} {z y : RowZ} (hM : isM M) (hr : isRad rad) (ho : ord < 2) (h : RE32 z y) : RE32 (opRev M rad ord z) (opRev M rad ord y) := fun p hp => by
  have hN := isM_pow hM
  unfold opRev rvR
  dsimp only
  by_cases hq : p < 2 ^ M
  · have := (rv_x hM hr ho hq).2.2.1
    rw [if_pos hq, if_pos hq, if_pos hq, if_pos hq]
    exact h _ (by omega)
  · rw [if_neg hq, if_neg hq, if_neg hq, if_neg hq]
    exact h p hp
theorem ng_re {M : Nat} {z y : RowZ} (h : RE32 z y) : RE32 (opNg M z) (opNg M y) := fun p hp => by
  unfold opNg ngR
  dsimp only
  refine ⟨(h p hp).1, ?_⟩
  rw [(h p hp).2]
theorem hv_re {nr M n : Nat} {z y : RowZ} (h : RE32 z y) : RE32 (opHv nr M n z) (opHv nr M n y) := fun p hp => by
  unfold opHv
  dsimp only
  rw [hvN_I, hvN_I, hvN_I, hvN_I, (h p hp).1, (h p hp).2]
  exact ⟨rfl, rfl⟩
theorem wg_re {M rad ord nr k : Nat} {c s : Nat → Int32} {z y : RowZ} (hM : isM M) (hr : isRad rad) (ho : ord < 2) (hk : k < nst M rad) (h : RE32 z y) : RE32 (opWg M rad ord nr k c s z) (opWg M rad ord nr k c s y) := fun p hp => by
  obtain ⟨-, -, -, s4, s5⟩ := sh_x hM hr ho hk
  unfold opWg
  dsimp only
  by_cases hq : p < 2 ^ M
  · rw [if_pos hq, if_pos hq, if_pos hq, if_pos hq]
    exact wv_congr hM s5 s4 hq h
  · rw [if_neg hq, if_neg hq, if_neg hq, if_neg hq]
    exact h p hp
theorem stA_re {M rad ord k : Nat} {z y : RowZ} (hM : isM M) (hr : isRad rad) (ho : ord < 2) (h : RE32 z y) : RE32 (stA M rad ord k z) (stA M rad ord k y) := by
  unfold stA
  split
  · exact rev_re hM hr ho h
  · exact h
theorem stN_re {hl M rad ord nr lim k : Nat} {z y : RowZ} (hM : isM M) (hr : isRad rad) (ho : ord < 2) (h : RE32 z y) : stN hl M rad ord nr lim k z = stN hl M rad ord nr lim k y := by
  have hN := isM_pow hM
  have hA := stA_re (k := k) hM hr ho h
  unfold stN nHv
  congr 1
  funext n
  unfold isHv
  have e : ∀ j, lgk nr (2 ^ M) (stA M rad ord k z).1 (stA M rad ord k z).2 j = lgk nr (2 ^ M) (stA M rad ord k y).1 (stA M rad ord k y).2 j := fun j => lgk_congr (fun p hp => hA p (by omega))
  simp only [e]
theorem stE_re {hl bk M rad ord nr lim k : Nat} {c s : Nat → Int32} {z y : RowZ} (hM : isM M) (hr : isRad rad) (ho : ord < 2) (hk : k < nst M rad) (h : RE32 z y) : RE32 (stE hl bk M rad ord nr lim k c s z) (stE hl bk M rad ord nr lim k c s y) := by
  have h1 : RE32 (stB hl M rad ord nr lim k z) (stB hl M rad ord nr lim k y) := by
    unfold stB
    rw [stN_re hM hr ho h]
    exact hv_re (stA_re hM hr ho h)
  have h2 : RE32 (stC hl M rad ord nr lim k c s z) (stC hl M rad ord nr lim k c s y) := wg_re hM hr ho hk h1
  have h3 : RE32 (stD hl M rad ord nr lim k c s z) (stD hl M rad ord nr lim k c s y) := by
    unfold stD
    split
    · exact rev_re hM hr ho h2
    · exact h2
  unfold stE
  split
  · exact ng_re h3
  · exact h3
/-- runs alike: points, EXP, halvings in all -/
def RUE (y y' : RunZ) : Prop := RE32 y.1 y'.1 ∧ y.2.1 = y'.2.1 ∧ y.2.2.1 = y'.2.2.1
theorem run_re {hl bk M rad ord nr lim : Nat} {c s : Nat → Int32} (hM : isM M) (hr : isRad rad) (ho : ord < 2) : ∀ d k (y y' : RunZ), k + d ≤ nst M rad → RUE y y' → RUE (itr (stp hl bk M rad ord nr lim c s) k d y) (itr (stp hl bk M rad ord nr lim c s) k d y') := by
  intro d
  induction d with
  | zero => intro k y y' _ h; exact h
  | succ d ih =>
    intro k y y' hk h
    obtain ⟨h1, h2, h3⟩ := h
    refine ih (k + 1) _ _ (by omega) ⟨stE_re hM hr ho (by omega) h1, ?_, ?_⟩
    · show stX bk M rad k y.2.1 (stN hl M rad ord nr lim k y.1) = stX bk M rad k y'.2.1 (stN hl M rad ord nr lim k y'.1)
      rw [h2, stN_re hM hr ho h1]
    · show y.2.2.1 + stN hl M rad ord nr lim k y.1 = y'.2.2.1 + stN hl M rad ord nr lim k y'.1
      rw [h3, stN_re hM hr ho h1]
theorem run_x {hl M rad ord nr lim : Nat} {c s : Nat → Int32} : ∀ d k (y : RunZ), y.2.1 = nI y.2.2.1 → (itr (stp hl 0 M rad ord nr lim c s) k d y).2.1 = nI (itr (stp hl 0 M rad ord nr lim c s) k d y).2.2.1 := by
  intro d
  induction d with
  | zero => intro k y h; exact h
  | succ d ih =>
    intro k y h
    refine ih (k + 1) _ ?_
    show stX 0 M rad k y.2.1 (stN hl M rad ord nr lim k y.1) = nI (y.2.2.1 + stN hl M rad ord nr lim k y.1)
    unfold stX
    rw [if_neg (by omega), h, nI_add]
/-- a run forward, all stages -/
noncomputable def runT (M rad ord nr lim : Nat) (c s : Nat → Int32) (z : RowZ) : RunZ := itr (stp 1 0 M rad ord nr lim c s) 0 (nst M rad) (z, 0, 0, fun _ => 0)
/-- how often all is halved -/
noncomputable def tS (M rad ord nr lim : Nat) (c s : Nat → Int32) (z : RowZ) : Nat := (runT M rad ord nr lim c s z).2.2.1
theorem runT_SB {M rad ord nr lim : Nat} {c s : Nat → Int32} {z : RowZ} (hc : CFG M rad ord nr lim) (hT : TBB c s) (hB : BDz M z (2 ^ 16)) : SB M (runT M rad ord nr lim c s z).1 (tS M rad ord nr lim c s z) (nst M rad) := by
  have := SB_run (bk := 0) hc hT (nst M rad) 0 (z, 0, 0, fun _ => 0) 0 (by omega) (B_SB hB)
  rw [Nat.zero_add] at this
  exact this
theorem class_run {M rad ord nr lim : Nat} {h c s : Nat → Int32} {z : RowZ} (hc : CFG M rad ord nr lim) (e : SHF M rad ord h) (hT : TBB c s) (hB : BDz M z (2 ^ 16)) {re im : Nat → Int32} (hz : RE32 (re, im) z) (ha si sr wi wr : Nat → Int32) :
    ∃ ha' im' re' si' sr' wi' wr', fX0_doStages 0 0 0 (nI (2 ^ M)) (nI M) (nI lim) (nI ord) (nI nr) (nI (nst M rad)) ha im re h si sr wi wr c s 5 1 = some (nI (tS M rad ord nr lim c s z), nI (tS M rad ord nr lim c s z), nI (nst M rad), ha', im', re', si', sr', wi', wr') ∧ RE32 (re', im') (runT M rad ord nr lim c s z).1 := by
  obtain ⟨hM, hr, ho, hn, hl1, hl2⟩ := id hc
  have hns := nst_le hM hr
  obtain ⟨si', sr', wi', wr', e1⟩ := doStages_eq (hl := 1) (bk := 0) (k := 0) (m := 5) (by decide) (by decide) hc (by omega) (by decide) e hT (re, im) (fun _ => BD_z hM hz hB) 0 ha si sr wi wr
  rw [show min 5 (nst M rad - 0) = nst M rad by omega, Nat.zero_add] at e1
  have hU := run_re (hl := 1) (bk := 0) (nr := nr) (lim := lim) (c := c) (s := s) hM hr ho (nst M rad) 0 ((re, im), 0, 0, ha) (z, 0, 0, fun _ => 0) (by omega) ⟨hz, rfl, rfl⟩
  have hx := run_x (hl := 1) (M := M) (rad := rad) (ord := ord) (nr := nr) (lim := lim) (c := c) (s := s) (nst M rad) 0 ((re, im), 0, 0, ha) rfl
  obtain ⟨u1, u2, u3⟩ := hU
  obtain ⟨Y, eY⟩ : ∃ Y, Y = itr (stp 1 0 M rad ord nr lim c s) 0 (nst M rad) ((re, im), 0, 0, ha) := ⟨_, rfl⟩
  rw [← eY] at e1 hx u1 u3
  dsimp only at e1
  have u3' : Y.2.2.1 = tS M rad ord nr lim c s z := u3
  rw [hx, u3'] at e1
  exact ⟨Y.2.2.2, Y.1.2, Y.1.1, si', sr', wi', wr', e1, u1⟩
theorem ref_run {b M rad ord nr lim : Nat} {all told qua c s ha : Nat → Int32} {z : RowZ} (hb : b ≤ 22) (hc : CFG M rad ord nr lim) (hm : MOK M told qua c s) (hT : TBB c s) (hB : BDz M z (2 ^ 16)) (hZ : ZR M z) (hw : RWS all b z 0 0 0 ha) (li lr : Nat → Int32) :
    ∃ all' li' lr' ha', fX10_beatsAll (nI b) (nI rad) (nI ord) (nI nr) (nI lim) 1 (nI M) all li lr qua told = some (all', li', lr') ∧ RWS all' b (runT M rad ord nr lim c s z).1 (nI (tS M rad ord nr lim c s z)) (nst M rad) 0 ha' ∧ FRB all all' b := by
  obtain ⟨hM, hr, ho, hn, hl1, hl2⟩ := id hc
  have hns := nst_le hM hr
  obtain ⟨all', li', lr', e, g1, g2⟩ := beatsAll_eq (hl := 1) (bk := 0) (k := 0) hb (by decide) (by decide) hc (by omega) hm hT hw hZ (fun _ => hB) 0 li lr
  rw [Nat.sub_zero] at g1
  have hU := run_re (hl := 1) (bk := 0) (nr := nr) (lim := lim) (c := c) (s := s) hM hr ho (nst M rad) 0 (z, 0, 0, ha) (z, 0, 0, fun _ => 0) (by omega) ⟨RE_r, rfl, rfl⟩
  have hx := run_x (hl := 1) (M := M) (rad := rad) (ord := ord) (nr := nr) (lim := lim) (c := c) (s := s) (nst M rad) 0 (z, 0, 0, ha) rfl
  obtain ⟨u1, u2, u3⟩ := hU
  have e5 : nI (tS M rad ord nr lim c s z) = (itr (stp 1 0 M rad ord nr lim c s) 0 (nst M rad) (z, 0, 0, ha)).2.1 := by rw [hx, u3]; rfl
  exact ⟨all', li', lr', _, e, by rw [e5]; exact RWS_z (RE_s u1) (fun _ _ => rfl) g1, g2⟩
/-- bank 1 alone changed -/
def FB1 (all all' : Nat → Int32) : Prop := ∀ j, (j < 136 ∨ 272 ≤ j) → all' j = all j
theorem FB1_t {a b c : Nat → Int32} (h1 : FB1 a b) (h2 : FB1 b c) : FB1 a c := fun j hj => (h2 j hj).trans (h1 j hj)
theorem FRB_1 {a b : Nat → Int32} (h : FRB a b 1) : FB1 a b := fun j hj => h j (by omega)
theorem asWas_x {all : Nat → Int32} {w : RowZ} (bank : Int32) (ha : Nat → Int32) (hw : WASR all 0 w) : ∃ all', fX10_asWas bank all = some (nI 1, all') ∧ RWS all' 1 w 0 0 0 ha ∧ WASR all' 1 w ∧ FB1 all all' := by
  have w2 := WASR_0 hw
  refine ⟨_, asWas_eq bank all, ⟨fun p hp => ?_, ?_, ?_, ?_, fun j hj => ?_⟩, fun p hp => ?_, fun j hj => ?_⟩
  · unfold wasF begF
    rw [blk_out (by omega), blk_out (by omega), pk_un (by omega), pk_un (by omega), pk_un (by omega), pk_un (by omega), pk_un (by omega), pk_un (by omega), blk_in (by omega) (by omega), blk_in (by omega) (by omega), show 64 + (136 * 1 + p - 136) = 64 + p by omega, show 64 + (136 * 1 + 32 + p - 136) = 96 + p by omega]
    exact w2 p hp
  · unfold wasF begF
    rw [blk_out (by omega), pk_un (by omega), pk_un (by omega), pk_us]
  · unfold wasF begF
    rw [blk_out (by omega), pk_un (by omega), pk_us]; rfl
  · unfold wasF begF
    rw [blk_out (by omega), pk_us]; rfl
  · unfold wasF begF
    rw [← Nat.add_assoc, blk_at hj, if_neg (by omega)]
  · unfold wasF begF
    constructor
    · rw [blk_out (by omega), pk_un (by omega), pk_un (by omega), pk_un (by omega), blk_out (by omega), blk_in (by omega) (by omega), show 136 * 1 + 64 + p - 136 = 64 + p by omega]
      exact (w2 p hp).1
    · rw [blk_out (by omega), pk_un (by omega), pk_un (by omega), pk_un (by omega), blk_out (by omega), blk_in (by omega) (by omega), show 136 * 1 + 96 + p - 136 = 96 + p by omega]
      exact (w2 p hp).2
  · unfold wasF begF
    rw [blk_out (by omega), pk_un (by omega), pk_un (by omega), pk_un (by omega), blk_out (by omega), blk_out (by omega)]
theorem limC_t : (List.range 17).all (fun b => !decide (8 ≤ b) || decide (((1 : Int32) <<< ((nI b - (1 : Int32)) &&& 31)) - (1 : Int32) = nI (lmN b))) = true := by decide +kernel
theorem lim_e {b : Nat} (h : 8 ≤ b ∧ b ≤ 16) : ((1 : Int32) <<< ((nI b - (1 : Int32)) &&& 31)) - (1 : Int32) = nI (lmN b) := by
  have h1 := all_x limC_t (show b < 17 by omega)
  simp only [decide_eq_true h.1, Bool.not_true, Bool.false_or, decide_eq_true_eq] at h1
  exact h1
theorem limitOf_eq {b : Nat} (h : 8 ≤ b ∧ b ≤ 16) : fX10_limitOf (nI b) = some (nI (lmN b)) := by
  unfold fX10_limitOf
  rw [lim_e h]
theorem takeBits_eq {b : Nat} (h : 8 ≤ b ∧ b ≤ 16) (x y : Int32) : fX8_takeBits x y (nI b) = some (nI b, nI (lmN b)) := by
  unfold fX8_takeBits
  simp only [nm]
  rw [lim_e h]
theorem asItIs_eq {bits rad ord nr : Nat} {told : Nat → Int32} (hb : 8 ≤ bits ∧ bits ≤ 16) (t1 : told 1 = nI bits) (t2 : told 2 = nI rad) (t3 : told 3 = nI ord) (t4 : told 4 = nI nr) (a b c d e f : Int32) : fX10_asItIs a b c d e f told = some (0, nI rad, nI ord, nI nr, nI (lmN bits), 1) := by
  unfold fX10_asItIs fX10_byText
  simp only [nm, gd_t (show inb (2 : Int32) 12 = true by decide), gd_t (show inb (3 : Int32) 12 = true by decide), gd_t (show inb (4 : Int32) 12 = true by decide), gd_t (show inb (1 : Int32) 12 = true by decide), show Int32.toNatClampNeg 1 = 1 from rfl, show Int32.toNatClampNeg 2 = 2 from rfl, show Int32.toNatClampNeg 3 = 3 from rfl, show Int32.toNatClampNeg 4 = 4 from rfl, t1, t2, t3, t4]
  rw [limitOf_eq hb, bd1_s, bd5_s]
theorem copyFrom_eq {M bits rad ord nr sd : Nat} (hC : CF M bits rad ord nr sd) (a b c d e f g h i : Int32) (sh : Nat → Int32) : ∃ sh', fX8_copyFrom a b c d e f g h i (nI (2 ^ M)) (nI M) (nI bits) (nI rad) (nI ord) (nI nr) (nI sd) sh = some (nI (2 ^ M), nI M, nI bits, nI (lmN bits), nI rad, nI ord, nI nr, nI sd, nI (nst M rad), sh') ∧ SHF M rad ord sh' := by
  obtain ⟨hM, hb, hr, ho, hn, hs⟩ := hC
  obtain ⟨sh', e1, e2⟩ := takeShape_eq hM hr ho e f i sh
  refine ⟨sh', ?_, e2⟩
  unfold fX8_copyFrom
  rw [takeBits_eq hb, bd2_s, e1, bd4_s]
theorem restartFrom_eq (x d b : Int32) (wi wr im re : Nat → Int32) : ∃ im' re', fX7_restartFrom x d b wi wr im re = some (0, 0, 0, im', re') ∧ RE32 (re', im') (wr, wi) := by
  have hck : cpok 0 0 32 32 32 = true := by decide
  refine ⟨va_cpy wi im 0 0 32, va_cpy wr re 0 0 32, ?_, fun p hp => ⟨sb_cpy0 hp, sb_cpy0 hp⟩⟩
  unfold fX7_restartFrom fX7_begin
  simp only [gd_t hck, nm]
  rfl
theorem WVR_1 {M rad lim : Nat} {all all' : Nat → Int32} {exp done back : Int32} {re im wr wi ha : Nat → Int32} (h : FB1 all all') (hw : WVR M rad lim all exp done back re im wr wi ha) : WVR M rad lim all' exp done back re im wr wi ha := WVR_c (fun j hj => h j (by omega)) hw
theorem PSTR_1 {M rad lim : Nat} {all all' : Nat → Int32} {next held undos : Int32} {cells : Nat → Int32} (h : FB1 all all') (hw : PSTR M rad lim all next held cells undos) : PSTR M rad lim all' next held cells undos := PSTR_c (fun j hj => h j (by omega)) hw
theorem IMGR_1 {M rad lim : Nat} {all all' : Nat → Int32} {ik ii : Int32} {image : Nat → Int32} (h : FB1 all all') (hw : IMGR M rad lim all ik ii image) : IMGR M rad lim all' ik ii image := IMGR_c (fun j h1 h2 => h j (by omega)) hw
