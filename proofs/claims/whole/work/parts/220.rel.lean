/-! ===== what ties the class to the reference ===== -/
def lmN (bits : Nat) : Nat := 2 ^ (bits - 1) - 1
def CF (M bits rad ord nr sd : Nat) : Prop := isM M ∧ (8 ≤ bits ∧ bits ≤ 16) ∧ isRad rad ∧ ord < 2 ∧ nr < 2 ∧ sd ≤ 99999
theorem lm_all : (List.range 17).all (fun b => !decide (8 ≤ b) || (decide (127 ≤ lmN b) && decide (lmN b < 2 ^ 15))) = true := by decide +kernel
theorem lm_x {bits : Nat} (h : 8 ≤ bits ∧ bits ≤ 16) : 127 ≤ lmN bits ∧ lmN bits < 2 ^ 15 := by
  have h1 := all_x lm_all (show bits < 17 by omega)
  simp only [decide_eq_true h.1, Bool.not_true, Bool.false_or, Bool.and_eq_true, decide_eq_true_eq] at h1
  exact h1
theorem CF_c {M bits rad ord nr sd : Nat} (h : CF M bits rad ord nr sd) : CFG M rad ord nr (lmN bits) := ⟨h.1, h.2.2.1, h.2.2.2.1, h.2.2.2.2.1, lm_x h.2.1⟩
def WAYR (M bits rad ord nr sd : Nat) (size log wb lim radix order near seed stages : Int32) (shifts : Nat → Int32) : Prop :=
  size = nI (2 ^ M) ∧ log = nI M ∧ wb = nI bits ∧ lim = nI (lmN bits) ∧ radix = nI rad ∧ order = nI ord ∧ near = nI nr ∧ seed = nI sd ∧ stages = nI (nst M rad) ∧ SHF M rad ord shifts
def ctb (M j : Nat) : Int32 := (fX6_cosine (nI j <<< ((5 - nI M) &&& 31))).getD 0
def stb (M j : Nat) : Int32 := (fX6_cosine (nI j <<< ((5 - nI M) &&& 31) + 24)).getD 0
def TRN (M : Nat) (cos sin : Nat → Int32) : Prop := ∀ j, j < 32 → cos j = ctb M j ∧ sin j = stb M j
def rtN (M : Nat) : Nat := [96, 22, 64, 8, 28].getD (M - 1) 0
def pwT (M : Nat) : Nat → Nat
  | 0 => 1
  | j + 1 => pwT M j * rtN M % 97
def RNGR (M : Nat) (rsize rlog : Int32) (powers : Nat → Int32) : Prop := rsize = nI (2 ^ M) ∧ rlog = nI M ∧ ∀ j, j < 32 → powers j = nI (pwT M j)
def MODR (M bits rad ord nr sd : Nat) (bank runRadix runOrder runNear runLimit runHalves power : Int32) (words told quarter roots : Nat → Int32) : Prop :=
  bank = 0 ∧ runRadix = nI rad ∧ runOrder = nI ord ∧ runNear = nI nr ∧ runLimit = nI (lmN bits) ∧ runHalves = 1 ∧ power = nI M ∧ words = mX10_52 ∧ quarter = mX10_61 ∧
  told 0 = nI (2 ^ M) ∧ told 1 = nI bits ∧ told 2 = nI rad ∧ told 3 = nI ord ∧ told 4 = nI nr ∧ told 5 = nI sd ∧ ∀ j, j < 2 ^ M → roots j = nI (pwT M j)
/-- the points as they were, in a bank -/
def WASR (all : Nat → Int32) (b : Nat) (w : RowZ) : Prop := ∀ p, p < 32 → all (136 * b + 64 + p) = w.1 p ∧ all (136 * b + 96 + p) = w.2 p
/-- what always holds of a wave -/
def WVI (M rad lim : Nat) (z w : RowZ) (x : Int32) (k bk : Nat) : Prop :=
  k ≤ nst M rad ∧ bk < 2 ∧ ZR M z ∧ ZR M w ∧ BDz M z (2 ^ 16) ∧ BDz M w lim ∧ (k = 0 → bk = 0 → x = 0 ∧ BDz M z lim) ∧ (bk = 0 → ∃ S, x = nI S ∧ SB M z S k)
def WVR (M rad lim : Nat) (all : Nat → Int32) (exp done back : Int32) (re im wr wi halved : Nat → Int32) : Prop :=
  ∃ k bk, done = nI k ∧ back = nI bk ∧ RWS all 0 (re, im) exp k bk halved ∧ WASR all 0 (wr, wi) ∧ WVI M rad lim (re, im) (wr, wi) exp k bk
/-- a wave written into cells -/
def CSL (cells : Nat → Int32) (base : Nat) (z w : RowZ) (x : Int32) (k bk : Nat) (ha : Nat → Int32) : Prop :=
  (∀ p, p < 32 → cells (base + p) = z.1 p ∧ cells (base + 32 + p) = z.2 p ∧ cells (base + 64 + p) = w.1 p ∧ cells (base + 96 + p) = w.2 p) ∧ (∀ j, j < 5 → cells (base + 128 + j) = ha j) ∧ cells (base + 133) = x ∧ cells (base + 134) = nI k ∧ cells (base + 135) = nI bk
def SLT (M rad lim : Nat) (cells : Nat → Int32) (base : Nat) (all : Nat → Int32) (b : Nat) : Prop :=
  ∃ z w x k bk ha, CSL cells base z w x k bk ha ∧ RWS all b z x k bk ha ∧ WASR all b w ∧ WVI M rad lim z w x k bk
def PSTR (M rad lim : Nat) (all : Nat → Int32) (next held : Int32) (cells : Nat → Int32) (undos : Int32) : Prop :=
  ∃ nx h, next = nI nx ∧ nx < 20 ∧ held = nI h ∧ h ≤ 20 ∧ undos = nI h ∧ ∀ j, j < h → SLT M rad lim cells (136 * ((nx + 20 - h + j) % 20)) all (3 + j)
def IMGR (M rad lim : Nat) (all : Nat → Int32) (imageKept isImage : Int32) (image : Nat → Int32) : Prop :=
  (imageKept = 0 ∧ isImage = 0) ∨ (imageKept = 1 ∧ isImage = 1 ∧ SLT M rad lim image 0 all 2)
/-- a note, or a strike -/
def NOT1 (M : Nat) (kinds targets bins noted1 : Nat → Int32) (i : Nat) : Prop :=
  (∃ t, t < i ∧ kinds i = 2 ∧ targets i = nI t ∧ noted1 (3 * i) = -1 ∧ noted1 (3 * i + 1) = nI t) ∨
  (∃ k v e, k < 2 ^ M ∧ v < 97 ∧ e < 2 ∧ kinds i = nI e ∧ targets i = nI k ∧ bins i = nI v ∧ noted1 (3 * i) = nI k ∧ noted1 (3 * i + 1) = nI v ∧ noted1 (3 * i + 2) = nI e)
def NTSR (M : Nat) (total knownBy : Int32) (kinds targets bins : Nat → Int32) (notedMany knownTold : Int32) (noted1 : Nat → Int32) : Prop :=
  ∃ n, total = nI n ∧ n ≤ 24 ∧ notedMany = nI n ∧ knownBy = knownTold ∧ (knownTold = -1 ∨ ∃ j, j ≤ n ∧ knownTold = nI j) ∧ ∀ i, i < n → NOT1 M kinds targets bins noted1 i
def TAPR (taped tapeSize : Int32) (tape mtape : Nat → Int32) : Prop := ∃ n, n ≤ 700 ∧ taped = nI n ∧ tapeSize = nI n ∧ ∀ j, j < n → tape j = mtape j
/-! tables of turns -/
theorem ctbC_t : (List.range 5).all (fun m => (List.range 32).all fun j => decide (fX6_cosine (nI j <<< ((5 - nI (m + 1)) &&& 31)) = some (ctb (m + 1) j)) && (decide (fX6_cosine (nI j <<< ((5 - nI (m + 1)) &&& 31) + 24) = some (stb (m + 1) j)) && (decide (ab (ctb (m + 1) j) ≤ 16384) && (decide (ab (stb (m + 1) j) ≤ 16384) && (!decide (j < 2 ^ (m + 1)) || (decide (fX10_cosOf mX10_61 (fun _ => nI (2 ^ (m + 1))) (nI j) = some (ctb (m + 1) j)) && decide (fX10_sinOf mX10_61 (fun _ => nI (2 ^ (m + 1))) (nI j) = some (stb (m + 1) j)))))))) = true := by decide +kernel
theorem ctb_x {M j : Nat} (hM : isM M) (hj : j < 32) : fX6_cosine (nI j <<< ((5 - nI M) &&& 31)) = some (ctb M j) ∧ fX6_cosine (nI j <<< ((5 - nI M) &&& 31) + 24) = some (stb M j) ∧ ab (ctb M j) ≤ 16384 ∧ ab (stb M j) ≤ 16384 ∧ (j < 2 ^ M → fX10_cosOf mX10_61 (fun _ => nI (2 ^ M)) (nI j) = some (ctb M j) ∧ fX10_sinOf mX10_61 (fun _ => nI (2 ^ M)) (nI j) = some (stb M j)) := by
  obtain ⟨m1, m5⟩ := hM
  have h := all_x (all_x ctbC_t (show M - 1 < 5 by omega)) hj
  rw [show M - 1 + 1 = M by omega] at h
  simp only [Bool.and_eq_true, Bool.or_eq_true, Bool.not_eq_true', decide_eq_true_eq, decide_eq_false_iff_not] at h
  refine ⟨h.1, h.2.1, h.2.2.1, h.2.2.2.1, fun hp => ?_⟩
  rcases h.2.2.2.2 with q | q
  · exact absurd hp q
  · exact q
theorem TRN_B {M : Nat} {c s : Nat → Int32} (hM : isM M) (h : TRN M c s) : TBB c s := fun j hj => by
  rw [(h j hj).1, (h j hj).2]
  exact ⟨(ctb_x hM hj).2.2.1, (ctb_x hM hj).2.2.2.1⟩
theorem TRN_m {M : Nat} {c s told : Nat → Int32} (hM : isM M) (h : TRN M c s) (h0 : told 0 = nI (2 ^ M)) : MOK M told mX10_61 c s := by
  have hN := isM_pow hM
  refine ⟨h0, fun j hj => ?_⟩
  have e1 : fX10_cosOf mX10_61 told (nI j) = fX10_cosOf mX10_61 (fun _ => nI (2 ^ M)) (nI j) := by
    unfold fX10_cosOf
    rw [size_eq, size_eq, h0]
  have e2 : fX10_sinOf mX10_61 told (nI j) = fX10_sinOf mX10_61 (fun _ => nI (2 ^ M)) (nI j) := by
    unfold fX10_sinOf
    rw [size_eq, size_eq, h0]
  rw [e1, e2, (h j (by omega)).1, (h j (by omega)).2]
  exact (ctb_x hM (by omega)).2.2.2.2 hj
/-! what does not see a change -/
theorem RWS_c {all all' : Nat → Int32} {b : Nat} {z : RowZ} {x : Int32} {k bk : Nat} {ha : Nat → Int32} (h : ∀ j, 136 * b ≤ j → j < 136 * b + 136 → all' j = all j) (hw : RWS all b z x k bk ha) : RWS all' b z x k bk ha := by
  obtain ⟨w1, w2, w3, w4, w5⟩ := hw
  refine ⟨fun p hp => ?_, ?_, ?_, ?_, fun j hj => ?_⟩
  · rw [h _ (by omega) (by omega), h _ (by omega) (by omega)]; exact w1 p hp
  · rw [h _ (by omega) (by omega)]; exact w2
  · rw [h _ (by omega) (by omega)]; exact w3
  · rw [h _ (by omega) (by omega)]; exact w4
  · rw [h _ (by omega) (by omega)]; exact w5 j hj
theorem WASR_c {all all' : Nat → Int32} {b : Nat} {w : RowZ} (h : ∀ j, 136 * b ≤ j → j < 136 * b + 136 → all' j = all j) (hw : WASR all b w) : WASR all' b w := fun p hp => by
  rw [h _ (by omega) (by omega), h _ (by omega) (by omega)]; exact hw p hp
theorem WVR_c {M rad lim : Nat} {all all' : Nat → Int32} {exp done back : Int32} {re im wr wi halved : Nat → Int32} (h : ∀ j, j < 136 → all' j = all j) (hw : WVR M rad lim all exp done back re im wr wi halved) : WVR M rad lim all' exp done back re im wr wi halved := by
  obtain ⟨k, bk, a1, a2, a3, a4, a5⟩ := hw
  exact ⟨k, bk, a1, a2, RWS_c (fun j h1 h2 => h j (by omega)) a3, WASR_c (fun j h1 h2 => h j (by omega)) a4, a5⟩
theorem SLT_c {M rad lim : Nat} {cells cells' : Nat → Int32} {base : Nat} {all all' : Nat → Int32} {b : Nat} (hc : ∀ j, base ≤ j → j < base + 136 → cells' j = cells j) (h : ∀ j, 136 * b ≤ j → j < 136 * b + 136 → all' j = all j) (hs : SLT M rad lim cells base all b) : SLT M rad lim cells' base all' b := by
  obtain ⟨z, w, x, k, bk, ha, ⟨c1, c2, c3, c4, c5⟩, a2, a3, a4⟩ := hs
  refine ⟨z, w, x, k, bk, ha, ⟨fun p hp => ?_, fun j hj => ?_, ?_, ?_, ?_⟩, RWS_c h a2, WASR_c h a3, a4⟩
  · rw [hc _ (by omega) (by omega), hc _ (by omega) (by omega), hc _ (by omega) (by omega), hc _ (by omega) (by omega)]; exact c1 p hp
  · rw [hc _ (by omega) (by omega)]; exact c2 j hj
  · rw [hc _ (by omega) (by omega)]; exact c3
  · rw [hc _ (by omega) (by omega)]; exact c4
  · rw [hc _ (by omega) (by omega)]; exact c5
theorem IMGR_c {M rad lim : Nat} {all all' : Nat → Int32} {ik ii : Int32} {image : Nat → Int32} (h : ∀ j, 272 ≤ j → j < 408 → all' j = all j) (hs : IMGR M rad lim all ik ii image) : IMGR M rad lim all' ik ii image := by
  rcases hs with q | ⟨q1, q2, q3⟩
  · exact Or.inl q
  · exact Or.inr ⟨q1, q2, SLT_c (fun _ _ _ => rfl) (fun j h1 h2 => h j (by omega) (by omega)) q3⟩
theorem PSTR_c {M rad lim : Nat} {all all' : Nat → Int32} {next held undos : Int32} {cells : Nat → Int32} (h : ∀ j, 408 ≤ j → all' j = all j) (hs : PSTR M rad lim all next held cells undos) : PSTR M rad lim all' next held cells undos := by
  obtain ⟨nx, hh, a1, a2, a3, a4, a5, a6⟩ := hs
  exact ⟨nx, hh, a1, a2, a3, a4, a5, fun j hj => SLT_c (fun _ _ _ => rfl) (fun i h1 h2 => h i (by omega)) (a6 j hj)⟩
