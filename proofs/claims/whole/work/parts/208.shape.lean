/-! ===== shapes: stages, radices, places turned round ===== -/
theorem rp_congr {h h' : Nat → Int32} {m : Nat} (hm : m ≤ 5) (e : ∀ k, k < m → h k = h' k) : ∀ n j v2 v3, j ≤ m → fX8_reversedPlace_12 h n v2 v3 (nI j - 1) = fX8_reversedPlace_12 h' n v2 v3 (nI j - 1) := by
  intro n
  induction n with
  | zero => intro j v2 v3 _; rfl
  | succ n ih =>
    intro j v2 v3 hj
    rw [fX8_reversedPlace_12.eq_2, fX8_reversedPlace_12.eq_2]
    rcases Nat.eq_zero_or_pos j with rfl | h0
    · rw [if_pos (show nI 0 - 1 < 0 by decide), if_pos (show nI 0 - 1 < 0 by decide)]
    · obtain ⟨i, rfl⟩ : ∃ i, j = i + 1 := ⟨j - 1, by omega⟩
      rw [nI_pred, if_neg (nI_pos (by omega)), if_neg (nI_pos (by omega)), gd_t (inb_nI (show i < 5 by omega) (by decide)), gd_t (inb_nI (show i < 5 by omega) (by decide)), nI_clamp (by omega), e i (by omega)]
      simp only [nm]
      rw [show nI i + (-1 : Int32) = nI i - 1 by grind]
      exact ih i _ _ (by omega)
theorem reversedPlace_congr {h h' : Nat → Int32} {m : Nat} (hm : m ≤ 5) (e : ∀ k, k < m → h k = h' k) (p : Int32) : fX8_reversedPlace (nI m) h p = fX8_reversedPlace (nI m) h' p := by
  unfold fX8_reversedPlace
  exact rp_congr hm e FU m p 0 (Nat.le_refl _)
theorem do_congr {h h' : Nat → Int32} {m d : Nat} (hm : m ≤ 5) (hd : d < m) (e : ∀ k, k < m → h k = h' k) : ∀ n j v3, m - 1 - d ≤ j → j < m → fX8_digitOf_10 (nI m) h n (nI d) v3 (nI j) = fX8_digitOf_10 (nI m) h' n (nI d) v3 (nI j) := by
  intro n
  induction n with
  | zero => intro j v3 _ _; rfl
  | succ n ih =>
    intro j v3 h1 h2
    have e9 : nI m - 1 - nI d = nI (m - 1 - d) := by rw [show (1 : Int32) = nI 1 from rfl, pk_sub (by omega), pk_sub (by omega)]
    rw [fX8_digitOf_10.eq_2, fX8_digitOf_10.eq_2, e9]
    by_cases h3 : j ≤ m - 1 - d
    · rw [if_pos (nI_le h3 (by omega)), if_pos (nI_le h3 (by omega))]
      unfold fX8_digitOf_39
      simp only [nm]
      rw [e9, nI_clamp (by omega), e _ (by omega)]
    · rw [if_neg (nI_ge (by omega) (by omega)), if_neg (nI_ge (by omega) (by omega)), gd_t (inb_nI (show j < 5 by omega) (by decide)), gd_t (inb_nI (show j < 5 by omega) (by decide)), nI_clamp (by omega), e j h2]
      simp only [nm]
      obtain ⟨i, rfl⟩ : ∃ i, j = i + 1 := ⟨j - 1, by omega⟩
      rw [pk_m1]
      exact ih i _ (by omega) (by omega)
theorem digitOf_congr {h h' : Nat → Int32} {m d : Nat} (hm : m ≤ 5) (hd : d < m) (e : ∀ k, k < m → h k = h' k) (p : Int32) : fX8_digitOf (nI m) h p (nI d) = fX8_digitOf (nI m) h' p (nI d) := by
  unfold fX8_digitOf
  simp only [nm]
  rw [show nI m - 1 = nI (m - 1) from by rw [show (1 : Int32) = nI 1 from rfl, pk_sub (by omega)]]
  exact do_congr hm hd e FU (m - 1) p (by omega) (by omega)
/-- where a place goes, and what comes to it -/
def rvN (M rad ord p : Nat) : Nat := match fX10_reversedOf (nI rad) (nI ord) (nI M) (nI p) with
  | some x => x.toNatClampNeg
  | none => 0
def rwN (M rad ord p : Nat) : Nat := ((List.range (2 ^ M)).find? fun q => rvN M rad ord q == p).getD 0
def rvC : Nat → Nat → Nat → Bool := fun M rad ord => (List.range (2 ^ M)).all fun p => decide (fX10_reversedOf (nI rad) (nI ord) (nI M) (nI p) = some (nI (rvN M rad ord p))) && (decide (rvN M rad ord p < 2 ^ M) && (decide (rwN M rad ord p < 2 ^ M) && decide (rvN M rad ord (rwN M rad ord p) = p)))
theorem rvC_t : shapes rvC = true := by decide +kernel
theorem rv_x {M rad ord p : Nat} (hM : isM M) (hr : isRad rad) (ho : ord < 2) (hp : p < 2 ^ M) : fX10_reversedOf (nI rad) (nI ord) (nI M) (nI p) = some (nI (rvN M rad ord p)) ∧ rvN M rad ord p < 2 ^ M ∧ rwN M rad ord p < 2 ^ M ∧ rvN M rad ord (rwN M rad ord p) = p := by
  have h := all_x (shapes_x rvC_t hM hr ho) hp
  simp only [Bool.and_eq_true, decide_eq_true_eq] at h
  exact h
theorem nst_le {M rad : Nat} (hM : isM M) (hr : isRad rad) : 1 ≤ nst M rad ∧ nst M rad ≤ 5 := by
  obtain ⟨a, b⟩ := hM
  unfold nst
  rcases hr with rfl | rfl
  · rw [if_pos rfl]; exact ⟨a, b⟩
  · rw [if_neg (by decide)]; omega
/-- the stages' shifts are laid down -/
def SHF (M rad ord : Nat) (h : Nat → Int32) : Prop := ∀ k, k < nst M rad → h k = shf M rad ord k
theorem revp_eq {M rad ord p : Nat} {h : Nat → Int32} (hM : isM M) (hr : isRad rad) (ho : ord < 2) (hp : p < 2 ^ M) (e : SHF M rad ord h) : fX8_reversedPlace (nI (nst M rad)) h (nI p) = some (nI (rvN M rad ord p)) := by
  rw [reversedPlace_congr (nst_le hM hr).2 e, rev_all hM hr ho hp, (rv_x hM hr ho hp).1]
/-- a stage's shift, and the shifts ahead of it -/
def shn (M rad ord k : Nat) : Nat := if rad = 2 then 1 else if M % 2 = 1 ∧ k = (if ord = 0 then 0 else nst M rad - 1) then 1 else 2
def ahd (M rad ord : Nat) : Nat → Nat
  | 0 => 0
  | k + 1 => ahd M rad ord k + shn M rad ord k
def lspn (M rad ord k : Nat) : Nat := if ord = 0 then ahd M rad ord k else M - ahd M rad ord k - shn M rad ord k
def grw (M rad ord k : Nat) : Nat := if shn M rad ord k = 2 then 12 else if ord = 0 then 5 else 6
def shC : Nat → Nat → Nat → Bool := fun M rad ord => (List.range (nst M rad)).all fun k =>
  decide (shf M rad ord k = nI (shn M rad ord k)) && (decide (fX10_radixAt (nI rad) (nI ord) (nI M) (nI k) = some (nI (2 ^ shn M rad ord k))) && (decide (ahd M rad ord k + shn M rad ord k ≤ M) && (decide (lspn M rad ord k + shn M rad ord k ≤ M) && decide (fX10_stagesMany (nI rad) (nI M) = some (nI (nst M rad))))))
theorem shC_t : shapes shC = true := by decide +kernel
theorem sh_x {M rad ord k : Nat} (hM : isM M) (hr : isRad rad) (ho : ord < 2) (hk : k < nst M rad) : shf M rad ord k = nI (shn M rad ord k) ∧ fX10_radixAt (nI rad) (nI ord) (nI M) (nI k) = some (nI (2 ^ shn M rad ord k)) ∧ ahd M rad ord k + shn M rad ord k ≤ M ∧ lspn M rad ord k + shn M rad ord k ≤ M ∧ (shn M rad ord k = 1 ∨ shn M rad ord k = 2) := by
  have h := all_x (shapes_x shC_t hM hr ho) hk
  simp only [Bool.and_eq_true, decide_eq_true_eq] at h
  refine ⟨h.1, h.2.1, h.2.2.1, h.2.2.2.1, ?_⟩
  unfold shn
  repeat' split
  all_goals simp
theorem stagesMany_eq {M rad : Nat} (hM : isM M) (hr : isRad rad) : fX10_stagesMany (nI rad) (nI M) = some (nI (nst M rad)) := by
  have h := all_x (shapes_x shC_t (ord := 0) hM hr (by decide)) (show 0 < nst M rad from (nst_le hM hr).1)
  simp only [Bool.and_eq_true, decide_eq_true_eq] at h
  exact h.2.2.2.2
theorem takeShape_eq {M rad ord : Nat} (hM : isM M) (hr : isRad rad) (ho : ord < 2) (r o st : Int32) (h : Nat → Int32) : ∃ h', fX8_takeShape (nI M) r o st h (nI rad) (nI ord) = some (nI rad, nI ord, nI (nst M rad), h') ∧ SHF M rad ord h' := by
  obtain ⟨m1, m5⟩ := hM
  rcases (show M = 1 ∨ M = 2 ∨ M = 3 ∨ M = 4 ∨ M = 5 by omega) with rfl | rfl | rfl | rfl | rfl <;> rcases hr with rfl | rfl <;> rcases (show ord = 0 ∨ ord = 1 by omega) with rfl | rfl <;> (refine ⟨_, rfl, ?_⟩; intro k hk; have h5 : k < 5 := Nat.lt_of_lt_of_le hk (by decide); rcases (show k = 0 ∨ k = 1 ∨ k = 2 ∨ k = 3 ∨ k = 4 by omega) with rfl | rfl | rfl | rfl | rfl <;> first | rfl | (exfalso; revert hk; decide))
theorem digC_t : shapes (fun M rad ord => (List.range (2 ^ M)).all fun p => (List.range (nst M rad)).all fun d => decide (fX8_digitOf (nI (nst M rad)) (shf M rad ord) (nI p) (nI d) = fX10_digitOf (nI rad) (nI ord) (nI M) (nI p) (nI d)) && (fX10_digitOf (nI rad) (nI ord) (nI M) (nI p) (nI d)).isSome) = true := by decide +kernel
theorem dig_eq {M rad ord p d : Nat} {h : Nat → Int32} (hM : isM M) (hr : isRad rad) (ho : ord < 2) (hp : p < 2 ^ M) (hd : d < nst M rad) (e : SHF M rad ord h) : ∃ x, fX8_digitOf (nI (nst M rad)) h (nI p) (nI d) = some x ∧ fX10_digitOf (nI rad) (nI ord) (nI M) (nI p) (nI d) = some x := by
  have h1 := all_x (all_x (shapes_x digC_t hM hr ho) hp) hd
  simp only [Bool.and_eq_true, decide_eq_true_eq] at h1
  rw [digitOf_congr (nst_le hM hr).2 hd e, h1.1]
  obtain ⟨x, hx⟩ := Option.isSome_iff_exists.mp h1.2
  exact ⟨x, hx, hx⟩
