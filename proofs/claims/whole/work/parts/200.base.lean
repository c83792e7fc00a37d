/-! ===== pure rows: numbers and loops ===== -/
theorem inb_nI {i n : Nat} (h : i < n) (hn : n < 2 ^ 31) : inb (nI i) n = true := by
  have e : (nI i).toInt = (i : Int) := nI_toInt (by omega)
  simp only [inb, e, Bool.and_eq_true, decide_eq_true_eq]
  omega
theorem gd_tt {β : Type} {X : Option β} : gd true X = X := rfl
theorem lit_nI (n : Nat) : (OfNat.ofNat n : Int32) = nI n := rfl
theorem FU_pos {d : Nat} (h : d < 4096) : d < FU := h
def itr {σ : Type} (step : Nat → σ → σ) : Nat → Nat → σ → σ
  | _, 0, s => s
  | i, d + 1, s => itr step (i + 1) d (step i s)
/-- a loop that counts up from i to N, and then goes on with K -/
theorem loopN {σ β : Type} (f : Nat → Nat → σ → Option β) (step : Nat → σ → σ) (N : Nat) (K : σ → Option β)
    (hs : ∀ n i s, i < N → f (n + 1) i s = f n (i + 1) (step i s)) (he : ∀ n s, f (n + 1) N s = K s) :
    ∀ d n i s, i + d = N → d < n → f n i s = K (itr step i d s) := by
  intro d
  induction d with
  | zero =>
    intro n i s h1 h2
    obtain ⟨n, rfl⟩ : ∃ m, n = m + 1 := ⟨n - 1, by omega⟩
    have h3 : i = N := by omega
    subst h3
    exact he n s
  | succ d ih =>
    intro n i s h1 h2
    obtain ⟨n, rfl⟩ : ∃ m, n = m + 1 := ⟨n - 1, by omega⟩
    rw [hs n i s (by omega), ih n (i + 1) (step i s) (by omega) (by omega)]
    rfl
/-- .. with a state that keeps J -/
theorem loopJ {σ β : Type} (f : Nat → Nat → σ → Option β) (step : Nat → σ → σ) (N : Nat) (K : σ → Option β) (J : Nat → σ → Prop)
    (hJ : ∀ i s, i < N → J i s → J (i + 1) (step i s)) (hs : ∀ n i s, i < N → J i s → f (n + 1) i s = f n (i + 1) (step i s)) (he : ∀ n s, J N s → f (n + 1) N s = K s) :
    ∀ d n i s, i + d = N → d < n → J i s → f n i s = K (itr step i d s) ∧ J N (itr step i d s) := by
  intro d
  induction d with
  | zero =>
    intro n i s h1 h2 hj
    obtain ⟨n, rfl⟩ : ∃ m, n = m + 1 := ⟨n - 1, by omega⟩
    have h3 : i = N := by omega
    subst h3
    exact ⟨he n s hj, hj⟩
  | succ d ih =>
    intro n i s h1 h2 hj
    obtain ⟨n, rfl⟩ : ∃ m, n = m + 1 := ⟨n - 1, by omega⟩
    rw [hs n i s (by omega) hj]
    exact ih n (i + 1) (step i s) (by omega) (by omega) (hJ i s (by omega) hj)
theorem itr_congr {σ : Type} {f g : Nat → σ → σ} {N : Nat} (h : ∀ i s, i < N → f i s = g i s) : ∀ d i s, i + d ≤ N → itr f i d s = itr g i d s := by
  intro d
  induction d with
  | zero => intro i s _; rfl
  | succ d ih =>
    intro i s hi
    rw [itr, itr, h i s (by omega), ih (i + 1) _ (by omega)]
/-! ===== the greatest ===== -/
def amx (x : Int32) : Int32 := if 0 ≤ x then x else 0 - x
def mx2 (a b : Int32) : Int32 := if a < b then b else a
def lgS (re im : Nat → Int32) (i : Nat) (acc : Int32) : Int32 := mx2 acc (mx2 (amx (re i)) (amx (im i)))
def lgst (re im : Nat → Int32) (a n : Nat) : Int32 := itr (lgS re im) a n 0
theorem greatest_eq (im re : Nat → Int32) (a N : Nat) (h : a ≤ N) (hN : N ≤ 32) : fX7_greatest im re (nI a) (nI N) = some (lgst re im a (N - a)) := by
  unfold fX7_greatest
  refine loopN (fun n i s => fX7_greatest_5 im re n (nI N) s (nI i)) (lgS re im) N (fun s => some s) ?_ ?_ (N - a) FU a 0 (by omega) (FU_pos (by omega))
  · intro n i s hi
    have e1 : ¬ (nI N ≤ nI i) := by rw [nI_leI (by omega) (by omega)]; omega
    have e2 : ¬ ((32 : Int32) ≤ nI i) := nI_ge (a := i) (b := 32) (by omega) (by decide)
    show fX7_greatest_5 im re (n + 1) (nI N) s (nI i) = _
    rw [fX7_greatest_5.eq_2, if_neg e1, if_neg e2]
    simp only [nm, gd_t (inb_nI (show i < 32 by omega) (by decide)), nI_clamp (show i < 2 ^ 31 by omega), nI_1]
    rfl
  · intro n s
    show fX7_greatest_5 im re (n + 1) (nI N) s (nI N) = _
    rw [fX7_greatest_5.eq_2, if_pos (by rw [nI_leI (by omega) (by omega)]; omega)]
/-! ===== places turned round: decided over all shapes ===== -/
def nst (M rad : Nat) : Nat := if rad = 2 then M else (M + 1) / 2
def shf (M rad ord k : Nat) : Int32 := if rad = 2 then 1 else if M % 2 = 1 ∧ k = (if ord = 0 then 0 else nst M rad - 1) then 1 else 2
/-- a check over all shapes: M 1 .. 5, radix 2 or 4, order 0 or 1 -/
def shapes (P : Nat → Nat → Nat → Bool) : Bool := (List.range 5).all fun m => (List.range 2).all fun r => (List.range 2).all fun o => P (m + 1) (2 + 2 * r) o
def isM (M : Nat) : Prop := 1 ≤ M ∧ M ≤ 5
def isRad (r : Nat) : Prop := r = 2 ∨ r = 4
theorem shapes_x {P : Nat → Nat → Nat → Bool} (h : shapes P = true) {M rad ord : Nat} (hM : isM M) (hr : isRad rad) (ho : ord < 2) : P M rad ord = true := by
  have h1 := List.all_eq_true.mp h (M - 1) (List.mem_range.mpr (by obtain ⟨a, b⟩ := hM; omega))
  have h2 := List.all_eq_true.mp h1 ((rad - 2) / 2) (List.mem_range.mpr (by rcases hr with rfl | rfl <;> decide))
  have h3 := List.all_eq_true.mp h2 ord (List.mem_range.mpr ho)
  have e1 : M - 1 + 1 = M := by obtain ⟨a, b⟩ := hM; omega
  have e2 : 2 + 2 * ((rad - 2) / 2) = rad := by rcases hr with rfl | rfl <;> decide
  rw [e1, e2] at h3
  exact h3
theorem all_x {n : Nat} {P : Nat → Bool} (h : (List.range n).all P = true) {i : Nat} (hi : i < n) : P i = true := List.all_eq_true.mp h i (List.mem_range.mpr hi)
def revC : Nat → Nat → Nat → Bool := fun M rad ord => (List.range (2 ^ M)).all fun p => decide (fX8_reversedPlace (nI (nst M rad)) (shf M rad ord) (nI p) = fX10_reversedOf (nI rad) (nI ord) (nI M) (nI p))
theorem revC_t : shapes revC = true := by decide +kernel
theorem rev_all {M rad ord p : Nat} (hM : isM M) (hr : isRad rad) (ho : ord < 2) (hp : p < 2 ^ M) : fX8_reversedPlace (nI (nst M rad)) (shf M rad ord) (nI p) = fX10_reversedOf (nI rad) (nI ord) (nI M) (nI p) := of_decide_eq_true (all_x (shapes_x revC_t hM hr ho) hp)
