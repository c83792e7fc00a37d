/-! ===== how many bits ===== -/
def cntB (P : Nat → Bool) : Nat → Nat
  | 0 => 0
  | n + 1 => cntB P n + (if P n then 1 else 0)
def pcN (X : Nat) : Nat := cntB (fun i => X.testBit i) 16
def bc1 (X : Nat) : Nat := X - ((X / 2 ^ 1) &&& 1431655765)
def bc2 (X : Nat) : Nat := (X &&& 858993459) + ((X / 2 ^ 2) &&& 858993459)
def bc3 (X : Nat) : Nat := (X + X / 2 ^ 4) &&& 252645135
def bc4 (X : Nat) : Nat := X + X / 2 ^ 8
def bc5 (X : Nat) : Nat := X + X / 2 ^ 16
/-- a number taken as it comes out -/
def fz {α : Type} (F : Nat → α) : Nat → α
  | 0 => F 0
  | k + 1 => F (k + 1)
theorem fz_e {α : Type} (F : Nat → α) (x : Nat) : fz F x = F x := by cases x <;> rfl
def bcK (x : Nat) : Bool := fz (fun x => fz (fun v1 => fz (fun v2 => fz (fun v3 => fz (fun v4 => fz (fun v5 => Nat.beq (v5 &&& 63) (pcN x)) (bc5 v4)) (bc4 v3)) (bc3 v2)) (bc2 v1)) (bc1 x)) x
theorem bcK_e {x : Nat} (h : bcK x = true) : (bc5 (bc4 (bc3 (bc2 (bc1 x))))) &&& 63 = pcN x := by
  unfold bcK at h
  rw [fz_e, fz_e, fz_e, fz_e, fz_e, fz_e] at h
  exact Nat.eq_of_beq_eq_true h
theorem bcC_0 : (List.range 16).all (fun b => (List.range 256).all fun a => bcK (a + 256 * (b + 0))) = true := by decide +kernel
theorem bcC_1 : (List.range 16).all (fun b => (List.range 256).all fun a => bcK (a + 256 * (b + 16))) = true := by decide +kernel
theorem bcC_2 : (List.range 16).all (fun b => (List.range 256).all fun a => bcK (a + 256 * (b + 32))) = true := by decide +kernel
theorem bcC_3 : (List.range 16).all (fun b => (List.range 256).all fun a => bcK (a + 256 * (b + 48))) = true := by decide +kernel
theorem bcC_4 : (List.range 16).all (fun b => (List.range 256).all fun a => bcK (a + 256 * (b + 64))) = true := by decide +kernel
theorem bcC_5 : (List.range 16).all (fun b => (List.range 256).all fun a => bcK (a + 256 * (b + 80))) = true := by decide +kernel
theorem bcC_6 : (List.range 16).all (fun b => (List.range 256).all fun a => bcK (a + 256 * (b + 96))) = true := by decide +kernel
theorem bcC_7 : (List.range 16).all (fun b => (List.range 256).all fun a => bcK (a + 256 * (b + 112))) = true := by decide +kernel
theorem bcC_8 : (List.range 16).all (fun b => (List.range 256).all fun a => bcK (a + 256 * (b + 128))) = true := by decide +kernel
theorem bcC_9 : (List.range 16).all (fun b => (List.range 256).all fun a => bcK (a + 256 * (b + 144))) = true := by decide +kernel
theorem bcC_10 : (List.range 16).all (fun b => (List.range 256).all fun a => bcK (a + 256 * (b + 160))) = true := by decide +kernel
theorem bcC_11 : (List.range 16).all (fun b => (List.range 256).all fun a => bcK (a + 256 * (b + 176))) = true := by decide +kernel
theorem bcC_12 : (List.range 16).all (fun b => (List.range 256).all fun a => bcK (a + 256 * (b + 192))) = true := by decide +kernel
theorem bcC_13 : (List.range 16).all (fun b => (List.range 256).all fun a => bcK (a + 256 * (b + 208))) = true := by decide +kernel
theorem bcC_14 : (List.range 16).all (fun b => (List.range 256).all fun a => bcK (a + 256 * (b + 224))) = true := by decide +kernel
theorem bcC_15 : (List.range 16).all (fun b => (List.range 256).all fun a => bcK (a + 256 * (b + 240))) = true := by decide +kernel
theorem bcK_all {X : Nat} (hX : X < 65536) : bcK X = true := by
  have hb : X / 256 % 16 < 16 := Nat.mod_lt _ (by decide)
  have ha : X % 256 < 256 := Nat.mod_lt _ (by decide)
  have fin : ∀ {q : Nat}, X / 4096 = q → bcK (X % 256 + 256 * (X / 256 % 16 + 16 * q)) = true → bcK X = true := fun {q} e h => by
    rw [show X % 256 + 256 * (X / 256 % 16 + 16 * q) = X by omega] at h
    exact h
  have h16 : X / 4096 < 16 := by omega
  rcases (show X / 4096 = 0 ∨ X / 4096 = 1 ∨ X / 4096 = 2 ∨ X / 4096 = 3 ∨ X / 4096 = 4 ∨ X / 4096 = 5 ∨ X / 4096 = 6 ∨ X / 4096 = 7 ∨ X / 4096 = 8 ∨ X / 4096 = 9 ∨ X / 4096 = 10 ∨ X / 4096 = 11 ∨ X / 4096 = 12 ∨ X / 4096 = 13 ∨ X / 4096 = 14 ∨ X / 4096 = 15 by omega) with e | e | e | e | e | e | e | e | e | e | e | e | e | e | e | e
  · exact fin e (all_x (all_x bcC_0 hb) ha)
  · exact fin e (all_x (all_x bcC_1 hb) ha)
  · exact fin e (all_x (all_x bcC_2 hb) ha)
  · exact fin e (all_x (all_x bcC_3 hb) ha)
  · exact fin e (all_x (all_x bcC_4 hb) ha)
  · exact fin e (all_x (all_x bcC_5 hb) ha)
  · exact fin e (all_x (all_x bcC_6 hb) ha)
  · exact fin e (all_x (all_x bcC_7 hb) ha)
  · exact fin e (all_x (all_x bcC_8 hb) ha)
  · exact fin e (all_x (all_x bcC_9 hb) ha)
  · exact fin e (all_x (all_x bcC_10 hb) ha)
  · exact fin e (all_x (all_x bcC_11 hb) ha)
  · exact fin e (all_x (all_x bcC_12 hb) ha)
  · exact fin e (all_x (all_x bcC_13 hb) ha)
  · exact fin e (all_x (all_x bcC_14 hb) ha)
  · exact fin e (all_x (all_x bcC_15 hb) ha)
theorem and_nI (a b : Nat) : nI a &&& nI b = nI (a &&& b) := tb_ext (fun i hi => by rw [tb_and, tb_nI hi, tb_nI hi, tb_nI hi, Nat.testBit_and])
theorem bitCount_eq {X : Nat} (hX : X < 65536) : fJ6_bitCount_0f7a4 (nI X) = some (nI (pcN X)) := by
  have h := bcK_e (bcK_all hX)
  have a1 : bc1 X ≤ X := Nat.sub_le _ _
  have l1 : (X / 2 ^ 1) &&& 1431655765 ≤ X := Nat.le_trans Nat.and_le_left (Nat.div_le_self _ _)
  have l2 : bc2 (bc1 X) ≤ 858993459 + 858993459 := Nat.add_le_add Nat.and_le_right Nat.and_le_right
  have l3 : bc3 (bc2 (bc1 X)) ≤ 252645135 := Nat.and_le_right
  have l4 : bc4 (bc3 (bc2 (bc1 X))) ≤ 252645135 + 252645135 := by
    have := Nat.div_le_self (bc3 (bc2 (bc1 X))) (2 ^ 8)
    unfold bc4
    omega
  unfold fJ6_bitCount_0f7a4
  simp only [nm]
  rw [pk_ushrN (show X < 2 ^ 32 by omega) 1 1 (by decide), lit_nI 1431655765, and_nI, pk_sub l1]
  rw [show X - ((X / 2 ^ 1) &&& 1431655765) = bc1 X from rfl]
  rw [pk_ushrN (show bc1 X < 2 ^ 32 by omega) 2 2 (by decide), lit_nI 858993459, and_nI, and_nI, nI_add]
  rw [show (bc1 X &&& 858993459) + ((bc1 X / 2 ^ 2) &&& 858993459) = bc2 (bc1 X) from rfl]
  rw [pk_ushrN (show bc2 (bc1 X) < 2 ^ 32 by omega) 4 4 (by decide), lit_nI 252645135, nI_add, and_nI]
  rw [show (bc2 (bc1 X) + bc2 (bc1 X) / 2 ^ 4) &&& 252645135 = bc3 (bc2 (bc1 X)) from rfl]
  rw [pk_ushrN (show bc3 (bc2 (bc1 X)) < 2 ^ 32 by omega) 8 8 (by decide), nI_add]
  rw [show bc3 (bc2 (bc1 X)) + bc3 (bc2 (bc1 X)) / 2 ^ 8 = bc4 (bc3 (bc2 (bc1 X))) from rfl]
  rw [pk_ushrN (show bc4 (bc3 (bc2 (bc1 X))) < 2 ^ 32 by omega) 16 16 (by decide), nI_add]
  rw [show bc4 (bc3 (bc2 (bc1 X))) + bc4 (bc3 (bc2 (bc1 X))) / 2 ^ 16 = bc5 (bc4 (bc3 (bc2 (bc1 X)))) from rfl]
  rw [lit_nI 63, and_nI, h]
