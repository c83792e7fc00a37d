/-! ===== class and reference at the start ===== -/
abbrev z0 : Nat → Int32 := fun _ => 0
theorem st_d : ∃ sh, fX8_takeDefaults 0 0 0 0 0 0 0 0 0 z0 = some (nI (2 ^ 3), nI 3, nI 16, nI (lmN 16), nI 2, nI 0, nI 1, nI 0, nI (nst 3 2), sh) ∧ SHF 3 2 0 sh := by
  obtain ⟨sh, d1, d2⟩ := takeShape_eq (M := 3) (rad := 2) (ord := 0) CF_0.1 (Or.inl rfl) (by decide) 0 0 0 z0
  refine ⟨sh, ?_, d2⟩
  unfold fX8_takeDefaults
  rw [show fX8_takeSize 0 0 8 = _ from takeSize_eq (M := 3) CF_0.1 0 0, bd2_s, show fX8_takeBits 0 0 16 = _ from takeBits_eq (b := 16) ⟨by decide, by decide⟩ 0 0, bd2_s, show fX8_takeShape (nI 3) 0 0 0 z0 2 0 = _ from d1, bd4_s]
  rfl
theorem st_z {M lim : Nat} : BDz M (z0, z0) lim := fun p hp => by
  dsimp only
  rw [ab_0]; omega
