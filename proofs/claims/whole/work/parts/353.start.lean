/-! ===== class and reference at the start: they agree ===== -/
theorem st_REL : ∃ sh co si pw isP isT td tW all roots td2 tW2 : Nat → Int32, fX8_takeDefaults 0 0 0 0 0 0 0 0 0 (fun _ => 0) = some (nI (2 ^ 3), nI 3, nI 16, nI (lmN 16), nI 2, nI 0, nI 1, nI 0, nI (nst 3 2), sh) ∧ fX6_fit (fun _ => 0) (fun _ => 0) (nI 3) = some (co, si) ∧ fX5_fit (2 : Int32) (1 : Int32) (fun _ => 0) (nI (2 ^ 3)) (nI 3) = some (nI (2 ^ 3), nI 3, pw) ∧
    fX10_plain 0 (fun _ => 0) (fun _ => 0) (fun _ => 0) (fun _ => 0) = some (0, isP, isT, td, tW) ∧ fX10_keepText 0 0 0 0 0 0 0 0 0 0 (-1 : Int32) (fun _ => 0) (fun _ => 0) td tW = some (0, 0, 0, nI 2, nI 0, nI 1, nI (lmN 16), 1, nI 3, 0, -1, all, roots, td2, tW2) ∧
    REL 0 0 (nI (2 ^ 3)) (nI 3) (nI 16) (nI (lmN 16)) (nI 2) (nI 0) (nI 1) (nI 0) (nI (nst 3 2)) sh 0 0 0 z0 z0 z0 z0 z0 0 0 z0 0 (-1) z0 z0 z0 (nI (2 ^ 3)) (nI 3) pw co si 0 (-1) z0 z0 0 0 (-1) 0 0 0 (nI 2) (nI 0) (nI 1) (nI (lmN 16)) 1 (nI 3) 0 (-1) z0 mX10_52 td2 all mX10_61 roots z0 := by
  obtain ⟨sh, d1, d2⟩ := st_d
  obtain ⟨co, si, f1, f2⟩ := fit_c CF_0.1 z0 z0
  obtain ⟨pw, g1, g2⟩ := rfit_c CF_0.1 2 1 z0
  obtain ⟨isP, isT, td, tW, q1, q2, q3, q4, q6, q7, q8, q9, q10, q11⟩ := plain_m 0 z0 z0 z0 z0
  have hW : ∀ p, p < 32 → tW (64 + p) = z0 p ∧ tW (96 + p) = z0 p := fun p hp => ⟨(q3 p (by omega)).2, by rw [show 96 + p = 64 + (32 + p) by omega]; exact (q3 (32 + p) (by omega)).2⟩
  obtain ⟨all, roots, td2, tW2, m1, m2, m3, m4, m5⟩ := keepText_m CF_0 q6 q7 q8 q9 q10 q11 hW 0 0 0 0 0 0 0 0 0 0 (-1) z0 z0 z0
  refine ⟨sh, co, si, pw, isP, isT, td, tW, all, roots, td2, tW2, d1, f1, g1, q1, m1, 3, 16, 2, 0, 1, 0, CF_0, ⟨rfl, rfl, rfl, rfl, rfl, rfl, rfl, rfl, rfl, d2⟩, f2, g2, ⟨rfl, rfl, rfl, rfl, rfl, rfl, rfl, rfl, rfl, (m2 0 (by decide)).trans q6, (m2 1 (by decide)).trans q7, (m2 2 (by decide)).trans q8, (m2 3 (by decide)).trans q9, (m2 4 (by decide)).trans q10, (m2 5 (by decide)).trans q11, m3⟩,
    ⟨0, 0, rfl, rfl, m4, m5, Nat.zero_le _, by decide, fun _ _ _ => ⟨rfl, rfl⟩, fun _ _ _ => ⟨rfl, rfl⟩, st_z, st_z, fun _ _ => ⟨rfl, st_z⟩, fun _ => ⟨0, rfl, B_SB st_z⟩⟩, ⟨0, 0, rfl, by decide, rfl, by decide, rfl, fun j hj => by omega⟩, Or.inl ⟨rfl, rfl⟩, ⟨0, rfl, by omega, rfl, rfl, Or.inl rfl, fun i hi => by omega⟩, ⟨0, by omega, rfl, rfl, fun j hj => by omega⟩, rfl, rfl⟩
