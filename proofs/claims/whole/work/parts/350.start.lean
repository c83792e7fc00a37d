/-! ===== the start: what the tables and the Statement give ===== -/
theorem st_el (j : Nat) (h : j < 9) : Cond.eq (.elem (.static "BlockWave$Turns" "QUARTER" "[I") (.int (Int32.ofNat j))) (.int (qtr.getD j 0)) ∈ flatC (Jvm.Cond.and given_1 narrow_1) := by
  revert j
  decide +kernel
theorem st_er (j : Nat) (h : j < 5) : Cond.eq (.elem (.static "BlockWave$Ring" "ROOTS" "[I") (.int (Int32.ofNat j))) (.int (rts.getD j 0)) ∈ flatC (Jvm.Cond.and given_1 narrow_1) := by
  revert j
  decide +kernel
theorem st_ew (j : Nat) (h : j < 50) : Cond.eq (.elem (.field (.string "BlockWave$Reader" 140) "java/lang/String" "value" "[B") (.int (Int32.ofNat j))) (.int (wrd.getD j 0)) ∈ flatC (Jvm.Cond.and given_1 narrow_1) := by
  revert j
  decide +kernel
theorem st_QU {args : Array Value} {s : State} {A : Nat → Prop} (hts : ∀ w ∈ lw_tbl, w.before args s = true) (hs : ∀ w ∈ flatC (Jvm.Cond.and given_1 narrow_1), w.before args s = true) (hA : ∀ a : Nat, a < s.heap.size → ¬ A a) : ∃ t, QU t A s s.heap := by
  obtain ⟨t, ht, hT⟩ := va_Tof (tm := .static "BlockWave$Turns" "QUARTER" "[I") (ty := .int) (N := 9) (f := fun j => .int (qtr.getD j 0)) (A := A) (by decide) (hs _ (by decide +kernel)) (va_eqt (hs _ (by decide +kernel))) (fun j hj => va_eqt (hs _ (st_el j hj))) hA
  exact ⟨t, va_Zof (hts _ (by decide +kernel)) (hts _ (by decide +kernel)) ht hA, hT⟩
theorem st_RO {args : Array Value} {s : State} {A : Nat → Prop} (hts : ∀ w ∈ lw_tbl, w.before args s = true) (hs : ∀ w ∈ flatC (Jvm.Cond.and given_1 narrow_1), w.before args s = true) (hA : ∀ a : Nat, a < s.heap.size → ¬ A a) : ∃ t, RO t A s s.heap := by
  obtain ⟨t, ht, hT⟩ := va_Tof (tm := .static "BlockWave$Ring" "ROOTS" "[I") (ty := .int) (N := 5) (f := fun j => .int (rts.getD j 0)) (A := A) (by decide) (hs _ (by decide +kernel)) (va_eqt (hs _ (by decide +kernel))) (fun j hj => va_eqt (hs _ (st_er j hj))) hA
  exact ⟨t, va_Zof (hts _ (by decide +kernel)) (hts _ (by decide +kernel)) ht hA, hT⟩
theorem st_STR {args : Array Value} {s : State} {A : Nat → Prop} (hts : ∀ w ∈ lw_tbl, w.before args s = true) (hs : ∀ w ∈ flatC (Jvm.Cond.and given_1 narrow_1), w.before args s = true) (hA : ∀ a : Nat, a < s.heap.size → ¬ A a) : ∃ a v, STR a v A s s.heap := by
  have hex : (Cond.exactly (.string "BlockWave$Reader" 140) "java/lang/String").before args s = true := hs _ (by decide +kernel)
  obtain ⟨a, c, cA, kA, q1, q2, q3, q4, q5, q6, -⟩ := Cond.exactly_spec (args := args) (first := s) (o := none) (s := s) (idx := []) (t := .string "BlockWave$Reader" 140) (cls := "java/lang/String") hex
  obtain ⟨v, hv, hT⟩ := va_Tof (tm := .field (.string "BlockWave$Reader" 140) "java/lang/String" "value" "[B") (ty := .byte) (N := 50) (f := fun j => .int (wrd.getD j 0)) (A := A) (by decide) (hs _ (by decide +kernel)) (va_eqt (hs _ (by decide +kernel))) (fun j hj => va_eqt (hs _ (st_ew j hj))) hA
  exact ⟨a, v, vk_R.of (hts _ (by decide +kernel)) q1, va_Oof hex q1 hA, vk_OFof q1 (va_eqt (hs _ (by decide +kernel))) hA, vk_OFof q1 hv hA, hT, va_Zof (hts _ (by decide +kernel)) (hts _ (by decide +kernel)) (va_eqt (hs _ (by decide +kernel))) hA, va_Zqof (hts _ (by decide +kernel)) (hts _ (by decide +kernel)) (hs _ (by decide +kernel)) hA⟩
