/-! ===== a context of statics beside the world ===== -/
def XC (X : (Nat → Prop) → State → Heap → Prop) : Prop :=
  (∀ (A B : Nat → Prop) (U : State) (H : Heap), X A U H → (∀ q, B q → A q) → X B U H) ∧
  (∀ (A : Nat → Prop) (U : State) (H H1 : Heap), X A U H → (∀ a : Nat, a < H.size → ¬ A a → H1[a]? = H[a]?) → X A U H1) ∧
  (∀ (A : Nat → Prop) (s U : State) (H : Heap), s.WarmedH U.vm → X A s H → X A U H) ∧
  (∀ (A : Nat → Prop) (U V : State) (H : Heap), V.vm = U.vm → X A U H → X A V H)
def cPX (X : (Nat → Prop) → State → Heap → Prop) (G : va_G) (ty : List (ClassId × FieldType)) (av : List Value) (sz : Nat) (ws : va_W) : Array Value → State → Prop :=
  va_Pc av (fun U => U.heap.size = sz ∧ va_P G vwCl ws U.heap ∧ va_K G vwCl ty U ∧ va_D (fun _ => True) ws ∧ X (va_A ws sz) U U.heap)
theorem cPX_blind {X : (Nat → Prop) → State → Heap → Prop} (hX : XC X) {G : va_G} {ty : List (ClassId × FieldType)} {av : List Value} {sz : Nat} {ws : va_W} : FrameBlind (cPX X G ty av sz ws) := fun a U g mk q => by
  obtain ⟨h1, h2, h3, h4, h5, h6⟩ := q
  exact ⟨h1, h2, h3, va_K.moved (u := U) (U := U.calling g mk a) (Vm.Alike.refl U.vm) h4, h5, hX.2.2.2 _ U (U.calling g mk a) _ rfl h6⟩

theorem met_iX {X : (Nat → Prop) → State → Heap → Prop} {l : Launch} {y : MethodName} {rm : Room} {cc : ByteArray} {maxL : Nat} {G : va_G} {ty : List (ClassId × FieldType)} {av : List Value} {sz : Nat} {WS WS' : va_W} {r : Int32}
    (hy : plainFor y = true) (hlen : (lg_sl av).length ≤ maxL)
    (body : ∀ (p : Program) (e : Env) (s : State) (m : MethodId) (below : List Frame) (meth : Method) (c : Code) (A : Nat → Prop) (ls : Array Slot) (Q : State → Prop),
      p.tables.exec = Jvm.exec → c.code = cc → c.maxLocals = maxL → (∀ w ∈ BIG, w.before av.toArray s = true) → s.vm.findClass y.cls = some m.cls →
      va_K G vwCl ty s → va_P G vwCl WS s.heap → va_D A WS → va_S A s.heap s.heap [] → (∀ q, s.heap.size ≤ q → A q) → X A s s.heap → lv_has ls maxL (lv_args 0 av) →
      (∀ (pc : Nat) (ls' : Array Slot) (H : Heap) (locs : List Loc), decode cc pc = .ok (.ireturn, 1) → va_P G vwCl WS' H → va_D A WS' → va_S A s.heap H locs → W p l e rm s m av.toArray below meth c H locs 0 0 Q (F0 m pc ls' [.int r])) →
      W p l e rm s m av.toArray below meth c s.heap [] 0 0 Q (F0 m 0 ls [])) :
    Met l y (Cond.code y cc maxL (some .int) :: BIG) rm (cPX X G ty av sz WS) (cQ G ty sz WS WS' (some (.int r))) 0 0 (va_A WS sz) := by
  refine met_ofW (cc := cc) (maxL := maxL) (ret := (some .int)) hy rfl ?_
  intro p e s m args below meth c s₁ B hml hv
  obtain ⟨rfl, hsz, hP, hK, hD0, hX⟩ := hv
  subst hsz
  have hl := lv_entry av (n := maxL) hlen
  rw [lg_entry_eq]
  refine body p e s m below meth c (va_A WS s.heap.size) _ _ B.exec B.bytes hml (fun w h => atoms_spec (ws := Cond.code y cc maxL (some .int) :: BIG) B.pre w (List.mem_cons_of_mem _ h)) (findClass_of_methodNamed B.named) hK hP hD0.self va_S.rf (fun q h => Or.inr h) hX hl ?_
  intro pc ls' H locs hd hP' hD' hS'
  exact W.iret B.exec B.bytes B.returns (fun t ht hW => ⟨⟨rfl, by rw [ht]; exact hP', va_K.moved hW.alike hK, hD'⟩, hS'.F ht⟩) hS'.2.2 hd (hlocks := B.notSynchronized)


theorem met_zX {X : (Nat → Prop) → State → Heap → Prop} {l : Launch} {y : MethodName} {rm : Room} {cc : ByteArray} {maxL : Nat} {G : va_G} {ty : List (ClassId × FieldType)} {av : List Value} {sz : Nat} {WS WS' : va_W} {r : Int32}
    (hy : plainFor y = true) (hlen : (lg_sl av).length ≤ maxL)
    (body : ∀ (p : Program) (e : Env) (s : State) (m : MethodId) (below : List Frame) (meth : Method) (c : Code) (A : Nat → Prop) (ls : Array Slot) (Q : State → Prop),
      p.tables.exec = Jvm.exec → c.code = cc → c.maxLocals = maxL → (∀ w ∈ BIG, w.before av.toArray s = true) → s.vm.findClass y.cls = some m.cls →
      va_K G vwCl ty s → va_P G vwCl WS s.heap → va_D A WS → va_S A s.heap s.heap [] → (∀ q, s.heap.size ≤ q → A q) → X A s s.heap → lv_has ls maxL (lv_args 0 av) →
      (∀ (pc : Nat) (ls' : Array Slot) (H : Heap) (locs : List Loc), decode cc pc = .ok (.ireturn, 1) → narrow .boolean (.int r) = .int r → va_P G vwCl WS' H → va_D A WS' → va_S A s.heap H locs → W p l e rm s m av.toArray below meth c H locs 0 0 Q (F0 m pc ls' [.int r])) →
      W p l e rm s m av.toArray below meth c s.heap [] 0 0 Q (F0 m 0 ls [])) :
    Met l y (Cond.code y cc maxL (some .boolean) :: BIG) rm (cPX X G ty av sz WS) (cQ G ty sz WS WS' (some (.int r))) 0 0 (va_A WS sz) := by
  refine met_ofW (cc := cc) (maxL := maxL) (ret := (some .boolean)) hy rfl ?_
  intro p e s m args below meth c s₁ B hml hv
  obtain ⟨rfl, hsz, hP, hK, hD0, hX⟩ := hv
  subst hsz
  have hl := lv_entry av (n := maxL) hlen
  rw [lg_entry_eq]
  refine body p e s m below meth c (va_A WS s.heap.size) _ _ B.exec B.bytes hml (fun w h => atoms_spec (ws := Cond.code y cc maxL (some .boolean) :: BIG) B.pre w (List.mem_cons_of_mem _ h)) (findClass_of_methodNamed B.named) hK hP hD0.self va_S.rf (fun q h => Or.inr h) hX hl ?_
  intro pc ls' H locs hd hn hP' hD' hS'
  exact W.zret B.exec B.bytes B.returns hn (fun t ht hW => ⟨⟨rfl, by rw [ht]; exact hP', va_K.moved hW.alike hK, hD'⟩, hS'.F ht⟩) hS'.2.2 hd (hlocks := B.notSynchronized)


theorem met_cX {X : (Nat → Prop) → State → Heap → Prop} {l : Launch} {y : MethodName} {rm : Room} {cc : ByteArray} {maxL : Nat} {G : va_G} {ty : List (ClassId × FieldType)} {av : List Value} {sz : Nat} {WS WS' : va_W} {r : Int32}
    (hy : plainFor y = true) (hlen : (lg_sl av).length ≤ maxL)
    (body : ∀ (p : Program) (e : Env) (s : State) (m : MethodId) (below : List Frame) (meth : Method) (c : Code) (A : Nat → Prop) (ls : Array Slot) (Q : State → Prop),
      p.tables.exec = Jvm.exec → c.code = cc → c.maxLocals = maxL → (∀ w ∈ BIG, w.before av.toArray s = true) → s.vm.findClass y.cls = some m.cls →
      va_K G vwCl ty s → va_P G vwCl WS s.heap → va_D A WS → va_S A s.heap s.heap [] → (∀ q, s.heap.size ≤ q → A q) → X A s s.heap → lv_has ls maxL (lv_args 0 av) →
      (∀ (pc : Nat) (ls' : Array Slot) (H : Heap) (locs : List Loc), decode cc pc = .ok (.ireturn, 1) → narrow .char (.int r) = .int r → va_P G vwCl WS' H → va_D A WS' → va_S A s.heap H locs → W p l e rm s m av.toArray below meth c H locs 0 0 Q (F0 m pc ls' [.int r])) →
      W p l e rm s m av.toArray below meth c s.heap [] 0 0 Q (F0 m 0 ls [])) :
    Met l y (Cond.code y cc maxL (some .char) :: BIG) rm (cPX X G ty av sz WS) (cQ G ty sz WS WS' (some (.int r))) 0 0 (va_A WS sz) := by
  refine met_ofW (cc := cc) (maxL := maxL) (ret := (some .char)) hy rfl ?_
  intro p e s m args below meth c s₁ B hml hv
  obtain ⟨rfl, hsz, hP, hK, hD0, hX⟩ := hv
  subst hsz
  have hl := lv_entry av (n := maxL) hlen
  rw [lg_entry_eq]
  refine body p e s m below meth c (va_A WS s.heap.size) _ _ B.exec B.bytes hml (fun w h => atoms_spec (ws := Cond.code y cc maxL (some .char) :: BIG) B.pre w (List.mem_cons_of_mem _ h)) (findClass_of_methodNamed B.named) hK hP hD0.self va_S.rf (fun q h => Or.inr h) hX hl ?_
  intro pc ls' H locs hd hn hP' hD' hS'
  exact W.zret B.exec B.bytes B.returns hn (fun t ht hW => ⟨⟨rfl, by rw [ht]; exact hP', va_K.moved hW.alike hK, hD'⟩, hS'.F ht⟩) hS'.2.2 hd (hlocks := B.notSynchronized)


theorem met_lX {X : (Nat → Prop) → State → Heap → Prop} {l : Launch} {y : MethodName} {rm : Room} {cc : ByteArray} {maxL : Nat} {G : va_G} {ty : List (ClassId × FieldType)} {av : List Value} {sz : Nat} {WS WS' : va_W} {r : Int64}
    (hy : plainFor y = true) (hlen : (lg_sl av).length ≤ maxL)
    (body : ∀ (p : Program) (e : Env) (s : State) (m : MethodId) (below : List Frame) (meth : Method) (c : Code) (A : Nat → Prop) (ls : Array Slot) (Q : State → Prop),
      p.tables.exec = Jvm.exec → c.code = cc → c.maxLocals = maxL → (∀ w ∈ BIG, w.before av.toArray s = true) → s.vm.findClass y.cls = some m.cls →
      va_K G vwCl ty s → va_P G vwCl WS s.heap → va_D A WS → va_S A s.heap s.heap [] → (∀ q, s.heap.size ≤ q → A q) → X A s s.heap → lv_has ls maxL (lv_args 0 av) →
      (∀ (pc : Nat) (ls' : Array Slot) (H : Heap) (locs : List Loc), decode cc pc = .ok (.lreturn, 1) → va_P G vwCl WS' H → va_D A WS' → va_S A s.heap H locs → W p l e rm s m av.toArray below meth c H locs 0 0 Q (F0 m pc ls' [.long r])) →
      W p l e rm s m av.toArray below meth c s.heap [] 0 0 Q (F0 m 0 ls [])) :
    Met l y (Cond.code y cc maxL (some .long) :: BIG) rm (cPX X G ty av sz WS) (cQ G ty sz WS WS' (some (.long r))) 0 0 (va_A WS sz) := by
  refine met_ofW (cc := cc) (maxL := maxL) (ret := (some .long)) hy rfl ?_
  intro p e s m args below meth c s₁ B hml hv
  obtain ⟨rfl, hsz, hP, hK, hD0, hX⟩ := hv
  subst hsz
  have hl := lv_entry av (n := maxL) hlen
  rw [lg_entry_eq]
  refine body p e s m below meth c (va_A WS s.heap.size) _ _ B.exec B.bytes hml (fun w h => atoms_spec (ws := Cond.code y cc maxL (some .long) :: BIG) B.pre w (List.mem_cons_of_mem _ h)) (findClass_of_methodNamed B.named) hK hP hD0.self va_S.rf (fun q h => Or.inr h) hX hl ?_
  intro pc ls' H locs hd hP' hD' hS'
  exact W.lret B.exec B.bytes B.returns (fun t ht hW => ⟨⟨rfl, by rw [ht]; exact hP', va_K.moved hW.alike hK, hD'⟩, hS'.F ht⟩) hS'.2.2 hd (hlocks := B.notSynchronized)


theorem met_vX {X : (Nat → Prop) → State → Heap → Prop} {l : Launch} {y : MethodName} {rm : Room} {cc : ByteArray} {maxL : Nat} {G : va_G} {ty : List (ClassId × FieldType)} {av : List Value} {sz : Nat} {WS WS' : va_W}
    (hy : plainFor y = true) (hlen : (lg_sl av).length ≤ maxL)
    (body : ∀ (p : Program) (e : Env) (s : State) (m : MethodId) (below : List Frame) (meth : Method) (c : Code) (A : Nat → Prop) (ls : Array Slot) (Q : State → Prop),
      p.tables.exec = Jvm.exec → c.code = cc → c.maxLocals = maxL → (∀ w ∈ BIG, w.before av.toArray s = true) → s.vm.findClass y.cls = some m.cls →
      va_K G vwCl ty s → va_P G vwCl WS s.heap → va_D A WS → va_S A s.heap s.heap [] → (∀ q, s.heap.size ≤ q → A q) → X A s s.heap → lv_has ls maxL (lv_args 0 av) →
      (∀ (pc : Nat) (ls' : Array Slot) (H : Heap) (locs : List Loc), decode cc pc = .ok (.return_, 1) → va_P G vwCl WS' H → va_D A WS' → va_S A s.heap H locs → W p l e rm s m av.toArray below meth c H locs 0 0 Q (F0 m pc ls' [])) →
      W p l e rm s m av.toArray below meth c s.heap [] 0 0 Q (F0 m 0 ls [])) :
    Met l y (Cond.code y cc maxL none :: BIG) rm (cPX X G ty av sz WS) (cQ G ty sz WS WS' none) 0 0 (va_A WS sz) := by
  refine met_ofW (cc := cc) (maxL := maxL) (ret := none) hy rfl ?_
  intro p e s m args below meth c s₁ B hml hv
  obtain ⟨rfl, hsz, hP, hK, hD0, hX⟩ := hv
  subst hsz
  have hl := lv_entry av (n := maxL) hlen
  rw [lg_entry_eq]
  refine body p e s m below meth c (va_A WS s.heap.size) _ _ B.exec B.bytes hml (fun w h => atoms_spec (ws := Cond.code y cc maxL none :: BIG) B.pre w (List.mem_cons_of_mem _ h)) (findClass_of_methodNamed B.named) hK hP hD0.self va_S.rf (fun q h => Or.inr h) hX hl ?_
  intro pc ls' H locs hd hP' hD' hS'
  exact W.vret B.exec B.bytes B.returns (fun t ht hW => ⟨⟨rfl, by rw [ht]; exact hP', va_K.moved hW.alike hK, hD'⟩, hS'.F ht⟩) hS'.2.2 hd (hlocks := B.notSynchronized)


section CALLX
variable {p : Program} {l : Launch} {e : Env} {R : Room} {s : State} {m : MethodId} {args : Array Value} {below : List Frame} {meth : Method} {c : Code} {H : Heap} {locs : List Loc} {cells slots : Nat} {Q : State → Prop}
variable {A0 : Nat → Prop} {G : va_G} {ty : List (ClassId × FieldType)} {cc : ByteArray} {nL : Nat} {Ts : List Cond} {own C : String} {index : Nat} {y : MethodName} {bytes : ByteArray} {maxL n : Nat} {ret : Option FieldType} {wsy : List Cond} {rm : Room} {b : Addr} {pc : Nat} {ls : Array Slot} {ws wc wc' ws2 : va_W} {ov : Option Value}
theorem call_vX {X : (Nat → Prop) → State → Heap → Prop} (hXc : XC X) (hX : X A0 s s.heap) {st0 : List Value} (As rest : List Value) (S : CallFix p m c cc nL s args Ts own) (hK : va_K G vwCl ty s) (hP : va_P G vwCl ws H) (hD : va_D A0 ws) (hS : va_S A0 s.heap H locs) (hA : ∀ q, s.heap.size ≤ q → A0 q) (hls : ls.size = nL)
    (hM : Met l y wsy rm (cPX X G ty (.ref b :: As) H.size wc) (cQ G ty H.size wc wc' ov) 0 0 (va_A wc H.size)) (cw : CallW R s args own C index y bytes maxL ret wsy rm 0 0 n)
    (hn : As.length = n) (hst : st0 = As.reverse ++ .ref b :: rest) (hrest : (rest.map fun v => v.category).sum ≤ 8) (hdg : decode cc pc = .ok (.invokevirtual index, 3)) (hcs : cells ≤ R.cells ∧ slots ≤ R.slots)
    (hrec : ∃ cellB : Cell, H[b]? = some cellB ∧ cellB.vm.isStatics = false ∧ s.vm.findClass C = some cellB.cls)
    (isC isR is2 : List Nat) (hC : isC.map (fun i => ws[i]?) = wc.map some) (hok : okI ws.length isC isR is2 = true)
    (h2 : is2.map (fun i => (isR.filterMap (fun i => ws[i]?) ++ wc')[i]?) = ws2.map some)
    (kk : ∀ (H1 : Heap) (locs1 : List Loc), va_P G vwCl ws2 H1 → va_D A0 ws2 → va_S A0 s.heap H1 locs1 → W p l e R s m args below meth c H1 locs1 cells slots Q (F0 m (pc + 3) ls (ov.toList ++ rest))) :
    W p l e R s m args below meth c H locs cells slots Q (F0 m pc ls st0) := by
  have hPc : va_P G vwCl wc H := hP.sub isC (by
    have h3 := congrArg (fun z => z.filterMap id) hC
    simpa [List.filterMap_map] using h3)
  have hDc : va_D (fun _ => True) wc := (hD.sub isC (okI_c hok) hC).weaken (fun _ _ _ _ => trivial)
  have hF := va_free (wc := wc) hD hS hA isC hC
  have hXH : X (va_A wc H.size) s H := hXc.1 _ _ _ _ (hXc.2.1 _ _ _ _ hX hS.2.1) hF
  exact call_run (va_runV (As := As) (rest := rest) S hM cw ⟨cPX_blind hXc, hrec, fun U hU hW => ⟨rfl, by rw [hU], by rw [hU]; exact hPc, va_K.moved hW.alike hK, hDc, by rw [hU]; exact hXc.2.2.1 _ _ _ _ hW hXH⟩⟩ rfl hn hls hst (lv_room hrest) hdg hcs) hP hD hS hA isC isR is2 hC hok h2 kk
theorem call_sX {X : (Nat → Prop) → State → Heap → Prop} (hXc : XC X) (hX : X A0 s s.heap) {st0 : List Value} (As rest : List Value) (S : CallFix p m c cc nL s args Ts own) (hK : va_K G vwCl ty s) (hP : va_P G vwCl ws H) (hD : va_D A0 ws) (hS : va_S A0 s.heap H locs) (hA : ∀ q, s.heap.size ≤ q → A0 q) (hls : ls.size = nL)
    (hM : Met l y wsy rm (cPX X G ty As H.size wc) (cQ G ty H.size wc wc' ov) 0 0 (va_A wc H.size)) (cw : CallB R s args own index y bytes maxL ret wsy rm 0 0 n ∧ (Cond.static y).before args s = true)
    (hn : As.length = n) (hst : st0 = As.reverse ++ rest) (hrest : (rest.map fun v => v.category).sum ≤ 8) (hdg : decode cc pc = .ok (.invokestatic index, 3)) (hcs : cells ≤ R.cells ∧ slots ≤ R.slots)
    (isC isR is2 : List Nat) (hC : isC.map (fun i => ws[i]?) = wc.map some) (hok : okI ws.length isC isR is2 = true)
    (h2 : is2.map (fun i => (isR.filterMap (fun i => ws[i]?) ++ wc')[i]?) = ws2.map some)
    (kk : ∀ (H1 : Heap) (locs1 : List Loc), va_P G vwCl ws2 H1 → va_D A0 ws2 → va_S A0 s.heap H1 locs1 → W p l e R s m args below meth c H1 locs1 cells slots Q (F0 m (pc + 3) ls (ov.toList ++ rest))) :
    W p l e R s m args below meth c H locs cells slots Q (F0 m pc ls st0) := by
  have hPc : va_P G vwCl wc H := hP.sub isC (by
    have h3 := congrArg (fun z => z.filterMap id) hC
    simpa [List.filterMap_map] using h3)
  have hDc : va_D (fun _ => True) wc := (hD.sub isC (okI_c hok) hC).weaken (fun _ _ _ _ => trivial)
  have hF := va_free (wc := wc) hD hS hA isC hC
  have hXH : X (va_A wc H.size) s H := hXc.1 _ _ _ _ (hXc.2.1 _ _ _ _ hX hS.2.1) hF
  exact call_run (va_runS (As := As) (rest := rest) S hM cw ⟨cPX_blind hXc, fun U hU hW => ⟨rfl, by rw [hU], by rw [hU]; exact hPc, va_K.moved hW.alike hK, hDc, by rw [hU]; exact hXc.2.2.1 _ _ _ _ hW hXH⟩⟩ rfl hn hls hst (lv_room hrest) hdg hcs) hP hD hS hA isC isR is2 hC hok h2 kk
end CALLX
/-! ===== the statics ===== -/
def qtr : List Int32 := [16384, 16069, 15137, 13623, 11585, 9102, 6270, 3196, 0]
def rts : List Int32 := [96, 22, 64, 8, 28]
def wrd : List Int32 := [115, 105, 122, 101, 32, 98, 105, 116, 115, 32, 114, 97, 100, 105, 120, 111, 114, 100, 101, 114, 110, 101, 97, 114, 32, 115, 101, 101, 100, 32, 114, 101, 97, 108, 32, 108, 101, 115, 115, 32, 115, 105, 100, 101, 32, 100, 111, 119, 110, 32]
def QU (t : Nat) (A : Nat → Prop) (U : State) (H : Heap) : Prop := va_Z "BlockWave$Turns" "QUARTER" "[I" (.ref t) A U H ∧ va_T .int t 9 (fun j => .int (qtr.getD j 0)) A U H
def RO (t : Nat) (A : Nat → Prop) (U : State) (H : Heap) : Prop := va_Z "BlockWave$Ring" "ROOTS" "[I" (.ref t) A U H ∧ va_T .int t 5 (fun j => .int (rts.getD j 0)) A U H
def STR (a v : Nat) (A : Nat → Prop) (U : State) (H : Heap) : Prop := vk_R "BlockWave$Reader" 140 "size bits radixordernear seed real less side down " a U ∧ va_O "java/lang/String" a A U H ∧ va_OF "java/lang/String" "coder" "B" (.int 0) a A U H ∧ va_OF "java/lang/String" "value" "[B" (.ref v) a A U H ∧ va_T .byte v 50 (fun j => .int (wrd.getD j 0)) A U H ∧ va_Z "java/lang/String" "COMPACT_STRINGS" "Z" (.int 1) A U H ∧ va_Zq "jdk/internal/util/Preconditions" "SIOOBE_FORMATTER" "Ljava/util/function/BiFunction;" A U H
def SX (A : Nat → Prop) (U : State) (H : Heap) : Prop := (∃ t, QU t A U H) ∧ (∃ t, RO t A U H) ∧ ∃ a v, STR a v A U H
theorem al_same {U V : State} (h : V.vm = U.vm) : U.vm.Alike V.vm := by rw [h]; exact Vm.Alike.refl _
theorem QU_c (t : Nat) : XC (QU t) := ⟨fun _ _ _ _ h k => ⟨h.1.narrow k, h.2.narrow k⟩, fun _ _ _ _ h k => ⟨h.1.kept k, h.2.kept k⟩, fun _ _ _ _ w h => ⟨h.1.moved w.alike, h.2.moved w.alike⟩, fun _ _ _ _ w h => ⟨h.1.moved (al_same w), h.2.moved (al_same w)⟩⟩
theorem RO_c (t : Nat) : XC (RO t) := ⟨fun _ _ _ _ h k => ⟨h.1.narrow k, h.2.narrow k⟩, fun _ _ _ _ h k => ⟨h.1.kept k, h.2.kept k⟩, fun _ _ _ _ w h => ⟨h.1.moved w.alike, h.2.moved w.alike⟩, fun _ _ _ _ w h => ⟨h.1.moved (al_same w), h.2.moved (al_same w)⟩⟩
theorem STR_c (a v : Nat) : XC (STR a v) := by
  refine ⟨fun _ _ _ _ h k => ?_, fun _ _ _ _ h k => ?_, fun _ _ _ _ w h => ?_, fun _ _ _ _ w h => ?_⟩ <;> obtain ⟨h1, h2, h3, h4, h5, h6, h7⟩ := h
  · exact ⟨h1, h2.narrow k, h3.narrow k, h4.narrow k, h5.narrow k, h6.narrow k, h7.narrow k⟩
  · exact ⟨h1, h2.kept k, h3.kept k, h4.kept k, h5.kept k, h6.kept k, h7.kept k⟩
  · exact ⟨h1.warm w, h2.moved w.alike, h3.moved w.alike, h4.moved w.alike, h5.moved w.alike, h6.moved w.alike, h7.moved w.alike⟩
  · exact ⟨h1.same w, h2.moved (al_same w), h3.moved (al_same w), h4.moved (al_same w), h5.moved (al_same w), h6.moved (al_same w), h7.moved (al_same w)⟩
theorem SX_c : XC SX := by
  refine ⟨fun A B U H h k => ?_, fun A U H H1 h k => ?_, fun A s U H w h => ?_, fun A U V H w h => ?_⟩ <;> obtain ⟨⟨t, h1⟩, ⟨t2, h2⟩, a, v, h3⟩ := h
  · exact ⟨⟨t, (QU_c t).1 _ _ _ _ h1 k⟩, ⟨t2, (RO_c t2).1 _ _ _ _ h2 k⟩, a, v, (STR_c a v).1 _ _ _ _ h3 k⟩
  · exact ⟨⟨t, (QU_c t).2.1 _ _ _ _ h1 k⟩, ⟨t2, (RO_c t2).2.1 _ _ _ _ h2 k⟩, a, v, (STR_c a v).2.1 _ _ _ _ h3 k⟩
  · exact ⟨⟨t, (QU_c t).2.2.1 _ _ _ _ w h1⟩, ⟨t2, (RO_c t2).2.2.1 _ _ _ _ w h2⟩, a, v, (STR_c a v).2.2.1 _ _ _ _ w h3⟩
  · exact ⟨⟨t, (QU_c t).2.2.2 _ _ _ _ w h1⟩, ⟨t2, (RO_c t2).2.2.2 _ _ _ _ w h2⟩, a, v, (STR_c a v).2.2.2 _ _ _ _ w h3⟩

/-! ===== charAt of the text WORDS ===== -/
theorem STR_r {a : Nat} {A : Nat → Prop} {s : State} {H : Heap} {locs : List Loc} (h : va_O "java/lang/String" a A s s.heap) (hS : va_S A s.heap H locs) : ∃ cellB : Cell, H[a]? = some cellB ∧ cellB.vm.isStatics = false ∧ s.vm.findClass "java/lang/String" = some cellB.cls := by
  obtain ⟨cell, h1, h2, h3, -⟩ := h.kept hS.2.1
  exact ⟨cell, h1, h2, h3⟩
set_option maxHeartbeats 4000000 in
set_option maxRecDepth 100000 in
theorem tJ3_checkIndexN (l : Launch) (G : va_G) (cI cJ cZ : ClassId) (sz : Nat) (i n : Int32) (h0 : ¬ i < 0) (h1 : i < n) : Met l yJ3_checkIndex_8e157 (Cond.code yJ3_checkIndex_8e157 cJ3_checkIndex_8e157 3 (some .int) :: BIG) ({ frames := 0, cells := 0, slots := 0, locals := 0 } : Room) (cP G (TY3 cI cJ cZ) [.int i, .int n, .null] sz []) (cQ G (TY3 cI cJ cZ) sz [] [] (some (.int i))) 0 0 (va_A [] sz) := by
  refine met_i (cc := cJ3_checkIndex_8e157) (maxL := 3) (by decide +kernel) (Nat.le_of_ble_eq_true rfl) (fun p e s m below meth c A ls Q hx hb hml hts hown hK hP hD hS hA hl hret => ?_)
  have hl : lv_has ls 3 [(0, .int i), (1, .int n), (2, .null)] := hl
  obtain ⟨H, eH⟩ : ∃ H, H = s.heap := ⟨_, rfl⟩
  obtain ⟨locs, elocs⟩ : ∃ z : List Loc, z = [] := ⟨_, rfl⟩
  have hP : va_P G vwCl [] H := by rw [eH]; exact hP
  have hS : va_S A s.heap H locs := by rw [eH, elocs]; exact hS
  suffices hgo : W p l e ({ frames := 0, cells := 0, slots := 0, locals := 0 } : Room) s m ([.int i, .int n, .null] : List Value).toArray below meth c H locs 0 0 Q (F0 m 0 ls []) by rw [eH, elocs] at hgo; exact hgo
  clear eH elocs
  refine lv_iload_n hx hb dJ3_checkIndex_8e157_0 rfl (lv_at hl 0 rfl) ?_
  refine lv_if_lt (tgt := 9) hx hb dJ3_checkIndex_8e157_1 (by decide) (fun c1 => absurd c1 h0) (fun _ => ?_)
  refine lv_iload_n hx hb dJ3_checkIndex_8e157_4 rfl (lv_at hl 0 rfl) ?_
  refine lv_iload_n hx hb dJ3_checkIndex_8e157_5 rfl (lv_at hl 1 rfl) ?_
  refine lv_icmp_lt (tgt := 16) hx hb dJ3_checkIndex_8e157_6 (by decide) (fun _ => ?_) (fun c1 => absurd h1 c1)
  refine lv_iload_n hx hb dJ3_checkIndex_8e157_16 rfl (lv_at hl 0 rfl) ?_
  exact hret _ _ _ _ dJ3_checkIndex_8e157_17 hP hD hS

set_option maxHeartbeats 4000000 in
set_option maxRecDepth 100000 in
theorem tJ3_checkIndexR (l : Launch) (G : va_G) (cI cJ cZ : ClassId) (sz : Nat) (t : Nat) (i n : Int32) (h0 : ¬ i < 0) (h1 : i < n) : Met l yJ3_checkIndex_8e157 (Cond.code yJ3_checkIndex_8e157 cJ3_checkIndex_8e157 3 (some .int) :: BIG) ({ frames := 0, cells := 0, slots := 0, locals := 0 } : Room) (cP G (TY3 cI cJ cZ) [.int i, .int n, .ref t] sz []) (cQ G (TY3 cI cJ cZ) sz [] [] (some (.int i))) 0 0 (va_A [] sz) := by
  refine met_i (cc := cJ3_checkIndex_8e157) (maxL := 3) (by decide +kernel) (Nat.le_of_ble_eq_true rfl) (fun p e s m below meth c A ls Q hx hb hml hts hown hK hP hD hS hA hl hret => ?_)
  have hl : lv_has ls 3 [(0, .int i), (1, .int n), (2, .ref t)] := hl
  obtain ⟨H, eH⟩ : ∃ H, H = s.heap := ⟨_, rfl⟩
  obtain ⟨locs, elocs⟩ : ∃ z : List Loc, z = [] := ⟨_, rfl⟩
  have hP : va_P G vwCl [] H := by rw [eH]; exact hP
  have hS : va_S A s.heap H locs := by rw [eH, elocs]; exact hS
  suffices hgo : W p l e ({ frames := 0, cells := 0, slots := 0, locals := 0 } : Room) s m ([.int i, .int n, .ref t] : List Value).toArray below meth c H locs 0 0 Q (F0 m 0 ls []) by rw [eH, elocs] at hgo; exact hgo
  clear eH elocs
  refine lv_iload_n hx hb dJ3_checkIndex_8e157_0 rfl (lv_at hl 0 rfl) ?_
  refine lv_if_lt (tgt := 9) hx hb dJ3_checkIndex_8e157_1 (by decide) (fun c1 => absurd c1 h0) (fun _ => ?_)
  refine lv_iload_n hx hb dJ3_checkIndex_8e157_4 rfl (lv_at hl 0 rfl) ?_
  refine lv_iload_n hx hb dJ3_checkIndex_8e157_5 rfl (lv_at hl 1 rfl) ?_
  refine lv_icmp_lt (tgt := 16) hx hb dJ3_checkIndex_8e157_6 (by decide) (fun _ => ?_) (fun c1 => absurd h1 c1)
  refine lv_iload_n hx hb dJ3_checkIndex_8e157_16 rfl (lv_at hl 0 rfl) ?_
  exact hret _ _ _ _ dJ3_checkIndex_8e157_17 hP hD hS

set_option maxHeartbeats 4000000 in
set_option maxRecDepth 100000 in
theorem tJ0_checkIndex (l : Launch) (G : va_G) (cI cJ cZ : ClassId) (sz a v : Nat) (i n : Int32) (h0 : ¬ i < 0) (h1 : i < n) : Met l yJ0_checkIndex_df160 (Cond.code yJ0_checkIndex_df160 cJ0_checkIndex_df160 2 none :: BIG) ({ frames := 1, cells := 0, slots := 0, locals := 22 } : Room) (cPX (STR a v) G (TY3 cI cJ cZ) [.int i, .int n] sz []) (cQ G (TY3 cI cJ cZ) sz [] [] none) 0 0 (va_A [] sz) := by
  refine met_vX (cc := cJ0_checkIndex_df160) (maxL := 2) (by decide +kernel) (Nat.le_of_ble_eq_true rfl) (fun p e s m below meth c A ls Q hx hb hml hts hown hK hP hD hS hA hX hl hret => ?_)
  have hown : s.vm.findClass RJ0 = some m.cls := hown
  have hl : lv_has ls 2 [(0, .int i), (1, .int n)] := hl
  obtain ⟨H, eH⟩ : ∃ H, H = s.heap := ⟨_, rfl⟩
  obtain ⟨locs, elocs⟩ : ∃ z : List Loc, z = [] := ⟨_, rfl⟩
  have hP : va_P G vwCl [] H := by rw [eH]; exact hP
  have hS : va_S A s.heap H locs := by rw [eH, elocs]; exact hS
  suffices hgo : W p l e ({ frames := 1, cells := 0, slots := 0, locals := 22 } : Room) s m ([.int i, .int n] : List Value).toArray below meth c H locs 0 0 Q (F0 m 0 ls []) by rw [eH, elocs] at hgo; exact hgo
  clear eH elocs
  obtain ⟨h11, h12, h13, h14, h15, h16, h17⟩ := hX
  refine lv_iload_n hx hb dJ0_checkIndex_df160_0 rfl (lv_at hl 0 rfl) ?_
  refine lv_iload_n hx hb dJ0_checkIndex_df160_1 rfl (lv_at hl 1 rfl) ?_
  rcases h17 with h17 | ⟨t, h17⟩
  · refine va_gets hx hb h17 hS hown (hts _ q_fJ0_1053) (fun _ h => h) dJ0_checkIndex_df160_2 ?_
    refine call_s [.int i, .int n, .null] [] ⟨hx, hb, hml, hown, hts⟩ hK hP hD hS hA hl.1 (tJ3_checkIndexN l G cI cJ cZ H.size i n h0 h1) (va_cwS 3 hts (gs q_mJ0_1059 q_s_yJ3_checkIndex_8e157 q_n_RJ3 q_k_yJ3_checkIndex_8e157) rfl rfl rfl (by decide +kernel) ⟨by decide, by decide⟩) rfl rfl (Nat.le_of_ble_eq_true rfl) dJ0_checkIndex_df160_5 ⟨Nat.zero_le _, Nat.zero_le _⟩ [] [] [] rfl rfl (ws2 := []) rfl (fun H locs hP hD hS => ?_)
    refine W.eq (g2 := F0 m 8 ls [.int i]) rfl ?_
    refine lv_pop hx hb dJ0_checkIndex_df160_8 rfl ?_
    exact hret _ _ _ _ dJ0_checkIndex_df160_9 hP hD hS
  · refine va_gets hx hb h17 hS hown (hts _ q_fJ0_1053) (fun _ h => h) dJ0_checkIndex_df160_2 ?_
    refine call_s [.int i, .int n, .ref t] [] ⟨hx, hb, hml, hown, hts⟩ hK hP hD hS hA hl.1 (tJ3_checkIndexR l G cI cJ cZ H.size t i n h0 h1) (va_cwS 3 hts (gs q_mJ0_1059 q_s_yJ3_checkIndex_8e157 q_n_RJ3 q_k_yJ3_checkIndex_8e157) rfl rfl rfl (by decide +kernel) ⟨by decide, by decide⟩) rfl rfl (Nat.le_of_ble_eq_true rfl) dJ0_checkIndex_df160_5 ⟨Nat.zero_le _, Nat.zero_le _⟩ [] [] [] rfl rfl (ws2 := []) rfl (fun H locs hP hD hS => ?_)
    refine W.eq (g2 := F0 m 8 ls [.int i]) rfl ?_
    refine lv_pop hx hb dJ0_checkIndex_df160_8 rfl ?_
    exact hret _ _ _ _ dJ0_checkIndex_df160_9 hP hD hS

/-- the sign at a place of WORDS -/
def chr (k : Int32) : Int32 := ((wrd.getD k.toNatClampNeg 0 &&& 255).toUInt32 % 65536).toInt32
theorem chr_n (k : Int32) : narrow .char (.int (chr k)) = .int (chr k) := pk_nc _
theorem inb_50 {k : Int32} (h : inb k 50 = true) : ¬ k < 0 ∧ k < 50 := by
  simp only [inb, Bool.and_eq_true, decide_eq_true_eq] at h
  refine ⟨fun q => ?_, ?_⟩
  · have := Int32.lt_iff_toInt_lt.mp q
    simp at this
    omega
  · exact Int32.lt_iff_toInt_lt.mpr (by simpa using h.2)

set_option maxHeartbeats 4000000 in
set_option maxRecDepth 100000 in
theorem tJ1_charAt (l : Launch) (G : va_G) (cI cJ cZ : ClassId) (sz a v : Nat) (k : Int32) (h : inb k 50 = true) : Met l yJ1_charAt_3b067 (Cond.code yJ1_charAt_3b067 cJ1_charAt_3b067 2 (some .char) :: BIG) ({ frames := 2, cells := 0, slots := 0, locals := 43 } : Room) (cPX (STR a v) G (TY3 cI cJ cZ) [.ref v, .int k] sz []) (cQ G (TY3 cI cJ cZ) sz [] [] (some (.int (chr k)))) 0 0 (va_A [] sz) := by
  refine met_cX (cc := cJ1_charAt_3b067) (maxL := 2) (by decide +kernel) (Nat.le_of_ble_eq_true rfl) (fun p e s m below meth c A ls Q hx hb hml hts hown hK hP hD hS hA hX hl hret => ?_)
  have hown : s.vm.findClass RJ1 = some m.cls := hown
  have hl : lv_has ls 2 [(0, .ref v), (1, .int k)] := hl
  obtain ⟨H, eH⟩ : ∃ H, H = s.heap := ⟨_, rfl⟩
  obtain ⟨locs, elocs⟩ : ∃ z : List Loc, z = [] := ⟨_, rfl⟩
  have hP : va_P G vwCl [] H := by rw [eH]; exact hP
  have hS : va_S A s.heap H locs := by rw [eH, elocs]; exact hS
  suffices hgo : W p l e ({ frames := 2, cells := 0, slots := 0, locals := 43 } : Room) s m ([.ref v, .int k] : List Value).toArray below meth c H locs 0 0 Q (F0 m 0 ls []) by rw [eH, elocs] at hgo; exact hgo
  clear eH elocs
  have hX0 := hX
  obtain ⟨h11, h12, h13, h14, h15, h16, h17⟩ := hX
  obtain ⟨g0, g1⟩ := inb_50 h
  refine lv_iload_n hx hb dJ1_charAt_3b067_0 rfl (lv_at hl 1 rfl) ?_
  refine lv_aload_n hx hb dJ1_charAt_3b067_1 rfl (lv_at hl 0 rfl) ?_
  refine va_tlen (v := (50 : Int32)) hx hb h15 hS rfl dJ1_charAt_3b067_2 ?_
  refine call_sX (STR_c a v) hX0 [.int k, .int (50 : Int32)] [] ⟨hx, hb, hml, hown, hts⟩ hK hP hD hS hA hl.1 (tJ0_checkIndex l G cI cJ cZ H.size a v k 50 g0 g1) (va_cwS 2 hts (gs q_mJ1_9 q_s_yJ0_checkIndex_df160 q_n_RJ0 q_k_yJ0_checkIndex_df160) rfl rfl rfl (by decide +kernel) ⟨by decide, by decide⟩) rfl rfl (Nat.le_of_ble_eq_true rfl) dJ1_charAt_3b067_3 ⟨Nat.zero_le _, Nat.zero_le _⟩ [] [] [] rfl rfl (ws2 := []) rfl (fun H locs hP hD hS => ?_)
  refine W.eq (g2 := F0 m 6 ls []) rfl ?_
  refine lv_aload_n hx hb dJ1_charAt_3b067_6 rfl (lv_at hl 0 rfl) ?_
  refine lv_iload_n hx hb dJ1_charAt_3b067_7 rfl (lv_at hl 1 rfl) ?_
  refine va_tb hx hb h15 hS (inb_x h) rfl dJ1_charAt_3b067_8 ?_
  refine lv_sipush (v := (255 : Int32)) hx hb dJ1_charAt_3b067_9 (by decide) ?_
  refine lv_iand hx hb dJ1_charAt_3b067_12 ?_
  refine lv_i2c hx hb dJ1_charAt_3b067_13 rfl ?_
  exact hret _ _ _ _ dJ1_charAt_3b067_14 (chr_n k) hP hD hS

set_option maxHeartbeats 4000000 in
set_option maxRecDepth 100000 in
theorem tJ0_isLatin1 (l : Launch) (G : va_G) (cI cJ cZ : ClassId) (sz a v : Nat) : Met l yJ0_isLatin1_aae02 (Cond.code yJ0_isLatin1_aae02 cJ0_isLatin1_aae02 1 (some .boolean) :: BIG) ({ frames := 0, cells := 0, slots := 0, locals := 0 } : Room) (cPX (STR a v) G (TY3 cI cJ cZ) [.ref a] sz []) (cQ G (TY3 cI cJ cZ) sz [] [] (some (.int 1))) 0 0 (va_A [] sz) := by
  refine met_zX (cc := cJ0_isLatin1_aae02) (maxL := 1) (by decide +kernel) (Nat.le_of_ble_eq_true rfl) (fun p e s m below meth c A ls Q hx hb hml hts hown hK hP hD hS hA hX hl hret => ?_)
  have hown : s.vm.findClass RJ0 = some m.cls := hown
  have hl : lv_has ls 1 [(0, .ref a)] := hl
  obtain ⟨H, eH⟩ : ∃ H, H = s.heap := ⟨_, rfl⟩
  obtain ⟨locs, elocs⟩ : ∃ z : List Loc, z = [] := ⟨_, rfl⟩
  have hP : va_P G vwCl [] H := by rw [eH]; exact hP
  have hS : va_S A s.heap H locs := by rw [eH, elocs]; exact hS
  suffices hgo : W p l e ({ frames := 0, cells := 0, slots := 0, locals := 0 } : Room) s m ([.ref a] : List Value).toArray below meth c H locs 0 0 Q (F0 m 0 ls []) by rw [eH, elocs] at hgo; exact hgo
  clear eH elocs
  obtain ⟨h11, h12, h13, h14, h15, h16, h17⟩ := hX
  refine va_gets hx hb h16 hS hown (hts _ q_fJ0_38) (fun _ h => h) dJ0_isLatin1_aae02_0 ?_
  refine lv_if_eq (tgt := 17) hx hb dJ0_isLatin1_aae02_3 (by decide) (fun c1 => absurd c1 (by decide)) (fun _ => ?_)
  refine lv_aload_n hx hb dJ0_isLatin1_aae02_6 rfl (lv_at hl 0 rfl) ?_
  refine vk_getf hx hb h13 hS hown (hts _ q_fJ0_15) (fun _ h => h) dJ0_isLatin1_aae02_7 ?_
  refine lv_if_ne (tgt := 17) hx hb dJ0_isLatin1_aae02_10 (by decide) (fun c1 => absurd rfl c1) (fun _ => ?_)
  refine lv_iconst (v := (1 : Int32)) hx hb dJ0_isLatin1_aae02_13 (by decide) ?_
  refine lv_goto (tgt := 18) hx hb dJ0_isLatin1_aae02_14 (by decide) ?_
  exact hret _ _ _ _ dJ0_isLatin1_aae02_18 rfl hP hD hS

set_option maxHeartbeats 4000000 in
set_option maxRecDepth 100000 in
theorem tJ0_charAt (l : Launch) (G : va_G) (cI cJ cZ : ClassId) (sz a v : Nat) (k : Int32) (h : inb k 50 = true) : Met l yJ0_charAt_5068e (Cond.code yJ0_charAt_5068e cJ0_charAt_5068e 2 (some .char) :: BIG) ({ frames := 3, cells := 0, slots := 0, locals := 64 } : Room) (cPX (STR a v) G (TY3 cI cJ cZ) [.ref a, .int k] sz []) (cQ G (TY3 cI cJ cZ) sz [] [] (some (.int (chr k)))) 0 0 (va_A [] sz) := by
  refine met_cX (cc := cJ0_charAt_5068e) (maxL := 2) (by decide +kernel) (Nat.le_of_ble_eq_true rfl) (fun p e s m below meth c A ls Q hx hb hml hts hown hK hP hD hS hA hX hl hret => ?_)
  have hown : s.vm.findClass RJ0 = some m.cls := hown
  have hl : lv_has ls 2 [(0, .ref a), (1, .int k)] := hl
  obtain ⟨H, eH⟩ : ∃ H, H = s.heap := ⟨_, rfl⟩
  obtain ⟨locs, elocs⟩ : ∃ z : List Loc, z = [] := ⟨_, rfl⟩
  have hP : va_P G vwCl [] H := by rw [eH]; exact hP
  have hS : va_S A s.heap H locs := by rw [eH, elocs]; exact hS
  suffices hgo : W p l e ({ frames := 3, cells := 0, slots := 0, locals := 64 } : Room) s m ([.ref a, .int k] : List Value).toArray below meth c H locs 0 0 Q (F0 m 0 ls []) by rw [eH, elocs] at hgo; exact hgo
  clear eH elocs
  have hX0 := hX
  obtain ⟨h11, h12, h13, h14, h15, h16, h17⟩ := hX
  refine lv_aload_n hx hb dJ0_charAt_5068e_0 rfl (lv_at hl 0 rfl) ?_
  refine call_vX (STR_c a v) hX0 [] [] ⟨hx, hb, hml, hown, hts⟩ hK hP hD hS hA hl.1 (tJ0_isLatin1 l G cI cJ cZ H.size a v) (cwV 0 hts (gv q_mJ0_492 q_i_yJ0_isLatin1_aae02 q_s_yJ0_isLatin1_aae02 q_n_RJ0 q_k_yJ0_isLatin1_aae02) rfl rfl rfl (by decide +kernel) ⟨by decide, by decide⟩) rfl rfl (Nat.le_of_ble_eq_true rfl) dJ0_charAt_5068e_1 ⟨Nat.zero_le _, Nat.zero_le _⟩ (STR_r h12 hS) [] [] [] rfl rfl (ws2 := []) rfl (fun H locs hP hD hS => ?_)
  refine W.eq (g2 := F0 m 4 ls [.int 1]) rfl ?_
  refine lv_if_eq (tgt := 16) hx hb dJ0_charAt_5068e_4 (by decide) (fun c1 => absurd c1 (by decide)) (fun _ => ?_)
  refine lv_aload_n hx hb dJ0_charAt_5068e_7 rfl (lv_at hl 0 rfl) ?_
  refine vk_getf hx hb h14 hS hown (hts _ q_fJ0_9) (fun _ h => h) dJ0_charAt_5068e_8 ?_
  refine lv_iload_n hx hb dJ0_charAt_5068e_11 rfl (lv_at hl 1 rfl) ?_
  refine call_sX (STR_c a v) hX0 [.ref v, .int k] [] ⟨hx, hb, hml, hown, hts⟩ hK hP hD hS hA hl.1 (tJ1_charAt l G cI cJ cZ H.size a v k h) (va_cwS 2 hts (gs q_mJ0_495 q_s_yJ1_charAt_3b067 q_n_RJ1 q_k_yJ1_charAt_3b067) rfl rfl rfl (by decide +kernel) ⟨by decide, by decide⟩) rfl rfl (Nat.le_of_ble_eq_true rfl) dJ0_charAt_5068e_12 ⟨Nat.zero_le _, Nat.zero_le _⟩ [] [] [] rfl rfl (ws2 := []) rfl (fun H locs hP hD hS => ?_)
  refine W.eq (g2 := F0 m 15 ls [.int (chr k)]) rfl ?_
  exact hret _ _ _ _ dJ0_charAt_5068e_15 (chr_n k) hP hD hS

