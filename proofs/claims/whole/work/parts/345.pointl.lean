/-! ===== the law's own point: it catches what point throws ===== -/
abbrev hhL : List (Nat × Nat × Nat × Nat) := [(0, 10, 13, 13), (0, 10, 17, 15)]
abbrev rmL : Room := { frames := 7, cells := 1, slots := 6, locals := 104 }
theorem q_k_yL_point : Cond.codeWith yL_point cL_point 5 (some .int) hhL ∈ BIG := BIG_at 1032 (by decide +kernel) (by decide +kernel)
def wLP (cI cJ cZ : ClassId) (h_o h_o_wave h_o_way h_o_wave_im h_o_wave_re h_o_wave_wasIm h_o_wave_wasRe h_o_past h_o_notes h_o_ring h_o_turns h_o_beater h_o_reader h_o_dice h_o_trialWay h_o_trial h_o_otherTrial h_o_sumsRe h_o_sumsIm h_o_tally h_o_image h_o_tape h_o_wave_halved h_o_way_shifts : Nat) (o_imageKept : Int32) (o_taped : Int32) (o_wave_exp : Int32) (o_wave_done : Int32) (o_wave_backward : Int32) (o_way_size : Int32) (o_way_log : Int32) (o_way_wordBits : Int32) (o_way_limit : Int32) (o_way_radix : Int32) (o_way_order : Int32) (o_way_near : Int32) (o_way_seed : Int32) (o_way_stages : Int32) (o_wave_im : Nat → Int32) (o_wave_re : Nat → Int32) (o_wave_wasIm : Nat → Int32) (o_wave_wasRe : Nat → Int32) (h_x : Nat) (ox : Nat → Int64) : va_W := (wX9_point cI cJ cZ h_o h_o_wave h_o_way h_o_wave_im h_o_wave_re h_o_wave_wasIm h_o_wave_wasRe h_o_past h_o_notes h_o_ring h_o_turns h_o_beater h_o_reader h_o_dice h_o_trialWay h_o_trial h_o_otherTrial h_o_sumsRe h_o_sumsIm h_o_tally h_o_image h_o_tape h_o_wave_halved h_o_way_shifts o_imageKept o_taped o_wave_exp o_wave_done o_wave_backward o_way_size o_way_log o_way_wordBits o_way_limit o_way_radix o_way_order o_way_near o_way_seed o_way_stages o_wave_im o_wave_re o_wave_wasIm o_wave_wasRe) ++ [(h_x, .inl (cJ, 1, .inr (.inl ox)))]
section CALLT
variable {p : Program} {l : Launch} {e : Env} {R : Room} {s : State} {m : MethodId} {args : Array Value} {below : List Frame} {meth : Method} {c : Code} {H : Heap} {locs : List Loc} {cells slots : Nat} {Q : State → Prop}
variable {A0 : Nat → Prop} {G : va_G} {ty : List (ClassId × FieldType)} {cc : ByteArray} {nL : Nat} {Ts : List Cond} {own C : String} {index : Nat} {y : MethodName} {bytes : ByteArray} {maxL n mc ms : Nat} {ret : Option FieldType} {wsy : List Cond} {rm : Room} {b : Addr} {pc : Nat} {ls : Array Slot} {ws wc : va_W} {E0 : String}
theorem call_x {X : (Nat → Prop) → State → Heap → Prop} (hXc : XC X) (hX : X A0 s s.heap) {st0 : List Value} (As rest : List Value) (S : CallFix p m c cc nL s args Ts own) (hK : va_K G vwCl ty s) (hP : va_P G vwCl ws H) (hD : va_D A0 ws) (hS : va_S A0 s.heap H locs) (hA : ∀ q, s.heap.size ≤ q → A0 q) (hls : ls.size = nL)
    (hM : vx_Met l y wsy rm (cPX X G ty (.ref b :: As) H.size wc) (fun _ _ _ _ => False) (XT9 G H.size wc E0) mc ms (va_A wc H.size)) (cw : CallW R s args own C index y bytes maxL ret wsy rm mc ms n)
    (hn : As.length = n) (hst : st0 = As.reverse ++ .ref b :: rest) (hrest : (rest.map fun v => v.category).sum ≤ 8) (hdg : decode cc pc = .ok (.invokevirtual index, 3)) (hcs : cells + mc ≤ R.cells ∧ slots + ms ≤ R.slots)
    (hrec : ∃ cellB : Cell, H[b]? = some cellB ∧ cellB.vm.isStatics = false ∧ s.vm.findClass C = some cellB.cls)
    (isC isR is2 : List Nat) (hC : isC.map (fun i => ws[i]?) = wc.map some) (hok : okI ws.length isC isR is2 = true)
    (h2 : is2.map (fun i => (isR.filterMap (fun i => ws[i]?) ++ wc)[i]?) = ws.map some)
    (kk : ∀ (q : Addr) (ce : Cell) (H1 : Heap) (locs1 : List Loc), va_P G vwCl ws H1 → va_S A0 s.heap H1 locs1 → H1[q]? = some ce → ce.vm = .none → s.vm.findClass E0 = some ce.cls → vx_W p l e R s m args below meth c H1 locs1 (cells + mc) (slots + ms) Q (F0 m pc ls rest) q) :
    W p l e R s m args below meth c H locs cells slots Q (F0 m pc ls st0) := by
  have hPc : va_P G vwCl wc H := hP.sub isC (by
    have h3 := congrArg (fun z => z.filterMap id) hC
    simpa [List.filterMap_map] using h3)
  have hDc : va_D (fun _ => True) wc := (hD.sub isC (okI_c hok) hC).weaken (fun _ _ _ _ => trivial)
  have hF := va_free (wc := wc) hD hS hA isC hC
  have hXH : X (va_A wc H.size) s H := hXc.1 _ _ _ _ (hXc.2.1 _ _ _ _ hX hS.2.1) hF
  have hr := vx_runV (p := p) (e := e) (R := R) (below := below) (meth := meth) (locs := locs) (cells := cells) (slots := slots) (g := F0 m pc ls st0) (As := As) (rest := rest) S hM cw ⟨cPX_blind hXc, hrec, fun U hU hW => ⟨rfl, by rw [hU], by rw [hU]; exact hPc, va_K.moved hW.alike hK, hDc, by rw [hU]; exact hXc.2.2.1 _ _ _ _ hW hXH⟩⟩ rfl hn hls hst (lv_room hrest) hdg hcs
  obtain ⟨hnR, hn2, hlt, hdis⟩ := okI_x hok
  intro T hT X'
  rcases hr T hT X' with ⟨v, st₀, t, T', L, h0, Y, hL, e1, e2, hq, st⟩ | ⟨q, st₀, t, T', L, E, ce, h0, Y, hL, e1, e2, ⟨eE, hP1, hz, hk⟩, hce, hcv, hcl, st⟩
  · exact hq.elim
  · rw [eE] at hcl
    rw [h0] at hz hk
    obtain ⟨hPj, hDj⟩ := va_join (H1 := T'.heap) hP hD isC isR hC (in_map isR hlt) hnR hdis (fun q h1 h2 => by rw [e1]; exact hk q h1 h2) hF (by rw [e1]; exact hP1) hDc.self
    have hPs : va_P G vwCl ws T'.heap := hPj.sub is2 (by
      have h3 := congrArg (fun z => z.filterMap id) h2
      simpa [List.filterMap_map] using h3)
    obtain ⟨t2, a1, b1⟩ := kk q ce T'.heap (locs ++ L) hPs ⟨Nat.le_trans hS.1 (by rw [e1]; exact hz), fun q h1 h2 => by rw [e1, hk q (Nat.lt_of_lt_of_le h1 hS.1) (fun z => h2 (hF q z))]; exact hS.2.1 q h1 h2, fun q hq => by
      rcases List.mem_append.mp hq with h | h
      · exact hS.2.2 q h
      · exact hF _ (hL q h)⟩ (by rw [e1]; exact hce) hcv hcl T' rfl Y
    exact ⟨t2, st.trans a1, b1⟩
end CALLT
theorem met_h {X : (Nat → Prop) → State → Heap → Prop} {l : Launch} {y : MethodName} {rm : Room} {cc : ByteArray} {maxL : Nat} {hh : List (Nat × Nat × Nat × Nat)} {G : va_G} {ty : List (ClassId × FieldType)} {av : List Value} {sz : Nat} {WS WS' : va_W} {r : Int32} {mc ms : Nat}
    (hy : plainName y.cls = true) (hlen : (lg_sl av).length ≤ maxL)
    (body : ∀ (p : Program) (e : Env) (s : State) (m : MethodId) (below : List Frame) (meth : Method) (c : Code) (A : Nat → Prop) (ls : Array Slot) (Q : State → Prop), c.exceptionTable.toList = tableOf hh →
      p.tables.exec = Jvm.exec → c.code = cc → c.maxLocals = maxL → (∀ w ∈ BIG, w.before av.toArray s = true) → s.vm.findClass y.cls = some m.cls →
      va_K G vwCl ty s → va_P G vwCl WS s.heap → va_D A WS → va_S A s.heap s.heap [] → (∀ q, s.heap.size ≤ q → A q) → X A s s.heap → lv_has ls maxL (lv_args 0 av) →
      (∀ (pc : Nat) (ls' : Array Slot) (H : Heap) (locs : List Loc) (cells slots : Nat), cells ≤ mc → slots ≤ ms → decode cc pc = .ok (.ireturn, 1) → va_P G vwCl WS' H → va_D A WS' → va_S A s.heap H locs → W p l e rm s m av.toArray below meth c H locs cells slots Q (F0 m pc ls' [.int r])) →
      W p l e rm s m av.toArray below meth c s.heap [] 0 0 Q (F0 m 0 ls [])) :
    Met l y (Cond.codeWith y cc maxL (some .int) hh :: BIG) rm (cPX X G ty av sz WS) (cQ G ty sz WS WS' (some (.int r))) mc ms (va_A WS sz) := by
  refine va_MetW (cc := cc) (maxL := maxL) (ret := some .int) (hh := hh) hy rfl ?_
  intro p e s m args below meth c s₁ B hml hv
  obtain ⟨rfl, hsz, hP, hK, hD0, hX⟩ := hv
  subst hsz
  have hl := lv_entry av (n := maxL) hlen
  rw [lg_entry_eq]
  have htab := vx_table (x := y) B (atoms_spec (ws := Cond.codeWith y cc maxL (some .int) hh :: BIG) B.pre _ List.mem_cons_self)
  refine body p e s m below meth c (va_A WS s.heap.size) _ _ htab B.exec B.bytes hml (fun w h => atoms_spec (ws := Cond.codeWith y cc maxL (some .int) hh :: BIG) B.pre w (List.mem_cons_of_mem _ h)) (findClass_of_methodNamed B.named) hK hP hD0.self va_S.rf (fun q h => Or.inr h) hX hl ?_
  intro pc ls' H locs cells slots k1 k2 hd hP' hD' hS'
  refine W.widen (k := mc) (n := ms) k1 k2 ?_
  exact W.iret B.exec B.bytes B.returns (fun t ht hW => ⟨⟨rfl, by rw [ht]; exact hP', va_K.moved hW.alike hK, hD'⟩, hS'.F ht⟩) hS'.2.2 hd (hlocks := B.notSynchronized)
set_option maxHeartbeats 4000000 in
set_option maxRecDepth 100000 in
theorem tL_point (l : Launch) (hfl : l.stackTraces = false) (G : va_G) (cI cJ cZ : ClassId) (sz : Nat) (h_o h_o_wave h_o_way h_o_wave_im h_o_wave_re h_o_wave_wasIm h_o_wave_wasRe h_o_past h_o_notes h_o_ring h_o_turns h_o_beater h_o_reader h_o_dice h_o_trialWay h_o_trial h_o_otherTrial h_o_sumsRe h_o_sumsIm h_o_tally h_o_image h_o_tape h_o_wave_halved h_o_way_shifts : Nat) (o_imageKept : Int32) (o_taped : Int32) (o_wave_exp : Int32) (o_wave_done : Int32) (o_wave_backward : Int32) (o_way_size : Int32) (o_way_log : Int32) (o_way_wordBits : Int32) (o_way_limit : Int32) (o_way_radix : Int32) (o_way_order : Int32) (o_way_near : Int32) (o_way_seed : Int32) (o_way_stages : Int32) (o_wave_im : Nat → Int32) (o_wave_re : Nat → Int32) (o_wave_wasIm : Nat → Int32) (o_wave_wasRe : Nat → Int32) (h_x : Nat) (ox : Nat → Int64) (p1 : Int32) (p2 : Int32) (r5 : Int32) (ox2 : Nat → Int64)
    (hcase : (∃ r, fX9_point o_way_size o_wave_im o_wave_re o_wave_wasIm o_wave_wasRe p1 p2 = some r ∧ r5 = 0 ∧ ox2 = vp_updL ox (Int32.toNatClampNeg 0) (Int32.toInt64 r)) ∨ (fX9_isPlace o_way_size p1 = some 0 ∧ r5 = 1 ∧ ox2 = ox) ∨ ∃ r1, fX9_isPlace o_way_size p1 = some r1 ∧ ¬ r1 = 0 ∧ (p2 < 0 ∨ ¬ p2 ≤ (3 : Int32)) ∧ r5 = 2 ∧ ox2 = ox) :
    Met l yL_point (Cond.codeWith yL_point cL_point 5 (some .int) hhL :: BIG) rmL (cPX XP G (TY3 cI cJ cZ) [.ref h_o, .int p1, .int p2, .ref h_x] sz (wLP cI cJ cZ h_o h_o_wave h_o_way h_o_wave_im h_o_wave_re h_o_wave_wasIm h_o_wave_wasRe h_o_past h_o_notes h_o_ring h_o_turns h_o_beater h_o_reader h_o_dice h_o_trialWay h_o_trial h_o_otherTrial h_o_sumsRe h_o_sumsIm h_o_tally h_o_image h_o_tape h_o_wave_halved h_o_way_shifts o_imageKept o_taped o_wave_exp o_wave_done o_wave_backward o_way_size o_way_log o_way_wordBits o_way_limit o_way_radix o_way_order o_way_near o_way_seed o_way_stages o_wave_im o_wave_re o_wave_wasIm o_wave_wasRe h_x ox)) (cQ G (TY3 cI cJ cZ) sz (wLP cI cJ cZ h_o h_o_wave h_o_way h_o_wave_im h_o_wave_re h_o_wave_wasIm h_o_wave_wasRe h_o_past h_o_notes h_o_ring h_o_turns h_o_beater h_o_reader h_o_dice h_o_trialWay h_o_trial h_o_otherTrial h_o_sumsRe h_o_sumsIm h_o_tally h_o_image h_o_tape h_o_wave_halved h_o_way_shifts o_imageKept o_taped o_wave_exp o_wave_done o_wave_backward o_way_size o_way_log o_way_wordBits o_way_limit o_way_radix o_way_order o_way_near o_way_seed o_way_stages o_wave_im o_wave_re o_wave_wasIm o_wave_wasRe h_x ox) (wLP cI cJ cZ h_o h_o_wave h_o_way h_o_wave_im h_o_wave_re h_o_wave_wasIm h_o_wave_wasRe h_o_past h_o_notes h_o_ring h_o_turns h_o_beater h_o_reader h_o_dice h_o_trialWay h_o_trial h_o_otherTrial h_o_sumsRe h_o_sumsIm h_o_tally h_o_image h_o_tape h_o_wave_halved h_o_way_shifts o_imageKept o_taped o_wave_exp o_wave_done o_wave_backward o_way_size o_way_log o_way_wordBits o_way_limit o_way_radix o_way_order o_way_near o_way_seed o_way_stages o_wave_im o_wave_re o_wave_wasIm o_wave_wasRe h_x ox2) (some (.int r5))) 1 6 (va_A (wLP cI cJ cZ h_o h_o_wave h_o_way h_o_wave_im h_o_wave_re h_o_wave_wasIm h_o_wave_wasRe h_o_past h_o_notes h_o_ring h_o_turns h_o_beater h_o_reader h_o_dice h_o_trialWay h_o_trial h_o_otherTrial h_o_sumsRe h_o_sumsIm h_o_tally h_o_image h_o_tape h_o_wave_halved h_o_way_shifts o_imageKept o_taped o_wave_exp o_wave_done o_wave_backward o_way_size o_way_log o_way_wordBits o_way_limit o_way_radix o_way_order o_way_near o_way_seed o_way_stages o_wave_im o_wave_re o_wave_wasIm o_wave_wasRe h_x ox) sz) := by
  refine met_h (cc := cL_point) (maxL := 5) (hh := hhL) (by decide) (Nat.le_of_ble_eq_true rfl) (fun p e s m below meth c A ls Q htab hx hb hml hts hown hK hP hD hS hA hX hl hret => ?_)
  have hl : lv_has ls 5 [(0, .ref h_o), (1, .int p1), (2, .int p2), (3, .ref h_x)] := hl
  have hown : s.vm.findClass RL = some m.cls := hown
  obtain ⟨H, eH⟩ : ∃ H, H = s.heap := ⟨_, rfl⟩
  obtain ⟨locs, elocs⟩ : ∃ z : List Loc, z = [] := ⟨_, rfl⟩
  have hP : va_P G vwCl (wLP cI cJ cZ h_o h_o_wave h_o_way h_o_wave_im h_o_wave_re h_o_wave_wasIm h_o_wave_wasRe h_o_past h_o_notes h_o_ring h_o_turns h_o_beater h_o_reader h_o_dice h_o_trialWay h_o_trial h_o_otherTrial h_o_sumsRe h_o_sumsIm h_o_tally h_o_image h_o_tape h_o_wave_halved h_o_way_shifts o_imageKept o_taped o_wave_exp o_wave_done o_wave_backward o_way_size o_way_log o_way_wordBits o_way_limit o_way_radix o_way_order o_way_near o_way_seed o_way_stages o_wave_im o_wave_re o_wave_wasIm o_wave_wasRe h_x ox) H := by rw [eH]; exact hP
  have hS : va_S A s.heap H locs := by rw [eH, elocs]; exact hS
  refine goHL eH elocs ?_
  clear eH elocs
  refine lv_aload_n hx hb dL_point_0 rfl (lv_at hl 3 rfl) ?_
  refine lv_iconst (v := 0) hx hb dL_point_1 (by decide) ?_
  refine lv_aload_n hx hb dL_point_2 rfl (lv_at hl 0 rfl) ?_
  refine lv_iload_n hx hb dL_point_3 rfl (lv_at hl 1 rfl) ?_
  refine lv_iload_n hx hb dL_point_4 rfl (lv_at hl 2 rfl) ?_
  rcases hcase with ⟨r, e1, rfl, eo⟩ | ⟨e1, rfl, rfl⟩ | ⟨r1, e1, hc, hw, rfl, rfl⟩
  · refine call_v [.int p1, .int p2] [.int 0, .ref h_x] ⟨hx, hb, hml, hown, hts⟩ hK hP hD hS hA hl.1 (tX9_point l G cI cJ cZ H.size h_o h_o_wave h_o_way h_o_wave_im h_o_wave_re h_o_wave_wasIm h_o_wave_wasRe h_o_past h_o_notes h_o_ring h_o_turns h_o_beater h_o_reader h_o_dice h_o_trialWay h_o_trial h_o_otherTrial h_o_sumsRe h_o_sumsIm h_o_tally h_o_image h_o_tape h_o_wave_halved h_o_way_shifts o_imageKept o_taped o_wave_exp o_wave_done o_wave_backward o_way_size o_way_log o_way_wordBits o_way_limit o_way_radix o_way_order o_way_near o_way_seed o_way_stages o_wave_im o_wave_re o_wave_wasIm o_wave_wasRe p1 p2 r e1) (cwV 2 hts (gv q_mL_7 q_i_yX9_point q_s_yX9_point q_n_RX9 q_k_yX9_point) rfl rfl rfl (by decide +kernel) ⟨by decide, by decide⟩) rfl rfl (Nat.le_of_ble_eq_true rfl) dL_point_5 ⟨Nat.zero_le _, Nat.zero_le _⟩ (ci := 9) rfl 0 rfl [0, 1, 2, 3, 4, 5, 6] [7] [1, 2, 3, 4, 5, 6, 7, 0] rfl rfl (ws2 := (wLP cI cJ cZ h_o h_o_wave h_o_way h_o_wave_im h_o_wave_re h_o_wave_wasIm h_o_wave_wasRe h_o_past h_o_notes h_o_ring h_o_turns h_o_beater h_o_reader h_o_dice h_o_trialWay h_o_trial h_o_otherTrial h_o_sumsRe h_o_sumsIm h_o_tally h_o_image h_o_tape h_o_wave_halved h_o_way_shifts o_imageKept o_taped o_wave_exp o_wave_done o_wave_backward o_way_size o_way_log o_way_wordBits o_way_limit o_way_radix o_way_order o_way_near o_way_seed o_way_stages o_wave_im o_wave_re o_wave_wasIm o_wave_wasRe h_x ox)) rfl (fun H locs hP hD hS => ?_)
    refine W.eq (g2 := F0 m 8 ls [.int r, .int 0, .ref h_x]) rfl ?_
    refine lv_i2l hx hb dL_point_8 rfl ?_
    refine lst hx hb hK hP hD hS 7 1 rfl rfl (inb_x (by decide)) dL_point_9 eo (ws2 := (wLP cI cJ cZ h_o h_o_wave h_o_way h_o_wave_im h_o_wave_re h_o_wave_wasIm h_o_wave_wasRe h_o_past h_o_notes h_o_ring h_o_turns h_o_beater h_o_reader h_o_dice h_o_trialWay h_o_trial h_o_otherTrial h_o_sumsRe h_o_sumsIm h_o_tally h_o_image h_o_tape h_o_wave_halved h_o_way_shifts o_imageKept o_taped o_wave_exp o_wave_done o_wave_backward o_way_size o_way_log o_way_wordBits o_way_limit o_way_radix o_way_order o_way_near o_way_seed o_way_stages o_wave_im o_wave_re o_wave_wasIm o_wave_wasRe h_x ox2)) rfl (fun H locs hP hD hS => ?_)
    refine lv_goto (tgt := 21) hx hb dL_point_10 (by decide) ?_
    refine lv_iconst (v := 0) hx hb dL_point_21 (by decide) ?_
    exact hret _ _ _ _ _ _ (by decide) (by decide) dL_point_22 hP hD hS
  · refine call_x XP_c hX [.int p1, .int p2] [.int 0, .ref h_x] ⟨hx, hb, hml, hown, hts⟩ hK hP hD hS hA hl.1 (tP9_i l hfl G cI cJ cZ H.size h_o h_o_wave h_o_way h_o_wave_im h_o_wave_re h_o_wave_wasIm h_o_wave_wasRe h_o_past h_o_notes h_o_ring h_o_turns h_o_beater h_o_reader h_o_dice h_o_trialWay h_o_trial h_o_otherTrial h_o_sumsRe h_o_sumsIm h_o_tally h_o_image h_o_tape h_o_wave_halved h_o_way_shifts o_imageKept o_taped o_wave_exp o_wave_done o_wave_backward o_way_size o_way_log o_way_wordBits o_way_limit o_way_radix o_way_order o_way_near o_way_seed o_way_stages o_wave_im o_wave_re o_wave_wasIm o_wave_wasRe p1 p2 0 e1 rfl) (cwV 2 hts (gv q_mL_7 q_i_yX9_point q_s_yX9_point q_n_RX9 q_k_yX9_point) rfl rfl rfl (by decide +kernel) ⟨by decide, by decide⟩) rfl rfl (Nat.le_of_ble_eq_true rfl) dL_point_5 ⟨by decide, by decide⟩ (va_recv hK hP (ci := 9) (q0 := 0) rfl rfl) [0, 1, 2, 3, 4, 5, 6] [7] [1, 2, 3, 4, 5, 6, 7, 0] rfl rfl rfl (fun q ce H locs hP hS hce hcv hcl => ?_)
    refine vx_catch (own := RL) (name := IOX) (E := IOX) hown [] { startPc := 0, endPc := 10, handlerPc := 13, catchType := 13 } [{ startPc := 0, endPc := 10, handlerPc := 17, catchType := 15 }] (by rw [htab]; rfl) (fun z hz => nomatch hz) (by decide) (by decide) (hts _ q_lL_13) (va_any rfl (hX.2.2.2.2.2 (Cond.castable IOX IOX) (by decide +kernel))) hce hcv hcl ?_
    refine lv_astore hx hb dL_point_13 hl (by decide) rfl (fun ls2 hl2 => ?_)
    refine lv_iconst (v := 1) hx hb dL_point_15 (by decide) ?_
    exact hret _ _ _ _ _ _ (by decide) (by decide) dL_point_16 hP hD hS
  · refine call_x XP_c hX [.int p1, .int p2] [.int 0, .ref h_x] ⟨hx, hb, hml, hown, hts⟩ hK hP hD hS hA hl.1 (tP9_n l hfl G cI cJ cZ H.size h_o h_o_wave h_o_way h_o_wave_im h_o_wave_re h_o_wave_wasIm h_o_wave_wasRe h_o_past h_o_notes h_o_ring h_o_turns h_o_beater h_o_reader h_o_dice h_o_trialWay h_o_trial h_o_otherTrial h_o_sumsRe h_o_sumsIm h_o_tally h_o_image h_o_tape h_o_wave_halved h_o_way_shifts o_imageKept o_taped o_wave_exp o_wave_done o_wave_backward o_way_size o_way_log o_way_wordBits o_way_limit o_way_radix o_way_order o_way_near o_way_seed o_way_stages o_wave_im o_wave_re o_wave_wasIm o_wave_wasRe p1 p2 r1 e1 hc hw) (cwV 2 hts (gv q_mL_7 q_i_yX9_point q_s_yX9_point q_n_RX9 q_k_yX9_point) rfl rfl rfl (by decide +kernel) ⟨by decide, by decide⟩) rfl rfl (Nat.le_of_ble_eq_true rfl) dL_point_5 ⟨by decide, by decide⟩ (va_recv hK hP (ci := 9) (q0 := 0) rfl rfl) [0, 1, 2, 3, 4, 5, 6] [7] [1, 2, 3, 4, 5, 6, 7, 0] rfl rfl rfl (fun q ce H locs hP hS hce hcv hcl => ?_)
    refine vx_catch (own := RL) (name := NSX) (E := NSX) hown [{ startPc := 0, endPc := 10, handlerPc := 13, catchType := 13 }] { startPc := 0, endPc := 10, handlerPc := 17, catchType := 15 } [] (by rw [htab]; rfl) (fun z hz => by rcases List.mem_cons.mp hz with rfl | hz; exact Or.inr ⟨by decide, IOX, hts _ q_lL_13, hX.2.2.2.2.1⟩; exact nomatch hz) (by decide) (by decide) (hts _ q_lL_15) (va_any rfl (hX.2.2.2.2.2 (Cond.castable NSX NSX) (by decide +kernel))) hce hcv hcl ?_
    refine lv_astore hx hb dL_point_17 hl (by decide) rfl (fun ls2 hl2 => ?_)
    refine lv_iconst (v := 2) hx hb dL_point_19 (by decide) ?_
    exact hret _ _ _ _ _ _ (by decide) (by decide) dL_point_20 hP hD hS
