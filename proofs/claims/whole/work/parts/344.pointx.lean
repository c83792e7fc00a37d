/-! ===== point, where it throws ===== -/
abbrev IOX : String := "java/lang/IndexOutOfBoundsException"
abbrev NSX : String := "java/util/NoSuchElementException"
def rxN : ByteArray := ⟨#[0x2a, 0x2b, 0xb7, 0x00, 0x0d, 0xb1]⟩
def xw1 : List Cond := vx_atS RX9 167 IOX ["java/lang/RuntimeException", "java/lang/Exception"]
def xw2 : List Cond := nx_at RX9 174 NSX 13 rxN "java/lang/RuntimeException" ["java/lang/Exception"]
def xwB : List Cond := [.castable IOX IOX, .castable NSX NSX, .declares (Bundle.initS "java/lang/RuntimeException"), .declares (Bundle.initS "java/lang/Exception"), .declares (Bundle.initS Bundle.tN)]
theorem xw1_t : ∀ w ∈ xw1, w ∈ lw_tbl := by decide +kernel
theorem xw1_n : ∀ w ∈ xw1.filter (fun w => !goodWord w), w ∈ xwB := by decide +kernel
theorem xw2_t : ∀ w ∈ xw2, w ∈ lw_tbl := by decide +kernel
theorem xw2_n : ∀ w ∈ xw2.filter (fun w => !goodWord w), w ∈ xwB := by decide +kernel
theorem xwB_t : ∀ w ∈ xwB, w ∈ lw_tbl := by decide +kernel
theorem xwB_o : ∀ w ∈ xwB, w.onTables = true := by decide +kernel
theorem q_XA : Cond.classLink RX9 163 IOX ∈ BIG := q_lX9_163
theorem q_XB : Cond.initialized IOX ∈ BIG := List.mem_filter.mpr ⟨by decide +kernel, by decide +kernel⟩
theorem q_XC : Cond.classLink RX9 170 NSX ∈ BIG := List.mem_filter.mpr ⟨by decide +kernel, by decide +kernel⟩
theorem q_XD : Cond.initialized NSX ∈ BIG := List.mem_filter.mpr ⟨by decide +kernel, by decide +kernel⟩
theorem xw1_h {args : Array Value} {s : State} (hts : ∀ w ∈ BIG, w.before args s = true) (hB : ∀ w ∈ xwB, w.before #[] s = true) : ∀ w ∈ xw1, w.before args s = true :=
  vx_hat (fun w hw => hts w (List.mem_filter.mpr ⟨xw1_t w (List.mem_filter.mp hw).1, (List.mem_filter.mp hw).2⟩)) xw1_n (fun w hw => va_any (xwB_o w hw) (hB w hw))
theorem xw2_h {args : Array Value} {s : State} (hts : ∀ w ∈ BIG, w.before args s = true) (hB : ∀ w ∈ xwB, w.before #[] s = true) : ∀ w ∈ xw2, w.before args s = true :=
  vx_hat (fun w hw => hts w (List.mem_filter.mpr ⟨xw2_t w (List.mem_filter.mp hw).1, (List.mem_filter.mp hw).2⟩)) xw2_n (fun w hw => va_any (xwB_o w hw) (hB w hw))
theorem xw1_o : ∀ w ∈ Cond.classLink RX9 163 IOX :: Cond.initialized IOX :: xw1, vx_ot w = true := by decide +kernel
theorem xw2_o : ∀ w ∈ Cond.classLink RX9 170 NSX :: Cond.initialized NSX :: xw2, vx_ot w = true := by decide +kernel
theorem xwB_m {u U : State} (hvm : u.vm.Alike U.vm) (h : ∀ w ∈ xwB, w.before #[] u = true) : ∀ w ∈ xwB, w.before #[] U = true := by
  have tr : ∀ {c : Cond}, c.onTables = true → c.before #[] (u.setVm U.vm) = true → c.before #[] U = true := by
    intro c hc h
    have e := Cond.onTables_vm (A := #[]) (A' := #[]) (U := u) (U' := U) U.vm c hc
    have hU : U.setVm U.vm = U := rfl
    rw [hU] at e
    rw [← e]
    exact h
  intro w hw
  have h1 := h w hw
  simp only [xwB, List.mem_cons, List.not_mem_nil, or_false] at hw
  rcases hw with rfl | rfl | rfl | rfl | rfl
  · exact tr rfl (by rw [Cond.castable_setVm hvm]; exact h1)
  · exact tr rfl (by rw [Cond.castable_setVm hvm]; exact h1)
  · exact tr rfl (by rw [Cond.declares_setVm hvm]; exact h1)
  · exact tr rfl (by rw [Cond.declares_setVm hvm]; exact h1)
  · exact tr rfl (by rw [Cond.declares_setVm hvm]; exact h1)
def XP (A : Nat → Prop) (U : State) (H : Heap) : Prop := vx_Zq Bundle.tN "UNASSIGNED_STACK" Bundle.steD A U H ∧ vx_Zq Bundle.tN "SUPPRESSED_SENTINEL" Bundle.listD A U H ∧ (∃ a, vk_R RX9 165 "no such place" a U) ∧ (∃ a, vk_R RX9 172 "no such what" a U) ∧ va_Nc NSX IOX U ∧ ∀ w ∈ xwB, w.before #[] U = true
theorem XP_c : XC XP := by
  refine ⟨fun A B U H h k => ?_, fun A U H H1 h k => ?_, fun A s U H w h => ?_, fun A U V H w h => ?_⟩ <;> obtain ⟨h1, h2, ⟨a, h3⟩, ⟨b, h4⟩, h5, h6⟩ := h
  · exact ⟨h1.narrow k, h2.narrow k, ⟨a, h3⟩, ⟨b, h4⟩, h5, h6⟩
  · exact ⟨h1.kept k, h2.kept k, ⟨a, h3⟩, ⟨b, h4⟩, h5, h6⟩
  · exact ⟨h1.moved w.alike, h2.moved w.alike, ⟨a, h3.warm w⟩, ⟨b, h4.warm w⟩, h5.moved w.alike, xwB_m w.alike h6⟩
  · exact ⟨h1.moved (al_same w), h2.moved (al_same w), ⟨a, h3.same w⟩, ⟨b, h4.same w⟩, h5.moved (al_same w), xwB_m (al_same w) h6⟩
abbrev rm9 : Room := { frames := 6, cells := 1, slots := 6, locals := 82 }
/-- what holds where a callee has thrown E0: its world as it was -/
def XT9 (G : va_G) (sz : Nat) (ws : va_W) (E0 : String) : String → State → State → Prop := fun E st t => E = E0 ∧ va_P G vwCl ws t.heap ∧ va_F (va_A ws sz) st t
theorem XT9_x {G : va_G} {ws : va_W} {s : State} {H : Heap} {locs : List Loc} {E0 : String} (hP : va_P G vwCl ws H) (hS : va_S (va_A ws s.heap.size) s.heap H locs) : ∀ t : State, s.vm.Alike t.vm → H.size ≤ t.heap.size → (∀ q : Nat, q < H.size → t.heap[q]? = H[q]?) → XT9 G s.heap.size ws E0 E0 s t :=
  fun t _ hz hq => ⟨rfl, hP.kept (fun k q hk => hq _ (hP k q hk).lt), Nat.le_trans hS.1 hz, fun q h1 h2 => (hq q (Nat.lt_of_lt_of_le h1 hS.1)).trans (hS.2.1 q h1 h2)⟩
theorem met_x {X : (Nat → Prop) → State → Heap → Prop} {l : Launch} {y : MethodName} {rm : Room} {cc : ByteArray} {maxL : Nat} {G : va_G} {ty : List (ClassId × FieldType)} {av : List Value} {sz : Nat} {WS : va_W} {Qc : Array Value → State → Outcome → State → Prop} {XCx : String → State → State → Prop} {mc ms : Nat}
    (hy : plainName y.cls = true) (hlen : (lg_sl av).length ≤ maxL)
    (body : ∀ (p : Program) (e : Env) (s : State) (m : MethodId) (below : List Frame) (meth : Method) (c : Code) (A : Nat → Prop) (ls : Array Slot), A = va_A WS s.heap.size → s.heap.size = sz → (∀ x ∈ c.exceptionTable.toList, False) → meth.locks = false →
      p.tables.exec = Jvm.exec → c.code = cc → c.maxLocals = maxL → (∀ w ∈ BIG, w.before av.toArray s = true) → s.vm.findClass y.cls = some m.cls →
      va_K G vwCl ty s → va_P G vwCl WS s.heap → va_D A WS → va_S A s.heap s.heap [] → (∀ q, s.heap.size ≤ q → A q) → X A s s.heap → lv_has ls maxL (lv_args 0 av) →
      W p l e rm s m av.toArray below meth c s.heap [] 0 0 (vx_MQ below Qc XCx av.toArray s mc ms (va_A WS sz)) (F0 m 0 ls [])) :
    vx_Met l y (Cond.code y cc maxL (some .int) :: BIG) rm (cPX X G ty av sz WS) Qc XCx mc ms (va_A WS sz) := by
  refine vx_ofW (cc := cc) (maxL := maxL) (ret := some .int) hy rfl ?_
  intro p e s m args below meth c s₁ B hml htab hv
  obtain ⟨rfl, hsz, hP, hK, hD0, hX⟩ := hv
  have hl := lv_entry av (n := maxL) hlen
  rw [lg_entry_eq]
  refine body p e s m below meth c (va_A WS s.heap.size) _ rfl hsz htab B.notSynchronized B.exec B.bytes hml (fun w h => atoms_spec (ws := Cond.code y cc maxL (some .int) :: BIG) B.pre w (List.mem_cons_of_mem _ h)) (findClass_of_methodNamed B.named) hK hP ?_ va_S.rf (fun q h => Or.inr h) ?_ hl
  · exact hD0.self
  · rw [hsz]; exact hX
theorem goHL {p : Program} {l : Launch} {e : Env} {R : Room} {s : State} {m : MethodId} {args : Array Value} {below : List Frame} {meth : Method} {c : Code} {H H1 : Heap} {locs locs1 : List Loc} {cells slots : Nat} {Q : State → Prop} {g : JFrame} (h1 : H1 = H) (h2 : locs1 = locs) (k : W p l e R s m args below meth c H1 locs1 cells slots Q g) : W p l e R s m args below meth c H locs cells slots Q g := by
  subst h1; subst h2; exact k
set_option maxHeartbeats 4000000 in
set_option maxRecDepth 100000 in
theorem tP9_i (l : Launch) (hfl : l.stackTraces = false) (G : va_G) (cI cJ cZ : ClassId) (sz : Nat) (h_o h_o_wave h_o_way h_o_wave_im h_o_wave_re h_o_wave_wasIm h_o_wave_wasRe h_o_past h_o_notes h_o_ring h_o_turns h_o_beater h_o_reader h_o_dice h_o_trialWay h_o_trial h_o_otherTrial h_o_sumsRe h_o_sumsIm h_o_tally h_o_image h_o_tape h_o_wave_halved h_o_way_shifts : Nat) (o_imageKept : Int32) (o_taped : Int32) (o_wave_exp : Int32) (o_wave_done : Int32) (o_wave_backward : Int32) (o_way_size : Int32) (o_way_log : Int32) (o_way_wordBits : Int32) (o_way_limit : Int32) (o_way_radix : Int32) (o_way_order : Int32) (o_way_near : Int32) (o_way_seed : Int32) (o_way_stages : Int32) (o_wave_im : Nat → Int32) (o_wave_re : Nat → Int32) (o_wave_wasIm : Nat → Int32) (o_wave_wasRe : Nat → Int32) (p1 : Int32) (p2 : Int32) (r1 : Int32) (e1 : fX9_isPlace o_way_size p1 = some r1) (hc : r1 = 0) : vx_Met l yX9_point (Cond.code yX9_point cX9_point 3 (some .int) :: BIG) rm9 (cPX XP G (TY3 cI cJ cZ) [.ref h_o, .int p1, .int p2] sz (wX9_point cI cJ cZ h_o h_o_wave h_o_way h_o_wave_im h_o_wave_re h_o_wave_wasIm h_o_wave_wasRe h_o_past h_o_notes h_o_ring h_o_turns h_o_beater h_o_reader h_o_dice h_o_trialWay h_o_trial h_o_otherTrial h_o_sumsRe h_o_sumsIm h_o_tally h_o_image h_o_tape h_o_wave_halved h_o_way_shifts o_imageKept o_taped o_wave_exp o_wave_done o_wave_backward o_way_size o_way_log o_way_wordBits o_way_limit o_way_radix o_way_order o_way_near o_way_seed o_way_stages o_wave_im o_wave_re o_wave_wasIm o_wave_wasRe)) (fun _ _ _ _ => False) (XT9 G sz (wX9_point cI cJ cZ h_o h_o_wave h_o_way h_o_wave_im h_o_wave_re h_o_wave_wasIm h_o_wave_wasRe h_o_past h_o_notes h_o_ring h_o_turns h_o_beater h_o_reader h_o_dice h_o_trialWay h_o_trial h_o_otherTrial h_o_sumsRe h_o_sumsIm h_o_tally h_o_image h_o_tape h_o_wave_halved h_o_way_shifts o_imageKept o_taped o_wave_exp o_wave_done o_wave_backward o_way_size o_way_log o_way_wordBits o_way_limit o_way_radix o_way_order o_way_near o_way_seed o_way_stages o_wave_im o_wave_re o_wave_wasIm o_wave_wasRe) IOX) 1 6 (va_A (wX9_point cI cJ cZ h_o h_o_wave h_o_way h_o_wave_im h_o_wave_re h_o_wave_wasIm h_o_wave_wasRe h_o_past h_o_notes h_o_ring h_o_turns h_o_beater h_o_reader h_o_dice h_o_trialWay h_o_trial h_o_otherTrial h_o_sumsRe h_o_sumsIm h_o_tally h_o_image h_o_tape h_o_wave_halved h_o_way_shifts o_imageKept o_taped o_wave_exp o_wave_done o_wave_backward o_way_size o_way_log o_way_wordBits o_way_limit o_way_radix o_way_order o_way_near o_way_seed o_way_stages o_wave_im o_wave_re o_wave_wasIm o_wave_wasRe) sz) := by
  refine met_x (cc := cX9_point) (maxL := 3) (by decide) (Nat.le_of_ble_eq_true rfl) (fun p e s m below meth c A ls eA esz htab hlk hx hb hml hts hown hK hP hD hS hA hX hl => ?_)
  subst esz
  obtain ⟨hU, hN, ⟨sa, hs1⟩, ⟨sb, hs2⟩, hNc, hXB⟩ := hX
  have hl : lv_has ls 3 [(0, .ref h_o), (1, .int p1), (2, .int p2)] := hl
  have hown : s.vm.findClass RX9 = some m.cls := hown
  obtain ⟨H, eH⟩ : ∃ H, H = s.heap := ⟨_, rfl⟩
  obtain ⟨locs, elocs⟩ : ∃ z : List Loc, z = [] := ⟨_, rfl⟩
  have hP : va_P G vwCl (wX9_point cI cJ cZ h_o h_o_wave h_o_way h_o_wave_im h_o_wave_re h_o_wave_wasIm h_o_wave_wasRe h_o_past h_o_notes h_o_ring h_o_turns h_o_beater h_o_reader h_o_dice h_o_trialWay h_o_trial h_o_otherTrial h_o_sumsRe h_o_sumsIm h_o_tally h_o_image h_o_tape h_o_wave_halved h_o_way_shifts o_imageKept o_taped o_wave_exp o_wave_done o_wave_backward o_way_size o_way_log o_way_wordBits o_way_limit o_way_radix o_way_order o_way_near o_way_seed o_way_stages o_wave_im o_wave_re o_wave_wasIm o_wave_wasRe) H := by rw [eH]; exact hP
  have hS : va_S A s.heap H locs := by rw [eH, elocs]; exact hS
  refine goHL eH elocs ?_
  clear eH elocs
  refine lv_aload_n hx hb dX9_point_0 rfl (lv_at hl 0 rfl) ?_
  refine lv_iload_n hx hb dX9_point_1 rfl (lv_at hl 1 rfl) ?_
  refine call_v [.int p1] [] ⟨hx, hb, hml, hown, hts⟩ hK hP hD hS hA hl.1 (tX9_isPlace l G cI cJ cZ H.size h_o h_o_way h_o_wave h_o_past h_o_notes h_o_ring h_o_turns h_o_beater h_o_reader h_o_dice h_o_trialWay h_o_trial h_o_otherTrial h_o_sumsRe h_o_sumsIm h_o_tally h_o_image h_o_tape h_o_way_shifts o_imageKept o_taped o_way_size o_way_log o_way_wordBits o_way_limit o_way_radix o_way_order o_way_near o_way_seed o_way_stages p1 r1 e1) (cwV 1 hts (gv q_mX9_159 q_i_yX9_isPlace q_s_yX9_isPlace q_n_RX9 q_k_yX9_isPlace) rfl rfl rfl (by decide +kernel) ⟨by decide, by decide⟩) rfl rfl (Nat.le_of_ble_eq_true rfl) dX9_point_2 ⟨Nat.zero_le _, Nat.zero_le _⟩ (ci := 9) rfl 0 rfl [0, 2] [1, 3, 4, 5, 6] [5, 0, 6, 1, 2, 3, 4] rfl rfl (ws2 := (wX9_point cI cJ cZ h_o h_o_wave h_o_way h_o_wave_im h_o_wave_re h_o_wave_wasIm h_o_wave_wasRe h_o_past h_o_notes h_o_ring h_o_turns h_o_beater h_o_reader h_o_dice h_o_trialWay h_o_trial h_o_otherTrial h_o_sumsRe h_o_sumsIm h_o_tally h_o_image h_o_tape h_o_wave_halved h_o_way_shifts o_imageKept o_taped o_wave_exp o_wave_done o_wave_backward o_way_size o_way_log o_way_wordBits o_way_limit o_way_radix o_way_order o_way_near o_way_seed o_way_stages o_wave_im o_wave_re o_wave_wasIm o_wave_wasRe)) rfl (fun H locs hP hD hS => ?_)
  refine W.eq (g2 := F0 m 5 _ [.int r1]) rfl ?_
  subst eA
  refine lv_if_ne (tgt := 18) hx hb dX9_point_5 (by decide) (fun c_3 => ?_) (fun c_3 => ?_)
  · exact absurd hc c_3
  · have c_3 := c_3
    exact vx_throwS (text := "no such place") (sa := sa) (names := ["java/lang/RuntimeException", "java/lang/Exception"]) hx hb hfl hown (by decide +kernel) (by decide +kernel) (hts _ q_XA) (hts _ q_XB) hs1 (xw1_h hts hXB) xw1_o hU hN hS (hl.1.trans hml.symm) dX9_point_8 dX9_point_11 dX9_point_12 dX9_point_14 dX9_point_17 (fun x hx => (htab x hx).elim) (by decide) (by decide) (by decide) (by decide) hlk (XT9_x hP hS) hS.2.2 (by decide) (by decide)
set_option maxHeartbeats 4000000 in
set_option maxRecDepth 100000 in
theorem tP9_n (l : Launch) (hfl : l.stackTraces = false) (G : va_G) (cI cJ cZ : ClassId) (sz : Nat) (h_o h_o_wave h_o_way h_o_wave_im h_o_wave_re h_o_wave_wasIm h_o_wave_wasRe h_o_past h_o_notes h_o_ring h_o_turns h_o_beater h_o_reader h_o_dice h_o_trialWay h_o_trial h_o_otherTrial h_o_sumsRe h_o_sumsIm h_o_tally h_o_image h_o_tape h_o_wave_halved h_o_way_shifts : Nat) (o_imageKept : Int32) (o_taped : Int32) (o_wave_exp : Int32) (o_wave_done : Int32) (o_wave_backward : Int32) (o_way_size : Int32) (o_way_log : Int32) (o_way_wordBits : Int32) (o_way_limit : Int32) (o_way_radix : Int32) (o_way_order : Int32) (o_way_near : Int32) (o_way_seed : Int32) (o_way_stages : Int32) (o_wave_im : Nat → Int32) (o_wave_re : Nat → Int32) (o_wave_wasIm : Nat → Int32) (o_wave_wasRe : Nat → Int32) (p1 : Int32) (p2 : Int32) (r1 : Int32) (e1 : fX9_isPlace o_way_size p1 = some r1) (hc : ¬ r1 = 0) (hw : p2 < 0 ∨ ¬ p2 ≤ (3 : Int32)) : vx_Met l yX9_point (Cond.code yX9_point cX9_point 3 (some .int) :: BIG) rm9 (cPX XP G (TY3 cI cJ cZ) [.ref h_o, .int p1, .int p2] sz (wX9_point cI cJ cZ h_o h_o_wave h_o_way h_o_wave_im h_o_wave_re h_o_wave_wasIm h_o_wave_wasRe h_o_past h_o_notes h_o_ring h_o_turns h_o_beater h_o_reader h_o_dice h_o_trialWay h_o_trial h_o_otherTrial h_o_sumsRe h_o_sumsIm h_o_tally h_o_image h_o_tape h_o_wave_halved h_o_way_shifts o_imageKept o_taped o_wave_exp o_wave_done o_wave_backward o_way_size o_way_log o_way_wordBits o_way_limit o_way_radix o_way_order o_way_near o_way_seed o_way_stages o_wave_im o_wave_re o_wave_wasIm o_wave_wasRe)) (fun _ _ _ _ => False) (XT9 G sz (wX9_point cI cJ cZ h_o h_o_wave h_o_way h_o_wave_im h_o_wave_re h_o_wave_wasIm h_o_wave_wasRe h_o_past h_o_notes h_o_ring h_o_turns h_o_beater h_o_reader h_o_dice h_o_trialWay h_o_trial h_o_otherTrial h_o_sumsRe h_o_sumsIm h_o_tally h_o_image h_o_tape h_o_wave_halved h_o_way_shifts o_imageKept o_taped o_wave_exp o_wave_done o_wave_backward o_way_size o_way_log o_way_wordBits o_way_limit o_way_radix o_way_order o_way_near o_way_seed o_way_stages o_wave_im o_wave_re o_wave_wasIm o_wave_wasRe) NSX) 1 6 (va_A (wX9_point cI cJ cZ h_o h_o_wave h_o_way h_o_wave_im h_o_wave_re h_o_wave_wasIm h_o_wave_wasRe h_o_past h_o_notes h_o_ring h_o_turns h_o_beater h_o_reader h_o_dice h_o_trialWay h_o_trial h_o_otherTrial h_o_sumsRe h_o_sumsIm h_o_tally h_o_image h_o_tape h_o_wave_halved h_o_way_shifts o_imageKept o_taped o_wave_exp o_wave_done o_wave_backward o_way_size o_way_log o_way_wordBits o_way_limit o_way_radix o_way_order o_way_near o_way_seed o_way_stages o_wave_im o_wave_re o_wave_wasIm o_wave_wasRe) sz) := by
  refine met_x (cc := cX9_point) (maxL := 3) (by decide) (Nat.le_of_ble_eq_true rfl) (fun p e s m below meth c A ls eA esz htab hlk hx hb hml hts hown hK hP hD hS hA hX hl => ?_)
  subst esz
  obtain ⟨hU, hN, ⟨sa, hs1⟩, ⟨sb, hs2⟩, hNc, hXB⟩ := hX
  have hl : lv_has ls 3 [(0, .ref h_o), (1, .int p1), (2, .int p2)] := hl
  have hown : s.vm.findClass RX9 = some m.cls := hown
  obtain ⟨H, eH⟩ : ∃ H, H = s.heap := ⟨_, rfl⟩
  obtain ⟨locs, elocs⟩ : ∃ z : List Loc, z = [] := ⟨_, rfl⟩
  have hP : va_P G vwCl (wX9_point cI cJ cZ h_o h_o_wave h_o_way h_o_wave_im h_o_wave_re h_o_wave_wasIm h_o_wave_wasRe h_o_past h_o_notes h_o_ring h_o_turns h_o_beater h_o_reader h_o_dice h_o_trialWay h_o_trial h_o_otherTrial h_o_sumsRe h_o_sumsIm h_o_tally h_o_image h_o_tape h_o_wave_halved h_o_way_shifts o_imageKept o_taped o_wave_exp o_wave_done o_wave_backward o_way_size o_way_log o_way_wordBits o_way_limit o_way_radix o_way_order o_way_near o_way_seed o_way_stages o_wave_im o_wave_re o_wave_wasIm o_wave_wasRe) H := by rw [eH]; exact hP
  have hS : va_S A s.heap H locs := by rw [eH, elocs]; exact hS
  refine goHL eH elocs ?_
  clear eH elocs
  refine lv_aload_n hx hb dX9_point_0 rfl (lv_at hl 0 rfl) ?_
  refine lv_iload_n hx hb dX9_point_1 rfl (lv_at hl 1 rfl) ?_
  refine call_v [.int p1] [] ⟨hx, hb, hml, hown, hts⟩ hK hP hD hS hA hl.1 (tX9_isPlace l G cI cJ cZ H.size h_o h_o_way h_o_wave h_o_past h_o_notes h_o_ring h_o_turns h_o_beater h_o_reader h_o_dice h_o_trialWay h_o_trial h_o_otherTrial h_o_sumsRe h_o_sumsIm h_o_tally h_o_image h_o_tape h_o_way_shifts o_imageKept o_taped o_way_size o_way_log o_way_wordBits o_way_limit o_way_radix o_way_order o_way_near o_way_seed o_way_stages p1 r1 e1) (cwV 1 hts (gv q_mX9_159 q_i_yX9_isPlace q_s_yX9_isPlace q_n_RX9 q_k_yX9_isPlace) rfl rfl rfl (by decide +kernel) ⟨by decide, by decide⟩) rfl rfl (Nat.le_of_ble_eq_true rfl) dX9_point_2 ⟨Nat.zero_le _, Nat.zero_le _⟩ (ci := 9) rfl 0 rfl [0, 2] [1, 3, 4, 5, 6] [5, 0, 6, 1, 2, 3, 4] rfl rfl (ws2 := (wX9_point cI cJ cZ h_o h_o_wave h_o_way h_o_wave_im h_o_wave_re h_o_wave_wasIm h_o_wave_wasRe h_o_past h_o_notes h_o_ring h_o_turns h_o_beater h_o_reader h_o_dice h_o_trialWay h_o_trial h_o_otherTrial h_o_sumsRe h_o_sumsIm h_o_tally h_o_image h_o_tape h_o_wave_halved h_o_way_shifts o_imageKept o_taped o_wave_exp o_wave_done o_wave_backward o_way_size o_way_log o_way_wordBits o_way_limit o_way_radix o_way_order o_way_near o_way_seed o_way_stages o_wave_im o_wave_re o_wave_wasIm o_wave_wasRe)) rfl (fun H locs hP hD hS => ?_)
  refine W.eq (g2 := F0 m 5 _ [.int r1]) rfl ?_
  subst eA
  refine lv_if_ne (tgt := 18) hx hb dX9_point_5 (by decide) (fun c_3 => ?_) (fun c_3 => ?_)
  · have hthrow : W p l e rm9 s m #[.ref h_o, .int p1, .int p2] below meth c H locs 0 0 (vx_MQ below (fun _ _ _ _ => False) (XT9 G s.heap.size (wX9_point cI cJ cZ h_o h_o_wave h_o_way h_o_wave_im h_o_wave_re h_o_wave_wasIm h_o_wave_wasRe h_o_past h_o_notes h_o_ring h_o_turns h_o_beater h_o_reader h_o_dice h_o_trialWay h_o_trial h_o_otherTrial h_o_sumsRe h_o_sumsIm h_o_tally h_o_image h_o_tape h_o_wave_halved h_o_way_shifts o_imageKept o_taped o_wave_exp o_wave_done o_wave_backward o_way_size o_way_log o_way_wordBits o_way_limit o_way_radix o_way_order o_way_near o_way_seed o_way_stages o_wave_im o_wave_re o_wave_wasIm o_wave_wasRe) NSX) #[.ref h_o, .int p1, .int p2] s 1 6 (va_A (wX9_point cI cJ cZ h_o h_o_wave h_o_way h_o_wave_im h_o_wave_re h_o_wave_wasIm h_o_wave_wasRe h_o_past h_o_notes h_o_ring h_o_turns h_o_beater h_o_reader h_o_dice h_o_trialWay h_o_trial h_o_otherTrial h_o_sumsRe h_o_sumsIm h_o_tally h_o_image h_o_tape h_o_wave_halved h_o_way_shifts o_imageKept o_taped o_wave_exp o_wave_done o_wave_backward o_way_size o_way_log o_way_wordBits o_way_limit o_way_radix o_way_order o_way_near o_way_seed o_way_stages o_wave_im o_wave_re o_wave_wasIm o_wave_wasRe) s.heap.size)) (F0 m 27 ls []) := by
      exact nx_throw (text := "no such what") (sa := sb) (Y1 := "java/lang/RuntimeException") (r := ["java/lang/Exception"]) (rx := rxN) hx hb hfl hown (by decide +kernel) (by decide +kernel) (by decide +kernel) (by decide +kernel) (by decide +kernel) (by decide +kernel) (by decide +kernel) (hts _ q_XC) (hts _ q_XD) hs2 (xw2_h hts hXB) xw2_o hU hN hS (hl.1.trans hml.symm) dX9_point_27 dX9_point_30 dX9_point_31 dX9_point_33 dX9_point_36 (fun x hx => (htab x hx).elim) (by decide) (by decide) (by decide) (by decide) hlk (XT9_x hP hS) hS.2.2 (by decide) (by decide)
    refine lv_iload_n hx hb dX9_point_18 rfl (lv_at hl 2 rfl) ?_
    refine lv_if_lt (tgt := 27) hx hb dX9_point_19 (by decide) (fun _ => hthrow) (fun c_4 => ?_)
    refine lv_iload_n hx hb dX9_point_22 rfl (lv_at hl 2 rfl) ?_
    refine lv_iconst (v := (3 : Int32)) hx hb dX9_point_23 (by decide) ?_
    refine lv_icmp_le (tgt := 37) hx hb dX9_point_24 (by decide) (fun c_5 => ?_) (fun c_5 => hthrow)
    exact absurd c_5 (hw.resolve_left c_4)
  · exact absurd c_3 hc
