/-! a start of a JDK method that nothing of the machine stands in for -/
theorem gM_ofWF {l : Launch} {y : MethodName} {ws ws' : List Cond} {rm : Room} {Pc : Array Value → State → Prop} {Qc : Array Value → State → Outcome → State → Prop} {mc ms : Nat} {free : Addr → Prop} {cc : ByteArray} {maxL : Nat} {ret : Option FieldType}
    (hy : plainFor y = true) (hw : ws = Cond.code y cc maxL ret :: ws')
    (body : ∀ p e s m args below meth c s₁, BodyLoose p l y (headSpec ws rm) cc maxL ret e s m args below meth c s₁ → c.maxLocals = maxL → Pc args s →
      W p l e (headSpec ws rm).room s m args below meth c s.heap [] 0 0 (MQ below Qc args s mc ms free) (entryFrame m args maxL)) : Met l y ws rm Pc Qc mc ms free := by
  refine MetFree.of_bodySF (code := cc) (maxLocals := maxL) (ret := ret) hy ?_ ?_
  · intro args s m h hn
    obtain ⟨meth, c, h1, h2, h3, h4, h5, h6, -, -⟩ := Cond.code_spec hn (atoms_spec (ws := ws) h _ (by rw [hw]; exact List.mem_cons_self))
    exact ⟨meth, c, h1, h2, h3, h4, h5, h6⟩
  · intro p e s m args below meth c s₁ B hml hP _
    have hh0 : s₁.heap = s.heap := by rw [B.state]; rfl
    obtain ⟨t, a1, o, b1, b2, b3⟩ := body p e s m args below meth c s₁ B hml hP s₁ hh0 (Stand.of_body B)
    exact ⟨t, o, a1, b1, b2, ⟨b3.1, b3.2⟩⟩
theorem g_ofWF {l : Launch} {cc : ByteArray} {X : gX} {w : gWd} {y : MethodName} {maxL : Nat} {ret : Option FieldType} {ws ws' : List Cond} {rm : Room} {As : List Value} {Qc : Array Value → State → Outcome → State → Prop} (hy : plainFor y = true) (hw : ws = Cond.code y cc maxL ret :: ws') (hlen : (lg_sl As).length ≤ maxL)
    (body : ∀ (p : Program) (e : Env) (s : State) (m : MethodId) (args : Array Value) (below : List Frame) (meth : Method) (c : Code) (ls : Array Slot) (H : Heap), p.tables.exec = Jvm.exec → c.code = cc → meth.sig.returnType = ret → (∀ w ∈ ws, w.before args s = true) → s.vm.findClass y.cls = some m.cls → meth.locks = false → c.maxLocals = maxL → gKt X s → lv_has ls maxL (lv_args 0 As) → gWo X 251 (gE X w) H → W p l e (headSpec ws rm).room s m args below meth c H [] 0 0 (MQ below Qc args s 0 0 (gFr X)) (F0 m 0 ls [])) : Met l y ws rm (gPc X As w) Qc 0 0 (gFr X) := by
  refine gM_ofWF (cc := cc) (maxL := maxL) (ret := ret) hy hw ?_
  intro p e s m args below meth c s₁ B hml hv
  obtain ⟨rfl, hK, hW⟩ := hv
  have hl := lv_entry As (n := maxL) hlen
  rw [lg_entry_eq]
  exact body p e s m _ below meth c _ s.heap B.exec B.bytes B.returns (atoms_spec (ws := ws) B.pre) (findClass_of_methodNamed B.named) B.notSynchronized hml hK hl hW
/-! the JDK's two methods -/
abbrev rmJxf58ca_isNaN_12338 : Room := { frames := 0, cells := 0, slots := 0, locals := 0 }
abbrev rmJxf58ca_floatToIntBits_5c35a : Room := { frames := 1, cells := 0, slots := 0, locals := 64 }
abbrev wsJxf58ca_isNaN_12338 : List Cond := gws yJxf58ca_isNaN_12338 cJxf58ca_isNaN_12338 1 (some .boolean)
abbrev wsJxf58ca_floatToIntBits_5c35a : List Cond := gws yJxf58ca_floatToIntBits_5c35a cJxf58ca_floatToIntBits_5c35a 1 (some .int)
theorem wk_J_59 : ∀ w ∈ ([Cond.methodLink RJxf58ca 59 yJxf58ca_isNaN_12338, Cond.static yJxf58ca_isNaN_12338, Cond.initialized RJxf58ca, Cond.code yJxf58ca_isNaN_12338 cJxf58ca_isNaN_12338 1 (some .boolean)] : List Cond), w ∈ wsL_law := List.forall_mem_cons.mpr ⟨inR30 _ (List.mem_of_getElem? (i := 20) rfl), List.forall_mem_cons.mpr ⟨inR30 _ (List.mem_of_getElem? (i := 21) rfl), List.forall_mem_cons.mpr ⟨inR30 _ (List.mem_of_getElem? (i := 13) rfl), List.forall_mem_cons.mpr ⟨inR30 _ (List.mem_of_getElem? (i := 22) rfl), fun _ h => absurd h List.not_mem_nil⟩⟩⟩⟩
set_option maxHeartbeats 4000000 in
set_option maxRecDepth 100000 in
theorem c_Jxf58ca_isNaN_12338 (l : Launch) (X : gX) (w : gWd) (f0 : UInt32) (r : Int32) (hF : F_Jxf58ca_isNaN_12338 w f0 = some r) : Met l yJxf58ca_isNaN_12338 wsJxf58ca_isNaN_12338 rmJxf58ca_isNaN_12338 (gPc X [.float f0] w) (gQi X r w) 0 0 (gFr X) := by
  refine g_ofWF (cc := cJxf58ca_isNaN_12338) (maxL := 1) (ret := (some .boolean)) (by decide +kernel) rfl (Nat.le_of_ble_eq_true rfl) (fun p e s m args below meth c ls H hx hb hr hts hown hlocks hml hK hl hW => ?_)
  have hl : lv_has ls 1 [(0, .float f0)] := hl
  have hL : gLo X [] := gLo_nil
  unfold F_Jxf58ca_isNaN_12338 at hF
  refine lv_fload_n hx hb dJxf58ca_isNaN_12338_0 rfl (lv_at hl 0 rfl) ?_
  refine lv_fload_n hx hb dJxf58ca_isNaN_12338_1 rfl (lv_at hl 0 rfl) ?_
  refine lv_fcmp hx hb dJxf58ca_isNaN_12338_2 ?_
  refine lv_if_eq (tgt := 10) hx hb dJxf58ca_isNaN_12338_3 (by decide) (fun hc => ?_) (fun hc => ?_)
  · replace hF := gT hc hF
    refine lv_iconst (v := 0) hx hb dJxf58ca_isNaN_12338_10 (by decide) ?_
    exact g_rz hx hb hr hlocks hW hL (Or.inl rfl) (Option.some.inj hF) dJxf58ca_isNaN_12338_11
  · replace hF := gF hc hF
    refine lv_iconst (v := 1) hx hb dJxf58ca_isNaN_12338_6 (by decide) ?_
    refine lv_goto (tgt := 11) hx hb dJxf58ca_isNaN_12338_7 (by decide) ?_
    exact g_rz hx hb hr hlocks hW hL (Or.inr rfl) (Option.some.inj hF) dJxf58ca_isNaN_12338_11
set_option maxHeartbeats 4000000 in
set_option maxRecDepth 100000 in
theorem c_Jxf58ca_floatToIntBits_5c35a (l : Launch) (X : gX) (w : gWd) (f0 : UInt32) (r : Int32) (hF : F_Jxf58ca_floatToIntBits_5c35a w f0 = some r) : Met l yJxf58ca_floatToIntBits_5c35a wsJxf58ca_floatToIntBits_5c35a rmJxf58ca_floatToIntBits_5c35a (gPc X [.float f0] w) (gQi X r w) 0 0 (gFr X) := by
  refine g_ofWF (cc := cJxf58ca_floatToIntBits_5c35a) (maxL := 1) (ret := (some .int)) (by decide +kernel) rfl (Nat.le_of_ble_eq_true rfl) (fun p e s m args below meth c ls H hx hb hr hts hown hlocks hml hK hl hW => ?_)
  have hl : lv_has ls 1 [(0, .float f0)] := hl
  have hown : s.vm.findClass RJxf58ca = some m.cls := hown
  have hL : gLo X [] := gLo_nil
  show W p l e rmJxf58ca_floatToIntBits_5c35a s m args below meth c H [] 0 0 _ _
  have k59 : CallB rmJxf58ca_floatToIntBits_5c35a s args RJxf58ca 59 yJxf58ca_isNaN_12338 cJxf58ca_isNaN_12338 1 (some .boolean) wsJxf58ca_isNaN_12338 rmJxf58ca_isNaN_12338 0 0 1 ∧ (Cond.static yJxf58ca_isNaN_12338).before args s = true := va_cwS 1 hts (gGoodS (fun w h => List.mem_cons_of_mem _ h) wk_J_59) rfl rfl rfl (by decide +kernel) ⟨Nat.le_of_ble_eq_true rfl, Nat.le_of_ble_eq_true rfl⟩
  have q1 := hts _ (List.mem_cons_of_mem _ (inR30 _ (List.mem_of_getElem? (i := 15) rfl)))
  have q2 := hts _ (List.mem_cons_of_mem _ (inR30 _ (List.mem_of_getElem? (i := 16) rfl)))
  have q3 := hts _ (List.mem_cons_of_mem _ (inR30 _ (List.mem_of_getElem? (i := 17) rfl)))
  have q4 := hts _ (List.mem_cons_of_mem _ (inR30 _ (List.mem_of_getElem? (i := 18) rfl)))
  have q77 := hts _ (List.mem_cons_of_mem _ (inR30 _ (List.mem_of_getElem? (i := 19) rfl)))
  unfold F_Jxf58ca_floatToIntBits_5c35a at hF
  refine lv_fload_n hx hb dJxf58ca_floatToIntBits_5c35a_0 rfl (lv_at hl 0 rfl) ?_
  obtain ⟨v, hq, hF⟩ := gP_some hF
  refine g_Si (As := [.float f0]) (rest := []) ⟨hx, hb, hml, hown, hts⟩ hK hW hL hl.1 (c_Jxf58ca_isNaN_12338 l X w f0 v hq) k59 rfl rfl (Nat.le_of_ble_eq_true rfl) dJxf58ca_floatToIntBits_5c35a_1 ⟨Nat.le_of_ble_eq_true rfl, Nat.le_of_ble_eq_true rfl⟩ (fun H locs hW hL => ?_)
  refine lv_if_ne (tgt := 12) hx hb dJxf58ca_floatToIntBits_5c35a_4 (by decide) (fun hc => ?_) (fun hc => ?_)
  · replace hF := gF hc hF
    refine lv_ldc hx hb hown q77 dJxf58ca_floatToIntBits_5c35a_12 ?_
    exact g_ri hx hb hr hlocks hW hL (Option.some.inj hF) dJxf58ca_floatToIntBits_5c35a_14
  · replace hF := gT hc hF
    refine lv_fload_n hx hb dJxf58ca_floatToIntBits_5c35a_7 rfl (lv_at hl 0 rfl) ?_
    refine vn_f2i hx hb (hml.trans hl.1.symm) hown q1 q2 q3 q4 (Nat.le_of_ble_eq_true rfl) (Nat.le_of_ble_eq_true rfl) dJxf58ca_floatToIntBits_5c35a_8 ?_
    exact g_ri hx hb hr hlocks hW hL (Option.some.inj hF) dJxf58ca_floatToIntBits_5c35a_11
