/-! constructors: growing worlds -/
def eU (E : Nat → Nat → va_E) (i r : Nat) (v : va_E) : Nat → Nat → va_E := fun a b => if a = i ∧ b = r then v else E a b
theorem eU_s (E : Nat → Nat → va_E) (i r : Nat) (v : va_E) : eU E i r v i r = v := if_pos ⟨rfl, rfl⟩
theorem eU_n {E : Nat → Nat → va_E} {i r : Nat} {v : va_E} {a b : Nat} (h : ¬ (a = i ∧ b = r)) : eU E i r v a b = E a b := if_neg h
theorem gWo.cg {X : gX} {n : Nat} {E E' : Nat → Nat → va_E} {H : Heap} (h : gWo X n E H) (he : ∀ a b, gok a b → gad a b < n → E' a b = E a b) : gWo X n E' H := ⟨h.1, h.2.1, h.2.2.1, fun i r hr hlt => by rw [he i r hr hlt]; exact h.2.2.2 i r hr hlt⟩
theorem arrV_cg {cA : ClassId} {n : Nat} {f g : Nat → Value} (h : ∀ j, j < n → f j = g j) : arrV cA n f = arrV cA n g := by
  unfold arrV
  congr 1
  congr 1
  funext j
  exact h j.val j.isLt
theorem gWo.cellq {X : gX} {n : Nat} {E : Nat → Nat → va_E} {H : Heap} (h : gWo X n E H) {i r : Nat} {cA : ClassId} {len : Nat} {f g : Nat → Option Nat} (he : E i r = .inl (cA, len, .inr (.inr (.inr (.inr f))))) (hfg : ∀ j, j < len → f j = g j) : gWo X n (eU E i r (.inl (cA, len, .inr (.inr (.inr (.inr g)))))) H := by
  refine ⟨h.1, h.2.1, h.2.2.1, fun a b hab hlt => ?_⟩
  by_cases e : a = i ∧ b = r
  · obtain ⟨rfl, rfl⟩ := e
    have hat := h.2.2.2 a b hab hlt
    rw [he] at hat
    rw [eU_s]
    show H[gA X a b]? = some (vp_cell _ _)
    rw [show H[gA X a b]? = some (vp_cell cA (len, .inr (.inr (.inr (.inr f))))) from hat, vp_cell_q, vp_cell_q, arrV_cg (fun j hj => by rw [hfg j hj])]
  · rw [eU_n e]; exact h.2.2.2 a b hab hlt
theorem gWo.push {X : gX} {n : Nat} {E : Nat → Nat → va_E} {H H1 : Heap} (h : gWo X n E H) {i r : Nat} {v : va_E} (hr : gok i r) (hg : gad i r = n) (hz : H1.size = H.size + 1) (ho : ∀ q : Nat, q < H.size → H1[q]? = H[q]?) (hat : va_at X.D vwCl (gA X i r, v) H1) : gWo X (n + 1) (eU E i r v) H1 := by
  obtain ⟨h1, h2, h3, h4⟩ := h
  refine ⟨by rw [hz, h1]; rfl, h2, fun q hq => (ho q (by omega)).trans (h3 q hq), fun a b hab hlt => ?_⟩
  by_cases e : a = i ∧ b = r
  · obtain ⟨rfl, rfl⟩ := e
    rw [eU_s]; exact hat
  · rw [eU_n e]
    have hne : gad a b ≠ gad i r := fun z => e (gad_inj hab hr z)
    exact (h4 a b hab (by omega)).kept (ho _ (by show X.B + gad a b < _; omega))
/-- the tables' other words -/
def gKx (U : State) : Prop := (va_AO RX10 U ∧ va_AO RX5 U) ∧ va_Nw (.fieldLinkNest RX5 24 RX9 "FIRST" "[I" RX11) U ∧ va_Nw (.methodLinkNest RX11 28 yX6_init RX11) U ∧ va_Nw (.methodLinkNest RX11 35 yX7_init RX11) U
theorem gKx.warm {s U : State} (hW : s.WarmedH U.vm) (h : gKx s) : gKx U := ⟨⟨va_AO.moved hW.alike h.1.1, va_AO.moved hW.alike h.1.2⟩, va_Nw.warmF hW h.2.1, va_Nw.warmM hW h.2.2.1, va_Nw.warmM hW h.2.2.2⟩
theorem gKx.call {U : State} {g : JFrame} {mk : MethodId} {a : Array Value} (h : gKx U) : gKx (U.calling g mk a) := ⟨⟨va_AO.moved (u := U) (U := U.calling g mk a) (Vm.Alike.refl U.vm) h.1.1, va_AO.moved (u := U) (U := U.calling g mk a) (Vm.Alike.refl U.vm) h.1.2⟩, va_Nw.same (u := U) (U := U.calling g mk a) rfl rfl h.2.1, va_Nw.same (u := U) (U := U.calling g mk a) rfl rfl h.2.2.1, va_Nw.same (u := U) (U := U.calling g mk a) rfl rfl h.2.2.2⟩
def gPn (X : gX) (as : List Value) (n : Nat) (E : Nat → Nat → va_E) : Array Value → State → Prop := va_Pc as (fun U => (gKt X U ∧ gKx U) ∧ gWo X n E U.heap)
def gQn (X : gX) (n : Nat) (E : Nat → Nat → va_E) : Array Value → State → Outcome → State → Prop := fun _ _ oc t => oc = .returned none ∧ gWo X n E t.heap
theorem gBlindN (X : gX) (as : List Value) (n : Nat) (E : Nat → Nat → va_E) : FrameBlind (gPn X as n E) := fun a U g mk h => ⟨h.1, ⟨gKt.moved (u := U) (U := U.calling g mk a) (Vm.Alike.refl U.vm) h.2.1.1, gKx.call (g := g) (mk := mk) (a := a) h.2.1.2⟩, h.2.2⟩
theorem gGoodC {y : MethodName} {c : ByteArray} {n : Nat} {ret : Option FieldType} {big : List Cond} (hb : ∀ w ∈ wsL_law, w ∈ big) (h : Cond.code y c n ret ∈ wsL_law) : GoodIn big (gws y c n ret) := gGoodIn hb (fun w hw => (List.mem_cons.mp hw).elim (fun e => e ▸ h) id)
section NROWS
variable {p : Program} {l : Launch} {e : Env} {R : Room} {s : State} {m : MethodId} {args : Array Value} {below : List Frame} {meth : Method} {c : Code} {H : Heap} {locs : List Loc} {cells slots : Nat} {Q : State → Prop}
variable {cc : ByteArray} {pc : Nat} {ls : Array Slot} {rest : List Value} {X : gX} {n : Nat} {E : Nat → Nat → va_E}
theorem g_newO (hx : p.tables.exec = Jvm.exec) (hb : c.code = cc) {own C : String} {T : u_T} {N ci index : Nat} {Ts : List Cond} (hts : ∀ w ∈ Ts, w.before args s = true) (hin : ∀ w ∈ u_ws C T N, w ∈ Ts) (ty : Nat → FieldType) (hty : ∀ k, k < N → parseFieldDescriptor (T k).2.2.1 = some (ty k)) (hown : s.vm.findClass own = some m.cls) (hcl : (Cond.classLink own index C).before args s = true) (hinst : (Cond.instantiable C N).before args s = true) (hini : (Cond.initialized C).before args s = true) (hK : gKt X s) (hW : gWo X n E H) {i r : Nat} (hr : gok i r) (hg : gad i r = n) (hc : vwCl[ci]? = some (C, T, N)) {fs : List Value} (hfs : ∀ j, j < N → defaultValue (ty j) = vp_V fs j) (hcells : cells + 1 ≤ R.cells) (hslots : slots + N ≤ R.slots) (hdg : decode cc pc = .ok (.new index, 3))
    (kk : ∀ (H1 : Heap), gWo X (n + 1) (eU E i r (.inr (ci, fs))) H1 → W p l e R s m args below meth c H1 locs (cells + 1) (slots + N) Q (F0 m (pc + 3) ls (.ref (gA X i r) :: rest))) : W p l e R s m args below meth c H locs cells slots Q (F0 m pc ls rest) := by
  have hKn := hK.1.1 ci _ hc
  have hh : H.size = gA X i r := by rw [hW.1]; unfold gA; rw [hg]
  refine W.newcK hx hb hown hcl hinst hini rfl hdg hcells hslots hKn.2.1 hh fun H1 kC hkC e1 z1 o1 => ?_
  exact kk H1 (hW.push hr hg (by rw [z1, hh]) (fun q hq => o1 q (by rw [← hh]; exact hq)) ⟨_, hc, (u_born ty hts hin hKn hkC e1 hty).to hfs⟩)
theorem g_newI (hx : p.tables.exec = Jvm.exec) (hb : c.code = cc) (harr : (Cond.arrayClass .int).before args s = true) (hK : gKt X s) (hW : gWo X n E H) {i r : Nat} (hr : gok i r) (hg : gad i r = n) {x : Int32} {N : Nat} (hn : ¬ x < 0) (hN : x.toNatClampNeg = N) (hbytes : N * componentBytes (newarray.typeOf .int) ≤ 536870912) (hcells : cells + 1 ≤ R.cells) (hslots : slots + N ≤ R.slots) (hdg : decode cc pc = .ok (.newarray .int, 2))
    (kk : ∀ (H1 : Heap), gWo X (n + 1) (eU E i r (.inl (X.cI, N, .inl (fun _ => 0)))) H1 → W p l e R s m args below meth c H1 locs (cells + 1) (slots + N) Q (F0 m (pc + 2) ls (.ref (gA X i r) :: rest))) : W p l e R s m args below meth c H locs cells slots Q (F0 m pc ls (.int x :: rest)) := by
  have hh : H.size = gA X i r := by rw [hW.1]; unfold gA; rw [hg]
  refine va_newaK hx hb (atype := .int) harr rfl hdg rfl hn hN hbytes hcells hslots hh fun H1 cA e1 z1 o1 hAr hNm => ?_
  have hc : s.vm.findClass ("[" ++ (newarray.typeOf .int).toString) = some X.cI := (hK.1.2 0 (X.cI, .int) rfl).2
  obtain rfl : cA = X.cI := Option.some.inj (hNm.symm.trans hc)
  exact kk H1 (hW.push hr hg (by rw [z1, hh]) (fun q hq => o1 q (by rw [← hh]; exact hq)) e1)
theorem g_newR (hx : p.tables.exec = Jvm.exec) (hb : c.code = cc) {own C : String} {index : Nat} (hown : s.vm.findClass own = some m.cls) (hclink : (Cond.classLink own index C).before args s = true) (hover : va_AO C s) (hK : gKt X s) (hW : gWo X n E H) {i r : Nat} (hr : gok i r) (hg : gad i r = n) {cA : ClassId} (t0 : Nat) (ht : ([(X.cI, .int), (X.cS, .object RX10), (X.cM, .object RX5)] : List (ClassId × FieldType))[t0]? = some (cA, .object C)) {x : Int32} {N : Nat} (hn : ¬ x < 0) (hN : x.toNatClampNeg = N) (hbytes : N * 4 ≤ 536870912) (hcells : cells + 1 ≤ R.cells) (hslots : slots + N ≤ R.slots) (hdg : decode cc pc = .ok (.anewarray index, 3))
    (kk : ∀ (H1 : Heap), gWo X (n + 1) (eU E i r (.inl (cA, N, .inr (.inr (.inr (.inr (fun _ => none))))))) H1 → W p l e R s m args below meth c H1 locs (cells + 1) (slots + N) Q (F0 m (pc + 3) ls (.ref (gA X i r) :: rest))) : W p l e R s m args below meth c H locs cells slots Q (F0 m pc ls (.int x :: rest)) := by
  subst hN
  have hh : H.size = gA X i r := by rw [hW.1]; unfold gA; rw [hg]
  refine W.anew hx hb hown hclink (va_AO.use hover) rfl hdg rfl hn hbytes hcells hslots fun cA' kA comp f1 f2 f3 f4 => ?_
  obtain ⟨_, _, _, _, _, h5⟩ := (hK.1.2 t0 _ ht).2
  obtain rfl : cA' = cA := Option.some.inj (f1.symm.trans h5)
  generalize hH1 : H.push ({ cls := cA', slots := Array.replicate x.toNatClampNeg .null, vm := .none } : Cell) = H1
  have z1 : H1.size = H.size + 1 := by rw [← hH1, Array.size_push]
  have e1 : H1[H.size]? = some (arrV cA' x.toNatClampNeg (fun _ => .null)) := by rw [← hH1, Array.getElem?_push_size, ← arrV_new]
  have o1 : ∀ q : Nat, q < H.size → H1[q]? = H[q]? := fun q hq => by rw [← hH1, Array.getElem?_push, if_neg (Nat.ne_of_lt hq)]
  rw [hh] at e1 ⊢
  exact kk H1 (hW.push hr hg z1 o1 e1)
theorem g_putF (hx : p.tables.exec = Jvm.exec) (hb : c.code = cc) {own C : String} {T : u_T} {N ci index : Nat} {Ts : List Cond} (hts : ∀ w ∈ Ts, w.before args s = true) (hin : ∀ w ∈ u_ws C T N, w ∈ Ts) (ty0 : Nat → FieldType) (hty : ∀ k, k < N → parseFieldDescriptor (T k).2.2.1 = some (ty0 k)) (hnm : ∀ a, a < N → ∀ b, b < N → a ≠ b → (T a).2.1 ≠ (T b).2.1) (hown : s.vm.findClass own = some m.cls) (hK : gKt X s) (hW : gWo X n E H) (hL : gLo X locs) {i r : Nat} (hr : gok i r) (hlt : gad i r < n) {fs : List Value} (he : E i r = .inr (ci, fs)) (hc : vwCl[ci]? = some (C, T, N)) (k : Nat) (hk : k < N) (hT : (T k).1 = C) (hlink : (Cond.fieldLink own index C (T k).2.1 (T k).2.2.1).before args s = true) (hfin : (T k).2.2.2 = true) (hin2 : meth.name = "<init>") (hdecl : (T k).1 = own) {ty : FieldType} {v : Value} (hd : parseFieldDescriptor (T k).2.2.1 = some ty) (hn : narrow ty v = v) (hfit : fits ty v = true) (hl : k < fs.length) (hdg : decode cc pc = .ok (.putfield index, 3))
    (kk : ∀ (H1 : Heap) (locs1 : List Loc), gWo X n (eU E i r (.inr (ci, fs.set k v))) H1 → gLo X locs1 → W p l e R s m args below meth c H1 locs1 cells slots Q (F0 m (pc + 3) ls rest)) : W p l e R s m args below meth c H locs cells slots Q (F0 m pc ls (v :: .ref (gA X i r) :: rest)) := by
  have hap := va_apart (own := own) hts hin ty0 hty hnm hK.1 hc
  have hat := hW.at hr hlt
  rw [he] at hat
  obtain ⟨r', h1, cell, q1, q2, q3, q4⟩ := hat
  have hr' : r' = (C, T, N) := Option.some.inj (h1.symm.trans hc)
  subst hr'
  obtain ⟨hS, hfc, kC, hkC, hkind⟩ := hK.1.1 ci _ hc
  obtain ⟨cf, kf, fi, f, hi, hsl⟩ := hS k hk
  have hlay := hts _ (hin _ (u_in_lay hk))
  unfold u_lay at hlay
  rw [if_pos hfin] at hlay
  have hst := (u_facts hfc hkC (u_lays hts hin hk) hi).1
  have hcf : m.cls = cf := by
    obtain ⟨_, _, c', _, _, _, -, -, hf', -, -, -, hown2, -⟩ := Cond.laysFinal_spec hlay
    have e1 : c' = cf := by have := hi.symm.trans hf'; simp at this; exact this.1.symm
    rw [hdecl] at hown2
    rw [← e1]; exact Option.some.inj (hown.symm.trans hown2)
  have h6 := u_fits hfc hkC hkind (Or.inr hlay) hi hd hn hfit
  rw [← hT] at hlink
  refine W.putFinK hx hb hown hlink hi hst hcf hin2 (by rw [q2]; exact h6) q1 q3 (by rw [hsl]; exact k2_hasslot (q4 k hk)) rfl rfl hdg fun H' e1 e2 e3 => ?_
  rw [hsl] at e1 ⊢
  refine kk H' _ (hW.put hr ?_ e2 e3 (fun a b hab h => eU_n h)) (gLo_snoc hL (gA_ge X i r))
  rw [eU_s]
  exact ⟨_, hc, t_OB.to (V := updV (vp_V fs) k v) ⟨_, e1, q2, q3, t_set q4 hap hk v⟩ (fun j _ => vp_updV_set hl v j)⟩
theorem g_getsN (hx : p.tables.exec = Jvm.exec) (hb : c.code = cc) {C n0 d own host : String} {v : Value} {index : Nat} (hZ : va_Z C n0 d v (fun q => X.B ≤ q) s X.H0) (hW : gWo X n E H) (hown : s.vm.findClass own = some m.cls) (hlink : (Cond.fieldLinkNest own index C n0 d host).before args s = true) (hdg : decode cc pc = .ok (.getstatic index, 3))
    (kk : W p l e R s m args below meth c H locs cells slots Q (F0 m (pc + 3) ls (v :: rest))) : W p l e R s m args below meth c H locs cells slots Q (F0 m pc ls rest) := by
  obtain ⟨cf, kf, fi, f, a, cell, h1, h2, h3, h4, h5, h6, h7, h8⟩ := hZ
  exact va_WgetsN hx hb hown hlink h1 h2 h3 h4 (by rw [hW.2.2.1 a (Nat.not_le.mp h8)]; exact h5) (fun e => by rw [e] at h6; cases h6) h7 rfl hdg kk
variable {y : MethodName} {bytes : ByteArray} {maxL nL mc ms k index n' : Nat} {ws : List Cond} {rm : Room} {Ts : List Cond} {own host : String} {As st : List Value} {E' : Nat → Nat → va_E} {a : Nat}
theorem g_endN {g : JFrame} {Ar : Array Value} (hr : va_Run p l e R s m args below meth c H locs cells slots mc ms g rest (gQn X n' E' Ar) (gFr X)) (hg : g = F0 m pc ls st) (hL : gLo X locs)
    (kk : ∀ (H1 : Heap) (locs1 : List Loc), gWo X n' E' H1 → gLo X locs1 → W p l e R s m args below meth c H1 locs1 (cells + mc) (slots + ms) Q (F0 m (pc + 3) ls rest)) : W p l e R s m args below meth c H locs cells slots Q (F0 m pc ls st) := by
  subst hg
  intro T hT X1
  obtain ⟨v, st₀, t, T', L, h0, X', hL', e1, e2, ⟨hv, hw⟩, sp⟩ := hr T hT X1
  cases hv
  obtain ⟨t2, a1, b1⟩ := kk T'.heap (locs ++ L) (by rw [e1]; exact hw) (gLo_app hL (fun q hq => hL' q hq)) T' rfl X'
  exact ⟨t2, sp t2 a1, b1⟩
theorem g_preN (hK : gKt X s) (hKx : gKx s) (hW : gWo X n E H) : PreS s H (gPn X As n E) As := ⟨gBlindN X As n E, fun U hU hWm => ⟨rfl, ⟨gKt.moved hWm.alike hK, gKx.warm hWm hKx⟩, by rw [hU]; exact hW⟩⟩
theorem g_I (S : CallFix p m c cc nL s args Ts own) (hK : gKt X s) (hKx : gKx s) (hW : gWo X n E H) (hL : gLo X locs) (hl : ls.size = nL) (hM : Met l y ws rm (gPn X (.ref a :: As) n E) (gQn X n' E') mc ms (gFr X)) (cw : CallB R s args own index y bytes maxL none ws rm mc ms k ∧ y.name = "<init>" ∧ (Cond.instanceMethod y).before args s = true) (hn : As.length = k) (hst : st = As.reverse ++ .ref a :: rest) (hm : (rest.map fun v => v.category).sum ≤ 8) (hdg : decode cc pc = .ok (.invokespecial index, 3)) (hf : cells + mc ≤ R.cells ∧ slots + ms ≤ R.slots)
    (kk : ∀ (H1 : Heap) (locs1 : List Loc), gWo X n' E' H1 → gLo X locs1 → W p l e R s m args below meth c H1 locs1 (cells + mc) (slots + ms) Q (F0 m (pc + 3) ls rest)) : W p l e R s m args below meth c H locs cells slots Q (F0 m pc ls st) :=
  g_endN (va_runI (rest := rest) S hM cw (g_preN hK hKx hW) rfl hn hl hst (lv_room hm) hdg hf) rfl hL kk
theorem g_IN (S : CallFix p m c cc nL s args Ts own) (hK : gKt X s) (hKx : gKx s) (hW : gWo X n E H) (hL : gLo X locs) (hl : ls.size = nL) (hM : Met l y ws rm (gPn X (.ref a :: As) n E) (gQn X n' E') mc ms (gFr X)) (cw : va_CN R s args own index y host bytes maxL none ws rm mc ms k ∧ y.name = "<init>" ∧ (Cond.instanceMethod y).before args s = true) (hn : As.length = k) (hst : st = As.reverse ++ .ref a :: rest) (hm : (rest.map fun v => v.category).sum ≤ 8) (hdg : decode cc pc = .ok (.invokespecial index, 3)) (hf : cells + mc ≤ R.cells ∧ slots + ms ≤ R.slots)
    (kk : ∀ (H1 : Heap) (locs1 : List Loc), gWo X n' E' H1 → gLo X locs1 → W p l e R s m args below meth c H1 locs1 (cells + mc) (slots + ms) Q (F0 m (pc + 3) ls rest)) : W p l e R s m args below meth c H locs cells slots Q (F0 m pc ls st) :=
  g_endN (va_runIN (rest := rest) S hM cw (g_preN hK hKx hW) rfl hn hl hst (lv_room hm) hdg hf) rfl hL kk
theorem g_rvN (hx : p.tables.exec = Jvm.exec) (hb : c.code = cc) (hr : meth.sig.returnType = none) (hlocks : meth.locks = false) (hW : gWo X n E H) (hL : gLo X locs) (hdg : decode cc pc = .ok (.return_, 1)) : W p l e R s m args below meth c H locs cells slots (MQ below (gQn X n E) args s cells slots (gFr X)) (F0 m pc ls []) :=
  W.vret hx hb hr (fun t ht _ => ⟨rfl, by rw [ht]; exact hW⟩) hL hdg
theorem g_ofN {ws' : List Cond} {ret : Option FieldType} {Qc : Array Value → State → Outcome → State → Prop} (hy : plainName y.cls = true) (hw : ws = Cond.code y cc maxL ret :: ws') (hlen : (lg_sl As).length ≤ maxL)
    (body : ∀ (p : Program) (e : Env) (s : State) (m : MethodId) (args : Array Value) (below : List Frame) (meth : Method) (c : Code) (ls : Array Slot) (H : Heap), p.tables.exec = Jvm.exec → c.code = cc → meth.sig.returnType = ret → meth.name = y.name → (∀ w ∈ ws, w.before args s = true) → s.vm.findClass y.cls = some m.cls → meth.locks = false → c.maxLocals = maxL → gKt X s → gKx s → lv_has ls maxL (lv_args 0 As) → gWo X n E H → W p l e (headSpec ws rm).room s m args below meth c H [] 0 0 (MQ below Qc args s mc ms (gFr X)) (F0 m 0 ls [])) : Met l y ws rm (gPn X As n E) Qc mc ms (gFr X) := by
  refine Met.ofW (cc := cc) (maxL := maxL) (ret := ret) hy hw ?_
  intro p e s m args below meth c s₁ B hml hv
  obtain ⟨rfl, ⟨hK, hKx⟩, hW⟩ := hv
  have hl := lv_entry As (n := maxL) hlen
  rw [lg_entry_eq]
  exact body p e s m _ below meth c _ s.heap B.exec B.bytes B.returns (name_of_methodNamed B.named B.method).1 (atoms_spec (ws := ws) B.pre) (findClass_of_methodNamed B.named) B.notSynchronized hml hK hKx hl hW
end NROWS
