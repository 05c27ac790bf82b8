/-! my own layer over the kit: the whole system's cells by (block, row), and their whole numbers as one function w : block, row, column -/
abbrev gX : Type := va_G × Nat × Heap × (ClassId × ClassId × ClassId) × (Nat × Nat × Nat) × (Nat × Nat × (Nat → Int32))
abbrev gX.D (X : gX) : va_G := X.1
abbrev gX.B (X : gX) : Nat := X.2.1
abbrev gX.H0 (X : gX) : Heap := X.2.2.1
abbrev gX.cI (X : gX) : ClassId := X.2.2.2.1.1
abbrev gX.cS (X : gX) : ClassId := X.2.2.2.1.2.1
abbrev gX.cM (X : gX) : ClassId := X.2.2.2.1.2.2
abbrev gX.tF (X : gX) : Nat := X.2.2.2.2.1.1
abbrev gX.tL (X : gX) : Nat := X.2.2.2.2.1.2.1
abbrev gX.tG (X : gX) : Nat := X.2.2.2.2.1.2.2
abbrev gX.sB (X : gX) : Nat := X.2.2.2.2.2.1
abbrev gX.sL (X : gX) : Nat := X.2.2.2.2.2.2.1
abbrev gX.sx (X : gX) : Nat → Int32 := X.2.2.2.2.2.2.2
abbrev gWd : Type := Nat → Nat → Nat → Int32
def up3 (w : gWd) (i r j : Nat) (v : Int32) : gWd := fun a b c => if a = i ∧ b = r ∧ c = j then v else w a b c
def gad (i r : Nat) : Nat := if i < 7 then (if i < 2 then 1 + 34 * i + r else 3 + 34 * i + r) else if i = 7 then (if r = 0 then 0 else if r < 3 then 68 + r else if r < 5 then 238 + r else 243) else 244 + r
def gok (i r : Nat) : Prop := (i < 7 ∧ r < 34) ∨ (i = 7 ∧ r < 6) ∨ (i = 8 ∧ r < 8)
theorem gad_lt {i r : Nat} (h : gok i r) : gad i r < 252 := by
  unfold gok at h
  unfold gad
  repeat' split
  all_goals omega
theorem gad_inj {i r i' r' : Nat} (h : gok i r) (h' : gok i' r') (e : gad i r = gad i' r') : i = i' ∧ r = r' := by
  unfold gok at h h'
  unfold gad at e
  rcases h with h | h | h <;> rcases h' with h' | h' | h' <;> (repeat' split at e) <;> omega
theorem gok_m {i r : Nat} (hi : i < 7) (hr : r < 34) : gok i r := Or.inl ⟨hi, hr⟩
theorem gok_c {r : Nat} (hr : r < 6) : gok 7 r := Or.inr (Or.inl ⟨rfl, hr⟩)
theorem gok_o {r : Nat} (hr : r < 8) : gok 8 r := Or.inr (Or.inr ⟨rfl, hr⟩)
def gA (X : gX) (i r : Nat) : Nat := X.B + gad i r
/-- the first n cells of the system, and what lies below them is as at the start -/
def gWo (X : gX) (n : Nat) (E : Nat → Nat → va_E) (H : Heap) : Prop := H.size = X.B + n ∧ X.H0.size = X.B ∧ (∀ q : Nat, q < X.B → H[q]? = X.H0[q]?) ∧ ∀ i r : Nat, gok i r → gad i r < n → va_at X.D vwCl (gA X i r, E i r) H
def gLo (X : gX) (locs : List Loc) : Prop := ∀ q ∈ locs, X.B ≤ q.base
theorem gLo_nil {X : gX} : gLo X [] := fun q h => by cases h
theorem gLo_snoc {X : gX} {locs : List Loc} {a k : Nat} (h : gLo X locs) (ha : X.B ≤ a) : gLo X (locs ++ [⟨a, k⟩]) := by
  intro q hq
  rcases List.mem_append.mp hq with h1 | h1
  · exact h q h1
  · rw [List.mem_singleton.mp h1]; exact ha
theorem gLo_app {X : gX} {l1 l2 : List Loc} (h : gLo X l1) (h2 : gLo X l2) : gLo X (l1 ++ l2) := by
  intro q hq
  rcases List.mem_append.mp hq with h1 | h1
  · exact h q h1
  · exact h2 q h1
def gFirst (j : Nat) : Int32 := if j = 0 then 8 else if j = 1 then 3 else 2
def gLeast (j : Nat) : Int32 := if j = 0 then 4 else if j = 1 then 1 else 0
def gGreat (j : Nat) : Int32 := if j = 0 then 10 else if j = 1 then 3 else 4
/-- what the tables say, at any state of this run: the classes, the arrays' classes, the static arrays -/
def gKt (X : gX) (U : State) : Prop := va_K X.D vwCl [(X.cI, .int), (X.cS, .object RX10), (X.cM, .object RX5)] U ∧
  (va_Z RX9 "FIRST" "[I" (.ref X.tF) (fun q => X.B ≤ q) U X.H0 ∧ va_T .int X.tF 3 (fun j => .int (gFirst j)) (fun q => X.B ≤ q) U X.H0) ∧
  (va_Z RX9 "LEAST" "[I" (.ref X.tL) (fun q => X.B ≤ q) U X.H0 ∧ va_T .int X.tL 3 (fun j => .int (gLeast j)) (fun q => X.B ≤ q) U X.H0) ∧
  (va_Z RX9 "GREATEST" "[I" (.ref X.tG) (fun q => X.B ≤ q) U X.H0 ∧ va_T .int X.tG 3 (fun j => .int (gGreat j)) (fun q => X.B ≤ q) U X.H0) ∧
  (va_X X.sB X.sL X.sx U X.H0 ∧ X.sB < X.B)
theorem gKt.moved {X : gX} {u U : State} (hvm : u.vm.Alike U.vm) (h : gKt X u) : gKt X U :=
  ⟨va_K.moved hvm h.1, ⟨va_Z.moved hvm h.2.1.1, va_T.moved hvm h.2.1.2⟩, ⟨va_Z.moved hvm h.2.2.1.1, va_T.moved hvm h.2.2.1.2⟩, ⟨va_Z.moved hvm h.2.2.2.1.1, va_T.moved hvm h.2.2.2.1.2⟩, va_X.moved hvm h.2.2.2.2.1, h.2.2.2.2.2⟩
/-- what each cell is, by the numbers w -/
def gE (X : gX) (w : gWd) (i r : Nat) : va_E :=
  if i < 7 then
    (if r = 0 then .inr (1, [.ref (gA X i 1), .ref (gA X i 2), .ref (gA X i 3), .int (w i 0 3), .int (w i 0 4), .int (w i 0 5), .int (w i 0 6), .int (w i 0 7), .int (w i 0 8), .int (w i 0 9), .int (w i 0 10)])
     else if r = 1 then .inl (X.cI, 3, .inl (w i 1))
     else if r = 2 then .inl (X.cS, 30, .inr (.inr (.inr (.inr (fun n => some (gA X i (4 + n)))))))
     else if r = 3 then .inl (X.cI, 4, .inl (w i 3))
     else .inr (4, [.int (nI (r - 4)), .int (w i r 1), .int (w i r 2), .int (w i r 3), .int (w i r 4), .int (w i r 5), .int (w i r 6), .int (w i r 7), .int (w i r 8), .int (w i r 9), .int (w i r 10)]))
  else if i = 7 then
    (if r = 0 then .inr (5, [.ref (gA X 0 0), .ref (gA X 1 0), .ref (gA X 7 1), .ref (gA X 7 3), .ref (gA X 7 5)])
     else if r = 1 then .inr (0, [.ref (gA X 7 2), .int (w 7 1 1)])
     else if r = 2 then .inl (X.cM, 5, .inr (.inr (.inr (.inr (fun n => some (gA X (w 7 2 n).toNatClampNeg 0))))))
     else if r = 3 then .inr (2, [.ref (gA X 7 4), .int (w 7 3 1), .int (w 7 3 2), .int (w 7 3 3), .int (w 7 3 4), .int (w 7 3 5), .int (w 7 3 6), .int (w 7 3 7)])
     else if r = 4 then .inl (X.cI, 60, .inl (w 7 4))
     else .inr (3, [.int (w 7 5 0), .int (w 7 5 1), .int (w 7 5 2), .int (w 7 5 3)]))
  else
    (if r = 0 then .inl (X.cI, 60, .inl (w 8 0))
     else if r = 1 then .inl (X.cI, 60, .inl (w 8 1))
     else if r = 2 then .inl (X.cI, 60, .inl (w 8 2))
     else if r = 3 then .inl (X.cI, 20, .inl (w 8 3))
     else if r = 4 then .inl (X.cI, 4, .inl (w 8 4))
     else if r = 5 then .inl (X.cI, 10, .inl (w 8 5))
     else if r = 6 then .inl (X.cI, 6, .inl (w 8 6))
     else .inl (X.cI, 40, .inl (w 8 7)))
theorem gE_m0 {X : gX} {w : gWd} {i : Nat} (hi : i < 7) : gE X w i 0 = .inr (1, [.ref (gA X i 1), .ref (gA X i 2), .ref (gA X i 3), .int (w i 0 3), .int (w i 0 4), .int (w i 0 5), .int (w i 0 6), .int (w i 0 7), .int (w i 0 8), .int (w i 0 9), .int (w i 0 10)]) := by simp [gE, hi]
theorem gE_m1 {X : gX} {w : gWd} {i : Nat} (hi : i < 7) : gE X w i 1 = .inl (X.cI, 3, .inl (w i 1)) := by simp [gE, hi]
theorem gE_m2 {X : gX} {w : gWd} {i : Nat} (hi : i < 7) : gE X w i 2 = .inl (X.cS, 30, .inr (.inr (.inr (.inr (fun n => some (gA X i (4 + n))))))) := by simp [gE, hi]
theorem gE_m3 {X : gX} {w : gWd} {i : Nat} (hi : i < 7) : gE X w i 3 = .inl (X.cI, 4, .inl (w i 3)) := by simp [gE, hi]
theorem gE_ms {X : gX} {w : gWd} {i : Nat} (hi : i < 7) (n : Nat) : gE X w i (4 + n) = .inr (4, [.int (nI n), .int (w i (4 + n) 1), .int (w i (4 + n) 2), .int (w i (4 + n) 3), .int (w i (4 + n) 4), .int (w i (4 + n) 5), .int (w i (4 + n) 6), .int (w i (4 + n) 7), .int (w i (4 + n) 8), .int (w i (4 + n) 9), .int (w i (4 + n) 10)]) := by
  have h0 : ¬ 4 + n = 0 := by omega
  have h1 : ¬ 4 + n = 1 := by omega
  have h2 : ¬ 4 + n = 2 := by omega
  have h3 : ¬ 4 + n = 3 := by omega
  have h4 : 4 + n - 4 = n := by omega
  unfold gE
  rw [if_pos hi, if_neg h0, if_neg h1, if_neg h2, if_neg h3, h4]
theorem gE_up_ne {X : gX} {w : gWd} {i r j : Nat} {v : Int32} {a b : Nat} (h : ¬ (a = i ∧ b = r)) (hab : gok a b) : gE X (up3 w i r j v) a b = gE X w a b := by
  have e : ∀ c, up3 w i r j v a b c = w a b c := fun c => if_neg (fun z => h ⟨z.1, z.2.1⟩)
  have e2 : up3 w i r j v a b = w a b := funext e
  unfold gok at hab
  unfold gE
  by_cases ha : a < 7
  · rw [if_pos ha, if_pos ha]
    by_cases h0 : b = 0
    · subst h0; simp only [if_pos, e]
    rw [if_neg h0, if_neg h0]
    by_cases h1 : b = 1
    · subst h1; simp only [if_pos, e2]
    rw [if_neg h1, if_neg h1]
    by_cases h2 : b = 2
    · subst h2; simp only [if_pos]
    rw [if_neg h2, if_neg h2]
    by_cases h3 : b = 3
    · subst h3; simp only [if_pos, e2]
    rw [if_neg h3, if_neg h3]
    simp only [e]
  · rw [if_neg ha, if_neg ha]
    by_cases h7 : a = 7
    · subst h7
      rw [if_pos rfl, if_pos rfl]
      by_cases h0 : b = 0
      · subst h0; simp only [if_pos]
      rw [if_neg h0, if_neg h0]
      by_cases h1 : b = 1
      · subst h1; simp only [if_pos, e]
      rw [if_neg h1, if_neg h1]
      by_cases h2 : b = 2
      · subst h2; simp only [if_pos, e]
      rw [if_neg h2, if_neg h2]
      by_cases h3 : b = 3
      · subst h3; simp only [if_pos, e]
      rw [if_neg h3, if_neg h3]
      by_cases h4 : b = 4
      · subst h4; simp only [if_pos, e2]
      rw [if_neg h4, if_neg h4]
      have h5 : b = 5 := by omega
      subst h5; simp only [e]
    · rw [if_neg h7, if_neg h7]
      have h8 : a = 8 := by omega
      subst h8
      by_cases h0 : b = 0
      · subst h0; simp only [if_pos, e2]
      rw [if_neg h0, if_neg h0]
      by_cases h1 : b = 1
      · subst h1; simp only [if_pos, e2]
      rw [if_neg h1, if_neg h1]
      by_cases h2 : b = 2
      · subst h2; simp only [if_pos, e2]
      rw [if_neg h2, if_neg h2]
      by_cases h3 : b = 3
      · subst h3; simp only [if_pos, e2]
      rw [if_neg h3, if_neg h3]
      by_cases h4 : b = 4
      · subst h4; simp only [if_pos, e2]
      rw [if_neg h4, if_neg h4]
      by_cases h5 : b = 5
      · subst h5; simp only [if_pos, e2]
      rw [if_neg h5, if_neg h5]
      by_cases h6 : b = 6
      · subst h6; simp only [if_pos, e2]
      rw [if_neg h6, if_neg h6]
      have h7 : b = 7 := by omega
      subst h7; simp only [e2]
theorem up3_row (w : gWd) (i r j : Nat) (v : Int32) : up3 w i r j v i r = upd (w i r) j v := by
  funext c
  simp [up3, upd]
theorem gWo.at {X : gX} {n : Nat} {E : Nat → Nat → va_E} {H : Heap} (h : gWo X n E H) {i r : Nat} (hr : gok i r) (hlt : gad i r < n) : va_at X.D vwCl (gA X i r, E i r) H := h.2.2.2 i r hr hlt
theorem gP1 {D : va_G} {cl : List vw_C} {q : Nat × va_E} {H : Heap} (h : va_at D cl q H) : va_P D cl [q] H := by
  intro k x hk
  cases k with
  | zero => rw [List.getElem?_cons_zero] at hk; cases hk; exact h
  | succ k => simp at hk
theorem gA_ge (X : gX) (i r : Nat) : X.B ≤ gA X i r := Nat.le_add_right _ _
theorem gWo.put {X : gX} {n : Nat} {E E' : Nat → Nat → va_E} {H H1 : Heap} (h : gWo X n E H) {i r : Nat} (hr : gok i r) (hat : va_at X.D vwCl (gA X i r, E' i r) H1) (hz : H1.size = H.size) (oq : ∀ q : Nat, q ≠ gA X i r → H1[q]? = H[q]?) (hE : ∀ a b : Nat, gok a b → ¬ (a = i ∧ b = r) → E' a b = E a b) : gWo X n E' H1 := by
  obtain ⟨h1, h2, h3, h4⟩ := h
  refine ⟨hz.trans h1, h2, fun q hq => ?_, fun a b hab hlt => ?_⟩
  · rw [oq q (fun e => ?_)]
    · exact h3 q hq
    · rw [e] at hq
      exact absurd (gA_ge X i r) (Nat.not_le.mpr hq)
  · by_cases hab2 : a = i ∧ b = r
    · obtain ⟨rfl, rfl⟩ := hab2
      exact hat
    · rw [hE a b hab hab2]
      refine (h4 a b hab hlt).kept (oq _ (fun e => hab2 ?_))
      exact gad_inj hab hr (Nat.add_left_cancel e)
section GROWS
variable {p : Program} {l : Launch} {e : Env} {R : Room} {s : State} {m : MethodId} {args : Array Value} {below : List Frame} {meth : Method} {c : Code} {H : Heap} {locs : List Loc} {cells slots : Nat} {Q : State → Prop}
variable {cc : ByteArray} {pc : Nat} {ls : Array Slot} {rest : List Value} {X : gX} {n : Nat} {E E' : Nat → Nat → va_E}
theorem g_get (hx : p.tables.exec = Jvm.exec) (hb : c.code = cc) {own C : String} {T : u_T} {N ci index : Nat} {Ts : List Cond} (hts : ∀ w ∈ Ts, w.before args s = true) (hin : ∀ w ∈ u_ws C T N, w ∈ Ts) (hown : s.vm.findClass own = some m.cls) (hK : gKt X s) (hW : gWo X n E H) {i r : Nat} (hr : gok i r) (hlt : gad i r < n) {fs : List Value} (he : E i r = .inr (ci, fs)) (hc : vwCl[ci]? = some (C, T, N)) (k : Nat) (hk : k < N) (hT : (T k).1 = C) (hlink : (Cond.fieldLink own index C (T k).2.1 (T k).2.2.1).before args s = true) {v : Value} (hv : fs[k]? = some v) (hdg : decode cc pc = .ok (.getfield index, 3))
    (kk : W p l e R s m args below meth c H locs cells slots Q (F0 m (pc + 3) ls (v :: rest))) : W p l e R s m args below meth c H locs cells slots Q (F0 m pc ls (.ref (gA X i r) :: rest)) :=
  va_get hx hb hts hin hown hK.1 (gP1 (hW.at hr hlt)) 0 (by rw [he]; rfl) hc k hk hlink (fun x h => by rw [hT] at h; exact h) hv hdg kk
theorem g_put (hx : p.tables.exec = Jvm.exec) (hb : c.code = cc) {own C : String} {T : u_T} {N ci index : Nat} {Ts : List Cond} (hts : ∀ w ∈ Ts, w.before args s = true) (hin : ∀ w ∈ u_ws C T N, w ∈ Ts) (ty0 : Nat → FieldType) (hty : ∀ k, k < N → parseFieldDescriptor (T k).2.2.1 = some (ty0 k)) (hnm : ∀ a, a < N → ∀ b, b < N → a ≠ b → (T a).2.1 ≠ (T b).2.1) (hown : s.vm.findClass own = some m.cls) (hK : gKt X s) (hW : gWo X n E H) (hL : gLo X locs) {i r : Nat} (hr : gok i r) (hlt : gad i r < n) {fs : List Value} (he : E i r = .inr (ci, fs)) (hc : vwCl[ci]? = some (C, T, N)) (k : Nat) (hk : k < N) (hT : (T k).1 = C) (hlink : (Cond.fieldLink own index C (T k).2.1 (T k).2.2.1).before args s = true) (hfin : (T k).2.2.2 = false) {ty : FieldType} {v : Value} (hd : parseFieldDescriptor (T k).2.2.1 = some ty) (hn : narrow ty v = v) (hfit : fits ty v = true) (hl : k < fs.length) (hdg : decode cc pc = .ok (.putfield index, 3))
    (hE1 : E' i r = .inr (ci, fs.set k v)) (hE2 : ∀ a b : Nat, gok a b → ¬ (a = i ∧ b = r) → E' a b = E a b)
    (kk : ∀ (H1 : Heap) (locs1 : List Loc), gWo X n E' H1 → gLo X locs1 → W p l e R s m args below meth c H1 locs1 cells slots Q (F0 m (pc + 3) ls rest)) : W p l e R s m args below meth c H locs cells slots Q (F0 m pc ls (v :: .ref (gA X i r) :: rest)) := by
  have hap := va_apart (own := own) hts hin ty0 hty hnm hK.1 hc
  have hat := hW.at hr hlt
  rw [he] at hat
  obtain ⟨r', h1, cell, q1, q2, q3, q4⟩ := hat
  have hr' : r' = (C, T, N) := Option.some.inj (h1.symm.trans hc)
  subst hr'
  obtain ⟨hS, hfc, kC, hkC, hkind⟩ := hK.1.1 ci _ hc
  obtain ⟨cf, kf, fi, f, hi, hsl⟩ := hS k hk
  have hlay := hts _ (hin _ (u_in_lay hk))
  unfold u_lay at hlay
  rw [if_neg (by rw [hfin]; decide)] at hlay
  have hst := (u_facts hfc hkC (u_lays hts hin hk) hi).1
  have h6 := u_store hfc hkC hkind hlay hi hd hn hfit
  refine W.putK hx hb (f := f) ⟨hown, hlink, ⟨_, _, _, by rw [← hT]; exact hi⟩, hst⟩ (by rw [q2]; exact h6) q1 q3 (by rw [hsl]; exact k2_hasslot (q4 k hk)) rfl rfl hdg fun H' e1 e2 e3 => ?_
  rw [hsl] at e1 ⊢
  refine kk H' _ (hW.put hr ?_ e2 e3 hE2) (gLo_snoc hL (gA_ge X i r))
  rw [hE1]
  exact ⟨_, hc, t_OB.to (V := updV (vp_V fs) k v) ⟨_, e1, q2, q3, t_set q4 hap hk v⟩ (fun j _ => vp_updV_set hl v j)⟩
theorem g_iald (hx : p.tables.exec = Jvm.exec) (hb : c.code = cc) (hK : gKt X s) (hW : gWo X n E H) {i r : Nat} (hr : gok i r) (hlt : gad i r < n) {len : Nat} {f : Nat → Int32} (he : E i r = .inl (X.cI, len, .inl f)) {x : Int32} (hin : vp_in x len) (hdg : decode cc pc = .ok (.iaload, 1))
    (kk : W p l e R s m args below meth c H locs cells slots Q (F0 m (pc + 1) ls (.int (f x.toNatClampNeg) :: rest))) : W p l e R s m args below meth c H locs cells slots Q (F0 m pc ls (.int x :: .ref (gA X i r) :: rest)) :=
  va_iald hx hb hK.1 (gP1 (hW.at hr hlt)) 0 0 (by rw [he]; rfl) rfl hin hdg kk
theorem g_iast (hx : p.tables.exec = Jvm.exec) (hb : c.code = cc) (hK : gKt X s) (hW : gWo X n E H) (hL : gLo X locs) {i r : Nat} (hr : gok i r) (hlt : gad i r < n) {len : Nat} {f : Nat → Int32} (he : E i r = .inl (X.cI, len, .inl f)) {x y : Int32} (hin : vp_in x len) (hdg : decode cc pc = .ok (.iastore, 1))
    (hE1 : E' i r = .inl (X.cI, len, .inl (upd f x.toNatClampNeg y))) (hE2 : ∀ a b : Nat, gok a b → ¬ (a = i ∧ b = r) → E' a b = E a b)
    (kk : ∀ (H1 : Heap) (locs1 : List Loc), gWo X n E' H1 → gLo X locs1 → W p l e R s m args below meth c H1 locs1 cells slots Q (F0 m (pc + 1) ls rest)) : W p l e R s m args below meth c H locs cells slots Q (F0 m pc ls (.int y :: .int x :: .ref (gA X i r) :: rest)) := by
  have hat := hW.at hr hlt
  rw [he] at hat
  refine W.iast hx hb hat ((hK.1.2 0 _ rfl).1 len (fun j => .int (f j))) (fun q => by cases q) (by show ¬ (x < 0 ∨ (arrV _ _ _).slots.size ≤ _); rw [arrV_size]; exact hin) rfl rfl hdg fun H1 e1 z oq => ?_
  refine kk H1 _ (hW.put hr ?_ z oq hE2) (gLo_snoc hL (gA_ge X i r))
  rw [hE1]
  show H1[gA X i r]? = some (vp_cell _ _)
  rw [e1]
  rw [vp_cell_i, vp_cell_i, arrV_store]
  congr 2
  funext q
  by_cases hq : q = x.toNatClampNeg
  · subst hq
    simp [updV, upd]
  · simp [updV, upd, hq]
theorem g_aald (hx : p.tables.exec = Jvm.exec) (hb : c.code = cc) (hK : gKt X s) (hW : gWo X n E H) {i r : Nat} (hr : gok i r) (hlt : gad i r < n) {cA : ClassId} {C : String} {len : Nat} {f : Nat → Option Nat} (he : E i r = .inl (cA, len, .inr (.inr (.inr (.inr f))))) (t0 : Nat) (ht : ([(X.cI, .int), (X.cS, .object RX10), (X.cM, .object RX5)] : List (ClassId × FieldType))[t0]? = some (cA, .object C)) {x : Int32} {a : Nat} (ha : f x.toNatClampNeg = some a) (hin : vp_in x len) (hdg : decode cc pc = .ok (.aaload, 1))
    (kk : W p l e R s m args below meth c H locs cells slots Q (F0 m (pc + 1) ls (.ref a :: rest))) : W p l e R s m args below meth c H locs cells slots Q (F0 m pc ls (.int x :: .ref (gA X i r) :: rest)) := by
  refine va_aldq hx hb hK.1 (gP1 (hW.at hr hlt)) 0 t0 (by rw [he]; rfl) ht hin hdg ?_
  rw [ha]
  exact kk
theorem g_aast (hx : p.tables.exec = Jvm.exec) (hb : c.code = cc) (hK : gKt X s) (hW : gWo X n E H) (hL : gLo X locs) {i r : Nat} (hr : gok i r) (hlt : gad i r < n) {cA : ClassId} {len : Nat} {f : Nat → Option Nat} (he : E i r = .inl (cA, len, .inr (.inr (.inr (.inr f))))) (t0 : Nat) {q0 : vw_C} (ht : ([(X.cI, .int), (X.cS, .object RX10), (X.cM, .object RX5)] : List (ClassId × FieldType))[t0]? = some (cA, .object q0.1)) {i2 r2 ci : Nat} (hr2 : gok i2 r2) (hlt2 : gad i2 r2 < n) {vs : List Value} (he2 : E i2 r2 = .inr (ci, vs)) (hc : vwCl[ci]? = some q0) {x : Int32} (hin : vp_in x len) (hdg : decode cc pc = .ok (.aastore, 1))
    (hE1 : E' i r = .inl (cA, len, .inr (.inr (.inr (.inr (va_up f x.toNatClampNeg (some (gA X i2 r2)))))))) (hE2 : ∀ a b : Nat, gok a b → ¬ (a = i ∧ b = r) → E' a b = E a b)
    (kk : ∀ (H1 : Heap) (locs1 : List Loc), gWo X n E' H1 → gLo X locs1 → W p l e R s m args below meth c H1 locs1 cells slots Q (F0 m (pc + 1) ls rest)) : W p l e R s m args below meth c H locs cells slots Q (F0 m pc ls (.ref (gA X i2 r2) :: .int x :: .ref (gA X i r) :: rest)) := by
  have hlt0 : x.toNatClampNeg < len := Nat.not_le.mp fun q => hin (Or.inr q)
  have h0 : ¬ x < 0 := fun q => hin (Or.inl q)
  have hat2 := hW.at hr2 hlt2
  rw [he2] at hat2
  obtain ⟨r', hr', cellV, g1, g2, g3, -⟩ := hat2
  have hcls := (hK.1.1 ci q0 hc).2
  obtain ⟨kA, comp, k1, k2, k3, -⟩ := (hK.1.2 t0 _ ht).2
  have hcomp : comp = X.D.1 ci := Option.some.inj (k3.symm.trans hcls.1)
  subst hcomp
  obtain ⟨kC, hkC, -⟩ := hcls.2
  have hat := hW.at hr hlt
  rw [he] at hat
  refine W.aast hx hb hat (fun q h => by cases h) (fun h => by cases h) k1 k2 rfl hkC ⟨h0, by show _ < (arrV _ _ _).slots.size; rw [arrV_size]; exact hlt0⟩ g1 (fun q h => by rw [g3] at h; cases h) (by rw [g2]; exact hkC) (by rw [g2]; exact va_assign hcls) rfl rfl hdg fun H1 e1 z oq => ?_
  refine kk H1 _ (hW.put hr ?_ z oq hE2) (gLo_snoc hL (gA_ge X i r))
  rw [hE1]
  show H1[gA X i r]? = some (vp_cell _ _)
  rw [e1]
  rw [vp_cell_q, vp_cell_q, arrV_store]
  congr 2
  funext q
  by_cases hq : q = x.toNatClampNeg
  · subst hq
    simp [updV, va_up, va_rf]
  · simp [updV, va_up, hq]
theorem g_gets (hx : p.tables.exec = Jvm.exec) (hb : c.code = cc) {C n0 d own : String} {v : Value} {index : Nat} (hZ : va_Z C n0 d v (fun q => X.B ≤ q) s X.H0) (hW : gWo X n E H) (hown : s.vm.findClass own = some m.cls) (hlink : (Cond.fieldLink own index C n0 d).before args s = true) (hdg : decode cc pc = .ok (.getstatic index, 3))
    (kk : W p l e R s m args below meth c H locs cells slots Q (F0 m (pc + 3) ls (v :: rest))) : W p l e R s m args below meth c H locs cells slots Q (F0 m pc ls rest) := by
  obtain ⟨cf, kf, fi, f, a, cell, h1, h2, h3, h4, h5, h6, h7, h8⟩ := hZ
  exact W.gets hx hb hown hlink h1 h2 h3 h4 (by rw [hW.2.2.1 a (Nat.not_le.mp h8)]; exact h5) (fun e => by rw [e] at h6; cases h6) h7 rfl hdg kk
theorem g_ti (hx : p.tables.exec = Jvm.exec) (hb : c.code = cc) {t N : Nat} {f : Nat → Int32} (hT : va_T .int t N (fun j => .int (f j)) (fun q => X.B ≤ q) s X.H0) (hW : gWo X n E H) {x : Int32} (hin : vp_in x N) (hdg : decode cc pc = .ok (.iaload, 1))
    (kk : W p l e R s m args below meth c H locs cells slots Q (F0 m (pc + 1) ls (.int (f x.toNatClampNeg) :: rest))) : W p l e R s m args below meth c H locs cells slots Q (F0 m pc ls (.int x :: .ref t :: rest)) := by
  obtain ⟨cell, h1, h2, h3, h4, h5, h6, h7⟩ := hT
  have hlt : x.toNatClampNeg < N := Nat.not_le.mp fun q => hin (Or.inr q)
  have hin' : ¬ (x < 0 ∨ cell.slots.size ≤ x.toNatClampNeg) := by
    intro q
    rcases q with q | q
    · exact hin (Or.inl q)
    · omega
  exact W.iald (v := .int (f x.toNatClampNeg)) hx hb (by rw [hW.2.2.1 t (Nat.not_le.mp h7)]; exact h1) h2 h3 hin' (by rw [h6 _ hlt]) rfl rfl hdg kk
/-- a name for the int on top -/
theorem g_top {x y : Int32} (h : y = x) (k : W p l e R s m args below meth c H locs cells slots Q (F0 m pc ls (.int y :: rest))) : W p l e R s m args below meth c H locs cells slots Q (F0 m pc ls (.int x :: rest)) := h ▸ k
theorem g_topf {x y : UInt32} (h : y = x) (k : W p l e R s m args below meth c H locs cells slots Q (F0 m pc ls (.float y :: rest))) : W p l e R s m args below meth c H locs cells slots Q (F0 m pc ls (.float x :: rest)) := h ▸ k
end GROWS
/-! contracts: the world w before, the world w' behind -/
def gPc (X : gX) (as : List Value) (w : gWd) : Array Value → State → Prop := va_Pc as (fun U => gKt X U ∧ gWo X 252 (gE X w) U.heap)
def gQi (X : gX) (r : Int32) (w : gWd) : Array Value → State → Outcome → State → Prop := fun _ _ oc t => oc = .returned (some (.int r)) ∧ gWo X 252 (gE X w) t.heap
def gQv (X : gX) (w : gWd) : Array Value → State → Outcome → State → Prop := fun _ _ oc t => oc = .returned none ∧ gWo X 252 (gE X w) t.heap
abbrev gFr (X : gX) : Addr → Prop := fun q => X.B ≤ q
theorem gBlind (X : gX) (as : List Value) (w : gWd) : FrameBlind (gPc X as w) := fun a U g mk h => ⟨h.1, gKt.moved (u := U) (U := U.calling g mk a) (Vm.Alike.refl U.vm) h.2.1, h.2.2⟩
section GCALLS
variable {p : Program} {l : Launch} {e : Env} {R : Room} {s : State} {m : MethodId} {args : Array Value} {below : List Frame} {meth : Method} {c : Code} {H : Heap} {locs : List Loc} {cells slots : Nat} {Q : State → Prop}
variable {cc : ByteArray} {pc nL : Nat} {ls : Array Slot} {rest st : List Value} {X : gX} {w w' : gWd} {r : Int32}
variable {y : MethodName} {bytes : ByteArray} {maxL n index : Nat} {ret : Option FieldType} {ws : List Cond} {rm : Room} {Ts : List Cond} {own C : String} {As : List Value}
theorem g_endi {g : JFrame} (hr : va_Run p l e R s m args below meth c H locs cells slots 0 0 g rest (gQi X r w' As.toArray) (gFr X)) (hg : g = F0 m pc ls st) (hL : gLo X locs)
    (kk : ∀ (H1 : Heap) (locs1 : List Loc), gWo X 252 (gE X w') H1 → gLo X locs1 → W p l e R s m args below meth c H1 locs1 cells slots Q (F0 m (pc + 3) ls (.int r :: rest))) : W p l e R s m args below meth c H locs cells slots Q (F0 m pc ls st) := by
  subst hg
  intro T hT X1
  obtain ⟨v, st₀, t, T', L, h0, X', hL', e1, e2, ⟨hv, hw⟩, sp⟩ := hr T hT X1
  cases hv
  obtain ⟨t2, a1, b1⟩ := kk T'.heap (locs ++ L) (by rw [e1]; exact hw) (gLo_app hL (fun q hq => hL' q hq)) T' rfl X'
  exact ⟨t2, sp t2 a1, b1⟩
theorem g_endv {g : JFrame} (hr : va_Run p l e R s m args below meth c H locs cells slots 0 0 g rest (gQv X w' As.toArray) (gFr X)) (hg : g = F0 m pc ls st) (hL : gLo X locs)
    (kk : ∀ (H1 : Heap) (locs1 : List Loc), gWo X 252 (gE X w') H1 → gLo X locs1 → W p l e R s m args below meth c H1 locs1 cells slots Q (F0 m (pc + 3) ls rest)) : W p l e R s m args below meth c H locs cells slots Q (F0 m pc ls st) := by
  subst hg
  intro T hT X1
  obtain ⟨v, st₀, t, T', L, h0, X', hL', e1, e2, ⟨hv, hw⟩, sp⟩ := hr T hT X1
  cases hv
  obtain ⟨t2, a1, b1⟩ := kk T'.heap (locs ++ L) (by rw [e1]; exact hw) (gLo_app hL (fun q hq => hL' q hq)) T' rfl X'
  exact ⟨t2, sp t2 a1, b1⟩
/-- the caller's own constants: machine, code, locals, class, words -/
abbrev gFix (p : Program) (m : MethodId) (c : Code) (cc : ByteArray) (nL : Nat) (s : State) (args : Array Value) (Ts : List Cond) (own : String) : Prop := CallFix p m c cc nL s args Ts own
theorem g_preS (hK : gKt X s) (hW : gWo X 252 (gE X w) H) : PreS s H (gPc X As w) As := ⟨gBlind X As w, fun U hU hWm => ⟨rfl, gKt.moved hWm.alike hK, by rw [hU]; exact hW⟩⟩
theorem g_preV (hK : gKt X s) (hW : gWo X 252 (gE X w) H) {i r ci : Nat} (hr : gok i r) {fs : List Value} (he : gE X w i r = .inr (ci, fs)) {q : vw_C} (hc : vwCl[ci]? = some q) : PreV s H q.1 (gA X i r) (gPc X (.ref (gA X i r) :: As) w) As :=
  ⟨gBlind X _ w, va_recv hK.1 (gP1 (hW.at hr (gad_lt hr))) hc (q0 := 0) (by rw [he]; rfl), fun U hU hWm => ⟨rfl, gKt.moved hWm.alike hK, by rw [hU]; exact hW⟩⟩
theorem g_Si (S : CallFix p m c cc nL s args Ts own) (hK : gKt X s) (hW : gWo X 252 (gE X w) H) (hL : gLo X locs) (hl : ls.size = nL) (hM : Met l y ws rm (gPc X As w) (gQi X r w') 0 0 (gFr X)) (cw : CallB R s args own index y bytes maxL ret ws rm 0 0 n ∧ (Cond.static y).before args s = true) (hn : As.length = n) (hst : st = As.reverse ++ rest) (hm : (rest.map fun v => v.category).sum ≤ 8) (hdg : decode cc pc = .ok (.invokestatic index, 3)) (hf : cells + 0 ≤ R.cells ∧ slots + 0 ≤ R.slots)
    (kk : ∀ (H1 : Heap) (locs1 : List Loc), gWo X 252 (gE X w') H1 → gLo X locs1 → W p l e R s m args below meth c H1 locs1 cells slots Q (F0 m (pc + 3) ls (.int r :: rest))) : W p l e R s m args below meth c H locs cells slots Q (F0 m pc ls st) :=
  g_endi (va_runS (rest := rest) S hM cw (g_preS hK hW) rfl hn hl hst (lv_room hm) hdg hf) rfl hL kk
theorem g_Sv (S : CallFix p m c cc nL s args Ts own) (hK : gKt X s) (hW : gWo X 252 (gE X w) H) (hL : gLo X locs) (hl : ls.size = nL) (hM : Met l y ws rm (gPc X As w) (gQv X w') 0 0 (gFr X)) (cw : CallB R s args own index y bytes maxL ret ws rm 0 0 n ∧ (Cond.static y).before args s = true) (hn : As.length = n) (hst : st = As.reverse ++ rest) (hm : (rest.map fun v => v.category).sum ≤ 8) (hdg : decode cc pc = .ok (.invokestatic index, 3)) (hf : cells + 0 ≤ R.cells ∧ slots + 0 ≤ R.slots)
    (kk : ∀ (H1 : Heap) (locs1 : List Loc), gWo X 252 (gE X w') H1 → gLo X locs1 → W p l e R s m args below meth c H1 locs1 cells slots Q (F0 m (pc + 3) ls rest)) : W p l e R s m args below meth c H locs cells slots Q (F0 m pc ls st) :=
  g_endv (va_runS (rest := rest) S hM cw (g_preS hK hW) rfl hn hl hst (lv_room hm) hdg hf) rfl hL kk
theorem g_Vi (S : CallFix p m c cc nL s args Ts own) (hK : gKt X s) (hW : gWo X 252 (gE X w) H) (hL : gLo X locs) (hl : ls.size = nL) {i0 r0 ci : Nat} (hr0 : gok i0 r0) {fs : List Value} (he : gE X w i0 r0 = .inr (ci, fs)) {q : vw_C} (hc : vwCl[ci]? = some q) (hM : Met l y ws rm (gPc X (.ref (gA X i0 r0) :: As) w) (gQi X r w') 0 0 (gFr X)) (cw : CallW R s args own q.1 index y bytes maxL ret ws rm 0 0 n) (hn : As.length = n) (hst : st = As.reverse ++ .ref (gA X i0 r0) :: rest) (hm : (rest.map fun v => v.category).sum ≤ 8) (hdg : decode cc pc = .ok (.invokevirtual index, 3)) (hf : cells + 0 ≤ R.cells ∧ slots + 0 ≤ R.slots)
    (kk : ∀ (H1 : Heap) (locs1 : List Loc), gWo X 252 (gE X w') H1 → gLo X locs1 → W p l e R s m args below meth c H1 locs1 cells slots Q (F0 m (pc + 3) ls (.int r :: rest))) : W p l e R s m args below meth c H locs cells slots Q (F0 m pc ls st) :=
  g_endi (As := .ref (gA X i0 r0) :: As) (va_runV (rest := rest) S hM cw (g_preV hK hW hr0 he hc) rfl hn hl hst (lv_room hm) hdg hf) rfl hL kk
theorem g_Vv (S : CallFix p m c cc nL s args Ts own) (hK : gKt X s) (hW : gWo X 252 (gE X w) H) (hL : gLo X locs) (hl : ls.size = nL) {i0 r0 ci : Nat} (hr0 : gok i0 r0) {fs : List Value} (he : gE X w i0 r0 = .inr (ci, fs)) {q : vw_C} (hc : vwCl[ci]? = some q) (hM : Met l y ws rm (gPc X (.ref (gA X i0 r0) :: As) w) (gQv X w') 0 0 (gFr X)) (cw : CallW R s args own q.1 index y bytes maxL ret ws rm 0 0 n) (hn : As.length = n) (hst : st = As.reverse ++ .ref (gA X i0 r0) :: rest) (hm : (rest.map fun v => v.category).sum ≤ 8) (hdg : decode cc pc = .ok (.invokevirtual index, 3)) (hf : cells + 0 ≤ R.cells ∧ slots + 0 ≤ R.slots)
    (kk : ∀ (H1 : Heap) (locs1 : List Loc), gWo X 252 (gE X w') H1 → gLo X locs1 → W p l e R s m args below meth c H1 locs1 cells slots Q (F0 m (pc + 3) ls rest)) : W p l e R s m args below meth c H locs cells slots Q (F0 m pc ls st) :=
  g_endv (As := .ref (gA X i0 r0) :: As) (va_runV (rest := rest) S hM cw (g_preV hK hW hr0 he hc) rfl hn hl hst (lv_room hm) hdg hf) rfl hL kk
/-- a method's start -/
theorem g_ofW {ws' : List Cond} {Qc : Array Value → State → Outcome → State → Prop} (hy : plainName y.cls = true) (hw : ws = Cond.code y cc maxL ret :: ws') (hlen : (lg_sl As).length ≤ maxL)
    (body : ∀ (p : Program) (e : Env) (s : State) (m : MethodId) (args : Array Value) (below : List Frame) (meth : Method) (c : Code) (ls : Array Slot) (H : Heap), p.tables.exec = Jvm.exec → c.code = cc → meth.sig.returnType = ret → (∀ w ∈ ws, w.before args s = true) → s.vm.findClass y.cls = some m.cls → meth.locks = false → c.maxLocals = maxL → gKt X s → lv_has ls maxL (lv_args 0 As) → gWo X 252 (gE X w) H → W p l e (headSpec ws rm).room s m args below meth c H [] 0 0 (MQ below Qc args s 0 0 (gFr X)) (F0 m 0 ls [])) : Met l y ws rm (gPc X As w) Qc 0 0 (gFr X) := by
  refine Met.ofW (cc := cc) (maxL := maxL) (ret := ret) hy hw ?_
  intro p e s m args below meth c s₁ B hml hv
  obtain ⟨rfl, hK, hW⟩ := hv
  have hl := lv_entry As (n := maxL) hlen
  rw [lg_entry_eq]
  exact body p e s m _ below meth c _ s.heap B.exec B.bytes B.returns (atoms_spec (ws := ws) B.pre) (findClass_of_methodNamed B.named) B.notSynchronized hml hK hl hW
theorem g_ri (hx : p.tables.exec = Jvm.exec) (hb : c.code = cc) (hr : meth.sig.returnType = some .int) (hlocks : meth.locks = false) (hW : gWo X 252 (gE X w) H) (hL : gLo X locs) {v : Int32} (hv : v = r) (hdg : decode cc pc = .ok (.ireturn, 1)) : W p l e R s m args below meth c H locs cells slots (MQ below (gQi X r w) args s cells slots (gFr X)) (F0 m pc ls [.int v]) :=
  W.iret hx hb hr (fun t ht _ => ⟨by rw [hv], by rw [ht]; exact hW⟩) hL hdg
theorem g_rz (hx : p.tables.exec = Jvm.exec) (hb : c.code = cc) (hr : meth.sig.returnType = some .boolean) (hlocks : meth.locks = false) (hW : gWo X 252 (gE X w) H) (hL : gLo X locs) {v : Int32} (hz : v = 0 ∨ v = 1) (hv : v = r) (hdg : decode cc pc = .ok (.ireturn, 1)) : W p l e R s m args below meth c H locs cells slots (MQ below (gQi X r w) args s cells slots (gFr X)) (F0 m pc ls [.int v]) :=
  W.zret hx hb hr (by rcases hz with rfl | rfl <;> rfl) (fun t ht _ => ⟨by rw [hv], by rw [ht]; exact hW⟩) hL hdg
theorem g_rv (hx : p.tables.exec = Jvm.exec) (hb : c.code = cc) (hr : meth.sig.returnType = none) (hlocks : meth.locks = false) (hW : gWo X 252 (gE X w) H) (hL : gLo X locs) (hdg : decode cc pc = .ok (.return_, 1)) : W p l e R s m args below meth c H locs cells slots (MQ below (gQv X w) args s cells slots (gFr X)) (F0 m pc ls []) :=
  W.vret hx hb hr (fun t ht _ => ⟨rfl, by rw [ht]; exact hW⟩) hL hdg
end GCALLS
/-! the pure programs' own words -/
def gS {α β : Type} (v : α) (f : α → β) : β := f v
def gB {α : Type} (x : Int32) (n : Nat) (f : Nat → Option α) : Option α := if x < 0 ∨ n ≤ x.toNatClampNeg then none else f x.toNatClampNeg
def gM {α : Type} (i n : Nat) (f : Option α) : Option α := if i < n then f else none
def gZ {α : Type} (v : Int32) (x : Option α) : Option α := if v = 0 ∨ v = 1 then x else none
def gD {α : Type} (v : Int32) (x : Option α) : Option α := if v = 0 then none else x
def gN {α : Type} (v : UInt32) (x : Option α) : Option α := if v &&& 0x7fffffff ≤ 0x7f800000 then x else none
def gC {α β : Type} (x : Option (α × gWd)) (f : α → gWd → Option β) : Option β := match x with
  | none => none
  | some q => f q.1 q.2
def gP {α β : Type} (x : Option α) (f : α → Option β) : Option β := match x with
  | none => none
  | some q => f q
theorem gS_some {α β : Type} {v : α} {f : α → Option β} {r : β} (h : gS v f = some r) : ∃ x, x = v ∧ f x = some r := ⟨v, rfl, h⟩
theorem gB_some {α : Type} {x : Int32} {n : Nat} {f : Nat → Option α} {r : α} (h : gB x n f = some r) : vp_in x n ∧ f x.toNatClampNeg = some r := by
  unfold gB at h
  by_cases hc : x < 0 ∨ n ≤ x.toNatClampNeg
  · rw [if_pos hc] at h; cases h
  · rw [if_neg hc] at h; exact ⟨hc, h⟩
theorem gM_some {α : Type} {i n : Nat} {f : Option α} {r : α} (h : gM i n f = some r) : i < n ∧ f = some r := by
  unfold gM at h
  by_cases hc : i < n
  · rw [if_pos hc] at h; exact ⟨hc, h⟩
  · rw [if_neg hc] at h; cases h
theorem gZ_some {α : Type} {v : Int32} {x : Option α} {r : α} (h : gZ v x = some r) : (v = 0 ∨ v = 1) ∧ x = some r := by
  unfold gZ at h
  by_cases hc : v = 0 ∨ v = 1
  · rw [if_pos hc] at h; exact ⟨hc, h⟩
  · rw [if_neg hc] at h; cases h
theorem gD_some {α : Type} {v : Int32} {x : Option α} {r : α} (h : gD v x = some r) : ¬ v = 0 ∧ x = some r := by
  unfold gD at h
  by_cases hc : v = 0
  · rw [if_pos hc] at h; cases h
  · rw [if_neg hc] at h; exact ⟨hc, h⟩
theorem gN_some {α : Type} {v : UInt32} {x : Option α} {r : α} (h : gN v x = some r) : vf_n32 v ∧ x = some r := by
  unfold gN at h
  by_cases hc : v &&& 0x7fffffff ≤ 0x7f800000
  · rw [if_pos hc] at h; exact ⟨hc, h⟩
  · rw [if_neg hc] at h; cases h
theorem gC_some {α β : Type} {x : Option (α × gWd)} {f : α → gWd → Option β} {r : β} (h : gC x f = some r) : ∃ a w, x = some (a, w) ∧ f a w = some r := by
  cases x with
  | none => cases h
  | some q => exact ⟨q.1, q.2, rfl, h⟩
theorem gP_some {α β : Type} {x : Option α} {f : α → Option β} {r : β} (h : gP x f = some r) : ∃ a, x = some a ∧ f a = some r := by
  cases x with
  | none => cases h
  | some q => exact ⟨q, rfl, h⟩
theorem gT {α : Type} {c : Prop} [Decidable c] {a b : Option α} {r : α} (h : c) (hF : (if c then a else b) = some r) : a = some r := by rw [if_pos h] at hF; exact hF
theorem gF {α : Type} {c : Prop} [Decidable c] {a b : Option α} {r : α} (h : ¬ c) (hF : (if c then a else b) = some r) : b = some r := by rw [if_neg h] at hF; exact hF
theorem vp_lt {x : Int32} {n : Nat} (h : vp_in x n) : x.toNatClampNeg < n := Nat.not_le.mp fun q => h (Or.inr q)
theorem g_tabOut {x : Int32} {lo hi : Int} (h : ∀ k : Int, lo ≤ k → k ≤ hi → x.toInt ≠ k) : x.toInt < lo ∨ hi < x.toInt := by
  by_cases h1 : x.toInt < lo
  · exact Or.inl h1
  · by_cases h2 : hi < x.toInt
    · exact Or.inr h2
    · exact absurd rfl (h x.toInt (by omega) (by omega))
/-! what the generated rows name -/
def gFU : Nat := 2000
theorem gok_s {i n : Nat} (hi : i < 7) (hn : n < 30) : gok i (4 + n) := gok_m hi (by omega)
theorem h07 : 0 < 7 := by decide
theorem h17 : 1 < 7 := by decide
section GEO
variable {X : gX} {w : gWd}
theorem gE_G : gE X w 7 0 = .inr (5, [.ref (gA X 0 0), .ref (gA X 1 0), .ref (gA X 7 1), .ref (gA X 7 3), .ref (gA X 7 5)]) := rfl
theorem gE_H : gE X w 7 1 = .inr (0, [.ref (gA X 7 2), .int (w 7 1 1)]) := rfl
theorem gE_Arows : gE X w 7 2 = .inl (X.cM, 5, .inr (.inr (.inr (.inr (fun n => some (gA X (w 7 2 n).toNatClampNeg 0)))))) := rfl
theorem gE_T : gE X w 7 3 = .inr (2, [.ref (gA X 7 4), .int (w 7 3 1), .int (w 7 3 2), .int (w 7 3 3), .int (w 7 3 4), .int (w 7 3 5), .int (w 7 3 6), .int (w 7 3 7)]) := rfl
theorem gE_Asig : gE X w 7 4 = .inl (X.cI, 60, .inl (w 7 4)) := rfl
theorem gE_R : gE X w 7 5 = .inr (3, [.int (w 7 5 0), .int (w 7 5 1), .int (w 7 5 2), .int (w 7 5 3)]) := rfl
theorem gE_O0 : gE X w 8 0 = .inl (X.cI, 60, .inl (w 8 0)) := rfl
theorem gE_O1 : gE X w 8 1 = .inl (X.cI, 60, .inl (w 8 1)) := rfl
theorem gE_O2 : gE X w 8 2 = .inl (X.cI, 60, .inl (w 8 2)) := rfl
theorem gE_O3 : gE X w 8 3 = .inl (X.cI, 20, .inl (w 8 3)) := rfl
theorem gE_O4 : gE X w 8 4 = .inl (X.cI, 4, .inl (w 8 4)) := rfl
theorem gE_O5 : gE X w 8 5 = .inl (X.cI, 10, .inl (w 8 5)) := rfl
theorem gE_O6 : gE X w 8 6 = .inl (X.cI, 6, .inl (w 8 6)) := rfl
theorem gE_O7 : gE X w 8 7 = .inl (X.cI, 40, .inl (w 8 7)) := rfl
end GEO
theorem vp_lt2 {x : Int32} {n k : Nat} (h : vp_in x n) (hk : x.toNatClampNeg = k) : k < n := hk ▸ vp_lt h
theorem gin {x : Int32} {n : Nat} (h : decide (x < 0 ∨ n ≤ x.toNatClampNeg) = false) : vp_in x n := of_decide_eq_false h
theorem gW1 {X : gX} {w w' : gWd} {H : Heap} (hF : some w = some w') (hW : gWo X 252 (gE X w) H) : gWo X 252 (gE X w') H := by cases hF; exact hW
theorem gW2 {X : gX} {w w' : gWd} {v r : Int32} {H : Heap} (hF : some (v, w) = some (r, w')) (hW : gWo X 252 (gE X w) H) : gWo X 252 (gE X w') H := by cases hF; exact hW
theorem gI2 {α β : Type} {a c : α} {b d : β} (h : some (a, b) = some (c, d)) : a = c ∧ b = d := by cases h; exact ⟨rfl, rfl⟩
section GROWS2
variable {p : Program} {l : Launch} {e : Env} {R : Room} {s : State} {m : MethodId} {args : Array Value} {below : List Frame} {meth : Method} {c : Code} {H : Heap} {locs : List Loc} {cells slots : Nat} {Q : State → Prop}
variable {cc : ByteArray} {pc : Nat} {ls : Array Slot} {rest : List Value} {X : gX} {w : gWd}
theorem g_iald2 {n : Nat} {E : Nat → Nat → va_E} (hx : p.tables.exec = Jvm.exec) (hb : c.code = cc) (hK : gKt X s) (hW : gWo X n E H) {i r k : Nat} (hr : gok i r) (hlt : gad i r < n) {len : Nat} {f : Nat → Int32} (he : E i r = .inl (X.cI, len, .inl f)) {x : Int32} (hin : vp_in x len) (hk : x.toNatClampNeg = k) (hdg : decode cc pc = .ok (.iaload, 1))
    (kk : W p l e R s m args below meth c H locs cells slots Q (F0 m (pc + 1) ls (.int (f k) :: rest))) : W p l e R s m args below meth c H locs cells slots Q (F0 m pc ls (.int x :: .ref (gA X i r) :: rest)) := by
  subst hk
  exact g_iald hx hb hK hW hr hlt he hin hdg kk
theorem g_iast2 (hx : p.tables.exec = Jvm.exec) (hb : c.code = cc) (hK : gKt X s) (hW : gWo X 252 (gE X w) H) (hL : gLo X locs) {i r k : Nat} (hr : gok i r) {len : Nat} (he : ∀ w : gWd, gE X w i r = .inl (X.cI, len, .inl (w i r))) {x y : Int32} (hin : vp_in x len) (hk : x.toNatClampNeg = k) (hdg : decode cc pc = .ok (.iastore, 1))
    (kk : ∀ (H1 : Heap) (locs1 : List Loc), gWo X 252 (gE X (up3 w i r k y)) H1 → gLo X locs1 → W p l e R s m args below meth c H1 locs1 cells slots Q (F0 m (pc + 1) ls rest)) : W p l e R s m args below meth c H locs cells slots Q (F0 m pc ls (.int y :: .int x :: .ref (gA X i r) :: rest)) := by
  subst hk
  exact g_iast hx hb hK hW hL hr (gad_lt hr) (he w) hin hdg (by rw [he, up3_row]) (fun a b hab h => gE_up_ne h hab) kk
theorem r_all (hx : p.tables.exec = Jvm.exec) (hb : c.code = cc) (hK : gKt X s) (hW : gWo X 252 (gE X w) H) {i k : Nat} (hi : i < 7) {x : Int32} (hin : vp_in x 30) (hk : x.toNatClampNeg = k) (hdg : decode cc pc = .ok (.aaload, 1))
    (kk : W p l e R s m args below meth c H locs cells slots Q (F0 m (pc + 1) ls (.ref (gA X i (4 + k)) :: rest))) : W p l e R s m args below meth c H locs cells slots Q (F0 m pc ls (.int x :: .ref (gA X i 2) :: rest)) := by
  subst hk
  exact g_aald hx hb hK hW (gok_m hi (by decide)) (gad_lt (gok_m hi (by decide))) (gE_m2 hi) 1 rfl rfl hin hdg kk
theorem r_rows (hx : p.tables.exec = Jvm.exec) (hb : c.code = cc) (hK : gKt X s) (hW : gWo X 252 (gE X w) H) {k : Nat} {x : Int32} (hin : vp_in x 5) (hk : x.toNatClampNeg = k) (hdg : decode cc pc = .ok (.aaload, 1))
    (kk : W p l e R s m args below meth c H locs cells slots Q (F0 m (pc + 1) ls (.ref (gA X ((w 7 2 k).toNatClampNeg) 0) :: rest))) : W p l e R s m args below meth c H locs cells slots Q (F0 m pc ls (.int x :: .ref (gA X 7 2) :: rest)) := by
  subst hk
  exact g_aald hx hb hK hW (gok_c (by decide)) (gad_lt (gok_c (by decide))) gE_Arows 2 rfl rfl hin hdg kk
theorem r_rowst (hx : p.tables.exec = Jvm.exec) (hb : c.code = cc) (hK : gKt X s) (hW : gWo X 252 (gE X w) H) (hL : gLo X locs) {i k : Nat} (hi : i < 7) {x : Int32} (hin : vp_in x 5) (hk : x.toNatClampNeg = k) (hdg : decode cc pc = .ok (.aastore, 1))
    (kk : ∀ (H1 : Heap) (locs1 : List Loc), gWo X 252 (gE X (up3 w 7 2 k (nI i))) H1 → gLo X locs1 → W p l e R s m args below meth c H1 locs1 cells slots Q (F0 m (pc + 1) ls rest)) : W p l e R s m args below meth c H locs cells slots Q (F0 m pc ls (.ref (gA X i 0) :: .int x :: .ref (gA X 7 2) :: rest)) := by
  subst hk
  refine g_aast hx hb hK hW hL (gok_c (by decide)) (gad_lt (gok_c (by decide))) gE_Arows 2 (q0 := (RX5, TX5, 11)) rfl (gok_m hi (by decide)) (gad_lt (gok_m hi (by decide))) (gE_m0 hi) rfl hin hdg ?_ (fun a b hab h => gE_up_ne h hab) kk
  rw [gE_Arows]
  congr 7
  funext n
  unfold va_up up3
  by_cases hn : n = x.toNatClampNeg
  · subst hn
    rw [if_pos ⟨rfl, rfl, rfl⟩, if_pos rfl, nI_clamp (by omega)]
  · rw [if_neg (fun z => hn z.2.2), if_neg hn]
theorem g_ti2 {n : Nat} {E : Nat → Nat → va_E} (hx : p.tables.exec = Jvm.exec) (hb : c.code = cc) {t N k : Nat} {f : Nat → Int32} (hT : va_T .int t N (fun j => .int (f j)) (fun q => X.B ≤ q) s X.H0) (hW : gWo X n E H) {x : Int32} (hin : vp_in x N) (hk : x.toNatClampNeg = k) (hdg : decode cc pc = .ok (.iaload, 1))
    (kk : W p l e R s m args below meth c H locs cells slots Q (F0 m (pc + 1) ls (.int (f k) :: rest))) : W p l e R s m args below meth c H locs cells slots Q (F0 m pc ls (.int x :: .ref t :: rest)) := by
  subst hk
  exact g_ti hx hb hT hW hin hdg kk
end GROWS2
section SCRIPT
variable {p : Program} {l : Launch} {e : Env} {R : Room} {s : State} {m : MethodId} {args : Array Value} {below : List Frame} {meth : Method} {c : Code} {H : Heap} {locs : List Loc} {cells slots : Nat} {Q : State → Prop}
variable {cc : ByteArray} {pc : Nat} {ls : Array Slot} {rest : List Value} {X : gX} {n : Nat} {E : Nat → Nat → va_E}
theorem g_sld (hx : p.tables.exec = Jvm.exec) (hb : c.code = cc) {k : Nat} (hK : gKt X s) (hW : gWo X n E H) {i : Int32} (hin : vp_in i X.sL) (hk : i.toNatClampNeg = k) (hdg : decode cc pc = .ok (.iaload, 1))
    (kk : W p l e R s m args below meth c H locs cells slots Q (F0 m (pc + 1) ls (.int (X.sx k) :: rest))) : W p l e R s m args below meth c H locs cells slots Q (F0 m pc ls (.int i :: .ref X.sB :: rest)) := by
  subst hk
  obtain ⟨scr, h1, h2, h3, h4, h5⟩ := hK.2.2.2.2.1
  exact W.iald (v := .int (X.sx i.toNatClampNeg)) hx hb (by rw [hW.2.2.1 X.sB hK.2.2.2.2.2]; exact h1) h2 h3 (by rw [h4]; exact hin) (h5 _ (vp_lt hin)) rfl rfl hdg kk
theorem g_slen (hx : p.tables.exec = Jvm.exec) (hb : c.code = cc) (hK : gKt X s) (hW : gWo X n E H) (hdg : decode cc pc = .ok (.arraylength, 1))
    (kk : W p l e R s m args below meth c H locs cells slots Q (F0 m (pc + 1) ls (.int (nI X.sL) :: rest))) : W p l e R s m args below meth c H locs cells slots Q (F0 m pc ls (.ref X.sB :: rest)) := by
  obtain ⟨scr, h1, h2, h3, h4, h5⟩ := hK.2.2.2.2.1
  exact W.alen (n := Int32.ofNat X.sL) hx hb (by rw [hW.2.2.1 X.sB hK.2.2.2.2.2]; exact h1) h2 (by rw [h4] <;> rfl) rfl rfl hdg kk
end SCRIPT
