/-! constructors: the history, the text, the rehearsal, the gala, the model -/
abbrev rmX6_init : Room := { frames := 1, cells := 1, slots := 60, locals := 20 }
abbrev wsX6_init : List Cond := gws yX6_init cX6_init 1 none
theorem c_X6_init (l : Launch) (X : gX) {E : Nat → Nat → va_E} (he : E 7 3 = .inr (2, [.null, .int 0, .int 0, .int 0, .int 0, .int 0, .int 0, .int 0])) : Met l yX6_init wsX6_init rmX6_init (gPn X [.ref (gA X 7 3)] 242 E) (gQn X 243 (eU (eU E 7 4 (.inl (X.cI, 60, .inl (fun _ => 0)))) 7 3 (.inr (2, [.ref (gA X 7 4), .int 0, .int 0, .int 0, .int 0, .int 0, .int 0, .int 0])))) 1 60 (gFr X) := by
  refine g_ofN (cc := cX6_init) (maxL := 1) (ret := none) (by decide) rfl (Nat.le_of_ble_eq_true rfl) (fun p e s m args below meth c ls H hx hb hr hnm hts hown hlocks hml hK hKx hl hW => ?_)
  have hl : lv_has ls 1 [(0, .ref (gA X 7 3))] := hl
  have hown : s.vm.findClass RX6 = some m.cls := hown
  have hnm : meth.name = "<init>" := hnm
  have hL : gLo X [] := gLo_nil
  have inX6 : ∀ w ∈ wsX60, w ∈ wsX6_init := fun w h => List.mem_cons_of_mem _ (inlX6 w h)
  show W p l e rmX6_init s m args below meth c H [] 0 0 _ _
  refine lv_aload_n hx hb dX6_init_0 rfl (lv_at hl 0 rfl) ?_
  refine W.objInit hx hb hown (hts _ (List.mem_cons_of_mem _ (inR3 _ (List.mem_of_getElem? (i := 4) rfl)))) (hts _ (List.mem_cons_of_mem _ (inR1 _ (List.mem_of_getElem? (i := 9) rfl)))) (hts _ (List.mem_cons_of_mem _ (inR1 _ (List.mem_of_getElem? (i := 10) rfl)))) rfl (by rw [hml]; exact hl.1) rfl dX6_init_1 (Nat.le_of_ble_eq_true rfl) (Nat.le_of_ble_eq_true rfl) ?_
  refine lv_aload_n hx hb dX6_init_4 rfl (lv_at hl 0 rfl) ?_
  refine lv_bipush (v := 60) hx hb dX6_init_5 (by decide) ?_
  refine g_newI hx hb (hts _ (List.mem_cons_of_mem _ (inR1 _ (List.mem_of_getElem? (i := 3) rfl)))) hK hW (i := 7) (r := 4) (gok_c (by decide)) rfl (by decide) (N := 60) rfl (by decide) (Nat.le_of_ble_eq_true rfl) (Nat.le_of_ble_eq_true rfl) dX6_init_7 (fun H hW => ?_)
  refine g_putF (T := TX6) hx hb hts inX6 tyX6 tyX6_ok nmX6 hown hK hW hL (gok_c (by decide)) (by decide) ((eU_n (by omega)).trans he) rfl 0 (by decide) rfl (hts _ (List.mem_cons_of_mem _ (inR3 _ (List.mem_of_getElem? (i := 5) rfl)))) rfl hnm rfl (ty := (.array .int)) rfl rfl rfl (Nat.le_of_ble_eq_true rfl) dX6_init_9 (fun H locs hW hL => ?_)
  exact g_rvN hx hb hr hlocks hW hL dX6_init_12
abbrev rmX7_init : Room := { frames := 1, cells := 0, slots := 0, locals := 20 }
abbrev wsX7_init : List Cond := gws yX7_init cX7_init 1 none
theorem c_X7_init (l : Launch) (X : gX) {n : Nat} {E : Nat → Nat → va_E} : Met l yX7_init wsX7_init rmX7_init (gPn X [.ref (gA X 7 5)] n E) (gQn X n E) 0 0 (gFr X) := by
  refine g_ofN (cc := cX7_init) (maxL := 1) (ret := none) (by decide) rfl (Nat.le_of_ble_eq_true rfl) (fun p e s m args below meth c ls H hx hb hr hnm hts hown hlocks hml hK hKx hl hW => ?_)
  have hl : lv_has ls 1 [(0, .ref (gA X 7 5))] := hl
  have hown : s.vm.findClass RX7 = some m.cls := hown
  have hnm : meth.name = "<init>" := hnm
  have hL : gLo X [] := gLo_nil
  have inX7 : ∀ w ∈ wsX70, w ∈ wsX7_init := fun w h => List.mem_cons_of_mem _ (inlX7 w h)
  show W p l e rmX7_init s m args below meth c H [] 0 0 _ _
  refine lv_aload_n hx hb dX7_init_0 rfl (lv_at hl 0 rfl) ?_
  refine W.objInit hx hb hown (hts _ (List.mem_cons_of_mem _ (inR3 _ (List.mem_of_getElem? (i := 8) rfl)))) (hts _ (List.mem_cons_of_mem _ (inR1 _ (List.mem_of_getElem? (i := 9) rfl)))) (hts _ (List.mem_cons_of_mem _ (inR1 _ (List.mem_of_getElem? (i := 10) rfl)))) rfl (by rw [hml]; exact hl.1) rfl dX7_init_1 (Nat.le_of_ble_eq_true rfl) (Nat.le_of_ble_eq_true rfl) ?_
  exact g_rvN hx hb hr hlocks hW hL dX7_init_4
theorem gad_m0 {i : Nat} (h2 : 2 ≤ i) (hi : i < 7) : gad i 0 = 3 + 34 * i := by
  unfold gad
  rw [if_pos hi, if_neg (by omega)]; rfl
abbrev rmX3_init : Room := { frames := 3, cells := 171, slots := 1895, locals := 62 }
abbrev wsX3_init : List Cond := gws yX3_init cX3_init 2 none
def htA (X : gX) (k : Nat) (E E' : Nat → Nat → va_E) : Prop := E' 7 1 = .inr (0, [.ref (gA X 7 2), .int 0]) ∧ E' 7 2 = .inl (X.cM, 5, .inr (.inr (.inr (.inr (fun q => if q < k then some (gA X (2 + q) 0) else none))))) ∧ (∀ q, q < k → ∀ b, E' (2 + q) b = gE X gW0 (2 + q) b) ∧ ∀ a b, (a < 2 ∨ (a = 7 ∧ b ≠ 1 ∧ b ≠ 2)) → E' a b = E a b
set_option maxHeartbeats 4000000 in
theorem c_X3_init (l : Launch) (X : gX) {E : Nat → Nat → va_E} (he : E 7 1 = .inr (0, [.null, .int 0])) : Met l yX3_init wsX3_init rmX3_init (gPn X [.ref (gA X 7 1)] 70 E) (gQn X 241 (fun a b => if (2 ≤ a ∧ a < 7) ∨ (a = 7 ∧ (b = 1 ∨ b = 2)) then gE X gW0 a b else E a b)) 171 1895 (gFr X) := by
  refine g_ofN (cc := cX3_init) (maxL := 2) (ret := none) (by decide) rfl (Nat.le_of_ble_eq_true rfl) (fun p e s m args below meth c ls H hx hb hr hnm hts hown hlocks hml hK hKx hl hW => ?_)
  have hl : lv_has ls 2 [(0, .ref (gA X 7 1))] := hl
  have hown : s.vm.findClass RX3 = some m.cls := hown
  have hnm : meth.name = "<init>" := hnm
  have hL : gLo X [] := gLo_nil
  have inX3 : ∀ w ∈ wsX30, w ∈ wsX3_init := fun w h => List.mem_cons_of_mem _ (inlX3 w h)
  show W p l e rmX3_init s m args below meth c H [] 0 0 _ _
  refine lv_aload_n hx hb dX3_init_0 rfl (lv_at hl 0 rfl) ?_
  refine W.objInit hx hb hown (hts _ (List.mem_cons_of_mem _ (inR2 _ (List.mem_of_getElem? (i := 22) rfl)))) (hts _ (List.mem_cons_of_mem _ (inR1 _ (List.mem_of_getElem? (i := 9) rfl)))) (hts _ (List.mem_cons_of_mem _ (inR1 _ (List.mem_of_getElem? (i := 10) rfl)))) rfl (by rw [hml]; exact hl.1) rfl dX3_init_1 (Nat.le_of_ble_eq_true rfl) (Nat.le_of_ble_eq_true rfl) ?_
  refine lv_aload_n hx hb dX3_init_4 rfl (lv_at hl 0 rfl) ?_
  refine lv_iconst (v := 5) hx hb dX3_init_5 (by decide) ?_
  refine g_newR hx hb hown (hts _ (List.mem_cons_of_mem _ (inR2 _ (List.mem_of_getElem? (i := 23) rfl)))) hKx.1.2 hK hW (i := 7) (r := 2) (gok_c (by decide)) rfl 2 rfl (by decide) (N := 5) rfl (by decide) (Nat.le_of_ble_eq_true rfl) (Nat.le_of_ble_eq_true rfl) dX3_init_6 (fun H hW => ?_)
  refine g_putF (T := TX3) hx hb hts inX3 tyX3 tyX3_ok nmX3 hown hK hW hL (gok_c (by decide)) (by decide) ((eU_n (by omega)).trans he) rfl 0 (by decide) rfl (hts _ (List.mem_cons_of_mem _ (inR3 _ (List.mem_of_getElem? (i := 0) rfl)))) rfl hnm rfl (ty := (.array (.object RX5))) rfl rfl rfl (Nat.le_of_ble_eq_true rfl) dX3_init_9 (fun H locs hW hL => ?_)
  obtain ⟨E6, hW, hA⟩ := ex_E hW (htA X 0 E) ⟨by rw [eU_s]; rfl, by simp [eU], fun q hq => absurd hq (Nat.not_lt_zero q), fun a b h => by rw [eU_n (by omega), eU_n (by omega)]⟩
  refine lv_iconst (v := 0) hx hb dX3_init_12 (by decide) ?_
  refine lv_istore_n (lv' := [(1, .int 0), (0, .ref (gA X 7 1))]) hx hb dX3_init_13 rfl hl (by decide) rfl (fun ls hl => ?_)
  have loopB : ∀ (d k cs sl : Nat) (H : Heap) (locs : List Loc) (ls : Array Slot) (E' : Nat → Nat → va_E) (n : Nat), k + d = 5 → cs = 1 + 34 * k → sl = 5 + 378 * k → n = 71 + 34 * k → lv_has ls 2 [(1, .int (nI k)), (0, .ref (gA X 7 1))] → gWo X n E' H → gLo X locs → htA X k E E' → W p l e rmX3_init s m args below meth c H locs cs sl (MQ below (gQn X 241 (fun a b => if (2 ≤ a ∧ a < 7) ∨ (a = 7 ∧ (b = 1 ∨ b = 2)) then gE X gW0 a b else E a b)) args s 171 1895 (gFr X)) (F0 m 14 ls []) := by
    intro d
    induction d with
    | zero =>
      intro k cs sl H locs ls E' n hkd hcs hsl hn hl hW hL hB
      obtain rfl : k = 5 := by omega
      obtain rfl : cs = 171 := by omega
      obtain rfl : sl = 1895 := by omega
      obtain rfl : n = 241 := by omega
      obtain ⟨b1, b2, b3, b9⟩ := hB
      refine lv_iload_n hx hb dX3_init_14 rfl (lv_at hl 0 rfl) ?_
      refine lv_iconst (v := 4) hx hb dX3_init_15 (by decide) ?_
      refine lv_icmp_gt (tgt := 38) hx hb dX3_init_16 (by decide) (fun hc => ?_) (fun hc => absurd (by decide) hc)
      have hW2 := hW.cellq (i := 7) (r := 2) (g := fun q => some (gA X (gW0 7 2 q).toNatClampNeg 0)) b2 (fun j hj => by
        rw [if_pos hj]
        have : gW0 7 2 j = nI (2 + j) := by unfold gW0; rw [if_neg (by omega), if_pos ⟨rfl, rfl⟩]
        rw [this, nI_cn (by omega)])
      have hW3 : gWo X 241 (fun a b => if (2 ≤ a ∧ a < 7) ∨ (a = 7 ∧ (b = 1 ∨ b = 2)) then gE X gW0 a b else E a b) H := by
        refine gWo.cg hW2 (fun a b hab hlt => ?_)
        show (if (2 ≤ a ∧ a < 7) ∨ (a = 7 ∧ (b = 1 ∨ b = 2)) then gE X gW0 a b else E a b) = _
        by_cases e1 : 2 ≤ a ∧ a < 7
        · rw [if_pos (Or.inl e1), eU_n (by omega)]
          have := b3 (a - 2) (by omega) b
          rw [show 2 + (a - 2) = a by omega] at this
          exact this.symm
        · by_cases e2 : a = 7 ∧ (b = 1 ∨ b = 2)
          · rw [if_pos (Or.inr e2)]
            obtain ⟨rfl, rfl | rfl⟩ := e2
            · rw [eU_n (by omega), b1]
              have z : gW0 7 1 1 = 0 := by unfold gW0; rw [if_neg (by omega), if_neg (by omega)]
              show (Sum.inr (0, [Value.ref (gA X 7 2), Value.int (gW0 7 1 1)]) : va_E) = _
              rw [z]
            · rw [eU_s]; rfl
          · rw [if_neg (fun z => z.elim e1 e2), eU_n (by omega)]
            refine (b9 a b ?_).symm
            unfold gok at hab
            rcases hab with h | h | h
            · left; omega
            · right; exact ⟨h.1, by omega, by omega⟩
            · exfalso
              unfold gad at hlt
              rw [if_neg (by omega), if_neg (by omega)] at hlt
              omega
      exact g_rvN hx hb hr hlocks hW3 hL dX3_init_38
    | succ d ih =>
      intro k cs sl H locs ls E' n hkd hcs hsl hn hl hW hL hB
      obtain ⟨b1, b2, b3, b9⟩ := hB
      refine lv_iload_n hx hb dX3_init_14 rfl (lv_at hl 0 rfl) ?_
      refine lv_iconst (v := nI 4) hx hb dX3_init_15 (by decide) ?_
      refine lv_icmp_gt (tgt := 38) hx hb dX3_init_16 (by decide) (fun hc => ?_) (fun hc => ?_)
      · exfalso
        rw [Int32.lt_iff_toInt_lt, nI_toInt (by omega), nI_toInt (by omega)] at hc
        omega
      have hi : 2 + k < 7 := by omega
      have g4 : gad (2 + k) 0 = n := by rw [gad_m0 (by omega) hi]; omega
      have ok4 : gok (2 + k) 0 := gok_m hi (by decide)
      have g71 : gad 7 1 < n := by show 69 < n; omega
      have g72 : gad 7 2 < n := by show 70 < n; omega
      refine lv_aload_n hx hb dX3_init_19 rfl (lv_at hl 1 rfl) ?_
      refine g_get (T := TX3) hx hb hts inX3 hown hK hW (gok_c (by decide)) g71 b1 rfl 0 (by decide) rfl (hts _ (List.mem_cons_of_mem _ (inR3 _ (List.mem_of_getElem? (i := 0) rfl)))) rfl dX3_init_20 ?_
      refine lv_iload_n hx hb dX3_init_23 rfl (lv_at hl 0 rfl) ?_
      refine g_newO (T := TX5) (N := 11) (fs := [.null, .null, .null, .int 0, .int 0, .int 0, .int 0, .int 0, .int 0, .int 0, .int 0]) hx hb hts (fun w h => List.mem_cons_of_mem _ (inlX5 w h)) tyX5 tyX5_ok hown (hts _ (List.mem_cons_of_mem _ (inR2 _ (List.mem_of_getElem? (i := 23) rfl)))) (hts _ (List.mem_cons_of_mem _ (inR1 _ (List.mem_of_getElem? (i := 12) rfl)))) (hts _ (List.mem_cons_of_mem _ (inR1 _ (List.mem_of_getElem? (i := 13) rfl)))) hK hW (i := (2 + k)) (r := 0) ok4 g4 (ci := 1) rfl (fun j hj => by rcases (show j = 0 ∨ j = 1 ∨ j = 2 ∨ j = 3 ∨ j = 4 ∨ j = 5 ∨ j = 6 ∨ j = 7 ∨ j = 8 ∨ j = 9 ∨ j = 10 by omega) with rfl | rfl | rfl | rfl | rfl | rfl | rfl | rfl | rfl | rfl | rfl <;> rfl) (by show cs + 1 ≤ 171; omega) (by show sl + 11 ≤ 1895; omega) dX3_init_24 (fun H hW => ?_)
      refine lv_dup hx hb dX3_init_27 rfl ?_
      refine g_I (As := []) (rest := [.ref (gA X (2 + k) 0), .int (nI k), .ref (gA X 7 2)]) ⟨hx, hb, hml, hown, hts⟩ hK hKx hW hL hl.1 (c_X5_init l X hi (by rw [g4]) (eU_s _ _ _ _)) (cwI 0 hts (gGoodC (fun w h => List.mem_cons_of_mem _ h) (inR2 _ (List.mem_of_getElem? (i := 6) rfl))) rfl rfl rfl (hts _ (List.mem_cons_of_mem _ (inR1 _ (List.mem_of_getElem? (i := 13) rfl)))) (hts _ (List.mem_cons_of_mem _ (inR3 _ (List.mem_of_getElem? (i := 1) rfl)))) (hts _ (List.mem_cons_of_mem _ (inR2 _ (List.mem_of_getElem? (i := 5) rfl)))) rfl (by decide +kernel) ⟨Nat.le_of_ble_eq_true rfl, Nat.le_of_ble_eq_true rfl⟩) rfl rfl (Nat.le_of_ble_eq_true rfl) dX3_init_28 ⟨by show cs + 1 + 33 ≤ 171; omega, by show sl + 11 + 367 ≤ 1895; omega⟩ (fun H locs hW hL => ?_)
      obtain ⟨E7, hW, c4, c9⟩ := ex_E hW (fun E7 => (∀ b, E7 (2 + k) b = gE X gW0 (2 + k) b) ∧ ∀ a b, ¬ a = 2 + k → E7 a b = E' a b) ⟨fun b => if_pos rfl, fun a b h => by
        show (if a = 2 + k then _ else _) = _
        rw [if_neg h, eU_n (fun z => h z.1)]⟩
      refine g_aast hx hb hK hW hL (gok_c (by decide)) (by omega) ((c9 7 2 (by omega)).trans b2) 2 rfl (i2 := 2 + k) (r2 := 0) ok4 (by omega) ((c4 0).trans (gE_m0 hi)) rfl (vpn (by omega) (by omega)) dX3_init_31 (E' := eU E7 7 2 (.inl (X.cM, 5, .inr (.inr (.inr (.inr (fun q => if q < k + 1 then some (gA X (2 + q) 0) else none))))))) ?_ (fun a b hab h => eU_n h) (fun H locs hW hL => ?_)
      · rw [eU_s, nI_cn (by omega)]
        congr 7
        funext q
        unfold va_up
        by_cases e1 : q = k
        · subst e1; rw [if_pos rfl, if_pos (by omega)]
        · rw [if_neg e1]
          show (if q < k + 1 then some (gA X (2 + q) 0) else none) = if q < k then some (gA X (2 + q) 0) else none
          by_cases e2 : q < k
          · rw [if_pos e2, if_pos (by omega)]
          · rw [if_neg e2, if_neg (by omega)]
      refine lv_iinc (v := nI (k + 1)) (lv' := [(1, .int (nI (k + 1))), (0, .ref (gA X 7 1))]) hx hb dX3_init_32 hl (k := 0) rfl (nI_1 k) (by decide) rfl (fun ls hl => ?_)
      refine lv_goto (tgt := 14) hx hb dX3_init_35 (by decide) ?_
      refine ih (k + 1) _ _ H locs ls _ _ (by omega) (by omega) (by omega) (by omega) hl hW hL ⟨?_, eU_s _ _ _ _, fun q hq b => ?_, fun a b h => ?_⟩
      · rw [eU_n (by omega), c9 _ _ (by omega)]; exact b1
      · rw [eU_n (by omega)]
        by_cases e1 : q = k
        · rw [e1]; exact c4 b
        · rw [c9 _ _ (by omega)]; exact b3 q (by omega) b
      · rw [eU_n (by omega), c9 _ _ (by omega)]; exact b9 a b h
  exact loopB 5 0 _ _ _ _ ls E6 _ (by omega) rfl rfl rfl hl hW hL hA
