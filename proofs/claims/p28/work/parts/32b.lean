/-! constructors: the swimmer, the meet -/
def gW0 : gWd := fun a b c => if a < 7 ∧ b = 1 then (if c < 3 then gFirst c else 0) else if a = 7 ∧ b = 2 then nI (2 + c) else 0
theorem gW0_z {a b c : Nat} (h : b ≠ 1) (h2 : b ≠ 2) : gW0 a b c = 0 := by unfold gW0; rw [if_neg (by omega), if_neg (by omega)]
theorem nI_cn {k : Nat} (h : k < 2 ^ 31) : (nI k).toNatClampNeg = k := by
  show (nI k).toInt.toNat = k
  rw [nI_toInt h]; rfl
theorem vpn {k N : Nat} (h : k < N) (hN : N < 2 ^ 31) : vp_in (nI k) N := by
  intro q
  rcases q with q | q
  · exact absurd q (nI_pos (by omega))
  · rw [nI_cn (by omega)] at q; omega
theorem gad_r {i : Nat} (hi : i < 7) (r : Nat) : gad i r = gad i 0 + r := by
  unfold gad
  rw [if_pos hi, if_pos hi]
  split <;> omega
theorem ex_E {X : gX} {n : Nat} {E : Nat → Nat → va_E} {H : Heap} (hW : gWo X n E H) (P : (Nat → Nat → va_E) → Prop) (h : P E) : ∃ E2, gWo X n E2 H ∧ P E2 := ⟨E, hW, h⟩
abbrev rmX10_init : Room := { frames := 1, cells := 0, slots := 0, locals := 20 }
abbrev wsX10_init : List Cond := gws yX10_init cX10_init 2 none
theorem c_X10_init (l : Launch) (X : gX) {n : Nat} {E : Nat → Nat → va_E} {i r : Nat} (v : Int32) {fs : List Value} (hr0 : gok i r) (hlt : gad i r < n) (he : E i r = .inr (4, fs)) (hfs : 0 < fs.length) : Met l yX10_init wsX10_init rmX10_init (gPn X [.ref (gA X i r), .int v] n E) (gQn X n (eU E i r (.inr (4, fs.set 0 (.int v))))) 0 0 (gFr X) := by
  refine g_ofN (cc := cX10_init) (maxL := 2) (ret := none) (by decide) rfl (Nat.le_of_ble_eq_true rfl) (fun p e s m args below meth c ls H hx hb hr hnm hts hown hlocks hml hK hKx hl hW => ?_)
  have hl : lv_has ls 2 [(0, .ref (gA X i r)), (1, .int v)] := hl
  have hown : s.vm.findClass RX10 = some m.cls := hown
  have hnm : meth.name = "<init>" := hnm
  have hL : gLo X [] := gLo_nil
  have inX10 : ∀ w ∈ wsX100, w ∈ wsX10_init := fun w h => List.mem_cons_of_mem _ (inlX10 w h)
  show W p l e rmX10_init s m args below meth c H [] 0 0 _ _
  refine lv_aload_n hx hb dX10_init_0 rfl (lv_at hl 0 rfl) ?_
  refine W.objInit hx hb hown (hts _ (List.mem_cons_of_mem _ (inR2 _ (List.mem_of_getElem? (i := 17) rfl)))) (hts _ (List.mem_cons_of_mem _ (inR1 _ (List.mem_of_getElem? (i := 9) rfl)))) (hts _ (List.mem_cons_of_mem _ (inR1 _ (List.mem_of_getElem? (i := 10) rfl)))) rfl (by rw [hml]; exact hl.1) rfl dX10_init_1 (Nat.le_of_ble_eq_true rfl) (Nat.le_of_ble_eq_true rfl) ?_
  refine lv_aload_n hx hb dX10_init_4 rfl (lv_at hl 0 rfl) ?_
  refine lv_iload_n hx hb dX10_init_5 rfl (lv_at hl 1 rfl) ?_
  refine g_putF (T := TX10) hx hb hts inX10 tyX10 tyX10_ok nmX10 hown hK hW hL hr0 hlt he rfl 0 (by decide) rfl (hts _ (List.mem_cons_of_mem _ (inR2 _ (List.mem_of_getElem? (i := 18) rfl)))) rfl hnm rfl (ty := .int) rfl rfl rfl hfs dX10_init_6 (fun H locs hW hL => ?_)
  exact g_rvN hx hb hr hlocks hW hL dX10_init_9
abbrev rmX5_init : Room := { frames := 2, cells := 33, slots := 367, locals := 41 }
abbrev wsX5_init : List Cond := gws yX5_init cX5_init 2 none
def mtA (X : gX) (i k : Nat) (E E' : Nat → Nat → va_E) : Prop := E' i 0 = .inr (1, [.ref (gA X i 1), .ref (gA X i 2), .ref (gA X i 3), .int 0, .int 0, .int 0, .int 0, .int 0, .int 0, .int 0, .int 0]) ∧ E' i 1 = .inl (X.cI, 3, .inl (fun j => if j < k then gFirst j else 0)) ∧ E' i 2 = .inl (X.cS, 30, .inr (.inr (.inr (.inr (fun _ => none))))) ∧ E' i 3 = .inl (X.cI, 4, .inl (fun _ => 0)) ∧ ∀ a b, a ≠ i → E' a b = E a b
def mtB (X : gX) (i k : Nat) (E E' : Nat → Nat → va_E) : Prop := E' i 0 = .inr (1, [.ref (gA X i 1), .ref (gA X i 2), .ref (gA X i 3), .int 0, .int 0, .int 0, .int 0, .int 0, .int 0, .int 0, .int 0]) ∧ E' i 1 = .inl (X.cI, 3, .inl (fun j => if j < 3 then gFirst j else 0)) ∧ E' i 2 = .inl (X.cS, 30, .inr (.inr (.inr (.inr (fun q => if q < k then some (gA X i (4 + q)) else none))))) ∧ E' i 3 = .inl (X.cI, 4, .inl (fun _ => 0)) ∧ (∀ q, q < k → E' i (4 + q) = .inr (4, [.int (nI q), .int 0, .int 0, .int 0, .int 0, .int 0, .int 0, .int 0, .int 0, .int 0, .int 0])) ∧ ∀ a b, a ≠ i → E' a b = E a b
set_option maxHeartbeats 4000000 in
theorem c_X5_init (l : Launch) (X : gX) {n : Nat} {E : Nat → Nat → va_E} {i : Nat} (hi : i < 7) (hn : gad i 0 + 1 = n) (he : E i 0 = .inr (1, [.null, .null, .null, .int 0, .int 0, .int 0, .int 0, .int 0, .int 0, .int 0, .int 0])) : Met l yX5_init wsX5_init rmX5_init (gPn X [.ref (gA X i 0)] n E) (gQn X (n + 33) (fun a b => if a = i then gE X gW0 i b else E a b)) 33 367 (gFr X) := by
  have hgr := gad_r hi
  refine g_ofN (cc := cX5_init) (maxL := 2) (ret := none) (by decide) rfl (Nat.le_of_ble_eq_true rfl) (fun p e s m args below meth c ls H hx hb hr hnm hts hown hlocks hml hK hKx hl hW => ?_)
  have hl : lv_has ls 2 [(0, .ref (gA X i 0))] := hl
  have hown : s.vm.findClass RX5 = some m.cls := hown
  have hnm : meth.name = "<init>" := hnm
  have hL : gLo X [] := gLo_nil
  have inX5 : ∀ w ∈ wsX50, w ∈ wsX5_init := fun w h => List.mem_cons_of_mem _ (inlX5 w h)
  show W p l e rmX5_init s m args below meth c H [] 0 0 _ _
  refine lv_aload_n hx hb dX5_init_0 rfl (lv_at hl 0 rfl) ?_
  refine W.objInit hx hb hown (hts _ (List.mem_cons_of_mem _ (inR2 _ (List.mem_of_getElem? (i := 7) rfl)))) (hts _ (List.mem_cons_of_mem _ (inR1 _ (List.mem_of_getElem? (i := 9) rfl)))) (hts _ (List.mem_cons_of_mem _ (inR1 _ (List.mem_of_getElem? (i := 10) rfl)))) rfl (by rw [hml]; exact hl.1) rfl dX5_init_1 (Nat.le_of_ble_eq_true rfl) (Nat.le_of_ble_eq_true rfl) ?_
  refine lv_aload_n hx hb dX5_init_4 rfl (lv_at hl 0 rfl) ?_
  refine lv_iconst (v := 3) hx hb dX5_init_5 (by decide) ?_
  refine g_newI hx hb (hts _ (List.mem_cons_of_mem _ (inR1 _ (List.mem_of_getElem? (i := 3) rfl)))) hK hW (i := i) (r := 1) (gok_m hi (by decide)) (by rw [hgr, hn]) (by decide) rfl (by decide) (Nat.le_of_ble_eq_true rfl) (Nat.le_of_ble_eq_true rfl) dX5_init_6 (fun H hW => ?_)
  refine g_putF (T := TX5) hx hb hts inX5 tyX5 tyX5_ok nmX5 hown hK hW hL (gok_m hi (by decide)) (by omega) ((eU_n (by omega)).trans he) rfl 0 (by decide) rfl (hts _ (List.mem_cons_of_mem _ (inR2 _ (List.mem_of_getElem? (i := 8) rfl)))) rfl hnm rfl (ty := (.array .int)) rfl rfl rfl (Nat.le_of_ble_eq_true rfl) dX5_init_8 (fun H locs hW hL => ?_)
  refine lv_aload_n hx hb dX5_init_11 rfl (lv_at hl 0 rfl) ?_
  refine lv_bipush (v := 30) hx hb dX5_init_12 (by decide) ?_
  refine g_newR hx hb hown (hts _ (List.mem_cons_of_mem _ (inR2 _ (List.mem_of_getElem? (i := 9) rfl)))) hKx.1.1 hK hW (i := i) (r := 2) (gok_m hi (by decide)) (by rw [hgr]; omega) 1 rfl (by decide) (N := 30) rfl (by decide) (Nat.le_of_ble_eq_true rfl) (Nat.le_of_ble_eq_true rfl) dX5_init_14 (fun H hW => ?_)
  refine g_putF (T := TX5) hx hb hts inX5 tyX5 tyX5_ok nmX5 hown hK hW hL (gok_m hi (by decide)) (by omega) ((eU_n (by omega)).trans (eU_s _ _ _ _)) rfl 1 (by decide) rfl (hts _ (List.mem_cons_of_mem _ (inR2 _ (List.mem_of_getElem? (i := 10) rfl)))) rfl hnm rfl (ty := (.array (.object RX10))) rfl rfl rfl (Nat.le_of_ble_eq_true rfl) dX5_init_17 (fun H locs hW hL => ?_)
  refine lv_aload_n hx hb dX5_init_20 rfl (lv_at hl 0 rfl) ?_
  refine lv_iconst (v := 4) hx hb dX5_init_21 (by decide) ?_
  refine g_newI hx hb (hts _ (List.mem_cons_of_mem _ (inR1 _ (List.mem_of_getElem? (i := 3) rfl)))) hK hW (i := i) (r := 3) (gok_m hi (by decide)) (by rw [hgr]; omega) (by decide) rfl (by decide) (Nat.le_of_ble_eq_true rfl) (Nat.le_of_ble_eq_true rfl) dX5_init_22 (fun H hW => ?_)
  refine g_putF (T := TX5) hx hb hts inX5 tyX5 tyX5_ok nmX5 hown hK hW hL (gok_m hi (by decide)) (by omega) ((eU_n (by omega)).trans (eU_s _ _ _ _)) rfl 2 (by decide) rfl (hts _ (List.mem_cons_of_mem _ (inR2 _ (List.mem_of_getElem? (i := 11) rfl)))) rfl hnm rfl (ty := (.array .int)) rfl rfl rfl (Nat.le_of_ble_eq_true rfl) dX5_init_24 (fun H locs hW hL => ?_)
  obtain ⟨E6, hW, hA⟩ := ex_E hW (mtA X i 0 E) ⟨by rw [eU_s]; rfl, by simp [eU], by simp [eU], by simp [eU], fun a b h => by simp [eU, h]⟩
  refine lv_iconst (v := 0) hx hb dX5_init_27 (by decide) ?_
  refine lv_istore_n (lv' := [(1, .int 0), (0, .ref (gA X i 0))]) hx hb dX5_init_28 rfl hl (by decide) rfl (fun ls hl => ?_)
  have loopB : ∀ (d k cs sl : Nat) (H : Heap) (locs : List Loc) (ls : Array Slot) (E' : Nat → Nat → va_E), k + d = 30 → cs = 3 + k → sl = 37 + 11 * k → lv_has ls 2 [(1, .int (nI k)), (0, .ref (gA X i 0))] → gWo X (n + 3 + k) E' H → gLo X locs → mtB X i k E E' → W p l e rmX5_init s m args below meth c H locs cs sl (MQ below (gQn X (n + 33) (fun a b => if a = i then gE X gW0 i b else E a b)) args s 33 367 (gFr X)) (F0 m 53 ls []) := by
    intro d
    induction d with
    | zero =>
      intro k cs sl H locs ls E' hkd hcs hsl hl hW hL hB
      obtain rfl : k = 30 := by omega
      obtain rfl : cs = 33 := by omega
      obtain rfl : sl = 367 := by omega
      obtain ⟨b0, b1, b2, b3, b4, b9⟩ := hB
      refine lv_iload_n hx hb dX5_init_53 rfl (lv_at hl 0 rfl) ?_
      refine lv_bipush (v := 30) hx hb dX5_init_54 (by decide) ?_
      refine lv_icmp_ge (tgt := 79) hx hb dX5_init_56 (by decide) (fun hc => ?_) (fun hc => absurd (by decide) hc)
      have hW2 := hW.cellq (i := i) (r := 2) (g := fun q => some (gA X i (4 + q))) b2 (fun j hj => by rw [if_pos hj])
      have hW3 : gWo X (n + 33) (fun a b => if a = i then gE X gW0 i b else E a b) H := by
        refine gWo.cg hW2 (fun a b hab hlt => ?_)
        by_cases ea : a = i
        · subst ea
          show (if a = a then gE X gW0 a b else E a b) = _
          rw [if_pos rfl]
          have hb34 : b < 34 := by unfold gok at hab; omega
          have z : ∀ r c, r ≠ 1 → r ≠ 2 → gW0 a r c = 0 := fun r c h1 h2 => gW0_z h1 h2
          rcases (show b = 0 ∨ b = 1 ∨ b = 2 ∨ b = 3 ∨ ∃ q, b = 4 + q ∧ q < 30 from by
            rcases (show b = 0 ∨ b = 1 ∨ b = 2 ∨ b = 3 ∨ 4 ≤ b by omega) with h | h | h | h | h
            · exact Or.inl h
            · exact Or.inr (Or.inl h)
            · exact Or.inr (Or.inr (Or.inl h))
            · exact Or.inr (Or.inr (Or.inr (Or.inl h)))
            · exact Or.inr (Or.inr (Or.inr (Or.inr ⟨b - 4, by omega, by omega⟩)))) with rfl | rfl | rfl | rfl | ⟨q, rfl, hq⟩
          · rw [eU_n (by omega), b0, gE_m0 hi]
            simp only [z 0 _ (by omega) (by omega)]
          · rw [eU_n (by omega), b1, gE_m1 hi]
            have : gW0 a 1 = fun j => if j < 3 then gFirst j else 0 := by
              funext j
              unfold gW0
              rw [if_pos ⟨hi, rfl⟩]
            rw [this]
          · rw [eU_s, gE_m2 hi]
          · rw [eU_n (by omega), b3, gE_m3 hi]
            have : gW0 a 3 = fun _ => 0 := funext fun j => gW0_z (by omega) (by omega)
            rw [this]
          · rw [eU_n (by omega), b4 q hq, gE_ms hi q]
            simp only [z (4 + q) _ (by omega) (by omega)]
        · show (if a = i then gE X gW0 i b else E a b) = _
          rw [if_neg ea, eU_n (by omega), b9 a b ea]
      exact g_rvN hx hb hr hlocks hW3 hL dX5_init_79
    | succ d ih =>
      intro k cs sl H locs ls E' hkd hcs hsl hl hW hL hB
      obtain ⟨b0, b1, b2, b3, b4, b9⟩ := hB
      refine lv_iload_n hx hb dX5_init_53 rfl (lv_at hl 0 rfl) ?_
      refine lv_bipush (v := nI 30) hx hb dX5_init_54 (by decide) ?_
      refine lv_icmp_ge (tgt := 79) hx hb dX5_init_56 (by decide) (fun hc => ?_) (fun hc => ?_)
      · exfalso
        rw [Int32.le_iff_toInt_le, nI_toInt (by omega), nI_toInt (by omega)] at hc
        omega
      have g4 : gad i (4 + k) = n + 3 + k := by rw [hgr]; omega
      have ok4 : gok i (4 + k) := gok_s hi (by omega)
      refine lv_aload_n hx hb dX5_init_59 rfl (lv_at hl 1 rfl) ?_
      refine g_get (T := TX5) hx hb hts inX5 hown hK hW (gok_m hi (by decide)) (by omega) b0 rfl 1 (by decide) rfl (hts _ (List.mem_cons_of_mem _ (inR2 _ (List.mem_of_getElem? (i := 10) rfl)))) rfl dX5_init_60 ?_
      refine lv_iload_n hx hb dX5_init_63 rfl (lv_at hl 0 rfl) ?_
      refine g_newO (T := TX10) (N := 11) (fs := [.int 0, .int 0, .int 0, .int 0, .int 0, .int 0, .int 0, .int 0, .int 0, .int 0, .int 0]) hx hb hts (fun w h => List.mem_cons_of_mem _ (inlX10 w h)) tyX10 tyX10_ok hown (hts _ (List.mem_cons_of_mem _ (inR2 _ (List.mem_of_getElem? (i := 9) rfl)))) (hts _ (List.mem_cons_of_mem _ (inR2 _ (List.mem_of_getElem? (i := 12) rfl)))) (hts _ (List.mem_cons_of_mem _ (inR2 _ (List.mem_of_getElem? (i := 13) rfl)))) hK hW (i := i) (r := 4 + k) ok4 g4 (ci := 4) rfl (fun j hj => by rcases (show j = 0 ∨ j = 1 ∨ j = 2 ∨ j = 3 ∨ j = 4 ∨ j = 5 ∨ j = 6 ∨ j = 7 ∨ j = 8 ∨ j = 9 ∨ j = 10 by omega) with rfl | rfl | rfl | rfl | rfl | rfl | rfl | rfl | rfl | rfl | rfl <;> rfl) (by show cs + 1 ≤ 33; omega) (by show sl + 11 ≤ 367; omega) dX5_init_64 (fun H hW => ?_)
      refine lv_dup hx hb dX5_init_67 rfl ?_
      refine lv_iload_n hx hb dX5_init_68 rfl (lv_at hl 0 rfl) ?_
      refine g_I (As := [.int (nI k)]) (rest := [.ref (gA X i (4 + k)), .int (nI k), .ref (gA X i 2)]) ⟨hx, hb, hml, hown, hts⟩ hK hKx hW hL hl.1 (c_X10_init l X (nI k) ok4 (by omega) (eU_s _ _ _ _) (Nat.le_of_ble_eq_true rfl)) (cwI 1 hts (gGoodC (fun w h => List.mem_cons_of_mem _ h) (inR2 _ (List.mem_of_getElem? (i := 16) rfl))) rfl rfl rfl (hts _ (List.mem_cons_of_mem _ (inR2 _ (List.mem_of_getElem? (i := 13) rfl)))) (hts _ (List.mem_cons_of_mem _ (inR2 _ (List.mem_of_getElem? (i := 14) rfl)))) (hts _ (List.mem_cons_of_mem _ (inR2 _ (List.mem_of_getElem? (i := 15) rfl)))) rfl (by decide +kernel) ⟨Nat.le_of_ble_eq_true rfl, Nat.le_of_ble_eq_true rfl⟩) rfl rfl (Nat.le_of_ble_eq_true rfl) dX5_init_69 ⟨by show cs + 1 + 0 ≤ 33; omega, by show sl + 11 + 0 ≤ 367; omega⟩ (fun H locs hW hL => ?_)
      obtain ⟨E7, hW, c4, c9⟩ := ex_E hW (fun E7 => E7 i (4 + k) = .inr (4, [.int (nI k), .int 0, .int 0, .int 0, .int 0, .int 0, .int 0, .int 0, .int 0, .int 0, .int 0]) ∧ ∀ a b, ¬ (a = i ∧ b = 4 + k) → E7 a b = E' a b) ⟨by rw [eU_s]; rfl, fun a b h => by rw [eU_n h, eU_n h]⟩
      refine g_aast hx hb hK hW hL (gok_m hi (by decide)) (by rw [hgr]; omega) ((c9 i 2 (by omega)).trans b2) 1 rfl (i2 := i) (r2 := 4 + k) ok4 (by omega) c4 rfl (vpn (by omega) (by omega)) dX5_init_72 (E' := eU E7 i 2 (.inl (X.cS, 30, .inr (.inr (.inr (.inr (fun q => if q < k + 1 then some (gA X i (4 + q)) else none))))))) ?_ (fun a b hab h => eU_n h) (fun H locs hW hL => ?_)
      · rw [eU_s, nI_cn (by omega)]
        congr 7
        funext q
        unfold va_up
        by_cases e1 : q = k
        · subst e1; rw [if_pos rfl, if_pos (by omega)]
        · rw [if_neg e1]
          show (if q < k + 1 then some (gA X i (4 + q)) else none) = if q < k then some (gA X i (4 + q)) else none
          by_cases e2 : q < k
          · rw [if_pos e2, if_pos (by omega)]
          · rw [if_neg e2, if_neg (by omega)]
      refine lv_iinc (v := nI (k + 1)) (lv' := [(1, .int (nI (k + 1))), (0, .ref (gA X i 0))]) hx hb dX5_init_73 hl (k := 0) rfl (nI_1 k) (by decide) rfl (fun ls hl => ?_)
      refine lv_goto (tgt := 53) hx hb dX5_init_76 (by decide) ?_
      refine ih (k + 1) _ _ H locs ls _ (by omega) (by omega) (by omega) hl hW hL ⟨?_, ?_, eU_s _ _ _ _, ?_, fun q hq => ?_, fun a b h => ?_⟩
      · rw [eU_n (by omega), c9 _ _ (by omega)]; exact b0
      · rw [eU_n (by omega), c9 _ _ (by omega)]; exact b1
      · rw [eU_n (by omega), c9 _ _ (by omega)]; exact b3
      · rw [eU_n (by omega)]
        by_cases e1 : q = k
        · rw [e1]; exact c4
        · rw [c9 _ _ (by omega)]; exact b4 q (by omega)
      · rw [eU_n (by omega), c9 _ _ (by omega)]; exact b9 a b h
  have loopA : ∀ (d k : Nat) (H : Heap) (locs : List Loc) (ls : Array Slot) (E' : Nat → Nat → va_E), k + d = 3 → lv_has ls 2 [(1, .int (nI k)), (0, .ref (gA X i 0))] → gWo X (n + 3) E' H → gLo X locs → mtA X i k E E' → W p l e rmX5_init s m args below meth c H locs 3 37 (MQ below (gQn X (n + 33) (fun a b => if a = i then gE X gW0 i b else E a b)) args s 33 367 (gFr X)) (F0 m 29 ls []) := by
    intro d
    induction d with
    | zero =>
      intro k H locs ls E' hkd hl hW hL hA
      obtain rfl : k = 3 := by omega
      obtain ⟨a0, a1, a2, a3, a9⟩ := hA
      refine lv_iload_n hx hb dX5_init_29 rfl (lv_at hl 0 rfl) ?_
      refine lv_iconst (v := 3) hx hb dX5_init_30 (by decide) ?_
      refine lv_icmp_ge (tgt := 51) hx hb dX5_init_31 (by decide) (fun hc => ?_) (fun hc => absurd (by decide) hc)
      refine lv_iconst (v := 0) hx hb dX5_init_51 (by decide) ?_
      refine lv_istore_n (lv' := [(1, .int 0), (0, .ref (gA X i 0))]) hx hb dX5_init_52 rfl hl (by decide) rfl (fun ls hl => ?_)
      exact loopB 30 0 3 37 H locs ls E' (by omega) (by omega) (by omega) hl hW hL ⟨a0, a1, a2, a3, fun q hq => absurd hq (Nat.not_lt_zero q), a9⟩
    | succ d ih =>
      intro k H locs ls E' hkd hl hW hL hA
      obtain ⟨a0, a1, a2, a3, a9⟩ := hA
      refine lv_iload_n hx hb dX5_init_29 rfl (lv_at hl 0 rfl) ?_
      refine lv_iconst (v := nI 3) hx hb dX5_init_30 (by decide) ?_
      refine lv_icmp_ge (tgt := 51) hx hb dX5_init_31 (by decide) (fun hc => ?_) (fun hc => ?_)
      · exfalso
        rw [Int32.le_iff_toInt_le, nI_toInt (by omega), nI_toInt (by omega)] at hc
        omega
      refine lv_aload_n hx hb dX5_init_34 rfl (lv_at hl 1 rfl) ?_
      refine g_get (T := TX5) hx hb hts inX5 hown hK hW (gok_m hi (by decide)) (by omega) a0 rfl 0 (by decide) rfl (hts _ (List.mem_cons_of_mem _ (inR2 _ (List.mem_of_getElem? (i := 8) rfl)))) rfl dX5_init_35 ?_
      refine lv_iload_n hx hb dX5_init_38 rfl (lv_at hl 0 rfl) ?_
      refine g_getsN hx hb hK.2.1.1 hW hown (va_Nw.use rfl hKx.2.1) dX5_init_39 ?_
      refine lv_iload_n hx hb dX5_init_42 rfl (lv_at hl 0 rfl) ?_
      refine g_ti hx hb hK.2.1.2 hW (vpn (by omega) (by omega)) dX5_init_43 ?_
      refine g_iast hx hb hK hW hL (gok_m hi (by decide)) (by rw [hgr]; omega) a1 (vpn (by omega) (by omega)) dX5_init_44 (E' := eU E' i 1 (.inl (X.cI, 3, .inl (fun j => if j < k + 1 then gFirst j else 0)))) ?_ (fun a b hab h => eU_n h) (fun H locs hW hL => ?_)
      · rw [eU_s, nI_cn (by omega)]
        congr 4
        funext q
        unfold upd
        by_cases e1 : q = k
        · subst e1; rw [if_pos rfl, if_pos (by omega)]
        · rw [if_neg e1]
          show (if q < k + 1 then gFirst q else 0) = if q < k then gFirst q else 0
          by_cases e2 : q < k
          · rw [if_pos e2, if_pos (by omega)]
          · rw [if_neg e2, if_neg (by omega)]
      refine lv_iinc (v := nI (k + 1)) (lv' := [(1, .int (nI (k + 1))), (0, .ref (gA X i 0))]) hx hb dX5_init_45 hl (k := 0) rfl (nI_1 k) (by decide) rfl (fun ls hl => ?_)
      refine lv_goto (tgt := 29) hx hb dX5_init_48 (by decide) ?_
      refine ih (k + 1) H locs ls _ (by omega) hl hW hL ⟨?_, eU_s _ _ _ _, ?_, ?_, fun a b h => ?_⟩
      · rw [eU_n (by omega)]; exact a0
      · rw [eU_n (by omega)]; exact a2
      · rw [eU_n (by omega)]; exact a3
      · rw [eU_n (by omega)]; exact a9 a b h
  exact loopA 3 0 _ _ ls E6 (by omega) hl hW hL hA
