/-! constructors: the gala, the model -/
abbrev rmX11_init : Room := { frames := 4, cells := 243, slots := 2725, locals := 83 }
abbrev wsX11_init : List Cond := gws yX11_init cX11_init 1 none
set_option maxHeartbeats 4000000 in
theorem c_X11_init (l : Launch) (X : gX) {E : Nat → Nat → va_E} (he : E 7 0 = .inr (5, [.null, .null, .null, .null, .null])) : Met l yX11_init wsX11_init rmX11_init (gPn X [.ref (gA X 7 0)] 1 E) (gQn X 244 (gE X gW0)) 243 2725 (gFr X) := by
  refine g_ofN (cc := cX11_init) (maxL := 1) (ret := none) (by decide) rfl (Nat.le_of_ble_eq_true rfl) (fun p e s m args below meth c ls H hx hb hr hnm hts hown hlocks hml hK hKx hl hW => ?_)
  have hl : lv_has ls 1 [(0, .ref (gA X 7 0))] := hl
  have hown : s.vm.findClass RX11 = some m.cls := hown
  have hnm : meth.name = "<init>" := hnm
  have hL : gLo X [] := gLo_nil
  have inX11 : ∀ w ∈ wsX110, w ∈ wsX11_init := fun w h => List.mem_cons_of_mem _ (inlX11 w h)
  show W p l e rmX11_init s m args below meth c H [] 0 0 _ _
  refine lv_aload_n hx hb dX11_init_0 rfl (lv_at hl 0 rfl) ?_
  refine W.objInit hx hb hown (hts _ (List.mem_cons_of_mem _ (inR1 _ (List.mem_of_getElem? (i := 9) rfl)))) (hts _ (List.mem_cons_of_mem _ (inR1 _ (List.mem_of_getElem? (i := 10) rfl)))) (hts _ (List.mem_cons_of_mem _ (inR1 _ (List.mem_of_getElem? (i := 11) rfl)))) rfl (by rw [hml]; exact hl.1) rfl dX11_init_1 (Nat.le_of_ble_eq_true rfl) (Nat.le_of_ble_eq_true rfl) ?_
  refine lv_aload_n hx hb dX11_init_4 rfl (lv_at hl 0 rfl) ?_
  refine g_newO (T := TX5) (N := 11) (fs := [.null, .null, .null, .int 0, .int 0, .int 0, .int 0, .int 0, .int 0, .int 0, .int 0]) hx hb hts (fun w h => List.mem_cons_of_mem _ (inlX5 w h)) tyX5 tyX5_ok hown (hts _ (List.mem_cons_of_mem _ (inR1 _ (List.mem_of_getElem? (i := 12) rfl)))) (hts _ (List.mem_cons_of_mem _ (inR1 _ (List.mem_of_getElem? (i := 13) rfl)))) (hts _ (List.mem_cons_of_mem _ (inR1 _ (List.mem_of_getElem? (i := 14) rfl)))) hK hW (i := 0) (r := 0) (gok_m (by decide) (by decide)) rfl (ci := 1) rfl (fun j hj => by rcases (show j = 0 ∨ j = 1 ∨ j = 2 ∨ j = 3 ∨ j = 4 ∨ j = 5 ∨ j = 6 ∨ j = 7 ∨ j = 8 ∨ j = 9 ∨ j = 10 by omega) with rfl | rfl | rfl | rfl | rfl | rfl | rfl | rfl | rfl | rfl | rfl <;> rfl) (Nat.le_of_ble_eq_true rfl) (Nat.le_of_ble_eq_true rfl) dX11_init_5 (fun H hW => ?_)
  refine lv_dup hx hb dX11_init_8 rfl ?_
  refine g_I (As := []) (rest := [.ref (gA X 0 0), .ref (gA X 7 0)]) ⟨hx, hb, hml, hown, hts⟩ hK hKx hW hL hl.1 (c_X5_init l X (i := 0) (by decide) rfl (eU_s _ _ _ _)) (cwI 0 hts (gGoodC (fun w h => List.mem_cons_of_mem _ h) (inR2 _ (List.mem_of_getElem? (i := 7) rfl))) rfl rfl rfl (hts _ (List.mem_cons_of_mem _ (inR1 _ (List.mem_of_getElem? (i := 14) rfl)))) (hts _ (List.mem_cons_of_mem _ (inR2 _ (List.mem_of_getElem? (i := 5) rfl)))) (hts _ (List.mem_cons_of_mem _ (inR2 _ (List.mem_of_getElem? (i := 6) rfl)))) rfl (by decide +kernel) ⟨Nat.le_of_ble_eq_true rfl, Nat.le_of_ble_eq_true rfl⟩) rfl rfl (Nat.le_of_ble_eq_true rfl) dX11_init_9 ⟨(Nat.le_of_ble_eq_true rfl), (Nat.le_of_ble_eq_true rfl)⟩ (fun H locs hW hL => ?_)
  obtain ⟨E1, hW, e1, f1⟩ := ex_E hW (fun E1 => E1 7 0 = .inr (5, [.null, .null, .null, .null, .null]) ∧ ∀ b, E1 0 b = gE X gW0 0 b) ⟨(if_neg (by omega)).trans ((eU_n (by omega)).trans he), fun b => if_pos rfl⟩
  refine g_putF (T := TX11) hx hb hts inX11 tyX11 tyX11_ok nmX11 hown hK hW hL (gok_c (by decide)) (by decide) e1 rfl 0 (by decide) rfl (hts _ (List.mem_cons_of_mem _ (inR1 _ (List.mem_of_getElem? (i := 15) rfl)))) rfl hnm rfl (ty := (.object RX5)) rfl rfl rfl (Nat.le_of_ble_eq_true rfl) dX11_init_12 (fun H locs hW hL => ?_)
  refine lv_aload_n hx hb dX11_init_15 rfl (lv_at hl 0 rfl) ?_
  refine g_newO (T := TX5) (N := 11) (fs := [.null, .null, .null, .int 0, .int 0, .int 0, .int 0, .int 0, .int 0, .int 0, .int 0]) hx hb hts (fun w h => List.mem_cons_of_mem _ (inlX5 w h)) tyX5 tyX5_ok hown (hts _ (List.mem_cons_of_mem _ (inR1 _ (List.mem_of_getElem? (i := 12) rfl)))) (hts _ (List.mem_cons_of_mem _ (inR1 _ (List.mem_of_getElem? (i := 13) rfl)))) (hts _ (List.mem_cons_of_mem _ (inR1 _ (List.mem_of_getElem? (i := 14) rfl)))) hK hW (i := 1) (r := 0) (gok_m (by decide) (by decide)) rfl (ci := 1) rfl (fun j hj => by rcases (show j = 0 ∨ j = 1 ∨ j = 2 ∨ j = 3 ∨ j = 4 ∨ j = 5 ∨ j = 6 ∨ j = 7 ∨ j = 8 ∨ j = 9 ∨ j = 10 by omega) with rfl | rfl | rfl | rfl | rfl | rfl | rfl | rfl | rfl | rfl | rfl <;> rfl) (Nat.le_of_ble_eq_true rfl) (Nat.le_of_ble_eq_true rfl) dX11_init_16 (fun H hW => ?_)
  refine lv_dup hx hb dX11_init_19 rfl ?_
  refine g_I (As := []) (rest := [.ref (gA X 1 0), .ref (gA X 7 0)]) ⟨hx, hb, hml, hown, hts⟩ hK hKx hW hL hl.1 (c_X5_init l X (i := 1) (by decide) rfl (eU_s _ _ _ _)) (cwI 0 hts (gGoodC (fun w h => List.mem_cons_of_mem _ h) (inR2 _ (List.mem_of_getElem? (i := 7) rfl))) rfl rfl rfl (hts _ (List.mem_cons_of_mem _ (inR1 _ (List.mem_of_getElem? (i := 14) rfl)))) (hts _ (List.mem_cons_of_mem _ (inR2 _ (List.mem_of_getElem? (i := 5) rfl)))) (hts _ (List.mem_cons_of_mem _ (inR2 _ (List.mem_of_getElem? (i := 6) rfl)))) rfl (by decide +kernel) ⟨Nat.le_of_ble_eq_true rfl, Nat.le_of_ble_eq_true rfl⟩) rfl rfl (Nat.le_of_ble_eq_true rfl) dX11_init_20 ⟨(Nat.le_of_ble_eq_true rfl), (Nat.le_of_ble_eq_true rfl)⟩ (fun H locs hW hL => ?_)
  obtain ⟨E2, hW, e2, f2, f1⟩ := ex_E hW (fun E2 => E2 7 0 = .inr (5, [.ref (gA X 0 0), .null, .null, .null, .null]) ∧ (∀ b, E2 1 b = gE X gW0 1 b) ∧ ∀ b, E2 0 b = gE X gW0 0 b) ⟨(if_neg (by omega)).trans ((eU_n (by omega)).trans (eU_s _ _ _ _)), fun b => if_pos rfl, fun b => (if_neg (by omega)).trans ((eU_n (by omega)).trans ((eU_n (by omega)).trans (f1 b)))⟩
  refine g_putF (T := TX11) hx hb hts inX11 tyX11 tyX11_ok nmX11 hown hK hW hL (gok_c (by decide)) (by decide) e2 rfl 1 (by decide) rfl (hts _ (List.mem_cons_of_mem _ (inR1 _ (List.mem_of_getElem? (i := 16) rfl)))) rfl hnm rfl (ty := (.object RX5)) rfl rfl rfl (Nat.le_of_ble_eq_true rfl) dX11_init_23 (fun H locs hW hL => ?_)
  refine lv_aload_n hx hb dX11_init_26 rfl (lv_at hl 0 rfl) ?_
  refine g_newO (T := TX3) (N := 2) (fs := [.null, .int 0]) hx hb hts (fun w h => List.mem_cons_of_mem _ (inlX3 w h)) tyX3 tyX3_ok hown (hts _ (List.mem_cons_of_mem _ (inR1 _ (List.mem_of_getElem? (i := 17) rfl)))) (hts _ (List.mem_cons_of_mem _ (inR1 _ (List.mem_of_getElem? (i := 18) rfl)))) (hts _ (List.mem_cons_of_mem _ (inR1 _ (List.mem_of_getElem? (i := 19) rfl)))) hK hW (i := 7) (r := 1) (gok_c (by decide)) rfl (ci := 0) rfl (fun j hj => by rcases (show j = 0 ∨ j = 1 by omega) with rfl | rfl <;> rfl) (Nat.le_of_ble_eq_true rfl) (Nat.le_of_ble_eq_true rfl) dX11_init_27 (fun H hW => ?_)
  refine lv_dup hx hb dX11_init_30 rfl ?_
  refine g_I (As := []) (rest := [.ref (gA X 7 1), .ref (gA X 7 0)]) ⟨hx, hb, hml, hown, hts⟩ hK hKx hW hL hl.1 (c_X3_init l X (eU_s _ _ _ _)) (cwI 0 hts (gGoodC (fun w h => List.mem_cons_of_mem _ h) (inR2 _ (List.mem_of_getElem? (i := 23) rfl))) rfl rfl rfl (hts _ (List.mem_cons_of_mem _ (inR1 _ (List.mem_of_getElem? (i := 19) rfl)))) (hts _ (List.mem_cons_of_mem _ (inR2 _ (List.mem_of_getElem? (i := 21) rfl)))) (hts _ (List.mem_cons_of_mem _ (inR2 _ (List.mem_of_getElem? (i := 22) rfl)))) rfl (by decide +kernel) ⟨Nat.le_of_ble_eq_true rfl, Nat.le_of_ble_eq_true rfl⟩) rfl rfl (Nat.le_of_ble_eq_true rfl) dX11_init_31 ⟨(Nat.le_of_ble_eq_true rfl), (Nat.le_of_ble_eq_true rfl)⟩ (fun H locs hW hL => ?_)
  obtain ⟨E3, hW, e3, f3, f4⟩ := ex_E hW (fun E3 => E3 7 0 = .inr (5, [.ref (gA X 0 0), .ref (gA X 1 0), .null, .null, .null]) ∧ (∀ a b, a < 7 → E3 a b = gE X gW0 a b) ∧ ∀ b, b = 1 ∨ b = 2 → E3 7 b = gE X gW0 7 b) ⟨(if_neg (by omega)).trans ((eU_n (by omega)).trans (eU_s _ _ _ _)), fun a b ha => by
    by_cases h2 : 2 ≤ a
    · exact if_pos (Or.inl ⟨h2, ha⟩)
    · refine (if_neg (by omega)).trans ((eU_n (by omega)).trans ((eU_n (by omega)).trans ?_))
      rcases (show a = 0 ∨ a = 1 by omega) with rfl | rfl
      · exact f1 b
      · exact f2 b, fun b hb2 => if_pos (Or.inr ⟨rfl, hb2⟩)⟩
  refine g_putF (T := TX11) hx hb hts inX11 tyX11 tyX11_ok nmX11 hown hK hW hL (gok_c (by decide)) (by decide) e3 rfl 2 (by decide) rfl (hts _ (List.mem_cons_of_mem _ (inR1 _ (List.mem_of_getElem? (i := 20) rfl)))) rfl hnm rfl (ty := (.object RX3)) rfl rfl rfl (Nat.le_of_ble_eq_true rfl) dX11_init_34 (fun H locs hW hL => ?_)
  refine lv_aload_n hx hb dX11_init_37 rfl (lv_at hl 0 rfl) ?_
  refine g_newO (T := TX6) (N := 8) (fs := [.null, .int 0, .int 0, .int 0, .int 0, .int 0, .int 0, .int 0]) hx hb hts (fun w h => List.mem_cons_of_mem _ (inlX6 w h)) tyX6 tyX6_ok hown (hts _ (List.mem_cons_of_mem _ (inR1 _ (List.mem_of_getElem? (i := 21) rfl)))) (hts _ (List.mem_cons_of_mem _ (inR1 _ (List.mem_of_getElem? (i := 22) rfl)))) (hts _ (List.mem_cons_of_mem _ (inR1 _ (List.mem_of_getElem? (i := 23) rfl)))) hK hW (i := 7) (r := 3) (gok_c (by decide)) rfl (ci := 2) rfl (fun j hj => by rcases (show j = 0 ∨ j = 1 ∨ j = 2 ∨ j = 3 ∨ j = 4 ∨ j = 5 ∨ j = 6 ∨ j = 7 by omega) with rfl | rfl | rfl | rfl | rfl | rfl | rfl | rfl <;> rfl) (Nat.le_of_ble_eq_true rfl) (Nat.le_of_ble_eq_true rfl) dX11_init_38 (fun H hW => ?_)
  refine lv_dup hx hb dX11_init_41 rfl ?_
  refine g_IN (As := []) (rest := [.ref (gA X 7 3), .ref (gA X 7 0)]) ⟨hx, hb, hml, hown, hts⟩ hK hKx hW hL hl.1 (c_X6_init l X (eU_s _ _ _ _)) ⟨va_cnB 0 hts (gGoodC (fun w h => List.mem_cons_of_mem _ h) (inR3 _ (List.mem_of_getElem? (i := 5) rfl))) rfl rfl rfl hKx.2.2.1 (hts _ (List.mem_cons_of_mem _ (inR1 _ (List.mem_of_getElem? (i := 23) rfl)))) (by decide +kernel) ⟨Nat.le_of_ble_eq_true rfl, Nat.le_of_ble_eq_true rfl⟩, rfl, hts _ (List.mem_cons_of_mem _ (inR3 _ (List.mem_of_getElem? (i := 4) rfl)))⟩ rfl rfl (Nat.le_of_ble_eq_true rfl) dX11_init_42 ⟨(Nat.le_of_ble_eq_true rfl), (Nat.le_of_ble_eq_true rfl)⟩ (fun H locs hW hL => ?_)
  obtain ⟨E4, hW, e4, g3, g4, g5, g6⟩ := ex_E hW (fun E4 => E4 7 0 = .inr (5, [.ref (gA X 0 0), .ref (gA X 1 0), .ref (gA X 7 1), .null, .null]) ∧ (∀ a b, a < 7 → E4 a b = gE X gW0 a b) ∧ (∀ b, b = 1 ∨ b = 2 → E4 7 b = gE X gW0 7 b) ∧ E4 7 3 = .inr (2, [.ref (gA X 7 4), .int 0, .int 0, .int 0, .int 0, .int 0, .int 0, .int 0]) ∧ E4 7 4 = .inl (X.cI, 60, .inl (fun _ => 0))) ⟨(eU_n (by omega)).trans ((eU_n (by omega)).trans ((eU_n (by omega)).trans (eU_s _ _ _ _))), fun a b ha => (eU_n (by omega)).trans ((eU_n (by omega)).trans ((eU_n (by omega)).trans ((eU_n (by omega)).trans (f3 a b ha)))), fun b hb2 => (eU_n (by omega)).trans ((eU_n (by omega)).trans ((eU_n (by omega)).trans ((eU_n (by omega)).trans (f4 b hb2)))), eU_s _ _ _ _, (eU_n (by omega)).trans (eU_s _ _ _ _)⟩
  refine g_putF (T := TX11) hx hb hts inX11 tyX11 tyX11_ok nmX11 hown hK hW hL (gok_c (by decide)) (by decide) e4 rfl 3 (by decide) rfl (hts _ (List.mem_cons_of_mem _ (inR2 _ (List.mem_of_getElem? (i := 0) rfl)))) rfl hnm rfl (ty := (.object RX6)) rfl rfl rfl (Nat.le_of_ble_eq_true rfl) dX11_init_45 (fun H locs hW hL => ?_)
  refine lv_aload_n hx hb dX11_init_48 rfl (lv_at hl 0 rfl) ?_
  refine g_newO (T := TX7) (N := 4) (fs := [.int 0, .int 0, .int 0, .int 0]) hx hb hts (fun w h => List.mem_cons_of_mem _ (inlX7 w h)) tyX7 tyX7_ok hown (hts _ (List.mem_cons_of_mem _ (inR2 _ (List.mem_of_getElem? (i := 1) rfl)))) (hts _ (List.mem_cons_of_mem _ (inR2 _ (List.mem_of_getElem? (i := 2) rfl)))) (hts _ (List.mem_cons_of_mem _ (inR2 _ (List.mem_of_getElem? (i := 3) rfl)))) hK hW (i := 7) (r := 5) (gok_c (by decide)) rfl (ci := 3) rfl (fun j hj => by rcases (show j = 0 ∨ j = 1 ∨ j = 2 ∨ j = 3 by omega) with rfl | rfl | rfl | rfl <;> rfl) (Nat.le_of_ble_eq_true rfl) (Nat.le_of_ble_eq_true rfl) dX11_init_49 (fun H hW => ?_)
  refine lv_dup hx hb dX11_init_52 rfl ?_
  refine g_IN (As := []) (rest := [.ref (gA X 7 5), .ref (gA X 7 0)]) ⟨hx, hb, hml, hown, hts⟩ hK hKx hW hL hl.1 (c_X7_init l X) ⟨va_cnB 0 hts (gGoodC (fun w h => List.mem_cons_of_mem _ h) (inR3 _ (List.mem_of_getElem? (i := 9) rfl))) rfl rfl rfl hKx.2.2.2 (hts _ (List.mem_cons_of_mem _ (inR2 _ (List.mem_of_getElem? (i := 3) rfl)))) (by decide +kernel) ⟨Nat.le_of_ble_eq_true rfl, Nat.le_of_ble_eq_true rfl⟩, rfl, hts _ (List.mem_cons_of_mem _ (inR3 _ (List.mem_of_getElem? (i := 8) rfl)))⟩ rfl rfl (Nat.le_of_ble_eq_true rfl) dX11_init_53 ⟨(Nat.le_of_ble_eq_true rfl), (Nat.le_of_ble_eq_true rfl)⟩ (fun H locs hW hL => ?_)
  refine g_putF (T := TX11) hx hb hts inX11 tyX11 tyX11_ok nmX11 hown hK hW hL (gok_c (by decide)) (by decide) ((eU_n (by omega)).trans (eU_s _ _ _ _)) rfl 4 (by decide) rfl (hts _ (List.mem_cons_of_mem _ (inR2 _ (List.mem_of_getElem? (i := 4) rfl)))) rfl hnm rfl (ty := (.object RX7)) rfl rfl rfl (Nat.le_of_ble_eq_true rfl) dX11_init_56 (fun H locs hW hL => ?_)
  refine g_rvN hx hb hr hlocks (gWo.cg hW (fun a b hab hlt => ?_)) hL dX11_init_59
  unfold gok at hab
  rcases hab with h | ⟨rfl, h⟩ | ⟨rfl, h⟩
  · rw [eU_n (by omega), eU_n (by omega), eU_n (by omega)]; exact (g3 a b h.1).symm
  · have z : ∀ r c, r ≠ 1 → r ≠ 2 → gW0 7 r c = 0 := fun r c h1 h2 => gW0_z h1 h2
    rcases (show b = 0 ∨ b = 1 ∨ b = 2 ∨ b = 3 ∨ b = 4 ∨ b = 5 by omega) with rfl | rfl | rfl | rfl | rfl | rfl
    · rw [eU_s]; rfl
    · rw [eU_n (by omega), eU_n (by omega), eU_n (by omega)]; exact (g4 1 (Or.inl rfl)).symm
    · rw [eU_n (by omega), eU_n (by omega), eU_n (by omega)]; exact (g4 2 (Or.inr rfl)).symm
    · rw [eU_n (by omega), eU_n (by omega), eU_n (by omega), g5]
      show (Sum.inr (2, [Value.ref (gA X 7 4), Value.int (gW0 7 3 1), Value.int (gW0 7 3 2), Value.int (gW0 7 3 3), Value.int (gW0 7 3 4), Value.int (gW0 7 3 5), Value.int (gW0 7 3 6), Value.int (gW0 7 3 7)]) : va_E) = _
      simp only [z 3 _ (by omega) (by omega)]
    · rw [eU_n (by omega), eU_n (by omega), eU_n (by omega), g6]
      have : gW0 7 4 = fun _ => 0 := funext fun j => gW0_z (by omega) (by omega)
      show (Sum.inl (X.cI, 60, Sum.inl (gW0 7 4)) : va_E) = _
      rw [this]
    · rw [eU_n (by omega), eU_s]
      show (Sum.inr (3, [Value.int (gW0 7 5 0), Value.int (gW0 7 5 1), Value.int (gW0 7 5 2), Value.int (gW0 7 5 3)]) : va_E) = _
      simp only [z 5 _ (by omega) (by omega)]
  · exfalso
    have : 244 + b < 244 := hlt
    omega
abbrev rmX12_init : Room := { frames := 1, cells := 6, slots := 2012, locals := 20 }
abbrev wsX12_init : List Cond := gws yX12_init cX12_init 1 none
set_option maxHeartbeats 4000000 in
theorem c_X12_init (l : Launch) (X : gX) {E : Nat → Nat → va_E} (he : E 8 0 = .inr (6, [.null, .null, .null, .int 0, .int 0, .null, .int 0, .null, .int 0, .int 0, .int 0, .int 0, .int 0, .int 0, .null])) : Met l yX12_init wsX12_init rmX12_init (gPn X [.ref (gA X 8 0)] 245 E) (gQn X 251 (fun a b => if a = 8 then gE X gW0 a b else E a b)) 6 2012 (gFr X) := by
  refine g_ofN (cc := cX12_init) (maxL := 1) (ret := none) (by decide) rfl (Nat.le_of_ble_eq_true rfl) (fun p e s m args below meth c ls H hx hb hr hnm hts hown hlocks hml hK hKx hl hW => ?_)
  have hl : lv_has ls 1 [(0, .ref (gA X 8 0))] := hl
  have hown : s.vm.findClass RX12 = some m.cls := hown
  have hnm : meth.name = "<init>" := hnm
  have hL : gLo X [] := gLo_nil
  have inX12 : ∀ w ∈ wsX120, w ∈ wsX12_init := fun w h => List.mem_cons_of_mem _ (inlX12 w h)
  show W p l e rmX12_init s m args below meth c H [] 0 0 _ _
  refine lv_aload_n hx hb dX12_init_0 rfl (lv_at hl 0 rfl) ?_
  refine W.objInit hx hb hown (hts _ (List.mem_cons_of_mem _ (inR3 _ (List.mem_of_getElem? (i := 14) rfl)))) (hts _ (List.mem_cons_of_mem _ (inR1 _ (List.mem_of_getElem? (i := 10) rfl)))) (hts _ (List.mem_cons_of_mem _ (inR1 _ (List.mem_of_getElem? (i := 11) rfl)))) rfl (by rw [hml]; exact hl.1) rfl dX12_init_1 (Nat.le_of_ble_eq_true rfl) (Nat.le_of_ble_eq_true rfl) ?_
  refine lv_aload_n hx hb dX12_init_4 rfl (lv_at hl 0 rfl) ?_
  refine lv_sipush (v := 320) hx hb dX12_init_5 (by decide) ?_
  refine g_newI hx hb (hts _ (List.mem_cons_of_mem _ (inR2 _ (List.mem_of_getElem? (i := 9) rfl)))) hK hW (i := 8) (r := 1) (gok_o (by decide)) rfl (by decide) (N := 320) rfl (by decide) (Nat.le_of_ble_eq_true rfl) (Nat.le_of_ble_eq_true rfl) dX12_init_8 (fun H hW => ?_)
  refine g_putF (T := TX12) hx hb hts inX12 tyX12 tyX12_ok nmX12 hown hK hW hL (gok_o (by decide)) (by decide) ((eU_n (by omega)).trans he) rfl 0 (by decide) rfl (hts _ (List.mem_cons_of_mem _ (inR3 _ (List.mem_of_getElem? (i := 15) rfl)))) rfl hnm rfl (ty := (.array .int)) rfl rfl rfl (Nat.le_of_ble_eq_true rfl) dX12_init_10 (fun H locs hW hL => ?_)
  obtain ⟨E1, hW, e1, a1, z1⟩ := ex_E hW (fun E1 => E1 8 0 = .inr (6, [.ref (gA X 8 1), .null, .null, .int 0, .int 0, .null, .int 0, .null, .int 0, .int 0, .int 0, .int 0, .int 0, .int 0, .null]) ∧ E1 8 1 = .inl (X.cI, 320, .inl (fun _ => 0)) ∧ ∀ a b, a ≠ 8 → E1 a b = E a b) ⟨by rw [eU_s]; rfl, (eU_n (by omega)).trans (eU_s _ _ _ _), fun a b h => (eU_n (by omega)).trans (eU_n (by omega))⟩
  refine lv_aload_n hx hb dX12_init_13 rfl (lv_at hl 0 rfl) ?_
  refine lv_sipush (v := 1280) hx hb dX12_init_14 (by decide) ?_
  refine g_newI hx hb (hts _ (List.mem_cons_of_mem _ (inR2 _ (List.mem_of_getElem? (i := 9) rfl)))) hK hW (i := 8) (r := 2) (gok_o (by decide)) rfl (by decide) (N := 1280) rfl (by decide) (Nat.le_of_ble_eq_true rfl) (Nat.le_of_ble_eq_true rfl) dX12_init_17 (fun H hW => ?_)
  refine g_putF (T := TX12) hx hb hts inX12 tyX12 tyX12_ok nmX12 hown hK hW hL (gok_o (by decide)) (by decide) ((eU_n (by omega)).trans e1) rfl 1 (by decide) rfl (hts _ (List.mem_cons_of_mem _ (inR3 _ (List.mem_of_getElem? (i := 16) rfl)))) rfl hnm rfl (ty := (.array .int)) rfl rfl rfl (Nat.le_of_ble_eq_true rfl) dX12_init_19 (fun H locs hW hL => ?_)
  obtain ⟨E2, hW, e2, a1, a2, z1⟩ := ex_E hW (fun E2 => E2 8 0 = .inr (6, [.ref (gA X 8 1), .ref (gA X 8 2), .null, .int 0, .int 0, .null, .int 0, .null, .int 0, .int 0, .int 0, .int 0, .int 0, .int 0, .null]) ∧ E2 8 1 = .inl (X.cI, 320, .inl (fun _ => 0)) ∧ E2 8 2 = .inl (X.cI, 1280, .inl (fun _ => 0)) ∧ ∀ a b, a ≠ 8 → E2 a b = E a b) ⟨by rw [eU_s]; rfl, (eU_n (by omega)).trans ((eU_n (by omega)).trans a1), (eU_n (by omega)).trans (eU_s _ _ _ _), fun a b h => (eU_n (by omega)).trans ((eU_n (by omega)).trans (z1 a b h))⟩
  refine lv_aload_n hx hb dX12_init_22 rfl (lv_at hl 0 rfl) ?_
  refine lv_sipush (v := 320) hx hb dX12_init_23 (by decide) ?_
  refine g_newI hx hb (hts _ (List.mem_cons_of_mem _ (inR2 _ (List.mem_of_getElem? (i := 9) rfl)))) hK hW (i := 8) (r := 3) (gok_o (by decide)) rfl (by decide) (N := 320) rfl (by decide) (Nat.le_of_ble_eq_true rfl) (Nat.le_of_ble_eq_true rfl) dX12_init_26 (fun H hW => ?_)
  refine g_putF (T := TX12) hx hb hts inX12 tyX12 tyX12_ok nmX12 hown hK hW hL (gok_o (by decide)) (by decide) ((eU_n (by omega)).trans e2) rfl 2 (by decide) rfl (hts _ (List.mem_cons_of_mem _ (inR3 _ (List.mem_of_getElem? (i := 17) rfl)))) rfl hnm rfl (ty := (.array .int)) rfl rfl rfl (Nat.le_of_ble_eq_true rfl) dX12_init_28 (fun H locs hW hL => ?_)
  obtain ⟨E3, hW, e3, a1, a2, a3, z1⟩ := ex_E hW (fun E3 => E3 8 0 = .inr (6, [.ref (gA X 8 1), .ref (gA X 8 2), .ref (gA X 8 3), .int 0, .int 0, .null, .int 0, .null, .int 0, .int 0, .int 0, .int 0, .int 0, .int 0, .null]) ∧ E3 8 1 = .inl (X.cI, 320, .inl (fun _ => 0)) ∧ E3 8 2 = .inl (X.cI, 1280, .inl (fun _ => 0)) ∧ E3 8 3 = .inl (X.cI, 320, .inl (fun _ => 0)) ∧ ∀ a b, a ≠ 8 → E3 a b = E a b) ⟨by rw [eU_s]; rfl, (eU_n (by omega)).trans ((eU_n (by omega)).trans a1), (eU_n (by omega)).trans ((eU_n (by omega)).trans a2), (eU_n (by omega)).trans (eU_s _ _ _ _), fun a b h => (eU_n (by omega)).trans ((eU_n (by omega)).trans (z1 a b h))⟩
  refine lv_aload_n hx hb dX12_init_31 rfl (lv_at hl 0 rfl) ?_
  refine lv_bipush (v := 60) hx hb dX12_init_32 (by decide) ?_
  refine g_newI hx hb (hts _ (List.mem_cons_of_mem _ (inR2 _ (List.mem_of_getElem? (i := 9) rfl)))) hK hW (i := 8) (r := 4) (gok_o (by decide)) rfl (by decide) (N := 60) rfl (by decide) (Nat.le_of_ble_eq_true rfl) (Nat.le_of_ble_eq_true rfl) dX12_init_34 (fun H hW => ?_)
  refine g_putF (T := TX12) hx hb hts inX12 tyX12 tyX12_ok nmX12 hown hK hW hL (gok_o (by decide)) (by decide) ((eU_n (by omega)).trans e3) rfl 5 (by decide) rfl (hts _ (List.mem_cons_of_mem _ (inR3 _ (List.mem_of_getElem? (i := 18) rfl)))) rfl hnm rfl (ty := (.array .int)) rfl rfl rfl (Nat.le_of_ble_eq_true rfl) dX12_init_36 (fun H locs hW hL => ?_)
  obtain ⟨E4, hW, e4, a1, a2, a3, a4, z1⟩ := ex_E hW (fun E4 => E4 8 0 = .inr (6, [.ref (gA X 8 1), .ref (gA X 8 2), .ref (gA X 8 3), .int 0, .int 0, .ref (gA X 8 4), .int 0, .null, .int 0, .int 0, .int 0, .int 0, .int 0, .int 0, .null]) ∧ E4 8 1 = .inl (X.cI, 320, .inl (fun _ => 0)) ∧ E4 8 2 = .inl (X.cI, 1280, .inl (fun _ => 0)) ∧ E4 8 3 = .inl (X.cI, 320, .inl (fun _ => 0)) ∧ E4 8 4 = .inl (X.cI, 60, .inl (fun _ => 0)) ∧ ∀ a b, a ≠ 8 → E4 a b = E a b) ⟨by rw [eU_s]; rfl, (eU_n (by omega)).trans ((eU_n (by omega)).trans a1), (eU_n (by omega)).trans ((eU_n (by omega)).trans a2), (eU_n (by omega)).trans ((eU_n (by omega)).trans a3), (eU_n (by omega)).trans (eU_s _ _ _ _), fun a b h => (eU_n (by omega)).trans ((eU_n (by omega)).trans (z1 a b h))⟩
  refine lv_aload_n hx hb dX12_init_39 rfl (lv_at hl 0 rfl) ?_
  refine lv_bipush (v := 30) hx hb dX12_init_40 (by decide) ?_
  refine g_newI hx hb (hts _ (List.mem_cons_of_mem _ (inR2 _ (List.mem_of_getElem? (i := 9) rfl)))) hK hW (i := 8) (r := 5) (gok_o (by decide)) rfl (by decide) (N := 30) rfl (by decide) (Nat.le_of_ble_eq_true rfl) (Nat.le_of_ble_eq_true rfl) dX12_init_42 (fun H hW => ?_)
  refine g_putF (T := TX12) hx hb hts inX12 tyX12 tyX12_ok nmX12 hown hK hW hL (gok_o (by decide)) (by decide) ((eU_n (by omega)).trans e4) rfl 7 (by decide) rfl (hts _ (List.mem_cons_of_mem _ (inR3 _ (List.mem_of_getElem? (i := 19) rfl)))) rfl hnm rfl (ty := (.array .int)) rfl rfl rfl (Nat.le_of_ble_eq_true rfl) dX12_init_44 (fun H locs hW hL => ?_)
  obtain ⟨E5, hW, e5, a1, a2, a3, a4, a5, z1⟩ := ex_E hW (fun E5 => E5 8 0 = .inr (6, [.ref (gA X 8 1), .ref (gA X 8 2), .ref (gA X 8 3), .int 0, .int 0, .ref (gA X 8 4), .int 0, .ref (gA X 8 5), .int 0, .int 0, .int 0, .int 0, .int 0, .int 0, .null]) ∧ E5 8 1 = .inl (X.cI, 320, .inl (fun _ => 0)) ∧ E5 8 2 = .inl (X.cI, 1280, .inl (fun _ => 0)) ∧ E5 8 3 = .inl (X.cI, 320, .inl (fun _ => 0)) ∧ E5 8 4 = .inl (X.cI, 60, .inl (fun _ => 0)) ∧ E5 8 5 = .inl (X.cI, 30, .inl (fun _ => 0)) ∧ ∀ a b, a ≠ 8 → E5 a b = E a b) ⟨by rw [eU_s]; rfl, (eU_n (by omega)).trans ((eU_n (by omega)).trans a1), (eU_n (by omega)).trans ((eU_n (by omega)).trans a2), (eU_n (by omega)).trans ((eU_n (by omega)).trans a3), (eU_n (by omega)).trans ((eU_n (by omega)).trans a4), (eU_n (by omega)).trans (eU_s _ _ _ _), fun a b h => (eU_n (by omega)).trans ((eU_n (by omega)).trans (z1 a b h))⟩
  refine lv_aload_n hx hb dX12_init_47 rfl (lv_at hl 0 rfl) ?_
  refine lv_iconst (v := 2) hx hb dX12_init_48 (by decide) ?_
  refine g_newI hx hb (hts _ (List.mem_cons_of_mem _ (inR2 _ (List.mem_of_getElem? (i := 9) rfl)))) hK hW (i := 8) (r := 6) (gok_o (by decide)) rfl (by decide) (N := 2) rfl (by decide) (Nat.le_of_ble_eq_true rfl) (Nat.le_of_ble_eq_true rfl) dX12_init_49 (fun H hW => ?_)
  refine g_putF (T := TX12) hx hb hts inX12 tyX12 tyX12_ok nmX12 hown hK hW hL (gok_o (by decide)) (by decide) ((eU_n (by omega)).trans e5) rfl 14 (by decide) rfl (hts _ (List.mem_cons_of_mem _ (inR3 _ (List.mem_of_getElem? (i := 20) rfl)))) rfl hnm rfl (ty := (.array .int)) rfl rfl rfl (Nat.le_of_ble_eq_true rfl) dX12_init_51 (fun H locs hW hL => ?_)
  obtain ⟨E6, hW, e6, a1, a2, a3, a4, a5, a6, z1⟩ := ex_E hW (fun E6 => E6 8 0 = .inr (6, [.ref (gA X 8 1), .ref (gA X 8 2), .ref (gA X 8 3), .int 0, .int 0, .ref (gA X 8 4), .int 0, .ref (gA X 8 5), .int 0, .int 0, .int 0, .int 0, .int 0, .int 0, .ref (gA X 8 6)]) ∧ E6 8 1 = .inl (X.cI, 320, .inl (fun _ => 0)) ∧ E6 8 2 = .inl (X.cI, 1280, .inl (fun _ => 0)) ∧ E6 8 3 = .inl (X.cI, 320, .inl (fun _ => 0)) ∧ E6 8 4 = .inl (X.cI, 60, .inl (fun _ => 0)) ∧ E6 8 5 = .inl (X.cI, 30, .inl (fun _ => 0)) ∧ E6 8 6 = .inl (X.cI, 2, .inl (fun _ => 0)) ∧ ∀ a b, a ≠ 8 → E6 a b = E a b) ⟨by rw [eU_s]; rfl, (eU_n (by omega)).trans ((eU_n (by omega)).trans a1), (eU_n (by omega)).trans ((eU_n (by omega)).trans a2), (eU_n (by omega)).trans ((eU_n (by omega)).trans a3), (eU_n (by omega)).trans ((eU_n (by omega)).trans a4), (eU_n (by omega)).trans ((eU_n (by omega)).trans a5), (eU_n (by omega)).trans (eU_s _ _ _ _), fun a b h => (eU_n (by omega)).trans ((eU_n (by omega)).trans (z1 a b h))⟩
  refine lv_aload_n hx hb dX12_init_54 rfl (lv_at hl 0 rfl) ?_
  refine g_get (T := TX12) hx hb hts inX12 hown hK hW (gok_o (by decide)) (by decide) e6 rfl 0 (by decide) rfl (hts _ (List.mem_cons_of_mem _ (inR3 _ (List.mem_of_getElem? (i := 15) rfl)))) rfl dX12_init_55 ?_
  refine lv_sipush (v := 317) hx hb dX12_init_58 (by decide) ?_
  refine lv_bipush (v := 8) hx hb dX12_init_61 (by decide) ?_
  refine g_iast hx hb hK hW hL (gok_o (by decide)) (by decide) a1 (gin (by decide)) dX12_init_63 (E' := eU E6 8 1 (.inl (X.cI, 320, .inl (upd (fun _ => 0) 317 8)))) (eU_s _ _ _ _) (fun a b hab h => eU_n h) (fun H locs hW hL => ?_)
  obtain ⟨F1, hW, h1, s1, k1⟩ := ex_E hW (fun F => F 8 0 = .inr (6, [.ref (gA X 8 1), .ref (gA X 8 2), .ref (gA X 8 3), .int 0, .int 0, .ref (gA X 8 4), .int 0, .ref (gA X 8 5), .int 0, .int 0, .int 0, .int 0, .int 0, .int 0, .ref (gA X 8 6)]) ∧ F 8 1 = .inl (X.cI, 320, .inl (upd (fun _ => 0) 317 8)) ∧ ∀ a b, ¬ (a = 8 ∧ b = 1) → F a b = E6 a b) ⟨(eU_n (by omega)).trans e6, eU_s _ _ _ _, fun a b h => (eU_n h)⟩
  refine lv_aload_n hx hb dX12_init_64 rfl (lv_at hl 0 rfl) ?_
  refine g_get (T := TX12) hx hb hts inX12 hown hK hW (gok_o (by decide)) (by decide) h1 rfl 0 (by decide) rfl (hts _ (List.mem_cons_of_mem _ (inR3 _ (List.mem_of_getElem? (i := 15) rfl)))) rfl dX12_init_65 ?_
  refine lv_sipush (v := 318) hx hb dX12_init_68 (by decide) ?_
  refine lv_iconst (v := 3) hx hb dX12_init_71 (by decide) ?_
  refine g_iast hx hb hK hW hL (gok_o (by decide)) (by decide) s1 (gin (by decide)) dX12_init_72 (E' := eU F1 8 1 (.inl (X.cI, 320, .inl (upd (upd (fun _ => 0) 317 8) 318 3)))) (eU_s _ _ _ _) (fun a b hab h => eU_n h) (fun H locs hW hL => ?_)
  obtain ⟨F2, hW, h2, s2, k2⟩ := ex_E hW (fun F => F 8 0 = .inr (6, [.ref (gA X 8 1), .ref (gA X 8 2), .ref (gA X 8 3), .int 0, .int 0, .ref (gA X 8 4), .int 0, .ref (gA X 8 5), .int 0, .int 0, .int 0, .int 0, .int 0, .int 0, .ref (gA X 8 6)]) ∧ F 8 1 = .inl (X.cI, 320, .inl (upd (upd (fun _ => 0) 317 8) 318 3)) ∧ ∀ a b, ¬ (a = 8 ∧ b = 1) → F a b = E6 a b) ⟨(eU_n (by omega)).trans h1, eU_s _ _ _ _, fun a b h => (eU_n h).trans (k1 a b h)⟩
  refine lv_aload_n hx hb dX12_init_73 rfl (lv_at hl 0 rfl) ?_
  refine g_get (T := TX12) hx hb hts inX12 hown hK hW (gok_o (by decide)) (by decide) h2 rfl 0 (by decide) rfl (hts _ (List.mem_cons_of_mem _ (inR3 _ (List.mem_of_getElem? (i := 15) rfl)))) rfl dX12_init_74 ?_
  refine lv_sipush (v := 319) hx hb dX12_init_77 (by decide) ?_
  refine lv_iconst (v := 2) hx hb dX12_init_80 (by decide) ?_
  refine g_iast hx hb hK hW hL (gok_o (by decide)) (by decide) s2 (gin (by decide)) dX12_init_81 (E' := eU F2 8 1 (.inl (X.cI, 320, .inl (upd (upd (upd (fun _ => 0) 317 8) 318 3) 319 2)))) (eU_s _ _ _ _) (fun a b hab h => eU_n h) (fun H locs hW hL => ?_)
  obtain ⟨F3, hW, h3, s3, k3⟩ := ex_E hW (fun F => F 8 0 = .inr (6, [.ref (gA X 8 1), .ref (gA X 8 2), .ref (gA X 8 3), .int 0, .int 0, .ref (gA X 8 4), .int 0, .ref (gA X 8 5), .int 0, .int 0, .int 0, .int 0, .int 0, .int 0, .ref (gA X 8 6)]) ∧ F 8 1 = .inl (X.cI, 320, .inl (upd (upd (upd (fun _ => 0) 317 8) 318 3) 319 2)) ∧ ∀ a b, ¬ (a = 8 ∧ b = 1) → F a b = E6 a b) ⟨(eU_n (by omega)).trans h2, eU_s _ _ _ _, fun a b h => (eU_n h).trans (k2 a b h)⟩
  refine g_rvN hx hb hr hlocks (gWo.cg hW (fun a b hab hlt => ?_)) hL dX12_init_82
  show (if a = 8 then gE X gW0 a b else E a b) = _
  by_cases e : a = 8
  · subst e
    rw [if_pos rfl]
    have z : ∀ r c, r ≠ 1 → r ≠ 2 → gW0 8 r c = 0 := fun r c h1 h2 => gW0_z h1 h2
    unfold gok at hab
    rcases (show b = 0 ∨ b = 1 ∨ b = 2 ∨ b = 3 ∨ b = 4 ∨ b = 5 ∨ b = 6 by omega) with rfl | rfl | rfl | rfl | rfl | rfl | rfl
    · rw [h3]
      show (Sum.inr (6, [Value.ref (gA X 8 1), Value.ref (gA X 8 2), Value.ref (gA X 8 3), Value.int (gW0 8 0 3), Value.int (gW0 8 0 4), Value.ref (gA X 8 4), Value.int (gW0 8 0 6), Value.ref (gA X 8 5), Value.int (gW0 8 0 8), Value.int (gW0 8 0 9), Value.int (gW0 8 0 10), Value.int (gW0 8 0 11), Value.int (gW0 8 0 12), Value.int (gW0 8 0 13), Value.ref (gA X 8 6)]) : va_E) = _
      simp only [z 0 _ (by omega) (by omega)]
    · rw [s3]
      have : gW0 8 1 = upd (upd (upd (fun _ => 0) 317 8) 318 3) 319 2 := by
        funext j
        unfold gW0 upd
        rw [if_neg (by omega), if_neg (by omega), if_pos ⟨rfl, rfl⟩]
        by_cases h1 : j = 317
        · subst h1; rfl
        · by_cases h2 : j = 318
          · subst h2; rfl
          · by_cases h3 : j = 319
            · subst h3; rfl
            · rw [if_neg h1, if_neg h2, if_neg h3, if_neg h3, if_neg h2, if_neg h1]
      show (Sum.inl (X.cI, 320, Sum.inl (gW0 8 1)) : va_E) = _
      rw [this]
    · rw [k3 8 2 (by omega), a2]
      have : gW0 8 2 = fun _ => 0 := funext fun j => by unfold gW0; rw [if_neg (by omega), if_neg (by omega), if_neg (by omega)]
      show (Sum.inl (X.cI, 1280, Sum.inl (gW0 8 2)) : va_E) = _
      rw [this]
    · rw [k3 8 3 (by omega), a3]
      have : gW0 8 3 = fun _ => 0 := funext fun j => gW0_z (by omega) (by omega)
      show (Sum.inl (X.cI, 320, Sum.inl (gW0 8 3)) : va_E) = _
      rw [this]
    · rw [k3 8 4 (by omega), a4]
      have : gW0 8 4 = fun _ => 0 := funext fun j => gW0_z (by omega) (by omega)
      show (Sum.inl (X.cI, 60, Sum.inl (gW0 8 4)) : va_E) = _
      rw [this]
    · rw [k3 8 5 (by omega), a5]
      have : gW0 8 5 = fun _ => 0 := funext fun j => gW0_z (by omega) (by omega)
      show (Sum.inl (X.cI, 30, Sum.inl (gW0 8 5)) : va_E) = _
      rw [this]
    · rw [k3 8 6 (by omega), a6]
      have : gW0 8 6 = fun _ => 0 := funext fun j => gW0_z (by omega) (by omega)
      show (Sum.inl (X.cI, 2, Sum.inl (gW0 8 6)) : va_E) = _
      rw [this]
  · rw [if_neg e, k3 a b (by omega)]; exact (z1 a b e).symm
