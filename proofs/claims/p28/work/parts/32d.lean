/-! constructors: the gala, the model -/
abbrev rmX11_init : Room := { frames := 4, cells := 243, slots := 2725, locals := 83 }
abbrev wsX11_init : List Cond := gws yX11_init cX11_init 1 none
set_option maxHeartbeats 4000000 in
theorem c_X11_init (l : Launch) (X : gX) {E : Nat → Nat → va_E} (he : E 7 0 = .inr (5, [.null, .null, .null, .null, .null])) : Met l yX11_init wsX11_init rmX11_init (gPn X [.ref (gA X 7 0)] 1 E) (gQn X 244 (gE X gW0)) 243 2725 (gFr X) := by
  refine g_ofN (cc := cX11_init) (maxL := 1) (ret := none) (by decide) rfl (Nat.le_of_ble_eq_true rfl) (fun p e s m args below meth c ls H hx hb hr hnm hts hown hlocks hml hK hKx hl hW => ?_)
  have hl : lv_has ls 1 [(0, .ref (gA X 7 0))] := hl
  have hown : s.vm.findClass RX11 = some m.cls := hown
  have hnm : meth.name = "<init>" := hnm
  have hL : gLo X [] := gLo_nil
  have inX11 : ∀ w ∈ wsX110, w ∈ wsX11_init := fun w h => List.mem_cons_of_mem _ (inlX11 w h)
  show W p l e rmX11_init s m args below meth c H [] 0 0 _ _
  refine lv_aload_n hx hb dX11_init_0 rfl (lv_at hl 0 rfl) ?_
  refine W.objInit hx hb hown (hts _ (List.mem_cons_of_mem _ (inR1 _ (List.mem_of_getElem? (i := 8) rfl)))) (hts _ (List.mem_cons_of_mem _ (inR1 _ (List.mem_of_getElem? (i := 9) rfl)))) (hts _ (List.mem_cons_of_mem _ (inR1 _ (List.mem_of_getElem? (i := 10) rfl)))) rfl (by rw [hml]; exact hl.1) rfl dX11_init_1 (Nat.le_of_ble_eq_true rfl) (Nat.le_of_ble_eq_true rfl) ?_
  refine lv_aload_n hx hb dX11_init_4 rfl (lv_at hl 0 rfl) ?_
  refine g_newO (T := TX5) (N := 11) (fs := [.null, .null, .null, .int 0, .int 0, .int 0, .int 0, .int 0, .int 0, .int 0, .int 0]) hx hb hts (fun w h => List.mem_cons_of_mem _ (inlX5 w h)) tyX5 tyX5_ok hown (hts _ (List.mem_cons_of_mem _ (inR1 _ (List.mem_of_getElem? (i := 11) rfl)))) (hts _ (List.mem_cons_of_mem _ (inR1 _ (List.mem_of_getElem? (i := 12) rfl)))) (hts _ (List.mem_cons_of_mem _ (inR1 _ (List.mem_of_getElem? (i := 13) rfl)))) hK hW (i := 0) (r := 0) (gok_m (by decide) (by decide)) rfl (ci := 1) rfl (fun j hj => by rcases (show j = 0 ∨ j = 1 ∨ j = 2 ∨ j = 3 ∨ j = 4 ∨ j = 5 ∨ j = 6 ∨ j = 7 ∨ j = 8 ∨ j = 9 ∨ j = 10 by omega) with rfl | rfl | rfl | rfl | rfl | rfl | rfl | rfl | rfl | rfl | rfl <;> rfl) (Nat.le_of_ble_eq_true rfl) (Nat.le_of_ble_eq_true rfl) dX11_init_5 (fun H hW => ?_)
  refine lv_dup hx hb dX11_init_8 rfl ?_
  refine g_I (As := []) (rest := [.ref (gA X 0 0), .ref (gA X 7 0)]) ⟨hx, hb, hml, hown, hts⟩ hK hKx hW hL hl.1 (c_X5_init l X (i := 0) (by decide) rfl (eU_s _ _ _ _)) (cwI 0 hts (gGoodC (fun w h => List.mem_cons_of_mem _ h) (inR2 _ (List.mem_of_getElem? (i := 6) rfl))) rfl rfl rfl (hts _ (List.mem_cons_of_mem _ (inR1 _ (List.mem_of_getElem? (i := 13) rfl)))) (hts _ (List.mem_cons_of_mem _ (inR2 _ (List.mem_of_getElem? (i := 4) rfl)))) (hts _ (List.mem_cons_of_mem _ (inR2 _ (List.mem_of_getElem? (i := 5) rfl)))) rfl (by decide +kernel) ⟨Nat.le_of_ble_eq_true rfl, Nat.le_of_ble_eq_true rfl⟩) rfl rfl (Nat.le_of_ble_eq_true rfl) dX11_init_9 ⟨(Nat.le_of_ble_eq_true rfl), (Nat.le_of_ble_eq_true rfl)⟩ (fun H locs hW hL => ?_)
  obtain ⟨E1, hW, e1, f1⟩ := ex_E hW (fun E1 => E1 7 0 = .inr (5, [.null, .null, .null, .null, .null]) ∧ ∀ b, E1 0 b = gE X gW0 0 b) ⟨(if_neg (by omega)).trans ((eU_n (by omega)).trans he), fun b => if_pos rfl⟩
  refine g_putF (T := TX11) hx hb hts inX11 tyX11 tyX11_ok nmX11 hown hK hW hL (gok_c (by decide)) (by decide) e1 rfl 0 (by decide) rfl (hts _ (List.mem_cons_of_mem _ (inR1 _ (List.mem_of_getElem? (i := 14) rfl)))) rfl hnm rfl (ty := (.object RX5)) rfl rfl rfl (Nat.le_of_ble_eq_true rfl) dX11_init_12 (fun H locs hW hL => ?_)
  refine lv_aload_n hx hb dX11_init_15 rfl (lv_at hl 0 rfl) ?_
  refine g_newO (T := TX5) (N := 11) (fs := [.null, .null, .null, .int 0, .int 0, .int 0, .int 0, .int 0, .int 0, .int 0, .int 0]) hx hb hts (fun w h => List.mem_cons_of_mem _ (inlX5 w h)) tyX5 tyX5_ok hown (hts _ (List.mem_cons_of_mem _ (inR1 _ (List.mem_of_getElem? (i := 11) rfl)))) (hts _ (List.mem_cons_of_mem _ (inR1 _ (List.mem_of_getElem? (i := 12) rfl)))) (hts _ (List.mem_cons_of_mem _ (inR1 _ (List.mem_of_getElem? (i := 13) rfl)))) hK hW (i := 1) (r := 0) (gok_m (by decide) (by decide)) rfl (ci := 1) rfl (fun j hj => by rcases (show j = 0 ∨ j = 1 ∨ j = 2 ∨ j = 3 ∨ j = 4 ∨ j = 5 ∨ j = 6 ∨ j = 7 ∨ j = 8 ∨ j = 9 ∨ j = 10 by omega) with rfl | rfl | rfl | rfl | rfl | rfl | rfl | rfl | rfl | rfl | rfl <;> rfl) (Nat.le_of_ble_eq_true rfl) (Nat.le_of_ble_eq_true rfl) dX11_init_16 (fun H hW => ?_)
  refine lv_dup hx hb dX11_init_19 rfl ?_
  refine g_I (As := []) (rest := [.ref (gA X 1 0), .ref (gA X 7 0)]) ⟨hx, hb, hml, hown, hts⟩ hK hKx hW hL hl.1 (c_X5_init l X (i := 1) (by decide) rfl (eU_s _ _ _ _)) (cwI 0 hts (gGoodC (fun w h => List.mem_cons_of_mem _ h) (inR2 _ (List.mem_of_getElem? (i := 6) rfl))) rfl rfl rfl (hts _ (List.mem_cons_of_mem _ (inR1 _ (List.mem_of_getElem? (i := 13) rfl)))) (hts _ (List.mem_cons_of_mem _ (inR2 _ (List.mem_of_getElem? (i := 4) rfl)))) (hts _ (List.mem_cons_of_mem _ (inR2 _ (List.mem_of_getElem? (i := 5) rfl)))) rfl (by decide +kernel) ⟨Nat.le_of_ble_eq_true rfl, Nat.le_of_ble_eq_true rfl⟩) rfl rfl (Nat.le_of_ble_eq_true rfl) dX11_init_20 ⟨(Nat.le_of_ble_eq_true rfl), (Nat.le_of_ble_eq_true rfl)⟩ (fun H locs hW hL => ?_)
  obtain ⟨E2, hW, e2, f2, f1⟩ := ex_E hW (fun E2 => E2 7 0 = .inr (5, [.ref (gA X 0 0), .null, .null, .null, .null]) ∧ (∀ b, E2 1 b = gE X gW0 1 b) ∧ ∀ b, E2 0 b = gE X gW0 0 b) ⟨(if_neg (by omega)).trans ((eU_n (by omega)).trans (eU_s _ _ _ _)), fun b => if_pos rfl, fun b => (if_neg (by omega)).trans ((eU_n (by omega)).trans ((eU_n (by omega)).trans (f1 b)))⟩
  refine g_putF (T := TX11) hx hb hts inX11 tyX11 tyX11_ok nmX11 hown hK hW hL (gok_c (by decide)) (by decide) e2 rfl 1 (by decide) rfl (hts _ (List.mem_cons_of_mem _ (inR1 _ (List.mem_of_getElem? (i := 15) rfl)))) rfl hnm rfl (ty := (.object RX5)) rfl rfl rfl (Nat.le_of_ble_eq_true rfl) dX11_init_23 (fun H locs hW hL => ?_)
  refine lv_aload_n hx hb dX11_init_26 rfl (lv_at hl 0 rfl) ?_
  refine g_newO (T := TX3) (N := 2) (fs := [.null, .int 0]) hx hb hts (fun w h => List.mem_cons_of_mem _ (inlX3 w h)) tyX3 tyX3_ok hown (hts _ (List.mem_cons_of_mem _ (inR1 _ (List.mem_of_getElem? (i := 16) rfl)))) (hts _ (List.mem_cons_of_mem _ (inR1 _ (List.mem_of_getElem? (i := 17) rfl)))) (hts _ (List.mem_cons_of_mem _ (inR1 _ (List.mem_of_getElem? (i := 18) rfl)))) hK hW (i := 7) (r := 1) (gok_c (by decide)) rfl (ci := 0) rfl (fun j hj => by rcases (show j = 0 ∨ j = 1 by omega) with rfl | rfl <;> rfl) (Nat.le_of_ble_eq_true rfl) (Nat.le_of_ble_eq_true rfl) dX11_init_27 (fun H hW => ?_)
  refine lv_dup hx hb dX11_init_30 rfl ?_
  refine g_I (As := []) (rest := [.ref (gA X 7 1), .ref (gA X 7 0)]) ⟨hx, hb, hml, hown, hts⟩ hK hKx hW hL hl.1 (c_X3_init l X (eU_s _ _ _ _)) (cwI 0 hts (gGoodC (fun w h => List.mem_cons_of_mem _ h) (inR2 _ (List.mem_of_getElem? (i := 21) rfl))) rfl rfl rfl (hts _ (List.mem_cons_of_mem _ (inR1 _ (List.mem_of_getElem? (i := 18) rfl)))) (hts _ (List.mem_cons_of_mem _ (inR2 _ (List.mem_of_getElem? (i := 19) rfl)))) (hts _ (List.mem_cons_of_mem _ (inR2 _ (List.mem_of_getElem? (i := 20) rfl)))) rfl (by decide +kernel) ⟨Nat.le_of_ble_eq_true rfl, Nat.le_of_ble_eq_true rfl⟩) rfl rfl (Nat.le_of_ble_eq_true rfl) dX11_init_31 ⟨(Nat.le_of_ble_eq_true rfl), (Nat.le_of_ble_eq_true rfl)⟩ (fun H locs hW hL => ?_)
  obtain ⟨E3, hW, e3, f3, f4⟩ := ex_E hW (fun E3 => E3 7 0 = .inr (5, [.ref (gA X 0 0), .ref (gA X 1 0), .null, .null, .null]) ∧ (∀ a b, a < 7 → E3 a b = gE X gW0 a b) ∧ ∀ b, b = 1 ∨ b = 2 → E3 7 b = gE X gW0 7 b) ⟨(if_neg (by omega)).trans ((eU_n (by omega)).trans (eU_s _ _ _ _)), fun a b ha => by
    by_cases h2 : 2 ≤ a
    · exact if_pos (Or.inl ⟨h2, ha⟩)
    · refine (if_neg (by omega)).trans ((eU_n (by omega)).trans ((eU_n (by omega)).trans ?_))
      rcases (show a = 0 ∨ a = 1 by omega) with rfl | rfl
      · exact f1 b
      · exact f2 b, fun b hb2 => if_pos (Or.inr ⟨rfl, hb2⟩)⟩
  refine g_putF (T := TX11) hx hb hts inX11 tyX11 tyX11_ok nmX11 hown hK hW hL (gok_c (by decide)) (by decide) e3 rfl 2 (by decide) rfl (hts _ (List.mem_cons_of_mem _ (inR1 _ (List.mem_of_getElem? (i := 19) rfl)))) rfl hnm rfl (ty := (.object RX3)) rfl rfl rfl (Nat.le_of_ble_eq_true rfl) dX11_init_34 (fun H locs hW hL => ?_)
  refine lv_aload_n hx hb dX11_init_37 rfl (lv_at hl 0 rfl) ?_
  refine g_newO (T := TX6) (N := 8) (fs := [.null, .int 0, .int 0, .int 0, .int 0, .int 0, .int 0, .int 0]) hx hb hts (fun w h => List.mem_cons_of_mem _ (inlX6 w h)) tyX6 tyX6_ok hown (hts _ (List.mem_cons_of_mem _ (inR1 _ (List.mem_of_getElem? (i := 20) rfl)))) (hts _ (List.mem_cons_of_mem _ (inR1 _ (List.mem_of_getElem? (i := 21) rfl)))) (hts _ (List.mem_cons_of_mem _ (inR1 _ (List.mem_of_getElem? (i := 22) rfl)))) hK hW (i := 7) (r := 3) (gok_c (by decide)) rfl (ci := 2) rfl (fun j hj => by rcases (show j = 0 ∨ j = 1 ∨ j = 2 ∨ j = 3 ∨ j = 4 ∨ j = 5 ∨ j = 6 ∨ j = 7 by omega) with rfl | rfl | rfl | rfl | rfl | rfl | rfl | rfl <;> rfl) (Nat.le_of_ble_eq_true rfl) (Nat.le_of_ble_eq_true rfl) dX11_init_38 (fun H hW => ?_)
  refine lv_dup hx hb dX11_init_41 rfl ?_
  refine g_IN (As := []) (rest := [.ref (gA X 7 3), .ref (gA X 7 0)]) ⟨hx, hb, hml, hown, hts⟩ hK hKx hW hL hl.1 (c_X6_init l X (eU_s _ _ _ _)) ⟨va_cnB 0 hts (gGoodC (fun w h => List.mem_cons_of_mem _ h) (inR3 _ (List.mem_of_getElem? (i := 3) rfl))) rfl rfl rfl hKx.2.2.1 (hts _ (List.mem_cons_of_mem _ (inR1 _ (List.mem_of_getElem? (i := 22) rfl)))) (by decide +kernel) ⟨Nat.le_of_ble_eq_true rfl, Nat.le_of_ble_eq_true rfl⟩, rfl, hts _ (List.mem_cons_of_mem _ (inR3 _ (List.mem_of_getElem? (i := 2) rfl)))⟩ rfl rfl (Nat.le_of_ble_eq_true rfl) dX11_init_42 ⟨(Nat.le_of_ble_eq_true rfl), (Nat.le_of_ble_eq_true rfl)⟩ (fun H locs hW hL => ?_)
  obtain ⟨E4, hW, e4, g3, g4, g5, g6⟩ := ex_E hW (fun E4 => E4 7 0 = .inr (5, [.ref (gA X 0 0), .ref (gA X 1 0), .ref (gA X 7 1), .null, .null]) ∧ (∀ a b, a < 7 → E4 a b = gE X gW0 a b) ∧ (∀ b, b = 1 ∨ b = 2 → E4 7 b = gE X gW0 7 b) ∧ E4 7 3 = .inr (2, [.ref (gA X 7 4), .int 0, .int 0, .int 0, .int 0, .int 0, .int 0, .int 0]) ∧ E4 7 4 = .inl (X.cI, 60, .inl (fun _ => 0))) ⟨(eU_n (by omega)).trans ((eU_n (by omega)).trans ((eU_n (by omega)).trans (eU_s _ _ _ _))), fun a b ha => (eU_n (by omega)).trans ((eU_n (by omega)).trans ((eU_n (by omega)).trans ((eU_n (by omega)).trans (f3 a b ha)))), fun b hb2 => (eU_n (by omega)).trans ((eU_n (by omega)).trans ((eU_n (by omega)).trans ((eU_n (by omega)).trans (f4 b hb2)))), eU_s _ _ _ _, (eU_n (by omega)).trans (eU_s _ _ _ _)⟩
  refine g_putF (T := TX11) hx hb hts inX11 tyX11 tyX11_ok nmX11 hown hK hW hL (gok_c (by decide)) (by decide) e4 rfl 3 (by decide) rfl (hts _ (List.mem_cons_of_mem _ (inR1 _ (List.mem_of_getElem? (i := 23) rfl)))) rfl hnm rfl (ty := (.object RX6)) rfl rfl rfl (Nat.le_of_ble_eq_true rfl) dX11_init_45 (fun H locs hW hL => ?_)
  refine lv_aload_n hx hb dX11_init_48 rfl (lv_at hl 0 rfl) ?_
  refine g_newO (T := TX7) (N := 4) (fs := [.int 0, .int 0, .int 0, .int 0]) hx hb hts (fun w h => List.mem_cons_of_mem _ (inlX7 w h)) tyX7 tyX7_ok hown (hts _ (List.mem_cons_of_mem _ (inR2 _ (List.mem_of_getElem? (i := 0) rfl)))) (hts _ (List.mem_cons_of_mem _ (inR2 _ (List.mem_of_getElem? (i := 1) rfl)))) (hts _ (List.mem_cons_of_mem _ (inR2 _ (List.mem_of_getElem? (i := 2) rfl)))) hK hW (i := 7) (r := 5) (gok_c (by decide)) rfl (ci := 3) rfl (fun j hj => by rcases (show j = 0 ∨ j = 1 ∨ j = 2 ∨ j = 3 by omega) with rfl | rfl | rfl | rfl <;> rfl) (Nat.le_of_ble_eq_true rfl) (Nat.le_of_ble_eq_true rfl) dX11_init_49 (fun H hW => ?_)
  refine lv_dup hx hb dX11_init_52 rfl ?_
  refine g_IN (As := []) (rest := [.ref (gA X 7 5), .ref (gA X 7 0)]) ⟨hx, hb, hml, hown, hts⟩ hK hKx hW hL hl.1 (c_X7_init l X) ⟨va_cnB 0 hts (gGoodC (fun w h => List.mem_cons_of_mem _ h) (inR3 _ (List.mem_of_getElem? (i := 7) rfl))) rfl rfl rfl hKx.2.2.2 (hts _ (List.mem_cons_of_mem _ (inR2 _ (List.mem_of_getElem? (i := 2) rfl)))) (by decide +kernel) ⟨Nat.le_of_ble_eq_true rfl, Nat.le_of_ble_eq_true rfl⟩, rfl, hts _ (List.mem_cons_of_mem _ (inR3 _ (List.mem_of_getElem? (i := 6) rfl)))⟩ rfl rfl (Nat.le_of_ble_eq_true rfl) dX11_init_53 ⟨(Nat.le_of_ble_eq_true rfl), (Nat.le_of_ble_eq_true rfl)⟩ (fun H locs hW hL => ?_)
  refine g_putF (T := TX11) hx hb hts inX11 tyX11 tyX11_ok nmX11 hown hK hW hL (gok_c (by decide)) (by decide) ((eU_n (by omega)).trans (eU_s _ _ _ _)) rfl 4 (by decide) rfl (hts _ (List.mem_cons_of_mem _ (inR2 _ (List.mem_of_getElem? (i := 3) rfl)))) rfl hnm rfl (ty := (.object RX7)) rfl rfl rfl (Nat.le_of_ble_eq_true rfl) dX11_init_56 (fun H locs hW hL => ?_)
  refine g_rvN hx hb hr hlocks (gWo.cg hW (fun a b hab hlt => ?_)) hL dX11_init_59
  unfold gok at hab
  rcases hab with h | ⟨rfl, h⟩ | ⟨rfl, h⟩
  · rw [eU_n (by omega), eU_n (by omega), eU_n (by omega)]; exact (g3 a b h.1).symm
  · have z : ∀ r c, r ≠ 1 → r ≠ 2 → gW0 7 r c = 0 := fun r c h1 h2 => gW0_z h1 h2
    rcases (show b = 0 ∨ b = 1 ∨ b = 2 ∨ b = 3 ∨ b = 4 ∨ b = 5 by omega) with rfl | rfl | rfl | rfl | rfl | rfl
    · rw [eU_s]; rfl
    · rw [eU_n (by omega), eU_n (by omega), eU_n (by omega)]; exact (g4 1 (Or.inl rfl)).symm
    · rw [eU_n (by omega), eU_n (by omega), eU_n (by omega)]; exact (g4 2 (Or.inr rfl)).symm
    · rw [eU_n (by omega), eU_n (by omega), eU_n (by omega), g5]
      show (Sum.inr (2, [Value.ref (gA X 7 4), Value.int (gW0 7 3 1), Value.int (gW0 7 3 2), Value.int (gW0 7 3 3), Value.int (gW0 7 3 4), Value.int (gW0 7 3 5), Value.int (gW0 7 3 6), Value.int (gW0 7 3 7)]) : va_E) = _
      simp only [z 3 _ (by omega) (by omega)]
    · rw [eU_n (by omega), eU_n (by omega), eU_n (by omega), g6]
      have : gW0 7 4 = fun _ => 0 := funext fun j => gW0_z (by omega) (by omega)
      show (Sum.inl (X.cI, 60, Sum.inl (gW0 7 4)) : va_E) = _
      rw [this]
    · rw [eU_n (by omega), eU_s]
      show (Sum.inr (3, [Value.int (gW0 7 5 0), Value.int (gW0 7 5 1), Value.int (gW0 7 5 2), Value.int (gW0 7 5 3)]) : va_E) = _
      simp only [z 5 _ (by omega) (by omega)]
  · exfalso
    have : 244 + b < 244 := hlt
    omega
