set_option maxHeartbeats 4000000 in
/-- YOUR PART: from the entry, for every script of at most 260 ints, the law comes to its end with true ('hflags': the launch's flags, for a law that throws: no stack traces) -/
theorem whole_start {p : Program} {e : Env} {s : State} {m : MethodId} {below : List Frame} {meth : Method} {c : Code} (l : Launch) (hflags : l.flags = flags0) {b L : Nat} {xs : Nat → Int32} (hL : L ≤ 260) (C0 : lw_At p s m meth c b L xs) : W p l e room_1 s m #[Value.ref b] below meth c s.heap [] 0 0 (lw_Z below #[Value.ref b] s) (entryFrame m ([Value.ref b] : List Value).toArray 12) := by
  obtain ⟨hx, hb, hr, hml, hown, hts, hX, hbl, hlocks, hgv⟩ := id C0
  obtain ⟨hKx, X, hXB, hXH, hsB, hsL, hsx, hK⟩ := lw_K hX hbl hts hgv
  have ht : ∀ w ∈ wsL_law, w.before #[Value.ref b] s = true := fun w h => hts w (wsL_law_in w h)
  have hL0 : gLo X [] := gLo_nil
  have hl := lv_entry ([.ref b]) (n := 12) (Nat.le_of_ble_eq_true rfl)
  rw [lg_entry_eq]
  generalize (lg_sl ([.ref b]) ++ List.replicate (12 - (lg_sl ([.ref b])).length) Slot.unset).toArray = ls at hl ⊢
  have hl : lv_has ls 12 [(0, .ref b)] := hl
  rw [← hsB] at hl
  have hb : c.code = cL_law := hb
  have hown : s.vm.findClass RL = some m.cls := hown
  have hW : gWo X 0 (gE X gW0) s.heap := ⟨by rw [hXB]; rfl, by rw [hXH, hXB], fun q _ => by rw [hXH], fun i r _ h => absurd h (Nat.not_lt_zero _)⟩
  refine g_newO (T := TX11) (N := 5) (fs := [.null, .null, .null, .null, .null]) hx hb ht inlX11 tyX11 tyX11_ok hown (ht _ (inR1 _ (List.mem_of_getElem? (i := 0) rfl))) (ht _ (inR1 _ (List.mem_of_getElem? (i := 1) rfl))) (ht _ (inR1 _ (List.mem_of_getElem? (i := 2) rfl))) hK hW (i := 7) (r := 0) (gok_c (by decide)) rfl (ci := 5) rfl (fun j hj => by rcases (show j = 0 ∨ j = 1 ∨ j = 2 ∨ j = 3 ∨ j = 4 by omega) with rfl | rfl | rfl | rfl | rfl <;> rfl) (Nat.le_of_ble_eq_true rfl) (Nat.le_of_ble_eq_true rfl) dL_law_0 (fun H hW => ?_)
  refine lv_dup hx hb dL_law_3 rfl ?_
  refine g_I (As := []) (rest := [.ref (gA X 7 0)]) ⟨hx, hb, hml, hown, ht⟩ hK hKx hW hL0 hl.1 (c_X11_init l X (eU_s _ _ _ _)) (cwI 0 ht (gGoodC (fun w h => h) (inR1 _ (List.mem_of_getElem? (i := 7) rfl))) rfl rfl rfl (ht _ (inR1 _ (List.mem_of_getElem? (i := 2) rfl))) (ht _ (inR1 _ (List.mem_of_getElem? (i := 5) rfl))) (ht _ (inR1 _ (List.mem_of_getElem? (i := 6) rfl))) rfl (by decide +kernel) ⟨Nat.le_of_ble_eq_true rfl, Nat.le_of_ble_eq_true rfl⟩) rfl rfl (Nat.le_of_ble_eq_true rfl) dL_law_4 ⟨(Nat.le_of_ble_eq_true rfl), (Nat.le_of_ble_eq_true rfl)⟩ (fun H locs hW hL1 => ?_)
  refine lv_astore_n (lv' := [(1, .ref (gA X 7 0)), (0, .ref X.sB)]) hx hb dL_law_7 rfl hl (by decide) rfl (fun ls hl => ?_)
  refine lv_bipush (v := 60) hx hb dL_law_8 (by decide) ?_
  refine g_newI hx hb (ht _ (inR1 _ (List.mem_of_getElem? (i := 3) rfl))) hK hW (i := 8) (r := 0) (gok_o (by decide)) rfl (by decide) (N := 60) rfl (by decide) (Nat.le_of_ble_eq_true rfl) (Nat.le_of_ble_eq_true rfl) dL_law_10 (fun H hW => ?_)
  refine lv_astore_n (lv' := [(2, .ref (gA X 8 0)), (1, .ref (gA X 7 0)), (0, .ref X.sB)]) hx hb dL_law_12 rfl hl (by decide) rfl (fun ls hl => ?_)
  refine lv_bipush (v := 60) hx hb dL_law_13 (by decide) ?_
  refine g_newI hx hb (ht _ (inR1 _ (List.mem_of_getElem? (i := 3) rfl))) hK hW (i := 8) (r := 1) (gok_o (by decide)) rfl (by decide) (N := 60) rfl (by decide) (Nat.le_of_ble_eq_true rfl) (Nat.le_of_ble_eq_true rfl) dL_law_15 (fun H hW => ?_)
  refine lv_astore_n (lv' := [(3, .ref (gA X 8 1)), (2, .ref (gA X 8 0)), (1, .ref (gA X 7 0)), (0, .ref X.sB)]) hx hb dL_law_17 rfl hl (by decide) rfl (fun ls hl => ?_)
  refine lv_bipush (v := 60) hx hb dL_law_18 (by decide) ?_
  refine g_newI hx hb (ht _ (inR1 _ (List.mem_of_getElem? (i := 3) rfl))) hK hW (i := 8) (r := 2) (gok_o (by decide)) rfl (by decide) (N := 60) rfl (by decide) (Nat.le_of_ble_eq_true rfl) (Nat.le_of_ble_eq_true rfl) dL_law_20 (fun H hW => ?_)
  refine lv_astore (lv' := [(4, .ref (gA X 8 2)), (3, .ref (gA X 8 1)), (2, .ref (gA X 8 0)), (1, .ref (gA X 7 0)), (0, .ref X.sB)]) hx hb dL_law_22 hl (by decide) rfl (fun ls hl => ?_)
  refine lv_bipush (v := 20) hx hb dL_law_24 (by decide) ?_
  refine g_newI hx hb (ht _ (inR1 _ (List.mem_of_getElem? (i := 3) rfl))) hK hW (i := 8) (r := 3) (gok_o (by decide)) rfl (by decide) (N := 20) rfl (by decide) (Nat.le_of_ble_eq_true rfl) (Nat.le_of_ble_eq_true rfl) dL_law_26 (fun H hW => ?_)
  refine lv_astore (lv' := [(5, .ref (gA X 8 3)), (4, .ref (gA X 8 2)), (3, .ref (gA X 8 1)), (2, .ref (gA X 8 0)), (1, .ref (gA X 7 0)), (0, .ref X.sB)]) hx hb dL_law_28 hl (by decide) rfl (fun ls hl => ?_)
  refine lv_iconst (v := 4) hx hb dL_law_30 (by decide) ?_
  refine g_newI hx hb (ht _ (inR1 _ (List.mem_of_getElem? (i := 3) rfl))) hK hW (i := 8) (r := 4) (gok_o (by decide)) rfl (by decide) (N := 4) rfl (by decide) (Nat.le_of_ble_eq_true rfl) (Nat.le_of_ble_eq_true rfl) dL_law_31 (fun H hW => ?_)
  refine lv_astore (lv' := [(6, .ref (gA X 8 4)), (5, .ref (gA X 8 3)), (4, .ref (gA X 8 2)), (3, .ref (gA X 8 1)), (2, .ref (gA X 8 0)), (1, .ref (gA X 7 0)), (0, .ref X.sB)]) hx hb dL_law_33 hl (by decide) rfl (fun ls hl => ?_)
  refine lv_bipush (v := 10) hx hb dL_law_35 (by decide) ?_
  refine g_newI hx hb (ht _ (inR1 _ (List.mem_of_getElem? (i := 3) rfl))) hK hW (i := 8) (r := 5) (gok_o (by decide)) rfl (by decide) (N := 10) rfl (by decide) (Nat.le_of_ble_eq_true rfl) (Nat.le_of_ble_eq_true rfl) dL_law_37 (fun H hW => ?_)
  refine lv_astore (lv' := [(7, .ref (gA X 8 5)), (6, .ref (gA X 8 4)), (5, .ref (gA X 8 3)), (4, .ref (gA X 8 2)), (3, .ref (gA X 8 1)), (2, .ref (gA X 8 0)), (1, .ref (gA X 7 0)), (0, .ref X.sB)]) hx hb dL_law_39 hl (by decide) rfl (fun ls hl => ?_)
  refine lv_bipush (v := 6) hx hb dL_law_41 (by decide) ?_
  refine g_newI hx hb (ht _ (inR1 _ (List.mem_of_getElem? (i := 3) rfl))) hK hW (i := 8) (r := 6) (gok_o (by decide)) rfl (by decide) (N := 6) rfl (by decide) (Nat.le_of_ble_eq_true rfl) (Nat.le_of_ble_eq_true rfl) dL_law_43 (fun H hW => ?_)
  refine lv_astore (lv' := [(8, .ref (gA X 8 6)), (7, .ref (gA X 8 5)), (6, .ref (gA X 8 4)), (5, .ref (gA X 8 3)), (4, .ref (gA X 8 2)), (3, .ref (gA X 8 1)), (2, .ref (gA X 8 0)), (1, .ref (gA X 7 0)), (0, .ref X.sB)]) hx hb dL_law_45 hl (by decide) rfl (fun ls hl => ?_)
  refine lv_bipush (v := 40) hx hb dL_law_47 (by decide) ?_
  refine g_newI hx hb (ht _ (inR1 _ (List.mem_of_getElem? (i := 3) rfl))) hK hW (i := 8) (r := 7) (gok_o (by decide)) rfl (by decide) (N := 40) rfl (by decide) (Nat.le_of_ble_eq_true rfl) (Nat.le_of_ble_eq_true rfl) dL_law_49 (fun H hW => ?_)
  refine lv_astore (lv' := [(9, .ref (gA X 8 7)), (8, .ref (gA X 8 6)), (7, .ref (gA X 8 5)), (6, .ref (gA X 8 4)), (5, .ref (gA X 8 3)), (4, .ref (gA X 8 2)), (3, .ref (gA X 8 1)), (2, .ref (gA X 8 0)), (1, .ref (gA X 7 0)), (0, .ref X.sB)]) hx hb dL_law_51 hl (by decide) rfl (fun ls hl => ?_)
  have hW : gWo X 252 (gE X gW0) H := hW.cg (fun a b hab hlt => by
    have z : gW0 8 = fun _ _ => 0 := by
      funext r c
      unfold gW0
      rw [if_neg (by omega), if_neg (by omega)]
    by_cases e : a = 8
    · subst e
      unfold gok at hab
      rcases (show b = 0 ∨ b = 1 ∨ b = 2 ∨ b = 3 ∨ b = 4 ∨ b = 5 ∨ b = 6 ∨ b = 7 by omega) with rfl | rfl | rfl | rfl | rfl | rfl | rfl | rfl
      · rw [eU_n (by omega), eU_n (by omega), eU_n (by omega), eU_n (by omega), eU_n (by omega), eU_n (by omega), eU_n (by omega), eU_s, gE_O0, z]
      · rw [eU_n (by omega), eU_n (by omega), eU_n (by omega), eU_n (by omega), eU_n (by omega), eU_n (by omega), eU_s, gE_O1, z]
      · rw [eU_n (by omega), eU_n (by omega), eU_n (by omega), eU_n (by omega), eU_n (by omega), eU_s, gE_O2, z]
      · rw [eU_n (by omega), eU_n (by omega), eU_n (by omega), eU_n (by omega), eU_s, gE_O3, z]
      · rw [eU_n (by omega), eU_n (by omega), eU_n (by omega), eU_s, gE_O4, z]
      · rw [eU_n (by omega), eU_n (by omega), eU_s, gE_O5, z]
      · rw [eU_n (by omega), eU_s, gE_O6, z]
      · rw [eU_s, gE_O7, z]
    · rw [eU_n (by omega), eU_n (by omega), eU_n (by omega), eU_n (by omega), eU_n (by omega), eU_n (by omega), eU_n (by omega), eU_n (by omega)])
  refine lv_aload hx hb dL_law_53 (lv_at hl 2 rfl) ?_
  refine lv_bipush (v := 7) hx hb dL_law_55 (by decide) ?_
  refine lv_bipush (v := 8) hx hb dL_law_57 (by decide) ?_
  refine g_iast2 (k := 7) hx hb hK hW hL1 (gok_o (by decide)) (fun w => gE_O5 (w := w)) (gin (by decide)) (by decide) dL_law_59 (fun H locs hW hL1 => ?_)
  refine lv_aload hx hb dL_law_60 (lv_at hl 2 rfl) ?_
  refine lv_bipush (v := 8) hx hb dL_law_62 (by decide) ?_
  refine lv_iconst (v := 3) hx hb dL_law_64 (by decide) ?_
  refine g_iast2 (k := 8) hx hb hK hW hL1 (gok_o (by decide)) (fun w => gE_O5 (w := w)) (gin (by decide)) (by decide) dL_law_65 (fun H locs hW hL1 => ?_)
  refine lv_aload hx hb dL_law_66 (lv_at hl 2 rfl) ?_
  refine lv_bipush (v := 9) hx hb dL_law_68 (by decide) ?_
  refine lv_iconst (v := 2) hx hb dL_law_70 (by decide) ?_
  refine g_iast2 (k := 9) hx hb hK hW hL1 (gok_o (by decide)) (fun w => gE_O5 (w := w)) (gin (by decide)) (by decide) dL_law_71 (fun H locs hW hL1 => ?_)
  refine lv_iconst (v := 0) hx hb dL_law_72 (by decide) ?_
  refine lv_istore (lv' := [(10, .int 0), (9, .ref (gA X 8 7)), (8, .ref (gA X 8 6)), (7, .ref (gA X 8 5)), (6, .ref (gA X 8 4)), (5, .ref (gA X 8 3)), (4, .ref (gA X 8 2)), (3, .ref (gA X 8 1)), (2, .ref (gA X 8 0)), (1, .ref (gA X 7 0)), (0, .ref X.sB)]) hx hb dL_law_73 hl (by decide) rfl (fun ls hl => ?_)
  refine W.widen (k := 600000) (n := 7302250) (Nat.le_of_ble_eq_true rfl) (Nat.le_of_ble_eq_true rfl) ?_
  obtain ⟨w', hF⟩ := LAW (L := X.sL) (xs := X.sx) (by rw [hsL]; exact hL) 60 gFU 0 gWs 0 gS0 (by omega) (by unfold gFU; omega) RS_0
  exact law_walk l X w' hXB hx hb hr hml hown ht hlocks hK gFU gWs (nI 0) ls (lv_sub hl [10, 9, 8, 7, 6, 5, 4, 3, 2, 1, 0] rfl) hF H locs hW hL1
