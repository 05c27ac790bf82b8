set_option maxHeartbeats 4000000 in
/-- YOUR PART: from the entry, for every script of at most 1536 ints, the law comes to its end with true -/
theorem whole_start {p : Program} {e : Env} {s : State} {m : MethodId} {below : List Frame} {meth : Method} {c : Code} (l : Launch) (hflags : l.flags = flags0) {b L : Nat} {xs : Nat → Int32} (hL : L ≤ 1536) (C0 : lw_At p s m meth c b L xs) : W p l e room_1 s m #[Value.ref b] below meth c s.heap [] 0 0 (lw_Z below #[Value.ref b] s) (entryFrame m ([Value.ref b] : List Value).toArray 4) := by
  obtain ⟨hx, hb, hr, hml, hown, hts, hX, hbl, hlocks, hgv⟩ := id C0
  obtain ⟨hKx, X, hXB, hXH, hK⟩ := lw_K hts hgv
  have ht : ∀ w ∈ wsL_law, w.before #[Value.ref b] s = true := fun w h => hts w (wsL_law_in w h)
  have hL0 : gLo X [] := gLo_nil
  have hl := lv_entry ([.ref b]) (n := 4) (Nat.le_of_ble_eq_true rfl)
  rw [lg_entry_eq]
  generalize (lg_sl ([.ref b]) ++ List.replicate (4 - (lg_sl ([.ref b])).length) Slot.unset).toArray = ls at hl ⊢
  have hl : lv_has ls 4 [(0, .ref b)] := hl
  have hb : c.code = cL_law := hb
  have hown : s.vm.findClass RL = some m.cls := hown
  have hW : gWo X 0 (gE X gW0) s.heap := ⟨by rw [hXB]; rfl, by rw [hXH, hXB], fun q _ => by rw [hXH], fun i r _ h => absurd h (Nat.not_lt_zero _)⟩
  refine g_newO (T := TX11) (N := 5) (fs := [.null, .null, .null, .null, .null]) hx hb ht inlX11 tyX11 tyX11_ok hown (ht _ (inR1 _ (List.mem_of_getElem? (i := 0) rfl))) (ht _ (inR1 _ (List.mem_of_getElem? (i := 1) rfl))) (ht _ (inR1 _ (List.mem_of_getElem? (i := 2) rfl))) hK hW (i := 7) (r := 0) (gok_c (by decide)) rfl (ci := 5) rfl (fun j hj => by rcases (show j = 0 ∨ j = 1 ∨ j = 2 ∨ j = 3 ∨ j = 4 by omega) with rfl | rfl | rfl | rfl | rfl <;> rfl) (Nat.le_of_ble_eq_true rfl) (Nat.le_of_ble_eq_true rfl) dL_law_0 (fun H hW => ?_)
  refine lv_dup hx hb dL_law_3 rfl ?_
  refine g_I (As := []) (rest := [.ref (gA X 7 0)]) ⟨hx, hb, hml, hown, ht⟩ hK hKx hW hL0 hl.1 (c_X11_init l X (eU_s _ _ _ _)) (cwI 0 ht (gGoodC (fun w h => h) (inR1 _ (List.mem_of_getElem? (i := 8) rfl))) rfl rfl rfl (ht _ (inR1 _ (List.mem_of_getElem? (i := 2) rfl))) (ht _ (inR1 _ (List.mem_of_getElem? (i := 6) rfl))) (ht _ (inR1 _ (List.mem_of_getElem? (i := 7) rfl))) rfl (by decide +kernel) ⟨Nat.le_of_ble_eq_true rfl, Nat.le_of_ble_eq_true rfl⟩) rfl rfl (Nat.le_of_ble_eq_true rfl) dL_law_4 ⟨(Nat.le_of_ble_eq_true rfl), (Nat.le_of_ble_eq_true rfl)⟩ (fun H locs hW hL1 => ?_)
  refine lv_astore_n (lv' := [(1, .ref (gA X 7 0)), (0, .ref b)]) hx hb dL_law_7 rfl hl (by decide) rfl (fun ls hl => ?_)
  refine g_newO (T := TX12) (N := 15) (fs := [.null, .null, .null, .int 0, .int 0, .null, .int 0, .null, .int 0, .int 0, .int 0, .int 0, .int 0, .int 0, .null]) hx hb ht inlX12 tyX12 tyX12_ok hown (ht _ (inR1 _ (List.mem_of_getElem? (i := 3) rfl))) (ht _ (inR1 _ (List.mem_of_getElem? (i := 4) rfl))) (ht _ (inR1 _ (List.mem_of_getElem? (i := 5) rfl))) hK hW (i := 8) (r := 0) (gok_o (by decide)) rfl (ci := 6) rfl (fun j hj => by rcases (show j = 0 ∨ j = 1 ∨ j = 2 ∨ j = 3 ∨ j = 4 ∨ j = 5 ∨ j = 6 ∨ j = 7 ∨ j = 8 ∨ j = 9 ∨ j = 10 ∨ j = 11 ∨ j = 12 ∨ j = 13 ∨ j = 14 by omega) with rfl | rfl | rfl | rfl | rfl | rfl | rfl | rfl | rfl | rfl | rfl | rfl | rfl | rfl | rfl <;> rfl) (Nat.le_of_ble_eq_true rfl) (Nat.le_of_ble_eq_true rfl) dL_law_8 (fun H hW => ?_)
  refine lv_dup hx hb dL_law_11 rfl ?_
  refine g_I (As := []) (rest := [.ref (gA X 8 0)]) ⟨hx, hb, hml, hown, ht⟩ hK hKx hW hL1 hl.1 (c_X12_init l X (eU_s _ _ _ _)) (cwI 0 ht (gGoodC (fun w h => h) (inR3 _ (List.mem_of_getElem? (i := 13) rfl))) rfl rfl rfl (ht _ (inR1 _ (List.mem_of_getElem? (i := 5) rfl))) (ht _ (inR3 _ (List.mem_of_getElem? (i := 11) rfl))) (ht _ (inR3 _ (List.mem_of_getElem? (i := 12) rfl))) rfl (by decide +kernel) ⟨Nat.le_of_ble_eq_true rfl, Nat.le_of_ble_eq_true rfl⟩) rfl rfl (Nat.le_of_ble_eq_true rfl) dL_law_12 ⟨(Nat.le_of_ble_eq_true rfl), (Nat.le_of_ble_eq_true rfl)⟩ (fun H locs hW hL2 => ?_)
  have hW : gWo X 251 (gE X gW0) H := hW.cg (fun a b hab hlt => by
    show gE X gW0 a b = if a = 8 then gE X gW0 a b else eU (gE X gW0) 8 0 _ a b
    by_cases e : a = 8
    · rw [if_pos e]
    · rw [if_neg e, eU_n (fun z => e z.1)])
  refine lv_astore_n (lv' := [(2, .ref (gA X 8 0)), (1, .ref (gA X 7 0)), (0, .ref b)]) hx hb dL_law_15 rfl hl (by decide) rfl (fun ls hl => ?_)
  refine lv_iconst (v := 0) hx hb dL_law_16 (by decide) ?_
  refine lv_istore_n (lv' := [(3, .int 0), (2, .ref (gA X 8 0)), (1, .ref (gA X 7 0)), (0, .ref b)]) hx hb dL_law_17 rfl hl (by decide) rfl (fun ls hl => ?_)
  refine W.widen (k := 600000) (n := 7302250) (Nat.le_of_ble_eq_true rfl) (Nat.le_of_ble_eq_true rfl) ?_
  obtain ⟨w', hF⟩ := LAW (xs := xs) hL 512 gFU 0 0 gW0 (by omega) (by unfold gFU; omega) (by omega) (by omega) REL_0
  refine W.base ?_
  exact law_walk l X w' hXB (by rw [hXB]; exact hbl) hx hb hr hml hown ht (by rw [hXH]; exact hX) hlocks hK (Drawn.sameBut.refl s.drawn lw_cs) gFU gW0 (nI (3 * 0)) ls (lv_sub hl [3, 2, 1, 0] rfl) hF H locs hW hL2
