abbrev rmX6_append : Room := { frames := 0, cells := 0, slots := 0, locals := 0 }
abbrev wsX6_append : List Cond := gws yX6_append cX6_append 2 (some .int)
set_option maxHeartbeats 4000000 in
set_option maxRecDepth 100000 in
theorem c_X6_append (l : Launch) (X : gX) (w : gWd) (x1 : Int32) (r : Int32) (w' : gWd) (hF : F_X6_append w x1 = some (r, w')) : Met l yX6_append wsX6_append rmX6_append (gPc X [.ref (gA X 7 3), .int x1] w) (gQi X r w') 0 0 (gFr X) := by
  refine g_ofW (cc := cX6_append) (maxL := 2) (ret := (some .int)) (by decide) rfl (Nat.le_of_ble_eq_true rfl) (fun p e s m args below meth c ls H hx hb hr hts hown hlocks hml hK hl hW => ?_)
  have hl : lv_has ls 2 [(0, .ref (gA X 7 3)), (1, .int x1)] := hl
  have hown : s.vm.findClass RX6 = some m.cls := hown
  have hL : gLo X [] := gLo_nil
  show W p l e rmX6_append s m args below meth c H [] 0 0 _ _
  have inX6 : ∀ w ∈ wsX60, w ∈ wsX6_append := fun w h => List.mem_cons_of_mem _ (inlX6 w h)
  have q15 := hts _ (List.mem_cons_of_mem _ wq_X6_15)
  have q19 := hts _ (List.mem_cons_of_mem _ wq_X6_19)
  have q9 := hts _ (List.mem_cons_of_mem _ wq_X6_9)
  rw [F_X6_append] at hF
  obtain ⟨locs, hlocs⟩ : ∃ locs : List Loc, locs = [] := ⟨_, rfl⟩
  rw [← hlocs] at hL ⊢
  refine lv_aload_n hx hb dX6_append_0 rfl (lv_at hl 0 rfl) ?_
  refine rg_X6_length hx hb hts inX6 hown hK hW q15 dX6_append_1 ?_
  refine lv_bipush (v := 60) hx hb dX6_append_4 (by decide) ?_
  refine lv_icmp_lt (tgt := 12) hx hb dX6_append_6 (by decide) (fun hc_1 => ?_) (fun hc_1 => ?_)
  · replace hF := gT hc_1 hF
    refine lv_aload_n hx hb dX6_append_12 rfl (lv_at hl 0 rfl) ?_
    refine rg_X6_signs hx hb hts inX6 hown hK hW q9 dX6_append_13 ?_
    refine lv_aload_n hx hb dX6_append_16 rfl (lv_at hl 0 rfl) ?_
    refine rg_X6_length hx hb hts inX6 hown hK hW q15 dX6_append_17 ?_
    refine lv_iload_n hx hb dX6_append_20 rfl (lv_at hl 1 rfl) ?_
    obtain ⟨hin_2, hF⟩ := gB_some hF
    obtain ⟨k_3, ek_3⟩ : ∃ k, k = Int32.toNatClampNeg ((w 7 3 1)) := ⟨_, rfl⟩
    rw [← ek_3] at hF
    obtain ⟨w_4, ew_4, hF⟩ := gS_some hF
    refine g_iast2 (k := k_3) hx hb hK hW hL (gok_c (by decide)) (fun w => gE_Asig (w := w)) hin_2 ek_3.symm dX6_append_21 (fun H locs hW hL => ?_)
    rw [← ew_4] at hW
    refine lv_aload_n hx hb dX6_append_22 rfl (lv_at hl 0 rfl) ?_
    refine lv_dup hx hb dX6_append_23 rfl ?_
    refine rg_X6_length hx hb hts inX6 hown hK hW q15 dX6_append_24 ?_
    refine lv_iconst (v := 1) hx hb dX6_append_27 (by decide) ?_
    refine lv_iadd hx hb dX6_append_28 ?_
    obtain ⟨w_5, ew_5, hF⟩ := gS_some hF
    refine rp_X6_length hx hb hts inX6 hown hK hW hL q15 dX6_append_29 (fun H locs hW hL => ?_)
    rw [← ew_5] at hW
    refine lv_aload_n hx hb dX6_append_32 rfl (lv_at hl 0 rfl) ?_
    refine rg_X6_length hx hb hts inX6 hown hK hW q15 dX6_append_33 ?_
    exact g_ri hx hb hr hlocks (gW2 hF hW) hL (gI2 hF).1 dX6_append_36
  · replace hF := gF hc_1 hF
    refine lv_ldc hx hb hown q19 dX6_append_9 ?_
    exact g_ri hx hb hr hlocks (gW2 hF hW) hL (gI2 hF).1 dX6_append_11
abbrev rmX11_type : Room := { frames := 1, cells := 0, slots := 0, locals := 21 }
abbrev wsX11_type : List Cond := gws yX11_type cX11_type 2 (some .int)
set_option maxHeartbeats 4000000 in
set_option maxRecDepth 100000 in
theorem c_X11_type (l : Launch) (X : gX) (w : gWd) (x1 : Int32) (r : Int32) (w' : gWd) (hF : F_X11_type w x1 = some (r, w')) : Met l yX11_type wsX11_type rmX11_type (gPc X [.ref (gA X 7 0), .int x1] w) (gQi X r w') 0 0 (gFr X) := by
  refine g_ofW (cc := cX11_type) (maxL := 2) (ret := (some .int)) (by decide) rfl (Nat.le_of_ble_eq_true rfl) (fun p e s m args below meth c ls H hx hb hr hts hown hlocks hml hK hl hW => ?_)
  have hl : lv_has ls 2 [(0, .ref (gA X 7 0)), (1, .int x1)] := hl
  have hown : s.vm.findClass RX11 = some m.cls := hown
  have hL : gLo X [] := gLo_nil
  show W p l e rmX11_type s m args below meth c H [] 0 0 _ _
  have inX11 : ∀ w ∈ wsX110, w ∈ wsX11_type := fun w h => List.mem_cons_of_mem _ (inlX11 w h)
  have q29 := hts _ (List.mem_cons_of_mem _ wq_X11_29)
  have q81 := hts _ (List.mem_cons_of_mem _ wq_X11_81)
  have k170 : CallW rmX11_type s args RX11 RX6 170 yX6_append cX6_append 2 (some .int) wsX6_append rmX6_append 0 0 1 := cwV 1 hts (gGoodV (fun w h => List.mem_cons_of_mem _ h) wk_X11_170) rfl rfl rfl (by decide +kernel) ⟨Nat.le_of_ble_eq_true rfl, Nat.le_of_ble_eq_true rfl⟩
  rw [F_X11_type] at hF
  obtain ⟨locs, hlocs⟩ : ∃ locs : List Loc, locs = [] := ⟨_, rfl⟩
  rw [← hlocs] at hL ⊢
  refine lv_iload_n hx hb dX11_type_0 rfl (lv_at hl 1 rfl) ?_
  refine lv_bipush (v := 32) hx hb dX11_type_1 (by decide) ?_
  refine lv_icmp_lt (tgt := 12) hx hb dX11_type_3 (by decide) (fun hc_1 => ?_) (fun hc_1 => ?_)
  · replace hF := gT hc_1 hF
    refine lv_ldc hx hb hown q81 dX11_type_12 ?_
    exact g_ri hx hb hr hlocks (gW2 hF hW) hL (gI2 hF).1 dX11_type_14
  · replace hF := gF hc_1 hF
    refine lv_iload_n hx hb dX11_type_6 rfl (lv_at hl 1 rfl) ?_
    refine lv_bipush (v := 126) hx hb dX11_type_7 (by decide) ?_
    refine lv_icmp_le (tgt := 15) hx hb dX11_type_9 (by decide) (fun hc_2 => ?_) (fun hc_2 => ?_)
    · replace hF := gT hc_2 hF
      refine lv_aload_n hx hb dX11_type_15 rfl (lv_at hl 0 rfl) ?_
      refine rg_X11_text hx hb hts inX11 hown hK hW q29 dX11_type_16 ?_
      refine lv_iload_n hx hb dX11_type_19 rfl (lv_at hl 1 rfl) ?_
      obtain ⟨v_4, w_5, hq_3, hF⟩ := gC_some hF
      refine g_Vi (As := [.int x1]) (rest := []) ⟨hx, hb, hml, hown, hts⟩ hK hW hL hl.1 (gok_c (by decide)) gE_T rfl (c_X6_append l X w x1 v_4 w_5 hq_3) k170 rfl rfl (Nat.le_of_ble_eq_true rfl) dX11_type_20 ⟨Nat.le_of_ble_eq_true rfl, Nat.le_of_ble_eq_true rfl⟩ (fun H locs hW hL => ?_)
      exact g_ri hx hb hr hlocks (gW2 hF hW) hL (gI2 hF).1 dX11_type_23
    · replace hF := gF hc_2 hF
      refine lv_ldc hx hb hown q81 dX11_type_12 ?_
      exact g_ri hx hb hr hlocks (gW2 hF hW) hL (gI2 hF).1 dX11_type_14
abbrev rmX6_empty : Room := { frames := 0, cells := 0, slots := 0, locals := 0 }
abbrev wsX6_empty : List Cond := gws yX6_empty cX6_empty 2 (some .int)
set_option maxHeartbeats 4000000 in
set_option maxRecDepth 100000 in
theorem c_X6_empty (l : Launch) (X : gX) (w : gWd)  (r : Int32) (w' : gWd) (hF : F_X6_empty w = some (r, w')) : Met l yX6_empty wsX6_empty rmX6_empty (gPc X [.ref (gA X 7 3)] w) (gQi X r w') 0 0 (gFr X) := by
  refine g_ofW (cc := cX6_empty) (maxL := 2) (ret := (some .int)) (by decide) rfl (Nat.le_of_ble_eq_true rfl) (fun p e s m args below meth c ls H hx hb hr hts hown hlocks hml hK hl hW => ?_)
  have hl : lv_has ls 2 [(0, .ref (gA X 7 3))] := hl
  have hown : s.vm.findClass RX6 = some m.cls := hown
  have hL : gLo X [] := gLo_nil
  show W p l e rmX6_empty s m args below meth c H [] 0 0 _ _
  have inX6 : ∀ w ∈ wsX60, w ∈ wsX6_empty := fun w h => List.mem_cons_of_mem _ (inlX6 w h)
  have q15 := hts _ (List.mem_cons_of_mem _ wq_X6_15)
  rw [F_X6_empty] at hF
  obtain ⟨locs, hlocs⟩ : ∃ locs : List Loc, locs = [] := ⟨_, rfl⟩
  rw [← hlocs] at hL ⊢
  refine lv_aload_n hx hb dX6_empty_0 rfl (lv_at hl 0 rfl) ?_
  refine rg_X6_length hx hb hts inX6 hown hK hW q15 dX6_empty_1 ?_
  obtain ⟨x1_1, ex1_1, hF⟩ := gS_some hF
  refine g_top ex1_1 ?_
  refine lv_istore_n (lv' := [(1, .int x1_1), (0, .ref (gA X 7 3))]) hx hb dX6_empty_4 rfl hl (by decide) rfl (fun ls hl => ?_)
  refine lv_aload_n hx hb dX6_empty_5 rfl (lv_at hl 1 rfl) ?_
  refine lv_iconst (v := 0) hx hb dX6_empty_6 (by decide) ?_
  obtain ⟨w_2, ew_2, hF⟩ := gS_some hF
  refine rp_X6_length hx hb hts inX6 hown hK hW hL q15 dX6_empty_7 (fun H locs hW hL => ?_)
  rw [← ew_2] at hW
  refine lv_iload_n hx hb dX6_empty_10 rfl (lv_at hl 0 rfl) ?_
  exact g_ri hx hb hr hlocks (gW2 hF hW) hL (gI2 hF).1 dX6_empty_11
abbrev rmX11_clearText : Room := { frames := 1, cells := 0, slots := 0, locals := 21 }
abbrev wsX11_clearText : List Cond := gws yX11_clearText cX11_clearText 1 (some .int)
set_option maxHeartbeats 4000000 in
set_option maxRecDepth 100000 in
theorem c_X11_clearText (l : Launch) (X : gX) (w : gWd)  (r : Int32) (w' : gWd) (hF : F_X11_clearText w = some (r, w')) : Met l yX11_clearText wsX11_clearText rmX11_clearText (gPc X [.ref (gA X 7 0)] w) (gQi X r w') 0 0 (gFr X) := by
  refine g_ofW (cc := cX11_clearText) (maxL := 1) (ret := (some .int)) (by decide) rfl (Nat.le_of_ble_eq_true rfl) (fun p e s m args below meth c ls H hx hb hr hts hown hlocks hml hK hl hW => ?_)
  have hl : lv_has ls 1 [(0, .ref (gA X 7 0))] := hl
  have hown : s.vm.findClass RX11 = some m.cls := hown
  have hL : gLo X [] := gLo_nil
  show W p l e rmX11_clearText s m args below meth c H [] 0 0 _ _
  have inX11 : ∀ w ∈ wsX110, w ∈ wsX11_clearText := fun w h => List.mem_cons_of_mem _ (inlX11 w h)
  have q29 := hts _ (List.mem_cons_of_mem _ wq_X11_29)
  have k173 : CallW rmX11_clearText s args RX11 RX6 173 yX6_empty cX6_empty 2 (some .int) wsX6_empty rmX6_empty 0 0 0 := cwV 0 hts (gGoodV (fun w h => List.mem_cons_of_mem _ h) wk_X11_173) rfl rfl rfl (by decide +kernel) ⟨Nat.le_of_ble_eq_true rfl, Nat.le_of_ble_eq_true rfl⟩
  rw [F_X11_clearText] at hF
  obtain ⟨locs, hlocs⟩ : ∃ locs : List Loc, locs = [] := ⟨_, rfl⟩
  rw [← hlocs] at hL ⊢
  refine lv_aload_n hx hb dX11_clearText_0 rfl (lv_at hl 0 rfl) ?_
  refine rg_X11_text hx hb hts inX11 hown hK hW q29 dX11_clearText_1 ?_
  obtain ⟨v_2, w_3, hq_1, hF⟩ := gC_some hF
  refine g_Vi (As := []) (rest := []) ⟨hx, hb, hml, hown, hts⟩ hK hW hL hl.1 (gok_c (by decide)) gE_T rfl (c_X6_empty l X w  v_2 w_3 hq_1) k173 rfl rfl (Nat.le_of_ble_eq_true rfl) dX11_clearText_4 ⟨Nat.le_of_ble_eq_true rfl, Nat.le_of_ble_eq_true rfl⟩ (fun H locs hW hL => ?_)
  exact g_ri hx hb hr hlocks (gW2 hF hW) hL (gI2 hF).1 dX11_clearText_7
abbrev rmX6_hasMore : Room := { frames := 0, cells := 0, slots := 0, locals := 0 }
abbrev wsX6_hasMore : List Cond := gws yX6_hasMore cX6_hasMore 1 (some .boolean)
set_option maxHeartbeats 4000000 in
set_option maxRecDepth 100000 in
theorem c_X6_hasMore (l : Launch) (X : gX) (w : gWd)  (r : Int32) (hF : F_X6_hasMore w = some r) : Met l yX6_hasMore wsX6_hasMore rmX6_hasMore (gPc X [.ref (gA X 7 3)] w) (gQi X r w) 0 0 (gFr X) := by
  refine g_ofW (cc := cX6_hasMore) (maxL := 1) (ret := (some .boolean)) (by decide) rfl (Nat.le_of_ble_eq_true rfl) (fun p e s m args below meth c ls H hx hb hr hts hown hlocks hml hK hl hW => ?_)
  have hl : lv_has ls 1 [(0, .ref (gA X 7 3))] := hl
  have hown : s.vm.findClass RX6 = some m.cls := hown
  have hL : gLo X [] := gLo_nil
  show W p l e rmX6_hasMore s m args below meth c H [] 0 0 _ _
  have inX6 : ∀ w ∈ wsX60, w ∈ wsX6_hasMore := fun w h => List.mem_cons_of_mem _ (inlX6 w h)
  have q15 := hts _ (List.mem_cons_of_mem _ wq_X6_15)
  have q20 := hts _ (List.mem_cons_of_mem _ wq_X6_20)
  rw [F_X6_hasMore] at hF
  obtain ⟨locs, hlocs⟩ : ∃ locs : List Loc, locs = [] := ⟨_, rfl⟩
  rw [← hlocs] at hL ⊢
  refine lv_aload_n hx hb dX6_hasMore_0 rfl (lv_at hl 0 rfl) ?_
  refine rg_X6_position hx hb hts inX6 hown hK hW q20 dX6_hasMore_1 ?_
  refine lv_aload_n hx hb dX6_hasMore_4 rfl (lv_at hl 0 rfl) ?_
  refine rg_X6_length hx hb hts inX6 hown hK hW q15 dX6_hasMore_5 ?_
  refine lv_icmp_ge (tgt := 15) hx hb dX6_hasMore_8 (by decide) (fun hc_1 => ?_) (fun hc_1 => ?_)
  · replace hF := gT hc_1 hF
    refine lv_iconst (v := 0) hx hb dX6_hasMore_15 (by decide) ?_
    exact g_rz hx hb hr hlocks hW hL (Or.inl rfl) (Option.some.inj hF) dX6_hasMore_16
  · replace hF := gF hc_1 hF
    refine lv_iconst (v := 1) hx hb dX6_hasMore_11 (by decide) ?_
    refine lv_goto (tgt := 16) hx hb dX6_hasMore_12 (by decide) ?_
    exact g_rz hx hb hr hlocks hW hL (Or.inr rfl) (Option.some.inj hF) dX6_hasMore_16
abbrev rmX6_numbersOf : Room := { frames := 0, cells := 0, slots := 0, locals := 0 }
abbrev wsX6_numbersOf : List Cond := gws yX6_numbersOf cX6_numbersOf 2 (some .int)
set_option maxHeartbeats 4000000 in
set_option maxRecDepth 100000 in
theorem c_X6_numbersOf (l : Launch) (X : gX) (w : gWd) (x1 : Int32) (r : Int32) (hF : F_X6_numbersOf w x1 = some r) : Met l yX6_numbersOf wsX6_numbersOf rmX6_numbersOf (gPc X [.ref (gA X 7 3), .int x1] w) (gQi X r w) 0 0 (gFr X) := by
  refine g_ofW (cc := cX6_numbersOf) (maxL := 2) (ret := (some .int)) (by decide) rfl (Nat.le_of_ble_eq_true rfl) (fun p e s m args below meth c ls H hx hb hr hts hown hlocks hml hK hl hW => ?_)
  have hl : lv_has ls 2 [(0, .ref (gA X 7 3)), (1, .int x1)] := hl
  have hown : s.vm.findClass RX6 = some m.cls := hown
  have hL : gLo X [] := gLo_nil
  show W p l e rmX6_numbersOf s m args below meth c H [] 0 0 _ _
  rw [F_X6_numbersOf] at hF
  obtain ⟨locs, hlocs⟩ : ∃ locs : List Loc, locs = [] := ⟨_, rfl⟩
  rw [← hlocs] at hL ⊢
  refine lv_iload_n hx hb dX6_numbersOf_0 rfl (lv_at hl 1 rfl) ?_
  by_cases hc_1 : x1 = 100
  · replace hF := gT hc_1 hF
    refine lv_tableIn (off := 103) (tgt := 104) hx hb dX6_numbersOf_1 (by rw [hc_1]; decide) (by rw [hc_1]; decide) (by rw [hc_1]; rfl) (by decide) ?_
    refine lv_iconst (v := 0) hx hb dX6_numbersOf_104 (by decide) ?_
    exact g_ri hx hb hr hlocks hW hL (Option.some.inj hF) dX6_numbersOf_105
  · replace hF := gF hc_1 hF
    by_cases hc_2 : x1 = 101
    · replace hF := gT hc_2 hF
      refine lv_tableIn (off := 99) (tgt := 100) hx hb dX6_numbersOf_1 (by rw [hc_2]; decide) (by rw [hc_2]; decide) (by rw [hc_2]; rfl) (by decide) ?_
      refine lv_iconst (v := 2) hx hb dX6_numbersOf_100 (by decide) ?_
      exact g_ri hx hb hr hlocks hW hL (Option.some.inj hF) dX6_numbersOf_101
    · replace hF := gF hc_2 hF
      by_cases hc_3 : x1 = 102
      · replace hF := gT hc_3 hF
        refine lv_tableIn (off := 103) (tgt := 104) hx hb dX6_numbersOf_1 (by rw [hc_3]; decide) (by rw [hc_3]; decide) (by rw [hc_3]; rfl) (by decide) ?_
        refine lv_iconst (v := 0) hx hb dX6_numbersOf_104 (by decide) ?_
        exact g_ri hx hb hr hlocks hW hL (Option.some.inj hF) dX6_numbersOf_105
      · replace hF := gF hc_3 hF
        by_cases hc_4 : x1 = 110
        · replace hF := gT hc_4 hF
          refine lv_tableIn (off := 103) (tgt := 104) hx hb dX6_numbersOf_1 (by rw [hc_4]; decide) (by rw [hc_4]; decide) (by rw [hc_4]; rfl) (by decide) ?_
          refine lv_iconst (v := 0) hx hb dX6_numbersOf_104 (by decide) ?_
          exact g_ri hx hb hr hlocks hW hL (Option.some.inj hF) dX6_numbersOf_105
        · replace hF := gF hc_4 hF
          by_cases hc_5 : x1 = 111
          · replace hF := gT hc_5 hF
            refine lv_tableIn (off := 103) (tgt := 104) hx hb dX6_numbersOf_1 (by rw [hc_5]; decide) (by rw [hc_5]; decide) (by rw [hc_5]; rfl) (by decide) ?_
            refine lv_iconst (v := 0) hx hb dX6_numbersOf_104 (by decide) ?_
            exact g_ri hx hb hr hlocks hW hL (Option.some.inj hF) dX6_numbersOf_105
          · replace hF := gF hc_5 hF
            by_cases hc_6 : x1 = 115
            · replace hF := gT hc_6 hF
              refine lv_tableIn (off := 99) (tgt := 100) hx hb dX6_numbersOf_1 (by rw [hc_6]; decide) (by rw [hc_6]; decide) (by rw [hc_6]; rfl) (by decide) ?_
              refine lv_iconst (v := 2) hx hb dX6_numbersOf_100 (by decide) ?_
              exact g_ri hx hb hr hlocks hW hL (Option.some.inj hF) dX6_numbersOf_101
            · replace hF := gF hc_6 hF
              by_cases hc_7 : x1 = 120
              · replace hF := gT hc_7 hF
                refine lv_tableIn (off := 101) (tgt := 102) hx hb dX6_numbersOf_1 (by rw [hc_7]; decide) (by rw [hc_7]; decide) (by rw [hc_7]; rfl) (by decide) ?_
                refine lv_iconst (v := 1) hx hb dX6_numbersOf_102 (by decide) ?_
                exact g_ri hx hb hr hlocks hW hL (Option.some.inj hF) dX6_numbersOf_103
              · replace hF := gF hc_7 hF
                by_cases hc_8 : x1 = 103
                · refine lv_tableIn (off := 105) (tgt := 106) hx hb dX6_numbersOf_1 (by rw [hc_8]; decide) (by rw [hc_8]; decide) (by rw [hc_8]; rfl) (by decide) ?_
                  refine lv_iconst (v := (-1)) hx hb dX6_numbersOf_106 (by decide) ?_
                  exact g_ri hx hb hr hlocks hW hL (Option.some.inj hF) dX6_numbersOf_107
                · skip
                  by_cases hc_9 : x1 = 104
                  · refine lv_tableIn (off := 105) (tgt := 106) hx hb dX6_numbersOf_1 (by rw [hc_9]; decide) (by rw [hc_9]; decide) (by rw [hc_9]; rfl) (by decide) ?_
                    refine lv_iconst (v := (-1)) hx hb dX6_numbersOf_106 (by decide) ?_
                    exact g_ri hx hb hr hlocks hW hL (Option.some.inj hF) dX6_numbersOf_107
                  · skip
                    by_cases hc_10 : x1 = 105
                    · refine lv_tableIn (off := 105) (tgt := 106) hx hb dX6_numbersOf_1 (by rw [hc_10]; decide) (by rw [hc_10]; decide) (by rw [hc_10]; rfl) (by decide) ?_
                      refine lv_iconst (v := (-1)) hx hb dX6_numbersOf_106 (by decide) ?_
                      exact g_ri hx hb hr hlocks hW hL (Option.some.inj hF) dX6_numbersOf_107
                    · skip
                      by_cases hc_11 : x1 = 106
                      · refine lv_tableIn (off := 105) (tgt := 106) hx hb dX6_numbersOf_1 (by rw [hc_11]; decide) (by rw [hc_11]; decide) (by rw [hc_11]; rfl) (by decide) ?_
                        refine lv_iconst (v := (-1)) hx hb dX6_numbersOf_106 (by decide) ?_
                        exact g_ri hx hb hr hlocks hW hL (Option.some.inj hF) dX6_numbersOf_107
                      · skip
                        by_cases hc_12 : x1 = 107
                        · refine lv_tableIn (off := 105) (tgt := 106) hx hb dX6_numbersOf_1 (by rw [hc_12]; decide) (by rw [hc_12]; decide) (by rw [hc_12]; rfl) (by decide) ?_
                          refine lv_iconst (v := (-1)) hx hb dX6_numbersOf_106 (by decide) ?_
                          exact g_ri hx hb hr hlocks hW hL (Option.some.inj hF) dX6_numbersOf_107
                        · skip
                          by_cases hc_13 : x1 = 108
                          · refine lv_tableIn (off := 105) (tgt := 106) hx hb dX6_numbersOf_1 (by rw [hc_13]; decide) (by rw [hc_13]; decide) (by rw [hc_13]; rfl) (by decide) ?_
                            refine lv_iconst (v := (-1)) hx hb dX6_numbersOf_106 (by decide) ?_
                            exact g_ri hx hb hr hlocks hW hL (Option.some.inj hF) dX6_numbersOf_107
                          · skip
                            by_cases hc_14 : x1 = 109
                            · refine lv_tableIn (off := 105) (tgt := 106) hx hb dX6_numbersOf_1 (by rw [hc_14]; decide) (by rw [hc_14]; decide) (by rw [hc_14]; rfl) (by decide) ?_
                              refine lv_iconst (v := (-1)) hx hb dX6_numbersOf_106 (by decide) ?_
                              exact g_ri hx hb hr hlocks hW hL (Option.some.inj hF) dX6_numbersOf_107
                            · skip
                              by_cases hc_15 : x1 = 112
                              · refine lv_tableIn (off := 105) (tgt := 106) hx hb dX6_numbersOf_1 (by rw [hc_15]; decide) (by rw [hc_15]; decide) (by rw [hc_15]; rfl) (by decide) ?_
                                refine lv_iconst (v := (-1)) hx hb dX6_numbersOf_106 (by decide) ?_
                                exact g_ri hx hb hr hlocks hW hL (Option.some.inj hF) dX6_numbersOf_107
                              · skip
                                by_cases hc_16 : x1 = 113
                                · refine lv_tableIn (off := 105) (tgt := 106) hx hb dX6_numbersOf_1 (by rw [hc_16]; decide) (by rw [hc_16]; decide) (by rw [hc_16]; rfl) (by decide) ?_
                                  refine lv_iconst (v := (-1)) hx hb dX6_numbersOf_106 (by decide) ?_
                                  exact g_ri hx hb hr hlocks hW hL (Option.some.inj hF) dX6_numbersOf_107
                                · skip
                                  by_cases hc_17 : x1 = 114
                                  · refine lv_tableIn (off := 105) (tgt := 106) hx hb dX6_numbersOf_1 (by rw [hc_17]; decide) (by rw [hc_17]; decide) (by rw [hc_17]; rfl) (by decide) ?_
                                    refine lv_iconst (v := (-1)) hx hb dX6_numbersOf_106 (by decide) ?_
                                    exact g_ri hx hb hr hlocks hW hL (Option.some.inj hF) dX6_numbersOf_107
                                  · skip
                                    by_cases hc_18 : x1 = 116
                                    · refine lv_tableIn (off := 105) (tgt := 106) hx hb dX6_numbersOf_1 (by rw [hc_18]; decide) (by rw [hc_18]; decide) (by rw [hc_18]; rfl) (by decide) ?_
                                      refine lv_iconst (v := (-1)) hx hb dX6_numbersOf_106 (by decide) ?_
                                      exact g_ri hx hb hr hlocks hW hL (Option.some.inj hF) dX6_numbersOf_107
                                    · skip
                                      by_cases hc_19 : x1 = 117
                                      · refine lv_tableIn (off := 105) (tgt := 106) hx hb dX6_numbersOf_1 (by rw [hc_19]; decide) (by rw [hc_19]; decide) (by rw [hc_19]; rfl) (by decide) ?_
                                        refine lv_iconst (v := (-1)) hx hb dX6_numbersOf_106 (by decide) ?_
                                        exact g_ri hx hb hr hlocks hW hL (Option.some.inj hF) dX6_numbersOf_107
                                      · skip
                                        by_cases hc_20 : x1 = 118
                                        · refine lv_tableIn (off := 105) (tgt := 106) hx hb dX6_numbersOf_1 (by rw [hc_20]; decide) (by rw [hc_20]; decide) (by rw [hc_20]; rfl) (by decide) ?_
                                          refine lv_iconst (v := (-1)) hx hb dX6_numbersOf_106 (by decide) ?_
                                          exact g_ri hx hb hr hlocks hW hL (Option.some.inj hF) dX6_numbersOf_107
                                        · skip
                                          by_cases hc_21 : x1 = 119
                                          · refine lv_tableIn (off := 105) (tgt := 106) hx hb dX6_numbersOf_1 (by rw [hc_21]; decide) (by rw [hc_21]; decide) (by rw [hc_21]; rfl) (by decide) ?_
                                            refine lv_iconst (v := (-1)) hx hb dX6_numbersOf_106 (by decide) ?_
                                            exact g_ri hx hb hr hlocks hW hL (Option.some.inj hF) dX6_numbersOf_107
                                          · skip
                                            refine lv_tableOut (tgt := 106) hx hb dX6_numbersOf_1 (g_tabOut (fun k h1 h2 h3 => ?_)) (by decide) ?_
                                            · have hk : k = 100 ∨ k = 101 ∨ k = 102 ∨ k = 103 ∨ k = 104 ∨ k = 105 ∨ k = 106 ∨ k = 107 ∨ k = 108 ∨ k = 109 ∨ k = 110 ∨ k = 111 ∨ k = 112 ∨ k = 113 ∨ k = 114 ∨ k = 115 ∨ k = 116 ∨ k = 117 ∨ k = 118 ∨ k = 119 ∨ k = 120 := by omega
                                              rcases hk with rfl | rfl | rfl | rfl | rfl | rfl | rfl | rfl | rfl | rfl | rfl | rfl | rfl | rfl | rfl | rfl | rfl | rfl | rfl | rfl | rfl
                                              · exact hc_1 (Int32.toInt_inj.mp (h3.trans (by decide)))
                                              · exact hc_2 (Int32.toInt_inj.mp (h3.trans (by decide)))
                                              · exact hc_3 (Int32.toInt_inj.mp (h3.trans (by decide)))
                                              · exact hc_8 (Int32.toInt_inj.mp (h3.trans (by decide)))
                                              · exact hc_9 (Int32.toInt_inj.mp (h3.trans (by decide)))
                                              · exact hc_10 (Int32.toInt_inj.mp (h3.trans (by decide)))
                                              · exact hc_11 (Int32.toInt_inj.mp (h3.trans (by decide)))
                                              · exact hc_12 (Int32.toInt_inj.mp (h3.trans (by decide)))
                                              · exact hc_13 (Int32.toInt_inj.mp (h3.trans (by decide)))
                                              · exact hc_14 (Int32.toInt_inj.mp (h3.trans (by decide)))
                                              · exact hc_4 (Int32.toInt_inj.mp (h3.trans (by decide)))
                                              · exact hc_5 (Int32.toInt_inj.mp (h3.trans (by decide)))
                                              · exact hc_15 (Int32.toInt_inj.mp (h3.trans (by decide)))
                                              · exact hc_16 (Int32.toInt_inj.mp (h3.trans (by decide)))
                                              · exact hc_17 (Int32.toInt_inj.mp (h3.trans (by decide)))
                                              · exact hc_6 (Int32.toInt_inj.mp (h3.trans (by decide)))
                                              · exact hc_18 (Int32.toInt_inj.mp (h3.trans (by decide)))
                                              · exact hc_19 (Int32.toInt_inj.mp (h3.trans (by decide)))
                                              · exact hc_20 (Int32.toInt_inj.mp (h3.trans (by decide)))
                                              · exact hc_21 (Int32.toInt_inj.mp (h3.trans (by decide)))
                                              · exact hc_7 (Int32.toInt_inj.mp (h3.trans (by decide)))
                                            · skip
                                              refine lv_iconst (v := (-1)) hx hb dX6_numbersOf_106 (by decide) ?_
                                              exact g_ri hx hb hr hlocks hW hL (Option.some.inj hF) dX6_numbersOf_107
abbrev rmX6_signHere : Room := { frames := 0, cells := 0, slots := 0, locals := 0 }
abbrev wsX6_signHere : List Cond := gws yX6_signHere cX6_signHere 1 (some .int)
set_option maxHeartbeats 4000000 in
set_option maxRecDepth 100000 in
theorem c_X6_signHere (l : Launch) (X : gX) (w : gWd)  (r : Int32) (hF : F_X6_signHere w = some r) : Met l yX6_signHere wsX6_signHere rmX6_signHere (gPc X [.ref (gA X 7 3)] w) (gQi X r w) 0 0 (gFr X) := by
  refine g_ofW (cc := cX6_signHere) (maxL := 1) (ret := (some .int)) (by decide) rfl (Nat.le_of_ble_eq_true rfl) (fun p e s m args below meth c ls H hx hb hr hts hown hlocks hml hK hl hW => ?_)
  have hl : lv_has ls 1 [(0, .ref (gA X 7 3))] := hl
  have hown : s.vm.findClass RX6 = some m.cls := hown
  have hL : gLo X [] := gLo_nil
  show W p l e rmX6_signHere s m args below meth c H [] 0 0 _ _
  have inX6 : ∀ w ∈ wsX60, w ∈ wsX6_signHere := fun w h => List.mem_cons_of_mem _ (inlX6 w h)
  have q15 := hts _ (List.mem_cons_of_mem _ wq_X6_15)
  have q20 := hts _ (List.mem_cons_of_mem _ wq_X6_20)
  have q9 := hts _ (List.mem_cons_of_mem _ wq_X6_9)
  have B_39 : ∀   (ls : Array Slot) (hl : lv_has ls 1 []) (hF : F_X6_signHere_39 w = some r) (H : Heap) (locs : List Loc) (hW : gWo X 251 (gE X w) H) (hL : gLo X locs), W p l e rmX6_signHere s m args below meth c H locs 0 0 (MQ below (gQi X r w) args s 0 0 (gFr X)) (F0 m 39 ls []) := by
    intro ls hl hF H locs hW hL
    rw [F_X6_signHere_39] at hF
    refine lv_iconst (v := 0) hx hb dX6_signHere_39 (by decide) ?_
    exact g_ri hx hb hr hlocks hW hL (Option.some.inj hF) dX6_signHere_40
  rw [F_X6_signHere] at hF
  obtain ⟨locs, hlocs⟩ : ∃ locs : List Loc, locs = [] := ⟨_, rfl⟩
  rw [← hlocs] at hL ⊢
  refine lv_aload_n hx hb dX6_signHere_0 rfl (lv_at hl 0 rfl) ?_
  refine rg_X6_position hx hb hts inX6 hown hK hW q20 dX6_signHere_1 ?_
  refine lv_if_lt (tgt := 39) hx hb dX6_signHere_4 (by decide) (fun hc_1 => ?_) (fun hc_1 => ?_)
  · replace hF := gT hc_1 hF
    exact B_39  ls (lv_sub hl [] rfl) hF H locs hW hL
  · replace hF := gF hc_1 hF
    refine lv_aload_n hx hb dX6_signHere_7 rfl (lv_at hl 0 rfl) ?_
    refine rg_X6_position hx hb hts inX6 hown hK hW q20 dX6_signHere_8 ?_
    refine lv_aload_n hx hb dX6_signHere_11 rfl (lv_at hl 0 rfl) ?_
    refine rg_X6_length hx hb hts inX6 hown hK hW q15 dX6_signHere_12 ?_
    refine lv_icmp_ge (tgt := 39) hx hb dX6_signHere_15 (by decide) (fun hc_2 => ?_) (fun hc_2 => ?_)
    · replace hF := gT hc_2 hF
      exact B_39  ls (lv_sub hl [] rfl) hF H locs hW hL
    · replace hF := gF hc_2 hF
      refine lv_aload_n hx hb dX6_signHere_18 rfl (lv_at hl 0 rfl) ?_
      refine rg_X6_position hx hb hts inX6 hown hK hW q20 dX6_signHere_19 ?_
      refine lv_bipush (v := 60) hx hb dX6_signHere_22 (by decide) ?_
      refine lv_icmp_ge (tgt := 39) hx hb dX6_signHere_24 (by decide) (fun hc_3 => ?_) (fun hc_3 => ?_)
      · replace hF := gT hc_3 hF
        exact B_39  ls (lv_sub hl [] rfl) hF H locs hW hL
      · replace hF := gF hc_3 hF
        refine lv_aload_n hx hb dX6_signHere_27 rfl (lv_at hl 0 rfl) ?_
        refine rg_X6_signs hx hb hts inX6 hown hK hW q9 dX6_signHere_28 ?_
        refine lv_aload_n hx hb dX6_signHere_31 rfl (lv_at hl 0 rfl) ?_
        refine rg_X6_position hx hb hts inX6 hown hK hW q20 dX6_signHere_32 ?_
        obtain ⟨hin_4, hF⟩ := gB_some hF
        obtain ⟨k_5, ek_5⟩ : ∃ k, k = Int32.toNatClampNeg ((w 7 3 3)) := ⟨_, rfl⟩
        rw [← ek_5] at hF
        refine g_iald2 (k := k_5) hx hb hK hW (gok_c (by decide)) (gad_lt (gok_c (by decide))) gE_Asig hin_4 ek_5.symm dX6_signHere_35 ?_
        refine lv_goto (tgt := 40) hx hb dX6_signHere_36 (by decide) ?_
        exact g_ri hx hb hr hlocks hW hL (Option.some.inj hF) dX6_signHere_40
abbrev rmX6_readNumber : Room := { frames := 1, cells := 0, slots := 0, locals := 20 }
abbrev wsX6_readNumber : List Cond := gws yX6_readNumber cX6_readNumber 2 (some .boolean)
set_option maxHeartbeats 4000000 in
set_option maxRecDepth 100000 in
theorem c_X6_readNumber (l : Launch) (X : gX) (w : gWd)  (r : Int32) (w' : gWd) (hF : F_X6_readNumber w = some (r, w')) : Met l yX6_readNumber wsX6_readNumber rmX6_readNumber (gPc X [.ref (gA X 7 3)] w) (gQi X r w') 0 0 (gFr X) := by
  refine g_ofW (cc := cX6_readNumber) (maxL := 2) (ret := (some .boolean)) (by decide) rfl (Nat.le_of_ble_eq_true rfl) (fun p e s m args below meth c ls H hx hb hr hts hown hlocks hml hK hl hW => ?_)
  have hl : lv_has ls 2 [(0, .ref (gA X 7 3))] := hl
  have hown : s.vm.findClass RX6 = some m.cls := hown
  have hL : gLo X [] := gLo_nil
  show W p l e rmX6_readNumber s m args below meth c H [] 0 0 _ _
  have inX6 : ∀ w ∈ wsX60, w ∈ wsX6_readNumber := fun w h => List.mem_cons_of_mem _ (inlX6 w h)
  have q20 := hts _ (List.mem_cons_of_mem _ wq_X6_20)
  have q41 := hts _ (List.mem_cons_of_mem _ wq_X6_41)
  have k26 : CallW rmX6_readNumber s args RX6 RX6 26 yX6_signHere cX6_signHere 1 (some .int) wsX6_signHere rmX6_signHere 0 0 0 := cwV 0 hts (gGoodV (fun w h => List.mem_cons_of_mem _ h) wk_X6_26) rfl rfl rfl (by decide +kernel) ⟨Nat.le_of_ble_eq_true rfl, Nat.le_of_ble_eq_true rfl⟩
  have B_65 : ∀ (w : gWd) (x1 : Int32)  (ls : Array Slot) (hl : lv_has ls 2 [(1, .int x1)]) (hF : F_X6_readNumber_65 w x1 = some (r, w')) (H : Heap) (locs : List Loc) (hW : gWo X 251 (gE X w) H) (hL : gLo X locs), W p l e rmX6_readNumber s m args below meth c H locs 0 0 (MQ below (gQi X r w') args s 0 0 (gFr X)) (F0 m 65 ls []) := by
    intro w x1 ls hl hF H locs hW hL
    rw [F_X6_readNumber_65] at hF
    refine lv_iload_n hx hb dX6_readNumber_65 rfl (lv_at hl 0 rfl) ?_
    refine lv_if_le (tgt := 73) hx hb dX6_readNumber_66 (by decide) (fun hc_13 => ?_) (fun hc_13 => ?_)
    · replace hF := gT hc_13 hF
      refine lv_iconst (v := 0) hx hb dX6_readNumber_73 (by decide) ?_
      exact g_rz hx hb hr hlocks (gW2 hF hW) hL (Or.inl rfl) (gI2 hF).1 dX6_readNumber_74
    · replace hF := gF hc_13 hF
      refine lv_iconst (v := 1) hx hb dX6_readNumber_69 (by decide) ?_
      refine lv_goto (tgt := 74) hx hb dX6_readNumber_70 (by decide) ?_
      exact g_rz hx hb hr hlocks (gW2 hF hW) hL (Or.inr rfl) (gI2 hF).1 dX6_readNumber_74
  have L_7 : ∀ (fu : Nat) (w : gWd) (x1 : Int32)  (ls : Array Slot) (hl : lv_has ls 2 [(0, .ref (gA X 7 3)), (1, .int x1)]) (hF : F_X6_readNumber_7 fu w x1 = some (r, w')) (H : Heap) (locs : List Loc) (hW : gWo X 251 (gE X w) H) (hL : gLo X locs), W p l e rmX6_readNumber s m args below meth c H locs 0 0 (MQ below (gQi X r w') args s 0 0 (gFr X)) (F0 m 7 ls []) := by
    intro fu
    induction fu with
    | zero => intro w x1 ls hl hF H locs hW hL; rw [F_X6_readNumber_7_z] at hF; cases hF
    | succ fu7 ih7 =>
      intro w x1 ls hl hF H locs hW hL
      rw [F_X6_readNumber_7_s] at hF
      refine lv_iload_n hx hb dX6_readNumber_7 rfl (lv_at hl 1 rfl) ?_
      refine lv_iconst (v := 3) hx hb dX6_readNumber_8 (by decide) ?_
      refine lv_icmp_ge (tgt := 65) hx hb dX6_readNumber_9 (by decide) (fun hc_1 => ?_) (fun hc_1 => ?_)
      · replace hF := gT hc_1 hF
        exact B_65 w x1 ls (lv_sub hl [1] rfl) hF H locs hW hL
      · replace hF := gF hc_1 hF
        refine lv_aload_n hx hb dX6_readNumber_12 rfl (lv_at hl 0 rfl) ?_
        obtain ⟨v_3, hq_2, hF⟩ := gP_some hF
        refine g_Vi (As := []) (rest := []) ⟨hx, hb, hml, hown, hts⟩ hK hW hL hl.1 (gok_c (by decide)) gE_T rfl (c_X6_signHere l X w  v_3 hq_2) k26 rfl rfl (Nat.le_of_ble_eq_true rfl) dX6_readNumber_13 ⟨Nat.le_of_ble_eq_true rfl, Nat.le_of_ble_eq_true rfl⟩ (fun H locs hW hL => ?_)
        refine lv_bipush (v := 48) hx hb dX6_readNumber_16 (by decide) ?_
        refine lv_icmp_lt (tgt := 65) hx hb dX6_readNumber_18 (by decide) (fun hc_4 => ?_) (fun hc_4 => ?_)
        · replace hF := gT hc_4 hF
          exact B_65 w x1 ls (lv_sub hl [1] rfl) hF H locs hW hL
        · replace hF := gF hc_4 hF
          refine lv_aload_n hx hb dX6_readNumber_21 rfl (lv_at hl 0 rfl) ?_
          obtain ⟨v_6, hq_5, hF⟩ := gP_some hF
          refine g_Vi (As := []) (rest := []) ⟨hx, hb, hml, hown, hts⟩ hK hW hL hl.1 (gok_c (by decide)) gE_T rfl (c_X6_signHere l X w  v_6 hq_5) k26 rfl rfl (Nat.le_of_ble_eq_true rfl) dX6_readNumber_22 ⟨Nat.le_of_ble_eq_true rfl, Nat.le_of_ble_eq_true rfl⟩ (fun H locs hW hL => ?_)
          refine lv_bipush (v := 57) hx hb dX6_readNumber_25 (by decide) ?_
          refine lv_icmp_gt (tgt := 65) hx hb dX6_readNumber_27 (by decide) (fun hc_7 => ?_) (fun hc_7 => ?_)
          · replace hF := gT hc_7 hF
            exact B_65 w x1 ls (lv_sub hl [1] rfl) hF H locs hW hL
          · replace hF := gF hc_7 hF
            refine lv_aload_n hx hb dX6_readNumber_30 rfl (lv_at hl 0 rfl) ?_
            refine lv_aload_n hx hb dX6_readNumber_31 rfl (lv_at hl 0 rfl) ?_
            refine rg_X6_number hx hb hts inX6 hown hK hW q41 dX6_readNumber_32 ?_
            refine lv_bipush (v := 10) hx hb dX6_readNumber_35 (by decide) ?_
            refine lv_imul hx hb dX6_readNumber_37 ?_
            refine lv_aload_n hx hb dX6_readNumber_38 rfl (lv_at hl 0 rfl) ?_
            obtain ⟨v_9, hq_8, hF⟩ := gP_some hF
            refine g_Vi (As := []) (rest := [.int ((w 7 3 7) * 10), .ref (gA X 7 3)]) ⟨hx, hb, hml, hown, hts⟩ hK hW hL hl.1 (gok_c (by decide)) gE_T rfl (c_X6_signHere l X w  v_9 hq_8) k26 rfl rfl (Nat.le_of_ble_eq_true rfl) dX6_readNumber_39 ⟨Nat.le_of_ble_eq_true rfl, Nat.le_of_ble_eq_true rfl⟩ (fun H locs hW hL => ?_)
            refine lv_iadd hx hb dX6_readNumber_42 ?_
            refine lv_bipush (v := 48) hx hb dX6_readNumber_43 (by decide) ?_
            refine lv_isub hx hb dX6_readNumber_45 ?_
            obtain ⟨w_10, ew_10, hF⟩ := gS_some hF
            refine rp_X6_number hx hb hts inX6 hown hK hW hL q41 dX6_readNumber_46 (fun H locs hW hL => ?_)
            rw [← ew_10] at hW
            refine lv_aload_n hx hb dX6_readNumber_49 rfl (lv_at hl 0 rfl) ?_
            refine lv_dup hx hb dX6_readNumber_50 rfl ?_
            refine rg_X6_position hx hb hts inX6 hown hK hW q20 dX6_readNumber_51 ?_
            refine lv_iconst (v := 1) hx hb dX6_readNumber_54 (by decide) ?_
            refine lv_iadd hx hb dX6_readNumber_55 ?_
            obtain ⟨w_11, ew_11, hF⟩ := gS_some hF
            refine rp_X6_position hx hb hts inX6 hown hK hW hL q20 dX6_readNumber_56 (fun H locs hW hL => ?_)
            rw [← ew_11] at hW
            obtain ⟨x1_12, ex1_12, hF⟩ := gS_some hF
            refine lv_iinc (v := x1_12) (lv' := [(1, .int x1_12), (0, .ref (gA X 7 3))]) hx hb dX6_readNumber_59 hl (k := 1) rfl (by rw [ex1_12]; rfl) (by decide) rfl (fun ls hl => ?_)
            refine lv_goto (tgt := 7) hx hb dX6_readNumber_62 (by decide) ?_
            exact ih7 w_11 x1_12 ls (lv_sub hl [1, 0] rfl) hF H locs hW hL
  rw [F_X6_readNumber] at hF
  obtain ⟨locs, hlocs⟩ : ∃ locs : List Loc, locs = [] := ⟨_, rfl⟩
  rw [← hlocs] at hL ⊢
  refine lv_aload_n hx hb dX6_readNumber_0 rfl (lv_at hl 0 rfl) ?_
  refine lv_iconst (v := 0) hx hb dX6_readNumber_1 (by decide) ?_
  obtain ⟨w_14, ew_14, hF⟩ := gS_some hF
  refine rp_X6_number hx hb hts inX6 hown hK hW hL q41 dX6_readNumber_2 (fun H locs hW hL => ?_)
  rw [← ew_14] at hW
  refine lv_iconst (v := 0) hx hb dX6_readNumber_5 (by decide) ?_
  refine lv_istore_n (lv' := [(1, .int 0), (0, .ref (gA X 7 3))]) hx hb dX6_readNumber_6 rfl hl (by decide) rfl (fun ls hl => ?_)
  exact L_7 gFU w_14 0 ls (lv_sub hl [1, 0] rfl) hF H locs hW hL
abbrev rmX6_readSign : Room := { frames := 1, cells := 0, slots := 0, locals := 20 }
abbrev wsX6_readSign : List Cond := gws yX6_readSign cX6_readSign 2 (some .boolean)
set_option maxHeartbeats 4000000 in
set_option maxRecDepth 100000 in
theorem c_X6_readSign (l : Launch) (X : gX) (w : gWd) (x1 : Int32) (r : Int32) (w' : gWd) (hF : F_X6_readSign w x1 = some (r, w')) : Met l yX6_readSign wsX6_readSign rmX6_readSign (gPc X [.ref (gA X 7 3), .int x1] w) (gQi X r w') 0 0 (gFr X) := by
  refine g_ofW (cc := cX6_readSign) (maxL := 2) (ret := (some .boolean)) (by decide) rfl (Nat.le_of_ble_eq_true rfl) (fun p e s m args below meth c ls H hx hb hr hts hown hlocks hml hK hl hW => ?_)
  have hl : lv_has ls 2 [(0, .ref (gA X 7 3)), (1, .int x1)] := hl
  have hown : s.vm.findClass RX6 = some m.cls := hown
  have hL : gLo X [] := gLo_nil
  show W p l e rmX6_readSign s m args below meth c H [] 0 0 _ _
  have inX6 : ∀ w ∈ wsX60, w ∈ wsX6_readSign := fun w h => List.mem_cons_of_mem _ (inlX6 w h)
  have q20 := hts _ (List.mem_cons_of_mem _ wq_X6_20)
  have k26 : CallW rmX6_readSign s args RX6 RX6 26 yX6_signHere cX6_signHere 1 (some .int) wsX6_signHere rmX6_signHere 0 0 0 := cwV 0 hts (gGoodV (fun w h => List.mem_cons_of_mem _ h) wk_X6_26) rfl rfl rfl (by decide +kernel) ⟨Nat.le_of_ble_eq_true rfl, Nat.le_of_ble_eq_true rfl⟩
  rw [F_X6_readSign] at hF
  obtain ⟨locs, hlocs⟩ : ∃ locs : List Loc, locs = [] := ⟨_, rfl⟩
  rw [← hlocs] at hL ⊢
  refine lv_aload_n hx hb dX6_readSign_0 rfl (lv_at hl 0 rfl) ?_
  obtain ⟨v_2, hq_1, hF⟩ := gP_some hF
  refine g_Vi (As := []) (rest := []) ⟨hx, hb, hml, hown, hts⟩ hK hW hL hl.1 (gok_c (by decide)) gE_T rfl (c_X6_signHere l X w  v_2 hq_1) k26 rfl rfl (Nat.le_of_ble_eq_true rfl) dX6_readSign_1 ⟨Nat.le_of_ble_eq_true rfl, Nat.le_of_ble_eq_true rfl⟩ (fun H locs hW hL => ?_)
  refine lv_iload_n hx hb dX6_readSign_4 rfl (lv_at hl 1 rfl) ?_
  refine lv_icmp_eq (tgt := 10) hx hb dX6_readSign_5 (by decide) (fun hc_3 => ?_) (fun hc_3 => ?_)
  · replace hF := gT hc_3 hF
    refine lv_aload_n hx hb dX6_readSign_10 rfl (lv_at hl 0 rfl) ?_
    refine lv_dup hx hb dX6_readSign_11 rfl ?_
    refine rg_X6_position hx hb hts inX6 hown hK hW q20 dX6_readSign_12 ?_
    refine lv_iconst (v := 1) hx hb dX6_readSign_15 (by decide) ?_
    refine lv_iadd hx hb dX6_readSign_16 ?_
    obtain ⟨w_4, ew_4, hF⟩ := gS_some hF
    refine rp_X6_position hx hb hts inX6 hown hK hW hL q20 dX6_readSign_17 (fun H locs hW hL => ?_)
    rw [← ew_4] at hW
    refine lv_iconst (v := 1) hx hb dX6_readSign_20 (by decide) ?_
    exact g_rz hx hb hr hlocks (gW2 hF hW) hL (Or.inr rfl) (gI2 hF).1 dX6_readSign_21
  · replace hF := gF hc_3 hF
    refine lv_iconst (v := 0) hx hb dX6_readSign_8 (by decide) ?_
    exact g_rz hx hb hr hlocks (gW2 hF hW) hL (Or.inl rfl) (gI2 hF).1 dX6_readSign_9
abbrev rmX6_readOrder : Room := { frames := 2, cells := 0, slots := 0, locals := 41 }
abbrev wsX6_readOrder : List Cond := gws yX6_readOrder cX6_readOrder 2 (some .boolean)
set_option maxHeartbeats 4000000 in
set_option maxRecDepth 100000 in
theorem c_X6_readOrder (l : Launch) (X : gX) (w : gWd)  (r : Int32) (w' : gWd) (hF : F_X6_readOrder w = some (r, w')) : Met l yX6_readOrder wsX6_readOrder rmX6_readOrder (gPc X [.ref (gA X 7 3)] w) (gQi X r w') 0 0 (gFr X) := by
  refine g_ofW (cc := cX6_readOrder) (maxL := 2) (ret := (some .boolean)) (by decide) rfl (Nat.le_of_ble_eq_true rfl) (fun p e s m args below meth c ls H hx hb hr hts hown hlocks hml hK hl hW => ?_)
  have hl : lv_has ls 2 [(0, .ref (gA X 7 3))] := hl
  have hown : s.vm.findClass RX6 = some m.cls := hown
  have hL : gLo X [] := gLo_nil
  show W p l e rmX6_readOrder s m args below meth c H [] 0 0 _ _
  have inX6 : ∀ w ∈ wsX60, w ∈ wsX6_readOrder := fun w h => List.mem_cons_of_mem _ (inlX6 w h)
  have q20 := hts _ (List.mem_cons_of_mem _ wq_X6_20)
  have q23 := hts _ (List.mem_cons_of_mem _ wq_X6_23)
  have q30 := hts _ (List.mem_cons_of_mem _ wq_X6_30)
  have q41 := hts _ (List.mem_cons_of_mem _ wq_X6_41)
  have q44 := hts _ (List.mem_cons_of_mem _ wq_X6_44)
  have q51 := hts _ (List.mem_cons_of_mem _ wq_X6_51)
  have k26 : CallW rmX6_readOrder s args RX6 RX6 26 yX6_signHere cX6_signHere 1 (some .int) wsX6_signHere rmX6_signHere 0 0 0 := cwV 0 hts (gGoodV (fun w h => List.mem_cons_of_mem _ h) wk_X6_26) rfl rfl rfl (by decide +kernel) ⟨Nat.le_of_ble_eq_true rfl, Nat.le_of_ble_eq_true rfl⟩
  have k33 : CallW rmX6_readOrder s args RX6 RX6 33 yX6_numbersOf cX6_numbersOf 2 (some .int) wsX6_numbersOf rmX6_numbersOf 0 0 1 := cwV 1 hts (gGoodV (fun w h => List.mem_cons_of_mem _ h) wk_X6_33) rfl rfl rfl (by decide +kernel) ⟨Nat.le_of_ble_eq_true rfl, Nat.le_of_ble_eq_true rfl⟩
  have k37 : CallW rmX6_readOrder s args RX6 RX6 37 yX6_readNumber cX6_readNumber 2 (some .boolean) wsX6_readNumber rmX6_readNumber 0 0 0 := cwV 0 hts (gGoodV (fun w h => List.mem_cons_of_mem _ h) wk_X6_37) rfl rfl rfl (by decide +kernel) ⟨Nat.le_of_ble_eq_true rfl, Nat.le_of_ble_eq_true rfl⟩
  have k47 : CallW rmX6_readOrder s args RX6 RX6 47 yX6_readSign cX6_readSign 2 (some .boolean) wsX6_readSign rmX6_readSign 0 0 1 := cwV 1 hts (gGoodV (fun w h => List.mem_cons_of_mem _ h) wk_X6_47) rfl rfl rfl (by decide +kernel) ⟨Nat.le_of_ble_eq_true rfl, Nat.le_of_ble_eq_true rfl⟩
  have B_85 : ∀ (w : gWd)   (ls : Array Slot) (hl : lv_has ls 2 [(0, .ref (gA X 7 3))]) (hF : F_X6_readOrder_85 w = some (r, w')) (H : Heap) (locs : List Loc) (hW : gWo X 251 (gE X w) H) (hL : gLo X locs), W p l e rmX6_readOrder s m args below meth c H locs 0 0 (MQ below (gQi X r w') args s 0 0 (gFr X)) (F0 m 85 ls []) := by
    intro w ls hl hF H locs hW hL
    rw [F_X6_readOrder_85] at hF
    refine lv_aload_n hx hb dX6_readOrder_85 rfl (lv_at hl 0 rfl) ?_
    refine lv_aload_n hx hb dX6_readOrder_86 rfl (lv_at hl 0 rfl) ?_
    refine rg_X6_number hx hb hts inX6 hown hK hW q41 dX6_readOrder_87 ?_
    obtain ⟨w_11, ew_11, hF⟩ := gS_some hF
    refine rp_X6_second hx hb hts inX6 hown hK hW hL q51 dX6_readOrder_90 (fun H locs hW hL => ?_)
    rw [← ew_11] at hW
    refine lv_aload_n hx hb dX6_readOrder_93 rfl (lv_at hl 0 rfl) ?_
    refine lv_bipush (v := 59) hx hb dX6_readOrder_94 (by decide) ?_
    obtain ⟨v_13, w_14, hq_12, hF⟩ := gC_some hF
    refine g_Vi (As := [.int 59]) (rest := []) ⟨hx, hb, hml, hown, hts⟩ hK hW hL hl.1 (gok_c (by decide)) gE_T rfl (c_X6_readSign l X w_11 59 v_13 w_14 hq_12) k47 rfl rfl (Nat.le_of_ble_eq_true rfl) dX6_readOrder_96 ⟨Nat.le_of_ble_eq_true rfl, Nat.le_of_ble_eq_true rfl⟩ (fun H locs hW hL => ?_)
    obtain ⟨hz_15, hF⟩ := gZ_some hF
    exact g_rz hx hb hr hlocks (gW2 hF hW) hL hz_15 (gI2 hF).1 dX6_readOrder_99
  have B_54 : ∀ (w : gWd) (x1 : Int32)  (ls : Array Slot) (hl : lv_has ls 2 [(0, .ref (gA X 7 3)), (1, .int x1)]) (hF : F_X6_readOrder_54 w x1 = some (r, w')) (H : Heap) (locs : List Loc) (hW : gWo X 251 (gE X w) H) (hL : gLo X locs), W p l e rmX6_readOrder s m args below meth c H locs 0 0 (MQ below (gQi X r w') args s 0 0 (gFr X)) (F0 m 54 ls []) := by
    intro w x1 ls hl hF H locs hW hL
    rw [F_X6_readOrder_54] at hF
    refine lv_aload_n hx hb dX6_readOrder_54 rfl (lv_at hl 0 rfl) ?_
    refine lv_aload_n hx hb dX6_readOrder_55 rfl (lv_at hl 0 rfl) ?_
    refine rg_X6_number hx hb hts inX6 hown hK hW q41 dX6_readOrder_56 ?_
    obtain ⟨w_1, ew_1, hF⟩ := gS_some hF
    refine rp_X6_first hx hb hts inX6 hown hK hW hL q44 dX6_readOrder_59 (fun H locs hW hL => ?_)
    rw [← ew_1] at hW
    refine lv_iload_n hx hb dX6_readOrder_62 rfl (lv_at hl 1 rfl) ?_
    refine lv_iconst (v := 1) hx hb dX6_readOrder_63 (by decide) ?_
    refine lv_icmp_le (tgt := 85) hx hb dX6_readOrder_64 (by decide) (fun hc_2 => ?_) (fun hc_2 => ?_)
    · replace hF := gT hc_2 hF
      exact B_85 w_1  ls (lv_sub hl [0] rfl) hF H locs hW hL
    · replace hF := gF hc_2 hF
      refine lv_aload_n hx hb dX6_readOrder_67 rfl (lv_at hl 0 rfl) ?_
      refine lv_bipush (v := 44) hx hb dX6_readOrder_68 (by decide) ?_
      obtain ⟨v_4, w_5, hq_3, hF⟩ := gC_some hF
      refine g_Vi (As := [.int 44]) (rest := []) ⟨hx, hb, hml, hown, hts⟩ hK hW hL hl.1 (gok_c (by decide)) gE_T rfl (c_X6_readSign l X w_1 44 v_4 w_5 hq_3) k47 rfl rfl (Nat.le_of_ble_eq_true rfl) dX6_readOrder_70 ⟨Nat.le_of_ble_eq_true rfl, Nat.le_of_ble_eq_true rfl⟩ (fun H locs hW hL => ?_)
      refine lv_if_eq (tgt := 83) hx hb dX6_readOrder_73 (by decide) (fun hc_6 => ?_) (fun hc_6 => ?_)
      · replace hF := gT hc_6 hF
        refine lv_iconst (v := 0) hx hb dX6_readOrder_83 (by decide) ?_
        exact g_rz hx hb hr hlocks (gW2 hF hW) hL (Or.inl rfl) (gI2 hF).1 dX6_readOrder_84
      · replace hF := gF hc_6 hF
        refine lv_aload_n hx hb dX6_readOrder_76 rfl (lv_at hl 0 rfl) ?_
        obtain ⟨v_8, w_9, hq_7, hF⟩ := gC_some hF
        refine g_Vi (As := []) (rest := []) ⟨hx, hb, hml, hown, hts⟩ hK hW hL hl.1 (gok_c (by decide)) gE_T rfl (c_X6_readNumber l X w_5  v_8 w_9 hq_7) k37 rfl rfl (Nat.le_of_ble_eq_true rfl) dX6_readOrder_77 ⟨Nat.le_of_ble_eq_true rfl, Nat.le_of_ble_eq_true rfl⟩ (fun H locs hW hL => ?_)
        refine lv_if_ne (tgt := 85) hx hb dX6_readOrder_80 (by decide) (fun hc_10 => ?_) (fun hc_10 => ?_)
        · replace hF := gF hc_10 hF
          exact B_85 w_9  ls (lv_sub hl [0] rfl) hF H locs hW hL
        · replace hF := gT hc_10 hF
          refine lv_iconst (v := 0) hx hb dX6_readOrder_83 (by decide) ?_
          exact g_rz hx hb hr hlocks (gW2 hF hW) hL (Or.inl rfl) (gI2 hF).1 dX6_readOrder_84
  rw [F_X6_readOrder] at hF
  obtain ⟨locs, hlocs⟩ : ∃ locs : List Loc, locs = [] := ⟨_, rfl⟩
  rw [← hlocs] at hL ⊢
  refine lv_aload_n hx hb dX6_readOrder_0 rfl (lv_at hl 0 rfl) ?_
  refine lv_aload_n hx hb dX6_readOrder_1 rfl (lv_at hl 0 rfl) ?_
  refine rg_X6_position hx hb hts inX6 hown hK hW q20 dX6_readOrder_2 ?_
  obtain ⟨w_16, ew_16, hF⟩ := gS_some hF
  refine rp_X6_start hx hb hts inX6 hown hK hW hL q23 dX6_readOrder_5 (fun H locs hW hL => ?_)
  rw [← ew_16] at hW
  refine lv_aload_n hx hb dX6_readOrder_8 rfl (lv_at hl 0 rfl) ?_
  refine lv_aload_n hx hb dX6_readOrder_9 rfl (lv_at hl 0 rfl) ?_
  obtain ⟨v_18, hq_17, hF⟩ := gP_some hF
  refine g_Vi (As := []) (rest := [.ref (gA X 7 3)]) ⟨hx, hb, hml, hown, hts⟩ hK hW hL hl.1 (gok_c (by decide)) gE_T rfl (c_X6_signHere l X w_16  v_18 hq_17) k26 rfl rfl (Nat.le_of_ble_eq_true rfl) dX6_readOrder_10 ⟨Nat.le_of_ble_eq_true rfl, Nat.le_of_ble_eq_true rfl⟩ (fun H locs hW hL => ?_)
  obtain ⟨w_19, ew_19, hF⟩ := gS_some hF
  refine rp_X6_kind hx hb hts inX6 hown hK hW hL q30 dX6_readOrder_13 (fun H locs hW hL => ?_)
  rw [← ew_19] at hW
  refine lv_aload_n hx hb dX6_readOrder_16 rfl (lv_at hl 0 rfl) ?_
  refine lv_aload_n hx hb dX6_readOrder_17 rfl (lv_at hl 0 rfl) ?_
  refine rg_X6_kind hx hb hts inX6 hown hK hW q30 dX6_readOrder_18 ?_
  obtain ⟨v_21, hq_20, hF⟩ := gP_some hF
  refine g_Vi (As := [.int (w_19 7 3 4)]) (rest := []) ⟨hx, hb, hml, hown, hts⟩ hK hW hL hl.1 (gok_c (by decide)) gE_T rfl (c_X6_numbersOf l X w_19 ((w_19 7 3 4)) v_21 hq_20) k33 rfl rfl (Nat.le_of_ble_eq_true rfl) dX6_readOrder_21 ⟨Nat.le_of_ble_eq_true rfl, Nat.le_of_ble_eq_true rfl⟩ (fun H locs hW hL => ?_)
  refine lv_istore_n (lv' := [(1, .int v_21), (0, .ref (gA X 7 3))]) hx hb dX6_readOrder_24 rfl hl (by decide) rfl (fun ls hl => ?_)
  refine lv_iload_n hx hb dX6_readOrder_25 rfl (lv_at hl 0 rfl) ?_
  refine lv_if_ge (tgt := 31) hx hb dX6_readOrder_26 (by decide) (fun hc_22 => ?_) (fun hc_22 => ?_)
  · replace hF := gT hc_22 hF
    refine lv_aload_n hx hb dX6_readOrder_31 rfl (lv_at hl 1 rfl) ?_
    refine lv_dup hx hb dX6_readOrder_32 rfl ?_
    refine rg_X6_position hx hb hts inX6 hown hK hW q20 dX6_readOrder_33 ?_
    refine lv_iconst (v := 1) hx hb dX6_readOrder_36 (by decide) ?_
    refine lv_iadd hx hb dX6_readOrder_37 ?_
    obtain ⟨w_23, ew_23, hF⟩ := gS_some hF
    refine rp_X6_position hx hb hts inX6 hown hK hW hL q20 dX6_readOrder_38 (fun H locs hW hL => ?_)
    rw [← ew_23] at hW
    refine lv_iload_n hx hb dX6_readOrder_41 rfl (lv_at hl 0 rfl) ?_
    refine lv_if_le (tgt := 54) hx hb dX6_readOrder_42 (by decide) (fun hc_24 => ?_) (fun hc_24 => ?_)
    · replace hF := gT hc_24 hF
      exact B_54 w_23 v_21 ls (lv_sub hl [1, 0] rfl) hF H locs hW hL
    · replace hF := gF hc_24 hF
      refine lv_aload_n hx hb dX6_readOrder_45 rfl (lv_at hl 1 rfl) ?_
      obtain ⟨v_26, w_27, hq_25, hF⟩ := gC_some hF
      refine g_Vi (As := []) (rest := []) ⟨hx, hb, hml, hown, hts⟩ hK hW hL hl.1 (gok_c (by decide)) gE_T rfl (c_X6_readNumber l X w_23  v_26 w_27 hq_25) k37 rfl rfl (Nat.le_of_ble_eq_true rfl) dX6_readOrder_46 ⟨Nat.le_of_ble_eq_true rfl, Nat.le_of_ble_eq_true rfl⟩ (fun H locs hW hL => ?_)
      refine lv_if_ne (tgt := 54) hx hb dX6_readOrder_49 (by decide) (fun hc_28 => ?_) (fun hc_28 => ?_)
      · replace hF := gF hc_28 hF
        exact B_54 w_27 v_21 ls (lv_sub hl [1, 0] rfl) hF H locs hW hL
      · replace hF := gT hc_28 hF
        refine lv_iconst (v := 0) hx hb dX6_readOrder_52 (by decide) ?_
        exact g_rz hx hb hr hlocks (gW2 hF hW) hL (Or.inl rfl) (gI2 hF).1 dX6_readOrder_53
  · replace hF := gF hc_22 hF
    refine lv_iconst (v := 0) hx hb dX6_readOrder_29 (by decide) ?_
    exact g_rz hx hb hr hlocks (gW2 hF hW) hL (Or.inl rfl) (gI2 hF).1 dX6_readOrder_30
abbrev rmX6_rewind : Room := { frames := 0, cells := 0, slots := 0, locals := 0 }
abbrev wsX6_rewind : List Cond := gws yX6_rewind cX6_rewind 1 none
set_option maxHeartbeats 4000000 in
set_option maxRecDepth 100000 in
theorem c_X6_rewind (l : Launch) (X : gX) (w : gWd)  (w' : gWd) (hF : F_X6_rewind w = some w') : Met l yX6_rewind wsX6_rewind rmX6_rewind (gPc X [.ref (gA X 7 3)] w) (gQv X w') 0 0 (gFr X) := by
  refine g_ofW (cc := cX6_rewind) (maxL := 1) (ret := none) (by decide) rfl (Nat.le_of_ble_eq_true rfl) (fun p e s m args below meth c ls H hx hb hr hts hown hlocks hml hK hl hW => ?_)
  have hl : lv_has ls 1 [(0, .ref (gA X 7 3))] := hl
  have hown : s.vm.findClass RX6 = some m.cls := hown
  have hL : gLo X [] := gLo_nil
  show W p l e rmX6_rewind s m args below meth c H [] 0 0 _ _
  have inX6 : ∀ w ∈ wsX60, w ∈ wsX6_rewind := fun w h => List.mem_cons_of_mem _ (inlX6 w h)
  have q20 := hts _ (List.mem_cons_of_mem _ wq_X6_20)
  rw [F_X6_rewind] at hF
  obtain ⟨locs, hlocs⟩ : ∃ locs : List Loc, locs = [] := ⟨_, rfl⟩
  rw [← hlocs] at hL ⊢
  refine lv_aload_n hx hb dX6_rewind_0 rfl (lv_at hl 0 rfl) ?_
  refine lv_iconst (v := 0) hx hb dX6_rewind_1 (by decide) ?_
  obtain ⟨w_1, ew_1, hF⟩ := gS_some hF
  refine rp_X6_position hx hb hts inX6 hown hK hW hL q20 dX6_rewind_2 (fun H locs hW hL => ?_)
  rw [← ew_1] at hW
  exact g_rv hx hb hr hlocks (gW1 hF hW) hL dX6_rewind_5
abbrev rmX7_obey : Room := { frames := 5, cells := 0, slots := 0, locals := 110 }
abbrev wsX7_obey : List Cond := gws yX7_obey cX7_obey 3 (some .int)
set_option maxHeartbeats 4000000 in
set_option maxRecDepth 100000 in
theorem c_X7_obey (l : Launch) (X : gX) (w : gWd) (i2 : Nat) (hi2 : i2 < 7) (r : Int32) (w' : gWd) (hF : F_X7_obey w i2 = some (r, w')) : Met l yX7_obey wsX7_obey rmX7_obey (gPc X [.ref (gA X 7 5), .ref (gA X 7 3), .ref (gA X i2 0)] w) (gQi X r w') 0 0 (gFr X) := by
  refine g_ofW (cc := cX7_obey) (maxL := 3) (ret := (some .int)) (by decide) rfl (Nat.le_of_ble_eq_true rfl) (fun p e s m args below meth c ls H hx hb hr hts hown hlocks hml hK hl hW => ?_)
  have hl : lv_has ls 3 [(0, .ref (gA X 7 5)), (1, .ref (gA X 7 3)), (2, .ref (gA X i2 0))] := hl
  have hown : s.vm.findClass RX7 = some m.cls := hown
  have hL : gLo X [] := gLo_nil
  show W p l e rmX7_obey s m args below meth c H [] 0 0 _ _
  have inX6 : ∀ w ∈ wsX60, w ∈ wsX7_obey := fun w h => List.mem_cons_of_mem _ (inlX6 w h)
  have q50 := hts _ (List.mem_cons_of_mem _ wq_X7_50)
  have q53 := hts _ (List.mem_cons_of_mem _ wq_X7_53)
  have q56 := hts _ (List.mem_cons_of_mem _ wq_X7_56)
  have q85 := hts _ (List.mem_cons_of_mem _ wq_X7_85)
  have k59 : CallB rmX7_obey s args RX7 59 yX1_addSwimmer cX1_addSwimmer 3 (some .int) wsX1_addSwimmer rmX1_addSwimmer 0 0 3 ∧ (Cond.static yX1_addSwimmer).before args s = true := va_cwS 3 hts (gGoodS (fun w h => List.mem_cons_of_mem _ h) wk_X7_59) rfl rfl rfl (by decide +kernel) ⟨Nat.le_of_ble_eq_true rfl, Nat.le_of_ble_eq_true rfl⟩
  have k65 : CallB rmX7_obey s args RX7 65 yX1_giveTime cX1_giveTime 4 (some .int) wsX1_giveTime rmX1_giveTime 0 0 3 ∧ (Cond.static yX1_giveTime).before args s = true := va_cwS 3 hts (gGoodS (fun w h => List.mem_cons_of_mem _ h) wk_X7_65) rfl rfl rfl (by decide +kernel) ⟨Nat.le_of_ble_eq_true rfl, Nat.le_of_ble_eq_true rfl⟩
  have k68 : CallB rmX7_obey s args RX7 68 yX1_withdraw cX1_withdraw 3 (some .int) wsX1_withdraw rmX1_withdraw 0 0 2 ∧ (Cond.static yX1_withdraw).before args s = true := va_cwS 2 hts (gGoodS (fun w h => List.mem_cons_of_mem _ h) wk_X7_68) rfl rfl rfl (by decide +kernel) ⟨Nat.le_of_ble_eq_true rfl, Nat.le_of_ble_eq_true rfl⟩
  have k72 : CallB rmX7_obey s args RX7 72 yX1_drawHeats cX1_drawHeats 2 (some .int) wsX1_drawHeats rmX1_drawHeats 0 0 1 ∧ (Cond.static yX1_drawHeats).before args s = true := va_cwS 1 hts (gGoodS (fun w h => List.mem_cons_of_mem _ h) wk_X7_72) rfl rfl rfl (by decide +kernel) ⟨Nat.le_of_ble_eq_true rfl, Nat.le_of_ble_eq_true rfl⟩
  have k76 : CallB rmX7_obey s args RX7 76 yX1_drawFinal cX1_drawFinal 2 (some .int) wsX1_drawFinal rmX1_drawFinal 0 0 1 ∧ (Cond.static yX1_drawFinal).before args s = true := va_cwS 1 hts (gGoodS (fun w h => List.mem_cons_of_mem _ h) wk_X7_76) rfl rfl rfl (by decide +kernel) ⟨Nat.le_of_ble_eq_true rfl, Nat.le_of_ble_eq_true rfl⟩
  have k79 : CallB rmX7_obey s args RX7 79 yX1_endEvent cX1_endEvent 3 (some .int) wsX1_endEvent rmX1_endEvent 0 0 1 ∧ (Cond.static yX1_endEvent).before args s = true := va_cwS 1 hts (gGoodS (fun w h => List.mem_cons_of_mem _ h) wk_X7_79) rfl rfl rfl (by decide +kernel) ⟨Nat.le_of_ble_eq_true rfl, Nat.le_of_ble_eq_true rfl⟩
  have k82 : CallB rmX7_obey s args RX7 82 yX1_beginNextEvent cX1_beginNextEvent 5 (some .int) wsX1_beginNextEvent rmX1_beginNextEvent 0 0 1 ∧ (Cond.static yX1_beginNextEvent).before args s = true := va_cwS 1 hts (gGoodS (fun w h => List.mem_cons_of_mem _ h) wk_X7_82) rfl rfl rfl (by decide +kernel) ⟨Nat.le_of_ble_eq_true rfl, Nat.le_of_ble_eq_true rfl⟩
  rw [F_X7_obey] at hF
  obtain ⟨locs, hlocs⟩ : ∃ locs : List Loc, locs = [] := ⟨_, rfl⟩
  rw [← hlocs] at hL ⊢
  refine lv_aload_n hx hb dX7_obey_0 rfl (lv_at hl 1 rfl) ?_
  refine rg_X6_kind hx hb hts inX6 hown hK hW q50 dX7_obey_1 ?_
  by_cases hc_1 : (w 7 3 4) = 100
  · replace hF := gT hc_1 hF
    refine lv_tableIn (off := 135) (tgt := 139) hx hb dX7_obey_4 (by rw [hc_1]; decide) (by rw [hc_1]; decide) (by rw [hc_1]; rfl) (by decide) ?_
    refine lv_aload_n hx hb dX7_obey_139 rfl (lv_at hl 2 rfl) ?_
    obtain ⟨v_3, w_4, hq_2, hF⟩ := gC_some hF
    refine g_Si (As := [.ref (gA X i2 0)]) (rest := []) ⟨hx, hb, hml, hown, hts⟩ hK hW hL hl.1 (c_X1_drawHeats l X w i2 hi2 v_3 w_4 hq_2) k72 rfl rfl (Nat.le_of_ble_eq_true rfl) dX7_obey_140 ⟨Nat.le_of_ble_eq_true rfl, Nat.le_of_ble_eq_true rfl⟩ (fun H locs hW hL => ?_)
    exact g_ri hx hb hr hlocks (gW2 hF hW) hL (gI2 hF).1 dX7_obey_143
  · replace hF := gF hc_1 hF
    by_cases hc_5 : (w 7 3 4) = 101
    · replace hF := gT hc_5 hF
      refine lv_tableIn (off := 100) (tgt := 104) hx hb dX7_obey_4 (by rw [hc_5]; decide) (by rw [hc_5]; decide) (by rw [hc_5]; rfl) (by decide) ?_
      refine lv_aload_n hx hb dX7_obey_104 rfl (lv_at hl 2 rfl) ?_
      refine lv_aload_n hx hb dX7_obey_105 rfl (lv_at hl 1 rfl) ?_
      refine rg_X6_first hx hb hts inX6 hown hK hW q53 dX7_obey_106 ?_
      refine lv_aload_n hx hb dX7_obey_109 rfl (lv_at hl 1 rfl) ?_
      refine rg_X6_second hx hb hts inX6 hown hK hW q56 dX7_obey_110 ?_
      obtain ⟨v_7, w_8, hq_6, hF⟩ := gC_some hF
      refine g_Si (As := [.ref (gA X i2 0), .int (w 7 3 5), .int (w 7 3 6)]) (rest := []) ⟨hx, hb, hml, hown, hts⟩ hK hW hL hl.1 (c_X1_addSwimmer l X w i2 hi2 ((w 7 3 5)) ((w 7 3 6)) v_7 w_8 hq_6) k59 rfl rfl (Nat.le_of_ble_eq_true rfl) dX7_obey_113 ⟨Nat.le_of_ble_eq_true rfl, Nat.le_of_ble_eq_true rfl⟩ (fun H locs hW hL => ?_)
      exact g_ri hx hb hr hlocks (gW2 hF hW) hL (gI2 hF).1 dX7_obey_116
    · replace hF := gF hc_5 hF
      by_cases hc_9 : (w 7 3 4) = 102
      · replace hF := gT hc_9 hF
        refine lv_tableIn (off := 140) (tgt := 144) hx hb dX7_obey_4 (by rw [hc_9]; decide) (by rw [hc_9]; decide) (by rw [hc_9]; rfl) (by decide) ?_
        refine lv_aload_n hx hb dX7_obey_144 rfl (lv_at hl 2 rfl) ?_
        obtain ⟨v_11, w_12, hq_10, hF⟩ := gC_some hF
        refine g_Si (As := [.ref (gA X i2 0)]) (rest := []) ⟨hx, hb, hml, hown, hts⟩ hK hW hL hl.1 (c_X1_drawFinal l X w i2 hi2 v_11 w_12 hq_10) k76 rfl rfl (Nat.le_of_ble_eq_true rfl) dX7_obey_145 ⟨Nat.le_of_ble_eq_true rfl, Nat.le_of_ble_eq_true rfl⟩ (fun H locs hW hL => ?_)
        exact g_ri hx hb hr hlocks (gW2 hF hW) hL (gI2 hF).1 dX7_obey_148
      · replace hF := gF hc_9 hF
        by_cases hc_13 : (w 7 3 4) = 110
        · replace hF := gT hc_13 hF
          refine lv_tableIn (off := 150) (tgt := 154) hx hb dX7_obey_4 (by rw [hc_13]; decide) (by rw [hc_13]; decide) (by rw [hc_13]; rfl) (by decide) ?_
          refine lv_aload_n hx hb dX7_obey_154 rfl (lv_at hl 2 rfl) ?_
          obtain ⟨v_15, w_16, hq_14, hF⟩ := gC_some hF
          refine g_Si (As := [.ref (gA X i2 0)]) (rest := []) ⟨hx, hb, hml, hown, hts⟩ hK hW hL hl.1 (c_X1_beginNextEvent l X w i2 hi2 v_15 w_16 hq_14) k82 rfl rfl (Nat.le_of_ble_eq_true rfl) dX7_obey_155 ⟨Nat.le_of_ble_eq_true rfl, Nat.le_of_ble_eq_true rfl⟩ (fun H locs hW hL => ?_)
          exact g_ri hx hb hr hlocks (gW2 hF hW) hL (gI2 hF).1 dX7_obey_158
        · replace hF := gF hc_13 hF
          by_cases hc_17 : (w 7 3 4) = 111
          · replace hF := gT hc_17 hF
            refine lv_tableIn (off := 145) (tgt := 149) hx hb dX7_obey_4 (by rw [hc_17]; decide) (by rw [hc_17]; decide) (by rw [hc_17]; rfl) (by decide) ?_
            refine lv_aload_n hx hb dX7_obey_149 rfl (lv_at hl 2 rfl) ?_
            obtain ⟨v_19, w_20, hq_18, hF⟩ := gC_some hF
            refine g_Si (As := [.ref (gA X i2 0)]) (rest := []) ⟨hx, hb, hml, hown, hts⟩ hK hW hL hl.1 (c_X1_endEvent l X w i2 hi2 v_19 w_20 hq_18) k79 rfl rfl (Nat.le_of_ble_eq_true rfl) dX7_obey_150 ⟨Nat.le_of_ble_eq_true rfl, Nat.le_of_ble_eq_true rfl⟩ (fun H locs hW hL => ?_)
            exact g_ri hx hb hr hlocks (gW2 hF hW) hL (gI2 hF).1 dX7_obey_153
          · replace hF := gF hc_17 hF
            by_cases hc_21 : (w 7 3 4) = 115
            · replace hF := gT hc_21 hF
              refine lv_tableIn (off := 113) (tgt := 117) hx hb dX7_obey_4 (by rw [hc_21]; decide) (by rw [hc_21]; decide) (by rw [hc_21]; rfl) (by decide) ?_
              refine lv_aload_n hx hb dX7_obey_117 rfl (lv_at hl 2 rfl) ?_
              refine lv_aload_n hx hb dX7_obey_118 rfl (lv_at hl 1 rfl) ?_
              refine rg_X6_first hx hb hts inX6 hown hK hW q53 dX7_obey_119 ?_
              refine lv_aload_n hx hb dX7_obey_122 rfl (lv_at hl 1 rfl) ?_
              refine rg_X6_second hx hb hts inX6 hown hK hW q56 dX7_obey_123 ?_
              obtain ⟨v_23, w_24, hq_22, hF⟩ := gC_some hF
              refine g_Si (As := [.ref (gA X i2 0), .int (w 7 3 5), .int (w 7 3 6)]) (rest := []) ⟨hx, hb, hml, hown, hts⟩ hK hW hL hl.1 (c_X1_giveTime l X w i2 hi2 ((w 7 3 5)) ((w 7 3 6)) v_23 w_24 hq_22) k65 rfl rfl (Nat.le_of_ble_eq_true rfl) dX7_obey_126 ⟨Nat.le_of_ble_eq_true rfl, Nat.le_of_ble_eq_true rfl⟩ (fun H locs hW hL => ?_)
              exact g_ri hx hb hr hlocks (gW2 hF hW) hL (gI2 hF).1 dX7_obey_129
            · replace hF := gF hc_21 hF
              by_cases hc_25 : (w 7 3 4) = 120
              · replace hF := gT hc_25 hF
                refine lv_tableIn (off := 126) (tgt := 130) hx hb dX7_obey_4 (by rw [hc_25]; decide) (by rw [hc_25]; decide) (by rw [hc_25]; rfl) (by decide) ?_
                refine lv_aload_n hx hb dX7_obey_130 rfl (lv_at hl 2 rfl) ?_
                refine lv_aload_n hx hb dX7_obey_131 rfl (lv_at hl 1 rfl) ?_
                refine rg_X6_first hx hb hts inX6 hown hK hW q53 dX7_obey_132 ?_
                obtain ⟨v_27, w_28, hq_26, hF⟩ := gC_some hF
                refine g_Si (As := [.ref (gA X i2 0), .int (w 7 3 5)]) (rest := []) ⟨hx, hb, hml, hown, hts⟩ hK hW hL hl.1 (c_X1_withdraw l X w i2 hi2 ((w 7 3 5)) v_27 w_28 hq_26) k68 rfl rfl (Nat.le_of_ble_eq_true rfl) dX7_obey_135 ⟨Nat.le_of_ble_eq_true rfl, Nat.le_of_ble_eq_true rfl⟩ (fun H locs hW hL => ?_)
                exact g_ri hx hb hr hlocks (gW2 hF hW) hL (gI2 hF).1 dX7_obey_138
              · replace hF := gF hc_25 hF
                by_cases hc_29 : (w 7 3 4) = 103
                · refine lv_tableIn (off := 155) (tgt := 159) hx hb dX7_obey_4 (by rw [hc_29]; decide) (by rw [hc_29]; decide) (by rw [hc_29]; rfl) (by decide) ?_
                  refine lv_ldc hx hb hown q85 dX7_obey_159 ?_
                  exact g_ri hx hb hr hlocks (gW2 hF hW) hL (gI2 hF).1 dX7_obey_161
                · skip
                  by_cases hc_30 : (w 7 3 4) = 104
                  · refine lv_tableIn (off := 155) (tgt := 159) hx hb dX7_obey_4 (by rw [hc_30]; decide) (by rw [hc_30]; decide) (by rw [hc_30]; rfl) (by decide) ?_
                    refine lv_ldc hx hb hown q85 dX7_obey_159 ?_
                    exact g_ri hx hb hr hlocks (gW2 hF hW) hL (gI2 hF).1 dX7_obey_161
                  · skip
                    by_cases hc_31 : (w 7 3 4) = 105
                    · refine lv_tableIn (off := 155) (tgt := 159) hx hb dX7_obey_4 (by rw [hc_31]; decide) (by rw [hc_31]; decide) (by rw [hc_31]; rfl) (by decide) ?_
                      refine lv_ldc hx hb hown q85 dX7_obey_159 ?_
                      exact g_ri hx hb hr hlocks (gW2 hF hW) hL (gI2 hF).1 dX7_obey_161
                    · skip
                      by_cases hc_32 : (w 7 3 4) = 106
                      · refine lv_tableIn (off := 155) (tgt := 159) hx hb dX7_obey_4 (by rw [hc_32]; decide) (by rw [hc_32]; decide) (by rw [hc_32]; rfl) (by decide) ?_
                        refine lv_ldc hx hb hown q85 dX7_obey_159 ?_
                        exact g_ri hx hb hr hlocks (gW2 hF hW) hL (gI2 hF).1 dX7_obey_161
                      · skip
                        by_cases hc_33 : (w 7 3 4) = 107
                        · refine lv_tableIn (off := 155) (tgt := 159) hx hb dX7_obey_4 (by rw [hc_33]; decide) (by rw [hc_33]; decide) (by rw [hc_33]; rfl) (by decide) ?_
                          refine lv_ldc hx hb hown q85 dX7_obey_159 ?_
                          exact g_ri hx hb hr hlocks (gW2 hF hW) hL (gI2 hF).1 dX7_obey_161
                        · skip
                          by_cases hc_34 : (w 7 3 4) = 108
                          · refine lv_tableIn (off := 155) (tgt := 159) hx hb dX7_obey_4 (by rw [hc_34]; decide) (by rw [hc_34]; decide) (by rw [hc_34]; rfl) (by decide) ?_
                            refine lv_ldc hx hb hown q85 dX7_obey_159 ?_
                            exact g_ri hx hb hr hlocks (gW2 hF hW) hL (gI2 hF).1 dX7_obey_161
                          · skip
                            by_cases hc_35 : (w 7 3 4) = 109
                            · refine lv_tableIn (off := 155) (tgt := 159) hx hb dX7_obey_4 (by rw [hc_35]; decide) (by rw [hc_35]; decide) (by rw [hc_35]; rfl) (by decide) ?_
                              refine lv_ldc hx hb hown q85 dX7_obey_159 ?_
                              exact g_ri hx hb hr hlocks (gW2 hF hW) hL (gI2 hF).1 dX7_obey_161
                            · skip
                              by_cases hc_36 : (w 7 3 4) = 112
                              · refine lv_tableIn (off := 155) (tgt := 159) hx hb dX7_obey_4 (by rw [hc_36]; decide) (by rw [hc_36]; decide) (by rw [hc_36]; rfl) (by decide) ?_
                                refine lv_ldc hx hb hown q85 dX7_obey_159 ?_
                                exact g_ri hx hb hr hlocks (gW2 hF hW) hL (gI2 hF).1 dX7_obey_161
                              · skip
                                by_cases hc_37 : (w 7 3 4) = 113
                                · refine lv_tableIn (off := 155) (tgt := 159) hx hb dX7_obey_4 (by rw [hc_37]; decide) (by rw [hc_37]; decide) (by rw [hc_37]; rfl) (by decide) ?_
                                  refine lv_ldc hx hb hown q85 dX7_obey_159 ?_
                                  exact g_ri hx hb hr hlocks (gW2 hF hW) hL (gI2 hF).1 dX7_obey_161
                                · skip
                                  by_cases hc_38 : (w 7 3 4) = 114
                                  · refine lv_tableIn (off := 155) (tgt := 159) hx hb dX7_obey_4 (by rw [hc_38]; decide) (by rw [hc_38]; decide) (by rw [hc_38]; rfl) (by decide) ?_
                                    refine lv_ldc hx hb hown q85 dX7_obey_159 ?_
                                    exact g_ri hx hb hr hlocks (gW2 hF hW) hL (gI2 hF).1 dX7_obey_161
                                  · skip
                                    by_cases hc_39 : (w 7 3 4) = 116
                                    · refine lv_tableIn (off := 155) (tgt := 159) hx hb dX7_obey_4 (by rw [hc_39]; decide) (by rw [hc_39]; decide) (by rw [hc_39]; rfl) (by decide) ?_
                                      refine lv_ldc hx hb hown q85 dX7_obey_159 ?_
                                      exact g_ri hx hb hr hlocks (gW2 hF hW) hL (gI2 hF).1 dX7_obey_161
                                    · skip
                                      by_cases hc_40 : (w 7 3 4) = 117
                                      · refine lv_tableIn (off := 155) (tgt := 159) hx hb dX7_obey_4 (by rw [hc_40]; decide) (by rw [hc_40]; decide) (by rw [hc_40]; rfl) (by decide) ?_
                                        refine lv_ldc hx hb hown q85 dX7_obey_159 ?_
                                        exact g_ri hx hb hr hlocks (gW2 hF hW) hL (gI2 hF).1 dX7_obey_161
                                      · skip
                                        by_cases hc_41 : (w 7 3 4) = 118
                                        · refine lv_tableIn (off := 155) (tgt := 159) hx hb dX7_obey_4 (by rw [hc_41]; decide) (by rw [hc_41]; decide) (by rw [hc_41]; rfl) (by decide) ?_
                                          refine lv_ldc hx hb hown q85 dX7_obey_159 ?_
                                          exact g_ri hx hb hr hlocks (gW2 hF hW) hL (gI2 hF).1 dX7_obey_161
                                        · skip
                                          by_cases hc_42 : (w 7 3 4) = 119
                                          · refine lv_tableIn (off := 155) (tgt := 159) hx hb dX7_obey_4 (by rw [hc_42]; decide) (by rw [hc_42]; decide) (by rw [hc_42]; rfl) (by decide) ?_
                                            refine lv_ldc hx hb hown q85 dX7_obey_159 ?_
                                            exact g_ri hx hb hr hlocks (gW2 hF hW) hL (gI2 hF).1 dX7_obey_161
                                          · skip
                                            refine lv_tableOut (tgt := 159) hx hb dX7_obey_4 (g_tabOut (fun k h1 h2 h3 => ?_)) (by decide) ?_
                                            · have hk : k = 100 ∨ k = 101 ∨ k = 102 ∨ k = 103 ∨ k = 104 ∨ k = 105 ∨ k = 106 ∨ k = 107 ∨ k = 108 ∨ k = 109 ∨ k = 110 ∨ k = 111 ∨ k = 112 ∨ k = 113 ∨ k = 114 ∨ k = 115 ∨ k = 116 ∨ k = 117 ∨ k = 118 ∨ k = 119 ∨ k = 120 := by omega
                                              rcases hk with rfl | rfl | rfl | rfl | rfl | rfl | rfl | rfl | rfl | rfl | rfl | rfl | rfl | rfl | rfl | rfl | rfl | rfl | rfl | rfl | rfl
                                              · exact hc_1 (Int32.toInt_inj.mp (h3.trans (by decide)))
                                              · exact hc_5 (Int32.toInt_inj.mp (h3.trans (by decide)))
                                              · exact hc_9 (Int32.toInt_inj.mp (h3.trans (by decide)))
                                              · exact hc_29 (Int32.toInt_inj.mp (h3.trans (by decide)))
                                              · exact hc_30 (Int32.toInt_inj.mp (h3.trans (by decide)))
                                              · exact hc_31 (Int32.toInt_inj.mp (h3.trans (by decide)))
                                              · exact hc_32 (Int32.toInt_inj.mp (h3.trans (by decide)))
                                              · exact hc_33 (Int32.toInt_inj.mp (h3.trans (by decide)))
                                              · exact hc_34 (Int32.toInt_inj.mp (h3.trans (by decide)))
                                              · exact hc_35 (Int32.toInt_inj.mp (h3.trans (by decide)))
                                              · exact hc_13 (Int32.toInt_inj.mp (h3.trans (by decide)))
                                              · exact hc_17 (Int32.toInt_inj.mp (h3.trans (by decide)))
                                              · exact hc_36 (Int32.toInt_inj.mp (h3.trans (by decide)))
                                              · exact hc_37 (Int32.toInt_inj.mp (h3.trans (by decide)))
                                              · exact hc_38 (Int32.toInt_inj.mp (h3.trans (by decide)))
                                              · exact hc_21 (Int32.toInt_inj.mp (h3.trans (by decide)))
                                              · exact hc_39 (Int32.toInt_inj.mp (h3.trans (by decide)))
                                              · exact hc_40 (Int32.toInt_inj.mp (h3.trans (by decide)))
                                              · exact hc_41 (Int32.toInt_inj.mp (h3.trans (by decide)))
                                              · exact hc_42 (Int32.toInt_inj.mp (h3.trans (by decide)))
                                              · exact hc_25 (Int32.toInt_inj.mp (h3.trans (by decide)))
                                            · skip
                                              refine lv_ldc hx hb hown q85 dX7_obey_159 ?_
                                              exact g_ri hx hb hr hlocks (gW2 hF hW) hL (gI2 hF).1 dX7_obey_161
abbrev rmX7_tryOrders : Room := { frames := 6, cells := 0, slots := 0, locals := 132 }
abbrev wsX7_tryOrders : List Cond := gws yX7_tryOrders cX7_tryOrders 7 none
set_option maxHeartbeats 4000000 in
set_option maxRecDepth 100000 in
theorem c_X7_tryOrders (l : Launch) (X : gX) (w : gWd) (i2 : Nat) (hi2 : i2 < 7) (i3 : Nat) (hi3 : i3 < 7) (w' : gWd) (hF : F_X7_tryOrders w i2 i3 = some w') : Met l yX7_tryOrders wsX7_tryOrders rmX7_tryOrders (gPc X [.ref (gA X 7 5), .ref (gA X 7 3), .ref (gA X i2 0), .ref (gA X i3 0)] w) (gQv X w') 0 0 (gFr X) := by
  refine g_ofW (cc := cX7_tryOrders) (maxL := 7) (ret := none) (by decide) rfl (Nat.le_of_ble_eq_true rfl) (fun p e s m args below meth c ls H hx hb hr hts hown hlocks hml hK hl hW => ?_)
  have hl : lv_has ls 7 [(0, .ref (gA X 7 5)), (1, .ref (gA X 7 3)), (2, .ref (gA X i2 0)), (3, .ref (gA X i3 0))] := hl
  have hown : s.vm.findClass RX7 = some m.cls := hown
  have hL : gLo X [] := gLo_nil
  show W p l e rmX7_tryOrders s m args below meth c H [] 0 0 _ _
  have inX6 : ∀ w ∈ wsX60, w ∈ wsX7_tryOrders := fun w h => List.mem_cons_of_mem _ (inlX6 w h)
  have inX7 : ∀ w ∈ wsX70, w ∈ wsX7_tryOrders := fun w h => List.mem_cons_of_mem _ (inlX7 w h)
  have q15 := hts _ (List.mem_cons_of_mem _ wq_X7_15)
  have q21 := hts _ (List.mem_cons_of_mem _ wq_X7_21)
  have q40 := hts _ (List.mem_cons_of_mem _ wq_X7_40)
  have q43 := hts _ (List.mem_cons_of_mem _ wq_X7_43)
  have q46 := hts _ (List.mem_cons_of_mem _ wq_X7_46)
  have q47 := hts _ (List.mem_cons_of_mem _ wq_X7_47)
  have k24 : CallW rmX7_tryOrders s args RX7 RX6 24 yX6_rewind cX6_rewind 1 none wsX6_rewind rmX6_rewind 0 0 0 := cwV 0 hts (gGoodV (fun w h => List.mem_cons_of_mem _ h) wk_X7_24) rfl rfl rfl (by decide +kernel) ⟨Nat.le_of_ble_eq_true rfl, Nat.le_of_ble_eq_true rfl⟩
  have k29 : CallW rmX7_tryOrders s args RX7 RX6 29 yX6_hasMore cX6_hasMore 1 (some .boolean) wsX6_hasMore rmX6_hasMore 0 0 0 := cwV 0 hts (gGoodV (fun w h => List.mem_cons_of_mem _ h) wk_X7_29) rfl rfl rfl (by decide +kernel) ⟨Nat.le_of_ble_eq_true rfl, Nat.le_of_ble_eq_true rfl⟩
  have k33 : CallW rmX7_tryOrders s args RX7 RX6 33 yX6_readOrder cX6_readOrder 2 (some .boolean) wsX6_readOrder rmX6_readOrder 0 0 0 := cwV 0 hts (gGoodV (fun w h => List.mem_cons_of_mem _ h) wk_X7_33) rfl rfl rfl (by decide +kernel) ⟨Nat.le_of_ble_eq_true rfl, Nat.le_of_ble_eq_true rfl⟩
  have k36 : CallW rmX7_tryOrders s args RX7 RX7 36 yX7_obey cX7_obey 3 (some .int) wsX7_obey rmX7_obey 0 0 2 := cwV 2 hts (gGoodV (fun w h => List.mem_cons_of_mem _ h) wk_X7_36) rfl rfl rfl (by decide +kernel) ⟨Nat.le_of_ble_eq_true rfl, Nat.le_of_ble_eq_true rfl⟩
  have k9 : CallW rmX7_tryOrders s args RX7 RX5 9 yX5_copyFrom cX5_copyFrom 3 none wsX5_copyFrom rmX5_copyFrom 0 0 1 := cwV 1 hts (gGoodV (fun w h => List.mem_cons_of_mem _ h) wk_X7_9) rfl rfl rfl (by decide +kernel) ⟨Nat.le_of_ble_eq_true rfl, Nat.le_of_ble_eq_true rfl⟩
  have L_22 : ∀ (fu : Nat) (w : gWd) (i3 : Nat) (x4 : Int32) (hi3 : i3 < 7) (ls : Array Slot) (hl : lv_has ls 7 [(0, .ref (gA X 7 5)), (1, .ref (gA X 7 3)), (3, .ref (gA X i3 0)), (4, .int x4)]) (hF : F_X7_tryOrders_22 fu w i3 x4 = some w') (H : Heap) (locs : List Loc) (hW : gWo X 251 (gE X w) H) (hL : gLo X locs), W p l e rmX7_tryOrders s m args below meth c H locs 0 0 (MQ below (gQv X w') args s 0 0 (gFr X)) (F0 m 22 ls []) := by
    intro fu
    induction fu with
    | zero => intro w i3 x4 hi3 ls hl hF H locs hW hL; rw [F_X7_tryOrders_22_z] at hF; cases hF
    | succ fu22 ih22 =>
      have B_116 : ∀ (w : gWd) (i3 : Nat) (x4 : Int32) (x6 : Int32) (xs0 : Int32) (hi3 : i3 < 7) (ls : Array Slot) (hl : lv_has ls 7 [(0, .ref (gA X 7 5)), (1, .ref (gA X 7 3)), (3, .ref (gA X i3 0)), (4, .int x4), (6, .int x6)]) (hF : F_X7_tryOrders_116 (F_X7_tryOrders_22 fu22) w i3 x4 x6 xs0 = some w') (H : Heap) (locs : List Loc) (hW : gWo X 251 (gE X w) H) (hL : gLo X locs), W p l e rmX7_tryOrders s m args below meth c H locs 0 0 (MQ below (gQv X w') args s 0 0 (gFr X)) (F0 m 116 ls [.int xs0, .ref (gA X 7 5)]) := by
        intro w i3 x4 x6 xs0 hi3 ls hl hF H locs hW hL
        rw [F_X7_tryOrders_116] at hF
        obtain ⟨w_19, ew_19, hF⟩ := gS_some hF
        refine rp_X7_reason hx hb hts inX7 hown hK hW hL q21 dX7_tryOrders_116 (fun H locs hW hL => ?_)
        rw [← ew_19] at hW
        refine lv_aload_n hx hb dX7_tryOrders_119 rfl (lv_at hl 0 rfl) ?_
        refine lv_iload hx hb dX7_tryOrders_120 (lv_at hl 4 rfl) ?_
        obtain ⟨w_20, ew_20, hF⟩ := gS_some hF
        refine rp_X7_cause hx hb hts inX7 hown hK hW hL q47 dX7_tryOrders_122 (fun H locs hW hL => ?_)
        rw [← ew_20] at hW
        obtain ⟨x4_21, ex4_21, hF⟩ := gS_some hF
        refine lv_iinc (v := x4_21) (lv' := [(4, .int x4_21), (0, .ref (gA X 7 5)), (1, .ref (gA X 7 3)), (3, .ref (gA X i3 0)), (6, .int x6)]) hx hb dX7_tryOrders_125 hl (k := 3) rfl (by rw [ex4_21]; rfl) (by decide) rfl (fun ls hl => ?_)
        refine lv_goto (tgt := 22) hx hb dX7_tryOrders_128 (by decide) ?_
        exact ih22 w_20 i3 x4_21 hi3 ls (lv_sub hl [1, 2, 3, 0] rfl) hF H locs hW hL
      have B_97 : ∀ (w : gWd) (i3 : Nat) (x4 : Int32) (x5 : Int32) (x6 : Int32) (hi3 : i3 < 7) (ls : Array Slot) (hl : lv_has ls 7 [(0, .ref (gA X 7 5)), (1, .ref (gA X 7 3)), (3, .ref (gA X i3 0)), (4, .int x4), (5, .int x5), (6, .int x6)]) (hF : F_X7_tryOrders_97 (F_X7_tryOrders_22 fu22) w i3 x4 x5 x6 = some w') (H : Heap) (locs : List Loc) (hW : gWo X 251 (gE X w) H) (hL : gLo X locs), W p l e rmX7_tryOrders s m args below meth c H locs 0 0 (MQ below (gQv X w') args s 0 0 (gFr X)) (F0 m 97 ls []) := by
        intro w i3 x4 x5 x6 hi3 ls hl hF H locs hW hL
        rw [F_X7_tryOrders_97] at hF
        refine lv_aload_n hx hb dX7_tryOrders_97 rfl (lv_at hl 0 rfl) ?_
        refine lv_aload_n hx hb dX7_tryOrders_98 rfl (lv_at hl 1 rfl) ?_
        refine rg_X6_start hx hb hts inX6 hown hK hW q43 dX7_tryOrders_99 ?_
        obtain ⟨w_17, ew_17, hF⟩ := gS_some hF
        refine rp_X7_position hx hb hts inX7 hown hK hW hL q46 dX7_tryOrders_102 (fun H locs hW hL => ?_)
        rw [← ew_17] at hW
        refine lv_aload_n hx hb dX7_tryOrders_105 rfl (lv_at hl 0 rfl) ?_
        refine lv_iload hx hb dX7_tryOrders_106 (lv_at hl 4 rfl) ?_
        refine lv_if_eq (tgt := 115) hx hb dX7_tryOrders_108 (by decide) (fun hc_18 => ?_) (fun hc_18 => ?_)
        · replace hF := gT hc_18 hF
          refine lv_iconst (v := 1) hx hb dX7_tryOrders_115 (by decide) ?_
          exact B_116 w_17 i3 x4 x6 1 hi3 ls (lv_sub hl [0, 1, 2, 3, 5] rfl) hF H locs hW hL
        · replace hF := gF hc_18 hF
          refine lv_iconst (v := 2) hx hb dX7_tryOrders_111 (by decide) ?_
          refine lv_goto (tgt := 116) hx hb dX7_tryOrders_112 (by decide) ?_
          exact B_116 w_17 i3 x4 x6 2 hi3 ls (lv_sub hl [0, 1, 2, 3, 5] rfl) hF H locs hW hL
      have B_72 : ∀ (w : gWd) (i3 : Nat) (x4 : Int32) (x5 : Int32) (xs0 : Int32) (hi3 : i3 < 7) (ls : Array Slot) (hl : lv_has ls 7 [(0, .ref (gA X 7 5)), (1, .ref (gA X 7 3)), (3, .ref (gA X i3 0)), (4, .int x4), (5, .int x5)]) (hF : F_X7_tryOrders_72 (F_X7_tryOrders_22 fu22) w i3 x4 x5 xs0 = some w') (H : Heap) (locs : List Loc) (hW : gWo X 251 (gE X w) H) (hL : gLo X locs), W p l e rmX7_tryOrders s m args below meth c H locs 0 0 (MQ below (gQv X w') args s 0 0 (gFr X)) (F0 m 72 ls [.int xs0]) := by
        intro w i3 x4 x5 xs0 hi3 ls hl hF H locs hW hL
        rw [F_X7_tryOrders_72] at hF
        refine lv_istore (lv' := [(6, .int xs0), (0, .ref (gA X 7 5)), (1, .ref (gA X 7 3)), (3, .ref (gA X i3 0)), (4, .int x4), (5, .int x5)]) hx hb dX7_tryOrders_72 hl (by decide) rfl (fun ls hl => ?_)
        refine lv_iload hx hb dX7_tryOrders_74 (lv_at hl 5 rfl) ?_
        refine lv_if_eq (tgt := 97) hx hb dX7_tryOrders_76 (by decide) (fun hc_13 => ?_) (fun hc_13 => ?_)
        · replace hF := gT hc_13 hF
          exact B_97 w i3 x4 x5 xs0 hi3 ls (lv_sub hl [1, 2, 3, 4, 5, 0] rfl) hF H locs hW hL
        · replace hF := gF hc_13 hF
          refine lv_iload hx hb dX7_tryOrders_79 (lv_at hl 0 rfl) ?_
          refine lv_if_lt (tgt := 97) hx hb dX7_tryOrders_81 (by decide) (fun hc_14 => ?_) (fun hc_14 => ?_)
          · replace hF := gT hc_14 hF
            exact B_97 w i3 x4 x5 xs0 hi3 ls (lv_sub hl [1, 2, 3, 4, 5, 0] rfl) hF H locs hW hL
          · replace hF := gF hc_14 hF
            refine lv_aload_n hx hb dX7_tryOrders_84 rfl (lv_at hl 1 rfl) ?_
            refine lv_dup hx hb dX7_tryOrders_85 rfl ?_
            refine rg_X7_orders hx hb hts inX7 hown hK hW q15 dX7_tryOrders_86 ?_
            refine lv_iconst (v := 1) hx hb dX7_tryOrders_89 (by decide) ?_
            refine lv_iadd hx hb dX7_tryOrders_90 ?_
            obtain ⟨w_15, ew_15, hF⟩ := gS_some hF
            refine rp_X7_orders hx hb hts inX7 hown hK hW hL q15 dX7_tryOrders_91 (fun H locs hW hL => ?_)
            rw [← ew_15] at hW
            refine lv_goto (tgt := 125) hx hb dX7_tryOrders_94 (by decide) ?_
            obtain ⟨x4_16, ex4_16, hF⟩ := gS_some hF
            refine lv_iinc (v := x4_16) (lv' := [(4, .int x4_16), (6, .int xs0), (0, .ref (gA X 7 5)), (1, .ref (gA X 7 3)), (3, .ref (gA X i3 0)), (5, .int x5)]) hx hb dX7_tryOrders_125 hl (k := 4) rfl (by rw [ex4_16]; rfl) (by decide) rfl (fun ls hl => ?_)
            refine lv_goto (tgt := 22) hx hb dX7_tryOrders_128 (by decide) ?_
            exact ih22 w_15 i3 x4_16 hi3 ls (lv_sub hl [2, 3, 4, 0] rfl) hF H locs hW hL
      intro w i3 x4 hi3 ls hl hF H locs hW hL
      rw [F_X7_tryOrders_22_s] at hF
      refine lv_iload hx hb dX7_tryOrders_22 (lv_at hl 3 rfl) ?_
      refine lv_bipush (v := 60) hx hb dX7_tryOrders_24 (by decide) ?_
      refine lv_icmp_ge (tgt := 131) hx hb dX7_tryOrders_26 (by decide) (fun hc_1 => ?_) (fun hc_1 => ?_)
      · replace hF := gT hc_1 hF
        exact g_rv hx hb hr hlocks (gW1 hF hW) hL dX7_tryOrders_131
      · replace hF := gF hc_1 hF
        refine lv_aload_n hx hb dX7_tryOrders_29 rfl (lv_at hl 0 rfl) ?_
        refine rg_X7_reason hx hb hts inX7 hown hK hW q21 dX7_tryOrders_30 ?_
        refine lv_if_ne (tgt := 131) hx hb dX7_tryOrders_33 (by decide) (fun hc_2 => ?_) (fun hc_2 => ?_)
        · replace hF := gF hc_2 hF
          exact g_rv hx hb hr hlocks (gW1 hF hW) hL dX7_tryOrders_131
        · replace hF := gT hc_2 hF
          refine lv_aload_n hx hb dX7_tryOrders_36 rfl (lv_at hl 1 rfl) ?_
          obtain ⟨v_4, hq_3, hF⟩ := gP_some hF
          refine g_Vi (As := []) (rest := []) ⟨hx, hb, hml, hown, hts⟩ hK hW hL hl.1 (gok_c (by decide)) gE_T rfl (c_X6_hasMore l X w  v_4 hq_3) k29 rfl rfl (Nat.le_of_ble_eq_true rfl) dX7_tryOrders_37 ⟨Nat.le_of_ble_eq_true rfl, Nat.le_of_ble_eq_true rfl⟩ (fun H locs hW hL => ?_)
          refine lv_if_eq (tgt := 131) hx hb dX7_tryOrders_40 (by decide) (fun hc_5 => ?_) (fun hc_5 => ?_)
          · replace hF := gT hc_5 hF
            exact g_rv hx hb hr hlocks (gW1 hF hW) hL dX7_tryOrders_131
          · replace hF := gF hc_5 hF
            refine lv_aload_n hx hb dX7_tryOrders_43 rfl (lv_at hl 1 rfl) ?_
            obtain ⟨v_7, w_8, hq_6, hF⟩ := gC_some hF
            refine g_Vi (As := []) (rest := []) ⟨hx, hb, hml, hown, hts⟩ hK hW hL hl.1 (gok_c (by decide)) gE_T rfl (c_X6_readOrder l X w  v_7 w_8 hq_6) k33 rfl rfl (Nat.le_of_ble_eq_true rfl) dX7_tryOrders_44 ⟨Nat.le_of_ble_eq_true rfl, Nat.le_of_ble_eq_true rfl⟩ (fun H locs hW hL => ?_)
            refine lv_istore (lv' := [(5, .int v_7), (0, .ref (gA X 7 5)), (1, .ref (gA X 7 3)), (3, .ref (gA X i3 0)), (4, .int x4)]) hx hb dX7_tryOrders_47 hl (by decide) rfl (fun ls hl => ?_)
            refine lv_iload hx hb dX7_tryOrders_49 (lv_at hl 0 rfl) ?_
            refine lv_if_eq (tgt := 63) hx hb dX7_tryOrders_51 (by decide) (fun hc_9 => ?_) (fun hc_9 => ?_)
            · replace hF := gT hc_9 hF
              refine lv_aload_n hx hb dX7_tryOrders_63 rfl (lv_at hl 2 rfl) ?_
              refine rg_X6_position hx hb hts inX6 hown hK hW q40 dX7_tryOrders_64 ?_
              refine lv_aload_n hx hb dX7_tryOrders_67 rfl (lv_at hl 2 rfl) ?_
              refine rg_X6_start hx hb hts inX6 hown hK hW q43 dX7_tryOrders_68 ?_
              refine lv_isub hx hb dX7_tryOrders_71 ?_
              exact B_72 w_8 i3 x4 v_7 (((w_8 7 3 3) - (w_8 7 3 2))) hi3 ls (lv_sub hl [1, 2, 3, 4, 0] rfl) hF H locs hW hL
            · replace hF := gF hc_9 hF
              refine lv_aload_n hx hb dX7_tryOrders_54 rfl (lv_at hl 1 rfl) ?_
              refine lv_aload_n hx hb dX7_tryOrders_55 rfl (lv_at hl 2 rfl) ?_
              refine lv_aload_n hx hb dX7_tryOrders_56 rfl (lv_at hl 3 rfl) ?_
              obtain ⟨v_11, w_12, hq_10, hF⟩ := gC_some hF
              refine g_Vi (As := [.ref (gA X 7 3), .ref (gA X i3 0)]) (rest := []) ⟨hx, hb, hml, hown, hts⟩ hK hW hL hl.1 (gok_c (by decide)) gE_R rfl (c_X7_obey l X w_8 i3 hi3 v_11 w_12 hq_10) k36 rfl rfl (Nat.le_of_ble_eq_true rfl) dX7_tryOrders_57 ⟨Nat.le_of_ble_eq_true rfl, Nat.le_of_ble_eq_true rfl⟩ (fun H locs hW hL => ?_)
              refine lv_goto (tgt := 72) hx hb dX7_tryOrders_60 (by decide) ?_
              exact B_72 w_12 i3 x4 v_7 v_11 hi3 ls (lv_sub hl [1, 2, 3, 4, 0] rfl) hF H locs hW hL
  rw [F_X7_tryOrders] at hF
  obtain ⟨locs, hlocs⟩ : ∃ locs : List Loc, locs = [] := ⟨_, rfl⟩
  rw [← hlocs] at hL ⊢
  refine lv_aload_n hx hb dX7_tryOrders_0 rfl (lv_at hl 3 rfl) ?_
  refine lv_aload_n hx hb dX7_tryOrders_1 rfl (lv_at hl 2 rfl) ?_
  obtain ⟨w_23, hq_22, hF⟩ := gP_some hF
  refine g_Vv (As := [.ref (gA X i2 0)]) (rest := []) ⟨hx, hb, hml, hown, hts⟩ hK hW hL hl.1 (gok_m hi3 (by decide)) (gE_m0 hi3) rfl (c_X5_copyFrom l X w i3 hi3 i2 hi2 w_23 hq_22) k9 rfl rfl (Nat.le_of_ble_eq_true rfl) dX7_tryOrders_2 ⟨Nat.le_of_ble_eq_true rfl, Nat.le_of_ble_eq_true rfl⟩ (fun H locs hW hL => ?_)
  refine lv_aload_n hx hb dX7_tryOrders_5 rfl (lv_at hl 0 rfl) ?_
  refine lv_iconst (v := 0) hx hb dX7_tryOrders_6 (by decide) ?_
  obtain ⟨w_24, ew_24, hF⟩ := gS_some hF
  refine rp_X7_orders hx hb hts inX7 hown hK hW hL q15 dX7_tryOrders_7 (fun H locs hW hL => ?_)
  rw [← ew_24] at hW
  refine lv_aload_n hx hb dX7_tryOrders_10 rfl (lv_at hl 0 rfl) ?_
  refine lv_iconst (v := 0) hx hb dX7_tryOrders_11 (by decide) ?_
  obtain ⟨w_25, ew_25, hF⟩ := gS_some hF
  refine rp_X7_reason hx hb hts inX7 hown hK hW hL q21 dX7_tryOrders_12 (fun H locs hW hL => ?_)
  rw [← ew_25] at hW
  refine lv_aload_n hx hb dX7_tryOrders_15 rfl (lv_at hl 1 rfl) ?_
  obtain ⟨w_27, hq_26, hF⟩ := gP_some hF
  refine g_Vv (As := []) (rest := []) ⟨hx, hb, hml, hown, hts⟩ hK hW hL hl.1 (gok_c (by decide)) gE_T rfl (c_X6_rewind l X w_25  w_27 hq_26) k24 rfl rfl (Nat.le_of_ble_eq_true rfl) dX7_tryOrders_16 ⟨Nat.le_of_ble_eq_true rfl, Nat.le_of_ble_eq_true rfl⟩ (fun H locs hW hL => ?_)
  refine lv_iconst (v := 0) hx hb dX7_tryOrders_19 (by decide) ?_
  refine lv_istore (lv' := [(4, .int 0), (0, .ref (gA X 7 5)), (1, .ref (gA X 7 3)), (2, .ref (gA X i2 0)), (3, .ref (gA X i3 0))]) hx hb dX7_tryOrders_20 hl (by decide) rfl (fun ls hl => ?_)
  exact L_22 gFU w_27 i3 0 hi3 ls (lv_sub hl [1, 2, 4, 0] rfl) hF H locs hW hL
abbrev rmX11_fault : Room := { frames := 7, cells := 0, slots := 0, locals := 158 }
abbrev wsX11_fault : List Cond := gws yX11_fault cX11_fault 2 (some .int)
set_option maxHeartbeats 4000000 in
set_option maxRecDepth 100000 in
theorem c_X11_fault (l : Launch) (X : gX) (w : gWd) (x1 : Int32) (r : Int32) (w' : gWd) (hF : F_X11_fault w x1 = some (r, w')) : Met l yX11_fault wsX11_fault rmX11_fault (gPc X [.ref (gA X 7 0), .int x1] w) (gQi X r w') 0 0 (gFr X) := by
  refine g_ofW (cc := cX11_fault) (maxL := 2) (ret := (some .int)) (by decide) rfl (Nat.le_of_ble_eq_true rfl) (fun p e s m args below meth c ls H hx hb hr hts hown hlocks hml hK hl hW => ?_)
  have hl : lv_has ls 2 [(0, .ref (gA X 7 0)), (1, .int x1)] := hl
  have hown : s.vm.findClass RX11 = some m.cls := hown
  have hL : gLo X [] := gLo_nil
  show W p l e rmX11_fault s m args below meth c H [] 0 0 _ _
  have inX11 : ∀ w ∈ wsX110, w ∈ wsX11_fault := fun w h => List.mem_cons_of_mem _ (inlX11 w h)
  have inX7 : ∀ w ∈ wsX70, w ∈ wsX11_fault := fun w h => List.mem_cons_of_mem _ (inlX7 w h)
  have q10 := hts _ (List.mem_cons_of_mem _ wq_X11_10)
  have q16 := hts _ (List.mem_cons_of_mem _ wq_X11_16)
  have q180 := hts _ (List.mem_cons_of_mem _ wq_X11_180)
  have q183 := hts _ (List.mem_cons_of_mem _ wq_X11_183)
  have q184 := hts _ (List.mem_cons_of_mem _ wq_X11_184)
  have q187 := hts _ (List.mem_cons_of_mem _ wq_X11_187)
  have q29 := hts _ (List.mem_cons_of_mem _ wq_X11_29)
  have q36 := hts _ (List.mem_cons_of_mem _ wq_X11_36)
  have q81 := hts _ (List.mem_cons_of_mem _ wq_X11_81)
  have k176 : CallW rmX11_fault s args RX11 RX7 176 yX7_tryOrders cX7_tryOrders 7 none wsX7_tryOrders rmX7_tryOrders 0 0 3 := cwV 3 hts (gGoodV (fun w h => List.mem_cons_of_mem _ h) wk_X11_176) rfl rfl rfl (by decide +kernel) ⟨Nat.le_of_ble_eq_true rfl, Nat.le_of_ble_eq_true rfl⟩
  rw [F_X11_fault] at hF
  obtain ⟨locs, hlocs⟩ : ∃ locs : List Loc, locs = [] := ⟨_, rfl⟩
  rw [← hlocs] at hL ⊢
  refine lv_iload_n hx hb dX11_fault_0 rfl (lv_at hl 1 rfl) ?_
  refine lv_if_lt (tgt := 9) hx hb dX11_fault_1 (by decide) (fun hc_1 => ?_) (fun hc_1 => ?_)
  · replace hF := gT hc_1 hF
    refine lv_ldc hx hb hown q81 dX11_fault_9 ?_
    exact g_ri hx hb hr hlocks (gW2 hF hW) hL (gI2 hF).1 dX11_fault_11
  · replace hF := gF hc_1 hF
    refine lv_iload_n hx hb dX11_fault_4 rfl (lv_at hl 1 rfl) ?_
    refine lv_iconst (v := 2) hx hb dX11_fault_5 (by decide) ?_
    refine lv_icmp_le (tgt := 12) hx hb dX11_fault_6 (by decide) (fun hc_2 => ?_) (fun hc_2 => ?_)
    · replace hF := gT hc_2 hF
      refine lv_aload_n hx hb dX11_fault_12 rfl (lv_at hl 0 rfl) ?_
      refine rg_X11_rehearsal hx hb hts inX11 hown hK hW q36 dX11_fault_13 ?_
      refine lv_aload_n hx hb dX11_fault_16 rfl (lv_at hl 0 rfl) ?_
      refine rg_X11_text hx hb hts inX11 hown hK hW q29 dX11_fault_17 ?_
      refine lv_aload_n hx hb dX11_fault_20 rfl (lv_at hl 0 rfl) ?_
      refine rg_X11_meet hx hb hts inX11 hown hK hW q10 dX11_fault_21 ?_
      refine lv_aload_n hx hb dX11_fault_24 rfl (lv_at hl 0 rfl) ?_
      refine rg_X11_trial hx hb hts inX11 hown hK hW q16 dX11_fault_25 ?_
      obtain ⟨w_4, hq_3, hF⟩ := gP_some hF
      refine g_Vv (As := [.ref (gA X 7 3), .ref (gA X 0 0), .ref (gA X 1 0)]) (rest := []) ⟨hx, hb, hml, hown, hts⟩ hK hW hL hl.1 (gok_c (by decide)) gE_R rfl (c_X7_tryOrders l X w 0 h07 1 h17 w_4 hq_3) k176 rfl rfl (Nat.le_of_ble_eq_true rfl) dX11_fault_28 ⟨Nat.le_of_ble_eq_true rfl, Nat.le_of_ble_eq_true rfl⟩ (fun H locs hW hL => ?_)
      refine lv_aload_n hx hb dX11_fault_31 rfl (lv_at hl 0 rfl) ?_
      refine rg_X11_rehearsal hx hb hts inX11 hown hK hW q36 dX11_fault_32 ?_
      refine rg_X7_reason hx hb hts inX7 hown hK hW q180 dX11_fault_35 ?_
      refine lv_if_ne (tgt := 44) hx hb dX11_fault_38 (by decide) (fun hc_5 => ?_) (fun hc_5 => ?_)
      · replace hF := gF hc_5 hF
        refine lv_iload_n hx hb dX11_fault_44 rfl (lv_at hl 1 rfl) ?_
        refine lv_if_ne (tgt := 56) hx hb dX11_fault_45 (by decide) (fun hc_6 => ?_) (fun hc_6 => ?_)
        · replace hF := gF hc_6 hF
          refine lv_iload_n hx hb dX11_fault_56 rfl (lv_at hl 1 rfl) ?_
          refine lv_iconst (v := 1) hx hb dX11_fault_57 (by decide) ?_
          refine lv_icmp_ne (tgt := 71) hx hb dX11_fault_58 (by decide) (fun hc_7 => ?_) (fun hc_7 => ?_)
          · replace hF := gF hc_7 hF
            refine lv_aload_n hx hb dX11_fault_71 rfl (lv_at hl 0 rfl) ?_
            refine rg_X11_rehearsal hx hb hts inX11 hown hK hW q36 dX11_fault_72 ?_
            refine rg_X7_cause hx hb hts inX7 hown hK hW q187 dX11_fault_75 ?_
            exact g_ri hx hb hr hlocks (gW2 hF hW) hL (gI2 hF).1 dX11_fault_78
          · replace hF := gT hc_7 hF
            refine lv_aload_n hx hb dX11_fault_61 rfl (lv_at hl 0 rfl) ?_
            refine rg_X11_rehearsal hx hb hts inX11 hown hK hW q36 dX11_fault_62 ?_
            refine rg_X7_reason hx hb hts inX7 hown hK hW q180 dX11_fault_65 ?_
            refine lv_goto (tgt := 78) hx hb dX11_fault_68 (by decide) ?_
            exact g_ri hx hb hr hlocks (gW2 hF hW) hL (gI2 hF).1 dX11_fault_78
        · replace hF := gT hc_6 hF
          refine lv_aload_n hx hb dX11_fault_48 rfl (lv_at hl 0 rfl) ?_
          refine rg_X11_rehearsal hx hb hts inX11 hown hK hW q36 dX11_fault_49 ?_
          refine rg_X7_position hx hb hts inX7 hown hK hW q184 dX11_fault_52 ?_
          exact g_ri hx hb hr hlocks (gW2 hF hW) hL (gI2 hF).1 dX11_fault_55
      · replace hF := gT hc_5 hF
        refine lv_ldc hx hb hown q183 dX11_fault_41 ?_
        exact g_ri hx hb hr hlocks (gW2 hF hW) hL (gI2 hF).1 dX11_fault_43
    · replace hF := gF hc_2 hF
      refine lv_ldc hx hb hown q81 dX11_fault_9 ?_
      exact g_ri hx hb hr hlocks (gW2 hF hW) hL (gI2 hF).1 dX11_fault_11
abbrev rmX11_play : Room := { frames := 7, cells := 0, slots := 0, locals := 158 }
abbrev wsX11_play : List Cond := gws yX11_play cX11_play 1 (some .int)
set_option maxHeartbeats 4000000 in
set_option maxRecDepth 100000 in
theorem c_X11_play (l : Launch) (X : gX) (w : gWd)  (r : Int32) (w' : gWd) (hF : F_X11_play w = some (r, w')) : Met l yX11_play wsX11_play rmX11_play (gPc X [.ref (gA X 7 0)] w) (gQi X r w') 0 0 (gFr X) := by
  refine g_ofW (cc := cX11_play) (maxL := 1) (ret := (some .int)) (by decide) rfl (Nat.le_of_ble_eq_true rfl) (fun p e s m args below meth c ls H hx hb hr hts hown hlocks hml hK hl hW => ?_)
  have hl : lv_has ls 1 [(0, .ref (gA X 7 0))] := hl
  have hown : s.vm.findClass RX11 = some m.cls := hown
  have hL : gLo X [] := gLo_nil
  show W p l e rmX11_play s m args below meth c H [] 0 0 _ _
  have inX11 : ∀ w ∈ wsX110, w ∈ wsX11_play := fun w h => List.mem_cons_of_mem _ (inlX11 w h)
  have inX7 : ∀ w ∈ wsX70, w ∈ wsX11_play := fun w h => List.mem_cons_of_mem _ (inlX7 w h)
  have q10 := hts _ (List.mem_cons_of_mem _ wq_X11_10)
  have q123 := hts _ (List.mem_cons_of_mem _ wq_X11_123)
  have q16 := hts _ (List.mem_cons_of_mem _ wq_X11_16)
  have q180 := hts _ (List.mem_cons_of_mem _ wq_X11_180)
  have q190 := hts _ (List.mem_cons_of_mem _ wq_X11_190)
  have q22 := hts _ (List.mem_cons_of_mem _ wq_X11_22)
  have q29 := hts _ (List.mem_cons_of_mem _ wq_X11_29)
  have q36 := hts _ (List.mem_cons_of_mem _ wq_X11_36)
  have k124 : CallW rmX11_play s args RX11 RX5 124 yX5_copyFrom cX5_copyFrom 3 none wsX5_copyFrom rmX5_copyFrom 0 0 1 := cwV 1 hts (gGoodV (fun w h => List.mem_cons_of_mem _ h) wk_X11_124) rfl rfl rfl (by decide +kernel) ⟨Nat.le_of_ble_eq_true rfl, Nat.le_of_ble_eq_true rfl⟩
  have k176 : CallW rmX11_play s args RX11 RX7 176 yX7_tryOrders cX7_tryOrders 7 none wsX7_tryOrders rmX7_tryOrders 0 0 3 := cwV 3 hts (gGoodV (fun w h => List.mem_cons_of_mem _ h) wk_X11_176) rfl rfl rfl (by decide +kernel) ⟨Nat.le_of_ble_eq_true rfl, Nat.le_of_ble_eq_true rfl⟩
  have k40 : CallW rmX11_play s args RX11 RX3 40 yX3_prepare cX3_prepare 2 none wsX3_prepare rmX3_prepare 0 0 1 := cwV 1 hts (gGoodV (fun w h => List.mem_cons_of_mem _ h) wk_X11_40) rfl rfl rfl (by decide +kernel) ⟨Nat.le_of_ble_eq_true rfl, Nat.le_of_ble_eq_true rfl⟩
  have k50 : CallW rmX11_play s args RX11 RX3 50 yX3_keepUnlessError cX3_keepUnlessError 2 (some .int) wsX3_keepUnlessError rmX3_keepUnlessError 0 0 1 := cwV 1 hts (gGoodV (fun w h => List.mem_cons_of_mem _ h) wk_X11_50) rfl rfl rfl (by decide +kernel) ⟨Nat.le_of_ble_eq_true rfl, Nat.le_of_ble_eq_true rfl⟩
  rw [F_X11_play] at hF
  obtain ⟨locs, hlocs⟩ : ∃ locs : List Loc, locs = [] := ⟨_, rfl⟩
  rw [← hlocs] at hL ⊢
  refine lv_aload_n hx hb dX11_play_0 rfl (lv_at hl 0 rfl) ?_
  refine rg_X11_rehearsal hx hb hts inX11 hown hK hW q36 dX11_play_1 ?_
  refine lv_aload_n hx hb dX11_play_4 rfl (lv_at hl 0 rfl) ?_
  refine rg_X11_text hx hb hts inX11 hown hK hW q29 dX11_play_5 ?_
  refine lv_aload_n hx hb dX11_play_8 rfl (lv_at hl 0 rfl) ?_
  refine rg_X11_meet hx hb hts inX11 hown hK hW q10 dX11_play_9 ?_
  refine lv_aload_n hx hb dX11_play_12 rfl (lv_at hl 0 rfl) ?_
  refine rg_X11_trial hx hb hts inX11 hown hK hW q16 dX11_play_13 ?_
  obtain ⟨w_2, hq_1, hF⟩ := gP_some hF
  refine g_Vv (As := [.ref (gA X 7 3), .ref (gA X 0 0), .ref (gA X 1 0)]) (rest := []) ⟨hx, hb, hml, hown, hts⟩ hK hW hL hl.1 (gok_c (by decide)) gE_R rfl (c_X7_tryOrders l X w 0 h07 1 h17 w_2 hq_1) k176 rfl rfl (Nat.le_of_ble_eq_true rfl) dX11_play_16 ⟨Nat.le_of_ble_eq_true rfl, Nat.le_of_ble_eq_true rfl⟩ (fun H locs hW hL => ?_)
  refine lv_aload_n hx hb dX11_play_19 rfl (lv_at hl 0 rfl) ?_
  refine rg_X11_rehearsal hx hb hts inX11 hown hK hW q36 dX11_play_20 ?_
  refine rg_X7_reason hx hb hts inX7 hown hK hW q180 dX11_play_23 ?_
  refine lv_if_eq (tgt := 32) hx hb dX11_play_26 (by decide) (fun hc_3 => ?_) (fun hc_3 => ?_)
  · replace hF := gT hc_3 hF
    refine lv_aload_n hx hb dX11_play_32 rfl (lv_at hl 0 rfl) ?_
    refine rg_X11_history hx hb hts inX11 hown hK hW q22 dX11_play_33 ?_
    refine lv_aload_n hx hb dX11_play_36 rfl (lv_at hl 0 rfl) ?_
    refine rg_X11_meet hx hb hts inX11 hown hK hW q10 dX11_play_37 ?_
    obtain ⟨w_5, hq_4, hF⟩ := gP_some hF
    refine g_Vv (As := [.ref (gA X 0 0)]) (rest := []) ⟨hx, hb, hml, hown, hts⟩ hK hW hL hl.1 (gok_c (by decide)) gE_H rfl (c_X3_prepare l X w_2 0 h07 w_5 hq_4) k40 rfl rfl (Nat.le_of_ble_eq_true rfl) dX11_play_40 ⟨Nat.le_of_ble_eq_true rfl, Nat.le_of_ble_eq_true rfl⟩ (fun H locs hW hL => ?_)
    refine lv_aload_n hx hb dX11_play_43 rfl (lv_at hl 0 rfl) ?_
    refine rg_X11_meet hx hb hts inX11 hown hK hW q10 dX11_play_44 ?_
    refine lv_aload_n hx hb dX11_play_47 rfl (lv_at hl 0 rfl) ?_
    refine rg_X11_trial hx hb hts inX11 hown hK hW q16 dX11_play_48 ?_
    obtain ⟨w_7, hq_6, hF⟩ := gP_some hF
    refine g_Vv (As := [.ref (gA X 1 0)]) (rest := []) ⟨hx, hb, hml, hown, hts⟩ hK hW hL hl.1 (gok_m h07 (by decide)) (gE_m0 h07) rfl (c_X5_copyFrom l X w_5 0 h07 1 h17 w_7 hq_6) k124 rfl rfl (Nat.le_of_ble_eq_true rfl) dX11_play_51 ⟨Nat.le_of_ble_eq_true rfl, Nat.le_of_ble_eq_true rfl⟩ (fun H locs hW hL => ?_)
    refine lv_aload_n hx hb dX11_play_54 rfl (lv_at hl 0 rfl) ?_
    refine rg_X11_history hx hb hts inX11 hown hK hW q22 dX11_play_55 ?_
    refine lv_aload_n hx hb dX11_play_58 rfl (lv_at hl 0 rfl) ?_
    refine rg_X11_rehearsal hx hb hts inX11 hown hK hW q36 dX11_play_59 ?_
    refine rg_X7_orders hx hb hts inX7 hown hK hW q190 dX11_play_62 ?_
    obtain ⟨v_9, w_10, hq_8, hF⟩ := gC_some hF
    refine g_Vi (As := [.int (w_7 7 5 0)]) (rest := []) ⟨hx, hb, hml, hown, hts⟩ hK hW hL hl.1 (gok_c (by decide)) gE_H rfl (c_X3_keepUnlessError l X w_7 ((w_7 7 5 0)) v_9 w_10 hq_8) k50 rfl rfl (Nat.le_of_ble_eq_true rfl) dX11_play_65 ⟨Nat.le_of_ble_eq_true rfl, Nat.le_of_ble_eq_true rfl⟩ (fun H locs hW hL => ?_)
    exact g_ri hx hb hr hlocks (gW2 hF hW) hL (gI2 hF).1 dX11_play_68
  · replace hF := gF hc_3 hF
    refine lv_ldc hx hb hown q123 dX11_play_29 ?_
    exact g_ri hx hb hr hlocks (gW2 hF hW) hL (gI2 hF).1 dX11_play_31
