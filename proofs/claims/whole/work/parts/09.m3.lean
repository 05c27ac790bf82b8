abbrev rmX12_at : Room := { frames := 2, cells := 0, slots := 0, locals := 44 }
abbrev wsX12_at : List Cond := gws yX12_at cX12_at 4 (some .int)
set_option maxHeartbeats 4000000 in
set_option maxRecDepth 100000 in
theorem c_X12_at (l : Launch) (X : gX) (w : gWd) (x1 : Int32) (x2 : Int32) (r : Int32) (hF : F_X12_at w x1 x2 = some r) : Met l yX12_at wsX12_at rmX12_at (gPc X [.ref (gA X 8 0), .int x1, .int x2] w) (gQi X r w) 0 0 (gFr X) := by
  refine g_ofW (cc := cX12_at) (maxL := 4) (ret := (some .int)) (by decide) rfl (Nat.le_of_ble_eq_true rfl) (fun p e s m args below meth c ls H hx hb hr hts hown hlocks hml hK hl hW => ?_)
  have hl : lv_has ls 4 [(0, .ref (gA X 8 0)), (1, .int x1), (2, .int x2)] := hl
  have hown : s.vm.findClass RX12 = some m.cls := hown
  have hL : gLo X [] := gLo_nil
  show W p l e rmX12_at s m args below meth c H [] 0 0 _ _
  have inX12 : ∀ w ∈ wsX120, w ∈ wsX12_at := fun w h => List.mem_cons_of_mem _ (inlX12 w h)
  have q7 := hts _ (List.mem_cons_of_mem _ wq_X12_7)
  have q75 := hts _ (List.mem_cons_of_mem _ wq_X12_75)
  have q85 := hts _ (List.mem_cons_of_mem _ wq_X12_85)
  have k140 : CallW rmX12_at s args RX12 RX12 140 yX12_isHeat cX12_isHeat 2 (some .boolean) wsX12_isHeat rmX12_isHeat 0 0 1 := cwV 1 hts (gGoodV (fun w h => List.mem_cons_of_mem _ h) wk_X12_140) rfl rfl rfl (by decide +kernel) ⟨Nat.le_of_ble_eq_true rfl, Nat.le_of_ble_eq_true rfl⟩
  have k143 : CallW rmX12_at s args RX12 RX12 143 yX12_isIn cX12_isIn 3 (some .boolean) wsX12_isIn rmX12_isIn 0 0 2 := cwV 2 hts (gGoodV (fun w h => List.mem_cons_of_mem _ h) wk_X12_143) rfl rfl rfl (by decide +kernel) ⟨Nat.le_of_ble_eq_true rfl, Nat.le_of_ble_eq_true rfl⟩
  have k36 : CallB rmX12_at s args RX12 36 yX12_in cX12_in 3 (some .boolean) wsX12_in rmX12_in 0 0 3 ∧ (Cond.static yX12_in).before args s = true := va_cwS 3 hts (gGoodS (fun w h => List.mem_cons_of_mem _ h) wk_X12_36) rfl rfl rfl (by decide +kernel) ⟨Nat.le_of_ble_eq_true rfl, Nat.le_of_ble_eq_true rfl⟩
  have k40 : CallW rmX12_at s args RX12 RX12 40 yX12_of cX12_of 3 (some .int) wsX12_of rmX12_of 0 0 2 := cwV 2 hts (gGoodV (fun w h => List.mem_cons_of_mem _ h) wk_X12_40) rfl rfl rfl (by decide +kernel) ⟨Nat.le_of_ble_eq_true rfl, Nat.le_of_ble_eq_true rfl⟩
  have k59 : CallW rmX12_at s args RX12 RX12 59 yX12_lanes cX12_lanes 1 (some .int) wsX12_lanes rmX12_lanes 0 0 0 := cwV 0 hts (gGoodV (fun w h => List.mem_cons_of_mem _ h) wk_X12_59) rfl rfl rfl (by decide +kernel) ⟨Nat.le_of_ble_eq_true rfl, Nat.le_of_ble_eq_true rfl⟩
  have L_25 : ∀ (fu : Nat) (x1 : Int32) (x2 : Int32) (x3 : Int32)  (ls : Array Slot) (hl : lv_has ls 4 [(0, .ref (gA X 8 0)), (1, .int x1), (2, .int x2), (3, .int x3)]) (hF : F_X12_at_25 fu w x1 x2 x3 = some r) (H : Heap) (locs : List Loc) (hW : gWo X 251 (gE X w) H) (hL : gLo X locs), W p l e rmX12_at s m args below meth c H locs 0 0 (MQ below (gQi X r w) args s 0 0 (gFr X)) (F0 m 25 ls []) := by
    intro fu
    induction fu with
    | zero => intro x1 x2 x3 ls hl hF H locs hW hL; rw [F_X12_at_25_z] at hF; cases hF
    | succ fu25 ih25 =>
      have B_58 : ∀ (x1 : Int32) (x2 : Int32) (x3 : Int32) (xs0 : Int32) (xs1 : Int32)  (ls : Array Slot) (hl : lv_has ls 4 [(0, .ref (gA X 8 0)), (1, .int x1), (2, .int x2), (3, .int x3)]) (hF : F_X12_at_58 (F_X12_at_25 fu25) w x1 x2 x3 xs0 xs1 = some r) (H : Heap) (locs : List Loc) (hW : gWo X 251 (gE X w) H) (hL : gLo X locs), W p l e rmX12_at s m args below meth c H locs 0 0 (MQ below (gQi X r w) args s 0 0 (gFr X)) (F0 m 58 ls [.int xs0, .int xs1, .ref (gA X 8 0)]) := by
        intro x1 x2 x3 xs0 xs1 ls hl hF H locs hW hL
        rw [F_X12_at_58] at hF
        obtain ⟨v_8, hq_7, hF⟩ := gP_some hF
        refine g_Vi (As := [.int xs1, .int xs0]) (rest := []) ⟨hx, hb, hml, hown, hts⟩ hK hW hL hl.1 (gok_o (by decide)) gE_O rfl (c_X12_of l X w xs1 xs0 v_8 hq_7) k40 rfl rfl (Nat.le_of_ble_eq_true rfl) dX12_at_58 ⟨Nat.le_of_ble_eq_true rfl, Nat.le_of_ble_eq_true rfl⟩ (fun H locs hW hL => ?_)
        refine lv_iload_n hx hb dX12_at_61 rfl (lv_at hl 2 rfl) ?_
        refine lv_icmp_ne (tgt := 67) hx hb dX12_at_62 (by decide) (fun hc_9 => ?_) (fun hc_9 => ?_)
        · replace hF := gF hc_9 hF
          obtain ⟨x3_10, ex3_10, hF⟩ := gS_some hF
          refine lv_iinc (v := x3_10) (lv' := [(3, .int x3_10), (0, .ref (gA X 8 0)), (1, .int x1), (2, .int x2)]) hx hb dX12_at_67 hl (k := 3) rfl (by rw [ex3_10]; rfl) (by decide) rfl (fun ls hl => ?_)
          refine lv_goto (tgt := 25) hx hb dX12_at_70 (by decide) ?_
          exact ih25 x1 x2 x3_10 ls (lv_sub hl [1, 2, 3, 0] rfl) hF H locs hW hL
        · replace hF := gT hc_9 hF
          refine lv_iload_n hx hb dX12_at_65 rfl (lv_at hl 3 rfl) ?_
          exact g_ri hx hb hr hlocks hW hL (Option.some.inj hF) dX12_at_66
      intro x1 x2 x3 ls hl hF H locs hW hL
      rw [F_X12_at_25_s] at hF
      refine lv_iload_n hx hb dX12_at_25 rfl (lv_at hl 3 rfl) ?_
      refine lv_aload_n hx hb dX12_at_26 rfl (lv_at hl 0 rfl) ?_
      refine rg_X12_s hx hb hts inX12 hown hK hW q7 dX12_at_27 ?_
      refine lv_sipush (v := 311) hx hb dX12_at_30 (by decide) ?_
      refine g_iald2 (k := 311) hx hb hK hW (gok_o (by decide)) (gad_lt (gok_o (by decide))) gE_O1 (gin (by decide)) (by decide) dX12_at_33 ?_
      refine lv_icmp_ge (tgt := 73) hx hb dX12_at_34 (by decide) (fun hc_1 => ?_) (fun hc_1 => ?_)
      · replace hF := gT hc_1 hF
        refine lv_ldc hx hb hown q85 dX12_at_73 ?_
        exact g_ri hx hb hr hlocks hW hL (Option.some.inj hF) dX12_at_75
      · replace hF := gF hc_1 hF
        refine lv_aload_n hx hb dX12_at_37 rfl (lv_at hl 0 rfl) ?_
        refine lv_iload_n hx hb dX12_at_38 rfl (lv_at hl 3 rfl) ?_
        refine lv_iload_n hx hb dX12_at_39 rfl (lv_at hl 1 rfl) ?_
        obtain ⟨v_3, hq_2, hF⟩ := gP_some hF
        refine g_Vi (As := [.int x3, .int x1]) (rest := []) ⟨hx, hb, hml, hown, hts⟩ hK hW hL hl.1 (gok_o (by decide)) gE_O rfl (c_X12_isIn l X w x3 x1 v_3 hq_2) k143 rfl rfl (Nat.le_of_ble_eq_true rfl) dX12_at_40 ⟨Nat.le_of_ble_eq_true rfl, Nat.le_of_ble_eq_true rfl⟩ (fun H locs hW hL => ?_)
        refine lv_if_eq (tgt := 67) hx hb dX12_at_43 (by decide) (fun hc_4 => ?_) (fun hc_4 => ?_)
        · replace hF := gT hc_4 hF
          obtain ⟨x3_5, ex3_5, hF⟩ := gS_some hF
          refine lv_iinc (v := x3_5) (lv' := [(3, .int x3_5), (0, .ref (gA X 8 0)), (1, .int x1), (2, .int x2)]) hx hb dX12_at_67 hl (k := 3) rfl (by rw [ex3_5]; rfl) (by decide) rfl (fun ls hl => ?_)
          refine lv_goto (tgt := 25) hx hb dX12_at_70 (by decide) ?_
          exact ih25 x1 x2 x3_5 ls (lv_sub hl [1, 2, 3, 0] rfl) hF H locs hW hL
        · replace hF := gF hc_4 hF
          refine lv_aload_n hx hb dX12_at_46 rfl (lv_at hl 0 rfl) ?_
          refine lv_iload_n hx hb dX12_at_47 rfl (lv_at hl 3 rfl) ?_
          refine lv_iload_n hx hb dX12_at_48 rfl (lv_at hl 1 rfl) ?_
          refine lv_if_ge (tgt := 57) hx hb dX12_at_49 (by decide) (fun hc_6 => ?_) (fun hc_6 => ?_)
          · replace hF := gT hc_6 hF
            refine lv_iconst (v := 4) hx hb dX12_at_57 (by decide) ?_
            exact B_58 x1 x2 x3 4 x3 ls (hl) hF H locs hW hL
          · replace hF := gF hc_6 hF
            refine lv_bipush (v := 6) hx hb dX12_at_52 (by decide) ?_
            refine lv_goto (tgt := 58) hx hb dX12_at_54 (by decide) ?_
            exact B_58 x1 x2 x3 6 x3 ls (hl) hF H locs hW hL
  rw [F_X12_at] at hF
  obtain ⟨locs, hlocs⟩ : ∃ locs : List Loc, locs = [] := ⟨_, rfl⟩
  rw [← hlocs] at hL ⊢
  refine lv_aload_n hx hb dX12_at_0 rfl (lv_at hl 0 rfl) ?_
  refine lv_iload_n hx hb dX12_at_1 rfl (lv_at hl 1 rfl) ?_
  obtain ⟨v_12, hq_11, hF⟩ := gP_some hF
  refine g_Vi (As := [.int x1]) (rest := []) ⟨hx, hb, hml, hown, hts⟩ hK hW hL hl.1 (gok_o (by decide)) gE_O rfl (c_X12_isHeat l X w x1 v_12 hq_11) k140 rfl rfl (Nat.le_of_ble_eq_true rfl) dX12_at_2 ⟨Nat.le_of_ble_eq_true rfl, Nat.le_of_ble_eq_true rfl⟩ (fun H locs hW hL => ?_)
  refine lv_if_eq (tgt := 20) hx hb dX12_at_5 (by decide) (fun hc_13 => ?_) (fun hc_13 => ?_)
  · replace hF := gT hc_13 hF
    refine lv_ldc hx hb hown q75 dX12_at_20 ?_
    exact g_ri hx hb hr hlocks hW hL (Option.some.inj hF) dX12_at_22
  · replace hF := gF hc_13 hF
    refine lv_iload_n hx hb dX12_at_8 rfl (lv_at hl 2 rfl) ?_
    refine lv_iconst (v := 1) hx hb dX12_at_9 (by decide) ?_
    refine lv_aload_n hx hb dX12_at_10 rfl (lv_at hl 0 rfl) ?_
    obtain ⟨v_15, hq_14, hF⟩ := gP_some hF
    refine g_Vi (As := []) (rest := [.int 1, .int x2]) ⟨hx, hb, hml, hown, hts⟩ hK hW hL hl.1 (gok_o (by decide)) gE_O rfl (c_X12_lanes l X w  v_15 hq_14) k59 rfl rfl (Nat.le_of_ble_eq_true rfl) dX12_at_11 ⟨Nat.le_of_ble_eq_true rfl, Nat.le_of_ble_eq_true rfl⟩ (fun H locs hW hL => ?_)
    obtain ⟨v_17, hq_16, hF⟩ := gP_some hF
    refine g_Si (As := [.int x2, .int 1, .int v_15]) (rest := []) ⟨hx, hb, hml, hown, hts⟩ hK hW hL hl.1 (c_X12_in l X w x2 1 v_15 v_17 hq_16) k36 rfl rfl (Nat.le_of_ble_eq_true rfl) dX12_at_14 ⟨Nat.le_of_ble_eq_true rfl, Nat.le_of_ble_eq_true rfl⟩ (fun H locs hW hL => ?_)
    refine lv_if_ne (tgt := 23) hx hb dX12_at_17 (by decide) (fun hc_18 => ?_) (fun hc_18 => ?_)
    · replace hF := gF hc_18 hF
      refine lv_iconst (v := 0) hx hb dX12_at_23 (by decide) ?_
      refine lv_istore_n (lv' := [(3, .int 0), (0, .ref (gA X 8 0)), (1, .int x1), (2, .int x2)]) hx hb dX12_at_24 rfl hl (by decide) rfl (fun ls hl => ?_)
      exact L_25 gFU x1 x2 0 ls (lv_sub hl [1, 2, 3, 0] rfl) hF H locs hW hL
    · replace hF := gT hc_18 hF
      refine lv_ldc hx hb hown q75 dX12_at_20 ?_
      exact g_ri hx hb hr hlocks hW hL (Option.some.inj hF) dX12_at_22
abbrev rmX12_counts : Room := { frames := 1, cells := 0, slots := 0, locals := 22 }
abbrev wsX12_counts : List Cond := gws yX12_counts cX12_counts 5 (some .int)
set_option maxHeartbeats 4000000 in
set_option maxRecDepth 100000 in
theorem c_X12_counts (l : Launch) (X : gX) (w : gWd) (x1 : Int32) (x2 : Int32) (x3 : Int32) (r : Int32) (hF : F_X12_counts w x1 x2 x3 = some r) : Met l yX12_counts wsX12_counts rmX12_counts (gPc X [.ref (gA X 8 0), .int x1, .int x2, .int x3] w) (gQi X r w) 0 0 (gFr X) := by
  refine g_ofW (cc := cX12_counts) (maxL := 5) (ret := (some .int)) (by decide) rfl (Nat.le_of_ble_eq_true rfl) (fun p e s m args below meth c ls H hx hb hr hts hown hlocks hml hK hl hW => ?_)
  have hl : lv_has ls 5 [(0, .ref (gA X 8 0)), (1, .int x1), (2, .int x2), (3, .int x3)] := hl
  have hown : s.vm.findClass RX12 = some m.cls := hown
  have hL : gLo X [] := gLo_nil
  show W p l e rmX12_counts s m args below meth c H [] 0 0 _ _
  have k40 : CallW rmX12_counts s args RX12 RX12 40 yX12_of cX12_of 3 (some .int) wsX12_of rmX12_of 0 0 2 := cwV 2 hts (gGoodV (fun w h => List.mem_cons_of_mem _ h) wk_X12_40) rfl rfl rfl (by decide +kernel) ⟨Nat.le_of_ble_eq_true rfl, Nat.le_of_ble_eq_true rfl⟩
  have B_12 : ∀ (x1 : Int32) (x3 : Int32) (xs0 : Int32) (xs1 : Int32)  (ls : Array Slot) (hl : lv_has ls 5 [(0, .ref (gA X 8 0)), (1, .int x1), (3, .int x3)]) (hF : F_X12_counts_12 w x1 x3 xs0 xs1 = some r) (H : Heap) (locs : List Loc) (hW : gWo X 251 (gE X w) H) (hL : gLo X locs), W p l e rmX12_counts s m args below meth c H locs 0 0 (MQ below (gQi X r w) args s 0 0 (gFr X)) (F0 m 12 ls [.int xs0, .int xs1, .ref (gA X 8 0)]) := by
    intro x1 x3 xs0 xs1 ls hl hF H locs hW hL
    rw [F_X12_counts_12] at hF
    obtain ⟨v_2, hq_1, hF⟩ := gP_some hF
    refine g_Vi (As := [.int xs1, .int xs0]) (rest := []) ⟨hx, hb, hml, hown, hts⟩ hK hW hL hl.1 (gok_o (by decide)) gE_O rfl (c_X12_of l X w xs1 xs0 v_2 hq_1) k40 rfl rfl (Nat.le_of_ble_eq_true rfl) dX12_counts_12 ⟨Nat.le_of_ble_eq_true rfl, Nat.le_of_ble_eq_true rfl⟩ (fun H locs hW hL => ?_)
    refine lv_istore (lv' := [(4, .int v_2), (0, .ref (gA X 8 0)), (1, .int x1), (3, .int x3)]) hx hb dX12_counts_15 hl (by decide) rfl (fun ls hl => ?_)
    refine lv_iload_n hx hb dX12_counts_17 rfl (lv_at hl 3 rfl) ?_
    by_cases hc_3 : x3 = 0
    · replace hF := gT hc_3 hF
      refine lv_tableIn (off := 34) (tgt := 52) hx hb dX12_counts_18 (by rw [hc_3]; decide) (by rw [hc_3]; decide) (by rw [hc_3]; rfl) (by decide) ?_
      refine lv_iconst (v := 1) hx hb dX12_counts_52 (by decide) ?_
      exact g_ri hx hb hr hlocks hW hL (Option.some.inj hF) dX12_counts_53
    · replace hF := gF hc_3 hF
      by_cases hc_4 : x3 = 1
      · replace hF := gT hc_4 hF
        refine lv_tableIn (off := 36) (tgt := 54) hx hb dX12_counts_18 (by rw [hc_4]; decide) (by rw [hc_4]; decide) (by rw [hc_4]; rfl) (by decide) ?_
        refine lv_iload hx hb dX12_counts_54 (lv_at hl 0 rfl) ?_
        refine lv_if_le (tgt := 63) hx hb dX12_counts_56 (by decide) (fun hc_5 => ?_) (fun hc_5 => ?_)
        · replace hF := gT hc_5 hF
          refine lv_iconst (v := 0) hx hb dX12_counts_63 (by decide) ?_
          exact g_ri hx hb hr hlocks hW hL (Option.some.inj hF) dX12_counts_64
        · replace hF := gF hc_5 hF
          refine lv_iconst (v := 1) hx hb dX12_counts_59 (by decide) ?_
          refine lv_goto (tgt := 64) hx hb dX12_counts_60 (by decide) ?_
          exact g_ri hx hb hr hlocks hW hL (Option.some.inj hF) dX12_counts_64
      · replace hF := gF hc_4 hF
        by_cases hc_6 : x3 = 4
        · replace hF := gT hc_6 hF
          refine lv_tableIn (off := 47) (tgt := 65) hx hb dX12_counts_18 (by rw [hc_6]; decide) (by rw [hc_6]; decide) (by rw [hc_6]; rfl) (by decide) ?_
          refine lv_iload hx hb dX12_counts_65 (lv_at hl 0 rfl) ?_
          refine lv_iconst (v := 1) hx hb dX12_counts_67 (by decide) ?_
          refine lv_icmp_le (tgt := 78) hx hb dX12_counts_68 (by decide) (fun hc_7 => ?_) (fun hc_7 => ?_)
          · replace hF := gT hc_7 hF
            refine lv_iconst (v := 0) hx hb dX12_counts_78 (by decide) ?_
            exact g_ri hx hb hr hlocks hW hL (Option.some.inj hF) dX12_counts_79
          · replace hF := gF hc_7 hF
            refine lv_iload hx hb dX12_counts_71 (lv_at hl 0 rfl) ?_
            refine lv_iconst (v := 1) hx hb dX12_counts_73 (by decide) ?_
            refine lv_isub hx hb dX12_counts_74 ?_
            refine lv_goto (tgt := 79) hx hb dX12_counts_75 (by decide) ?_
            exact g_ri hx hb hr hlocks hW hL (Option.some.inj hF) dX12_counts_79
        · replace hF := gF hc_6 hF
          by_cases hc_8 : x3 = 2
          · refine lv_tableIn (off := 62) (tgt := 80) hx hb dX12_counts_18 (by rw [hc_8]; decide) (by rw [hc_8]; decide) (by rw [hc_8]; rfl) (by decide) ?_
            refine lv_aload_n hx hb dX12_counts_80 rfl (lv_at hl 1 rfl) ?_
            refine lv_iload_n hx hb dX12_counts_81 rfl (lv_at hl 2 rfl) ?_
            refine lv_iconst (v := 1) hx hb dX12_counts_82 (by decide) ?_
            obtain ⟨v_10, hq_9, hF⟩ := gP_some hF
            refine g_Vi (As := [.int x1, .int 1]) (rest := []) ⟨hx, hb, hml, hown, hts⟩ hK hW hL hl.1 (gok_o (by decide)) gE_O rfl (c_X12_of l X w x1 1 v_10 hq_9) k40 rfl rfl (Nat.le_of_ble_eq_true rfl) dX12_counts_83 ⟨Nat.le_of_ble_eq_true rfl, Nat.le_of_ble_eq_true rfl⟩ (fun H locs hW hL => ?_)
            exact g_ri hx hb hr hlocks hW hL (Option.some.inj hF) dX12_counts_86
          · skip
            by_cases hc_11 : x3 = 3
            · refine lv_tableIn (off := 62) (tgt := 80) hx hb dX12_counts_18 (by rw [hc_11]; decide) (by rw [hc_11]; decide) (by rw [hc_11]; rfl) (by decide) ?_
              refine lv_aload_n hx hb dX12_counts_80 rfl (lv_at hl 1 rfl) ?_
              refine lv_iload_n hx hb dX12_counts_81 rfl (lv_at hl 2 rfl) ?_
              refine lv_iconst (v := 1) hx hb dX12_counts_82 (by decide) ?_
              obtain ⟨v_13, hq_12, hF⟩ := gP_some hF
              refine g_Vi (As := [.int x1, .int 1]) (rest := []) ⟨hx, hb, hml, hown, hts⟩ hK hW hL hl.1 (gok_o (by decide)) gE_O rfl (c_X12_of l X w x1 1 v_13 hq_12) k40 rfl rfl (Nat.le_of_ble_eq_true rfl) dX12_counts_83 ⟨Nat.le_of_ble_eq_true rfl, Nat.le_of_ble_eq_true rfl⟩ (fun H locs hW hL => ?_)
              exact g_ri hx hb hr hlocks hW hL (Option.some.inj hF) dX12_counts_86
            · skip
              refine lv_tableOut (tgt := 80) hx hb dX12_counts_18 (g_tabOut (fun k h1 h2 h3 => ?_)) (by decide) ?_
              · have hk : k = 0 ∨ k = 1 ∨ k = 2 ∨ k = 3 ∨ k = 4 := by omega
                rcases hk with rfl | rfl | rfl | rfl | rfl
                · exact hc_3 (Int32.toInt_inj.mp (h3.trans (by decide)))
                · exact hc_4 (Int32.toInt_inj.mp (h3.trans (by decide)))
                · exact hc_8 (Int32.toInt_inj.mp (h3.trans (by decide)))
                · exact hc_11 (Int32.toInt_inj.mp (h3.trans (by decide)))
                · exact hc_6 (Int32.toInt_inj.mp (h3.trans (by decide)))
              · skip
                refine lv_aload_n hx hb dX12_counts_80 rfl (lv_at hl 1 rfl) ?_
                refine lv_iload_n hx hb dX12_counts_81 rfl (lv_at hl 2 rfl) ?_
                refine lv_iconst (v := 1) hx hb dX12_counts_82 (by decide) ?_
                obtain ⟨v_15, hq_14, hF⟩ := gP_some hF
                refine g_Vi (As := [.int x1, .int 1]) (rest := []) ⟨hx, hb, hml, hown, hts⟩ hK hW hL hl.1 (gok_o (by decide)) gE_O rfl (c_X12_of l X w x1 1 v_15 hq_14) k40 rfl rfl (Nat.le_of_ble_eq_true rfl) dX12_counts_83 ⟨Nat.le_of_ble_eq_true rfl, Nat.le_of_ble_eq_true rfl⟩ (fun H locs hW hL => ?_)
                exact g_ri hx hb hr hlocks hW hL (Option.some.inj hF) dX12_counts_86
  rw [F_X12_counts] at hF
  obtain ⟨locs, hlocs⟩ : ∃ locs : List Loc, locs = [] := ⟨_, rfl⟩
  rw [← hlocs] at hL ⊢
  refine lv_aload_n hx hb dX12_counts_0 rfl (lv_at hl 0 rfl) ?_
  refine lv_iload_n hx hb dX12_counts_1 rfl (lv_at hl 1 rfl) ?_
  refine lv_iload_n hx hb dX12_counts_2 rfl (lv_at hl 2 rfl) ?_
  refine lv_if_ge (tgt := 11) hx hb dX12_counts_3 (by decide) (fun hc_16 => ?_) (fun hc_16 => ?_)
  · replace hF := gT hc_16 hF
    refine lv_iconst (v := 5) hx hb dX12_counts_11 (by decide) ?_
    exact B_12 x1 x3 5 x1 ls (lv_sub hl [0, 1, 3] rfl) hF H locs hW hL
  · replace hF := gF hc_16 hF
    refine lv_bipush (v := 7) hx hb dX12_counts_6 (by decide) ?_
    refine lv_goto (tgt := 12) hx hb dX12_counts_8 (by decide) ?_
    exact B_12 x1 x3 7 x1 ls (lv_sub hl [0, 1, 3] rfl) hF H locs hW hL
abbrev rmX12_heat : Room := { frames := 2, cells := 0, slots := 0, locals := 46 }
abbrev wsX12_heat : List Cond := gws yX12_heat cX12_heat 8 (some .int)
set_option maxHeartbeats 4000000 in
set_option maxRecDepth 100000 in
theorem c_X12_heat (l : Launch) (X : gX) (w : gWd) (x1 : Int32) (x2 : Int32) (r : Int32) (hF : F_X12_heat w x1 x2 = some r) : Met l yX12_heat wsX12_heat rmX12_heat (gPc X [.ref (gA X 8 0), .int x1, .int x2] w) (gQi X r w) 0 0 (gFr X) := by
  refine g_ofW (cc := cX12_heat) (maxL := 8) (ret := (some .int)) (by decide) rfl (Nat.le_of_ble_eq_true rfl) (fun p e s m args below meth c ls H hx hb hr hts hown hlocks hml hK hl hW => ?_)
  have hl : lv_has ls 8 [(0, .ref (gA X 8 0)), (1, .int x1), (2, .int x2)] := hl
  have hown : s.vm.findClass RX12 = some m.cls := hown
  have hL : gLo X [] := gLo_nil
  show W p l e rmX12_heat s m args below meth c H [] 0 0 _ _
  have inX12 : ∀ w ∈ wsX120, w ∈ wsX12_heat := fun w h => List.mem_cons_of_mem _ (inlX12 w h)
  have q7 := hts _ (List.mem_cons_of_mem _ wq_X12_7)
  have q75 := hts _ (List.mem_cons_of_mem _ wq_X12_75)
  have k131 : CallB rmX12_heat s args RX12 131 yX12_better cX12_better 2 (some .int) wsX12_better rmX12_better 0 0 2 ∧ (Cond.static yX12_better).before args s = true := va_cwS 2 hts (gGoodS (fun w h => List.mem_cons_of_mem _ h) wk_X12_131) rfl rfl rfl (by decide +kernel) ⟨Nat.le_of_ble_eq_true rfl, Nat.le_of_ble_eq_true rfl⟩
  have k137 : CallB rmX12_heat s args RX12 137 yX12_orNone cX12_orNone 1 (some .int) wsX12_orNone rmX12_orNone 0 0 1 ∧ (Cond.static yX12_orNone).before args s = true := va_cwS 1 hts (gGoodS (fun w h => List.mem_cons_of_mem _ h) wk_X12_137) rfl rfl rfl (by decide +kernel) ⟨Nat.le_of_ble_eq_true rfl, Nat.le_of_ble_eq_true rfl⟩
  have k140 : CallW rmX12_heat s args RX12 RX12 140 yX12_isHeat cX12_isHeat 2 (some .boolean) wsX12_isHeat rmX12_isHeat 0 0 1 := cwV 1 hts (gGoodV (fun w h => List.mem_cons_of_mem _ h) wk_X12_140) rfl rfl rfl (by decide +kernel) ⟨Nat.le_of_ble_eq_true rfl, Nat.le_of_ble_eq_true rfl⟩
  have k143 : CallW rmX12_heat s args RX12 RX12 143 yX12_isIn cX12_isIn 3 (some .boolean) wsX12_isIn rmX12_isIn 0 0 2 := cwV 2 hts (gGoodV (fun w h => List.mem_cons_of_mem _ h) wk_X12_143) rfl rfl rfl (by decide +kernel) ⟨Nat.le_of_ble_eq_true rfl, Nat.le_of_ble_eq_true rfl⟩
  have k146 : CallW rmX12_heat s args RX12 RX12 146 yX12_counts cX12_counts 5 (some .int) wsX12_counts rmX12_counts 0 0 3 := cwV 3 hts (gGoodV (fun w h => List.mem_cons_of_mem _ h) wk_X12_146) rfl rfl rfl (by decide +kernel) ⟨Nat.le_of_ble_eq_true rfl, Nat.le_of_ble_eq_true rfl⟩
  have k36 : CallB rmX12_heat s args RX12 36 yX12_in cX12_in 3 (some .boolean) wsX12_in rmX12_in 0 0 3 ∧ (Cond.static yX12_in).before args s = true := va_cwS 3 hts (gGoodS (fun w h => List.mem_cons_of_mem _ h) wk_X12_36) rfl rfl rfl (by decide +kernel) ⟨Nat.le_of_ble_eq_true rfl, Nat.le_of_ble_eq_true rfl⟩
  have B_125 : ∀ (xs0 : Int32)  (ls : Array Slot) (hl : lv_has ls 8 []) (hF : F_X12_heat_125 w xs0 = some r) (H : Heap) (locs : List Loc) (hW : gWo X 251 (gE X w) H) (hL : gLo X locs), W p l e rmX12_heat s m args below meth c H locs 0 0 (MQ below (gQi X r w) args s 0 0 (gFr X)) (F0 m 125 ls [.int xs0]) := by
    intro xs0 ls hl hF H locs hW hL
    rw [F_X12_heat_125] at hF
    obtain ⟨v_16, hq_15, hF⟩ := gP_some hF
    refine g_Si (As := [.int xs0]) (rest := []) ⟨hx, hb, hml, hown, hts⟩ hK hW hL hl.1 (c_X12_orNone l X w xs0 v_16 hq_15) k137 rfl rfl (Nat.le_of_ble_eq_true rfl) dX12_heat_125 ⟨Nat.le_of_ble_eq_true rfl, Nat.le_of_ble_eq_true rfl⟩ (fun H locs hW hL => ?_)
    exact g_ri hx hb hr hlocks hW hL (Option.some.inj hF) dX12_heat_128
  have L_31 : ∀ (fu : Nat) (x1 : Int32) (x2 : Int32) (x3 : Int32) (x4 : Int32) (x5 : Int32) (x6 : Int32)  (ls : Array Slot) (hl : lv_has ls 8 [(0, .ref (gA X 8 0)), (1, .int x1), (2, .int x2), (3, .int x3), (4, .int x4), (5, .int x5), (6, .int x6)]) (hF : F_X12_heat_31 fu w x1 x2 x3 x4 x5 x6 = some r) (H : Heap) (locs : List Loc) (hW : gWo X 251 (gE X w) H) (hL : gLo X locs), W p l e rmX12_heat s m args below meth c H locs 0 0 (MQ below (gQi X r w) args s 0 0 (gFr X)) (F0 m 31 ls []) := by
    intro fu
    induction fu with
    | zero => intro x1 x2 x3 x4 x5 x6 ls hl hF H locs hW hL; rw [F_X12_heat_31_z] at hF; cases hF
    | succ fu31 ih31 =>
      have B_66 : ∀ (x1 : Int32) (x2 : Int32) (x3 : Int32) (x4 : Int32) (x5 : Int32) (x6 : Int32) (xs0 : Int32)  (ls : Array Slot) (hl : lv_has ls 8 [(0, .ref (gA X 8 0)), (1, .int x1), (2, .int x2), (3, .int x3), (4, .int x4), (5, .int x5), (6, .int x6)]) (hF : F_X12_heat_66 (F_X12_heat_31 fu31) w x1 x2 x3 x4 x5 x6 xs0 = some r) (H : Heap) (locs : List Loc) (hW : gWo X 251 (gE X w) H) (hL : gLo X locs), W p l e rmX12_heat s m args below meth c H locs 0 0 (MQ below (gQi X r w) args s 0 0 (gFr X)) (F0 m 66 ls [.int xs0]) := by
        intro x1 x2 x3 x4 x5 x6 xs0 ls hl hF H locs hW hL
        rw [F_X12_heat_66] at hF
        refine lv_istore (lv' := [(7, .int xs0), (0, .ref (gA X 8 0)), (1, .int x1), (2, .int x2), (3, .int x3), (4, .int x4), (5, .int x5), (6, .int x6)]) hx hb dX12_heat_66 hl (by decide) rfl (fun ls hl => ?_)
        refine lv_iload_n hx hb dX12_heat_68 rfl (lv_at hl 4 rfl) ?_
        refine lv_iload hx hb dX12_heat_69 (lv_at hl 0 rfl) ?_
        refine lv_iadd hx hb dX12_heat_71 ?_
        obtain ⟨x3_9, ex3_9, hF⟩ := gS_some hF
        refine g_top ex3_9 ?_
        refine lv_istore_n (lv' := [(3, .int x3_9), (7, .int xs0), (0, .ref (gA X 8 0)), (1, .int x1), (2, .int x2), (4, .int x4), (5, .int x5), (6, .int x6)]) hx hb dX12_heat_72 rfl hl (by decide) rfl (fun ls hl => ?_)
        refine lv_iload hx hb dX12_heat_73 (lv_at hl 5 rfl) ?_
        refine lv_iload hx hb dX12_heat_75 (lv_at hl 1 rfl) ?_
        obtain ⟨v_11, hq_10, hF⟩ := gP_some hF
        refine g_Si (As := [.int x4, .int xs0]) (rest := []) ⟨hx, hb, hml, hown, hts⟩ hK hW hL hl.1 (c_X12_better l X w x4 xs0 v_11 hq_10) k131 rfl rfl (Nat.le_of_ble_eq_true rfl) dX12_heat_77 ⟨Nat.le_of_ble_eq_true rfl, Nat.le_of_ble_eq_true rfl⟩ (fun H locs hW hL => ?_)
        refine lv_istore (lv' := [(4, .int v_11), (3, .int x3_9), (7, .int xs0), (0, .ref (gA X 8 0)), (1, .int x1), (2, .int x2), (5, .int x5), (6, .int x6)]) hx hb dX12_heat_80 hl (by decide) rfl (fun ls hl => ?_)
        refine lv_iload hx hb dX12_heat_82 (lv_at hl 2 rfl) ?_
        refine lv_iload hx hb dX12_heat_84 (lv_at hl 6 rfl) ?_
        refine lv_icmp_le (tgt := 94) hx hb dX12_heat_86 (by decide) (fun hc_12 => ?_) (fun hc_12 => ?_)
        · replace hF := gT hc_12 hF
          refine lv_iload hx hb dX12_heat_94 (lv_at hl 6 rfl) ?_
          refine lv_istore (lv' := [(5, .int x5), (4, .int v_11), (3, .int x3_9), (7, .int xs0), (0, .ref (gA X 8 0)), (1, .int x1), (2, .int x2), (6, .int x6)]) hx hb dX12_heat_96 hl (by decide) rfl (fun ls hl => ?_)
          obtain ⟨x6_13, ex6_13, hF⟩ := gS_some hF
          refine lv_iinc (v := x6_13) (lv' := [(6, .int x6_13), (5, .int x5), (4, .int v_11), (3, .int x3_9), (7, .int xs0), (0, .ref (gA X 8 0)), (1, .int x1), (2, .int x2)]) hx hb dX12_heat_98 hl (k := 7) rfl (by rw [ex6_13]; rfl) (by decide) rfl (fun ls hl => ?_)
          refine lv_goto (tgt := 31) hx hb dX12_heat_101 (by decide) ?_
          exact ih31 x1 x2 x3_9 v_11 x5 x6_13 ls (lv_sub hl [5, 6, 7, 3, 2, 1, 0] rfl) hF H locs hW hL
        · replace hF := gF hc_12 hF
          refine lv_iload hx hb dX12_heat_89 (lv_at hl 2 rfl) ?_
          refine lv_goto (tgt := 96) hx hb dX12_heat_91 (by decide) ?_
          refine lv_istore (lv' := [(5, .int xs0), (4, .int v_11), (3, .int x3_9), (7, .int xs0), (0, .ref (gA X 8 0)), (1, .int x1), (2, .int x2), (6, .int x6)]) hx hb dX12_heat_96 hl (by decide) rfl (fun ls hl => ?_)
          obtain ⟨x6_14, ex6_14, hF⟩ := gS_some hF
          refine lv_iinc (v := x6_14) (lv' := [(6, .int x6_14), (5, .int xs0), (4, .int v_11), (3, .int x3_9), (7, .int xs0), (0, .ref (gA X 8 0)), (1, .int x1), (2, .int x2)]) hx hb dX12_heat_98 hl (k := 7) rfl (by rw [ex6_14]; rfl) (by decide) rfl (fun ls hl => ?_)
          refine lv_goto (tgt := 31) hx hb dX12_heat_101 (by decide) ?_
          exact ih31 x1 x2 x3_9 v_11 xs0 x6_14 ls (lv_sub hl [5, 6, 7, 3, 2, 1, 0] rfl) hF H locs hW hL
      intro x1 x2 x3 x4 x5 x6 ls hl hF H locs hW hL
      rw [F_X12_heat_31_s] at hF
      refine lv_iload hx hb dX12_heat_31 (lv_at hl 6 rfl) ?_
      refine lv_aload_n hx hb dX12_heat_33 rfl (lv_at hl 0 rfl) ?_
      refine rg_X12_s hx hb hts inX12 hown hK hW q7 dX12_heat_34 ?_
      refine lv_sipush (v := 311) hx hb dX12_heat_37 (by decide) ?_
      refine g_iald2 (k := 311) hx hb hK hW (gok_o (by decide)) (gad_lt (gok_o (by decide))) gE_O1 (gin (by decide)) (by decide) dX12_heat_40 ?_
      refine lv_icmp_ge (tgt := 104) hx hb dX12_heat_41 (by decide) (fun hc_1 => ?_) (fun hc_1 => ?_)
      · replace hF := gT hc_1 hF
        refine lv_iload_n hx hb dX12_heat_104 rfl (lv_at hl 2 rfl) ?_
        refine lv_iconst (v := 2) hx hb dX12_heat_105 (by decide) ?_
        refine lv_icmp_ge (tgt := 113) hx hb dX12_heat_106 (by decide) (fun hc_2 => ?_) (fun hc_2 => ?_)
        · replace hF := gT hc_2 hF
          refine lv_iload_n hx hb dX12_heat_113 rfl (lv_at hl 2 rfl) ?_
          refine lv_iconst (v := 3) hx hb dX12_heat_114 (by decide) ?_
          refine lv_icmp_ne (tgt := 123) hx hb dX12_heat_115 (by decide) (fun hc_3 => ?_) (fun hc_3 => ?_)
          · replace hF := gF hc_3 hF
            refine lv_iload hx hb dX12_heat_123 (lv_at hl 4 rfl) ?_
            exact B_125 x4 ls (lv_sub hl [] rfl) hF H locs hW hL
          · replace hF := gT hc_3 hF
            refine lv_iload hx hb dX12_heat_118 (lv_at hl 5 rfl) ?_
            refine lv_goto (tgt := 125) hx hb dX12_heat_120 (by decide) ?_
            exact B_125 x5 ls (lv_sub hl [] rfl) hF H locs hW hL
        · replace hF := gF hc_2 hF
          refine lv_iload_n hx hb dX12_heat_109 rfl (lv_at hl 3 rfl) ?_
          refine lv_goto (tgt := 128) hx hb dX12_heat_110 (by decide) ?_
          exact g_ri hx hb hr hlocks hW hL (Option.some.inj hF) dX12_heat_128
      · replace hF := gF hc_1 hF
        refine lv_aload_n hx hb dX12_heat_44 rfl (lv_at hl 0 rfl) ?_
        refine lv_iload hx hb dX12_heat_45 (lv_at hl 6 rfl) ?_
        refine lv_iload_n hx hb dX12_heat_47 rfl (lv_at hl 1 rfl) ?_
        obtain ⟨v_5, hq_4, hF⟩ := gP_some hF
        refine g_Vi (As := [.int x6, .int x1]) (rest := []) ⟨hx, hb, hml, hown, hts⟩ hK hW hL hl.1 (gok_o (by decide)) gE_O rfl (c_X12_isIn l X w x6 x1 v_5 hq_4) k143 rfl rfl (Nat.le_of_ble_eq_true rfl) dX12_heat_48 ⟨Nat.le_of_ble_eq_true rfl, Nat.le_of_ble_eq_true rfl⟩ (fun H locs hW hL => ?_)
        refine lv_if_eq (tgt := 65) hx hb dX12_heat_51 (by decide) (fun hc_6 => ?_) (fun hc_6 => ?_)
        · replace hF := gT hc_6 hF
          refine lv_iconst (v := 0) hx hb dX12_heat_65 (by decide) ?_
          exact B_66 x1 x2 x3 x4 x5 x6 0 ls (hl) hF H locs hW hL
        · replace hF := gF hc_6 hF
          refine lv_aload_n hx hb dX12_heat_54 rfl (lv_at hl 0 rfl) ?_
          refine lv_iload hx hb dX12_heat_55 (lv_at hl 6 rfl) ?_
          refine lv_iload_n hx hb dX12_heat_57 rfl (lv_at hl 1 rfl) ?_
          refine lv_iload_n hx hb dX12_heat_58 rfl (lv_at hl 2 rfl) ?_
          obtain ⟨v_8, hq_7, hF⟩ := gP_some hF
          refine g_Vi (As := [.int x6, .int x1, .int x2]) (rest := []) ⟨hx, hb, hml, hown, hts⟩ hK hW hL hl.1 (gok_o (by decide)) gE_O rfl (c_X12_counts l X w x6 x1 x2 v_8 hq_7) k146 rfl rfl (Nat.le_of_ble_eq_true rfl) dX12_heat_59 ⟨Nat.le_of_ble_eq_true rfl, Nat.le_of_ble_eq_true rfl⟩ (fun H locs hW hL => ?_)
          refine lv_goto (tgt := 66) hx hb dX12_heat_62 (by decide) ?_
          exact B_66 x1 x2 x3 x4 x5 x6 v_8 ls (hl) hF H locs hW hL
  rw [F_X12_heat] at hF
  obtain ⟨locs, hlocs⟩ : ∃ locs : List Loc, locs = [] := ⟨_, rfl⟩
  rw [← hlocs] at hL ⊢
  refine lv_aload_n hx hb dX12_heat_0 rfl (lv_at hl 0 rfl) ?_
  refine lv_iload_n hx hb dX12_heat_1 rfl (lv_at hl 1 rfl) ?_
  obtain ⟨v_18, hq_17, hF⟩ := gP_some hF
  refine g_Vi (As := [.int x1]) (rest := []) ⟨hx, hb, hml, hown, hts⟩ hK hW hL hl.1 (gok_o (by decide)) gE_O rfl (c_X12_isHeat l X w x1 v_18 hq_17) k140 rfl rfl (Nat.le_of_ble_eq_true rfl) dX12_heat_2 ⟨Nat.le_of_ble_eq_true rfl, Nat.le_of_ble_eq_true rfl⟩ (fun H locs hW hL => ?_)
  refine lv_if_eq (tgt := 17) hx hb dX12_heat_5 (by decide) (fun hc_19 => ?_) (fun hc_19 => ?_)
  · replace hF := gT hc_19 hF
    refine lv_ldc hx hb hown q75 dX12_heat_17 ?_
    exact g_ri hx hb hr hlocks hW hL (Option.some.inj hF) dX12_heat_19
  · replace hF := gF hc_19 hF
    refine lv_iload_n hx hb dX12_heat_8 rfl (lv_at hl 2 rfl) ?_
    refine lv_iconst (v := 0) hx hb dX12_heat_9 (by decide) ?_
    refine lv_iconst (v := 4) hx hb dX12_heat_10 (by decide) ?_
    obtain ⟨v_21, hq_20, hF⟩ := gP_some hF
    refine g_Si (As := [.int x2, .int 0, .int 4]) (rest := []) ⟨hx, hb, hml, hown, hts⟩ hK hW hL hl.1 (c_X12_in l X w x2 0 4 v_21 hq_20) k36 rfl rfl (Nat.le_of_ble_eq_true rfl) dX12_heat_11 ⟨Nat.le_of_ble_eq_true rfl, Nat.le_of_ble_eq_true rfl⟩ (fun H locs hW hL => ?_)
    refine lv_if_ne (tgt := 20) hx hb dX12_heat_14 (by decide) (fun hc_22 => ?_) (fun hc_22 => ?_)
    · replace hF := gF hc_22 hF
      refine lv_iconst (v := 0) hx hb dX12_heat_20 (by decide) ?_
      refine lv_istore_n (lv' := [(3, .int 0), (0, .ref (gA X 8 0)), (1, .int x1), (2, .int x2)]) hx hb dX12_heat_21 rfl hl (by decide) rfl (fun ls hl => ?_)
      refine lv_iconst (v := 0) hx hb dX12_heat_22 (by decide) ?_
      refine lv_istore (lv' := [(4, .int 0), (3, .int 0), (0, .ref (gA X 8 0)), (1, .int x1), (2, .int x2)]) hx hb dX12_heat_23 hl (by decide) rfl (fun ls hl => ?_)
      refine lv_iconst (v := 0) hx hb dX12_heat_25 (by decide) ?_
      refine lv_istore (lv' := [(5, .int 0), (4, .int 0), (3, .int 0), (0, .ref (gA X 8 0)), (1, .int x1), (2, .int x2)]) hx hb dX12_heat_26 hl (by decide) rfl (fun ls hl => ?_)
      refine lv_iconst (v := 0) hx hb dX12_heat_28 (by decide) ?_
      refine lv_istore (lv' := [(6, .int 0), (5, .int 0), (4, .int 0), (3, .int 0), (0, .ref (gA X 8 0)), (1, .int x1), (2, .int x2)]) hx hb dX12_heat_29 hl (by decide) rfl (fun ls hl => ?_)
      exact L_31 gFU x1 x2 0 0 0 0 ls (lv_sub hl [4, 5, 6, 3, 2, 1, 0] rfl) hF H locs hW hL
    · replace hF := gT hc_22 hF
      refine lv_ldc hx hb hown q75 dX12_heat_17 ?_
      exact g_ri hx hb hr hlocks hW hL (Option.some.inj hF) dX12_heat_19
abbrev rmX12_reserve : Room := { frames := 2, cells := 0, slots := 0, locals := 43 }
abbrev wsX12_reserve : List Cond := gws yX12_reserve cX12_reserve 4 (some .int)
set_option maxHeartbeats 4000000 in
set_option maxRecDepth 100000 in
theorem c_X12_reserve (l : Launch) (X : gX) (w : gWd) (x1 : Int32) (r : Int32) (hF : F_X12_reserve w x1 = some r) : Met l yX12_reserve wsX12_reserve rmX12_reserve (gPc X [.ref (gA X 8 0), .int x1] w) (gQi X r w) 0 0 (gFr X) := by
  refine g_ofW (cc := cX12_reserve) (maxL := 4) (ret := (some .int)) (by decide) rfl (Nat.le_of_ble_eq_true rfl) (fun p e s m args below meth c ls H hx hb hr hts hown hlocks hml hK hl hW => ?_)
  have hl : lv_has ls 4 [(0, .ref (gA X 8 0)), (1, .int x1)] := hl
  have hown : s.vm.findClass RX12 = some m.cls := hown
  have hL : gLo X [] := gLo_nil
  show W p l e rmX12_reserve s m args below meth c H [] 0 0 _ _
  have inX12 : ∀ w ∈ wsX120, w ∈ wsX12_reserve := fun w h => List.mem_cons_of_mem _ (inlX12 w h)
  have q7 := hts _ (List.mem_cons_of_mem _ wq_X12_7)
  have q75 := hts _ (List.mem_cons_of_mem _ wq_X12_75)
  have q85 := hts _ (List.mem_cons_of_mem _ wq_X12_85)
  have k44 : CallW rmX12_reserve s args RX12 RX12 44 yX12_isGone cX12_isGone 2 (some .boolean) wsX12_isGone rmX12_isGone 0 0 1 := cwV 1 hts (gGoodV (fun w h => List.mem_cons_of_mem _ h) wk_X12_44) rfl rfl rfl (by decide +kernel) ⟨Nat.le_of_ble_eq_true rfl, Nat.le_of_ble_eq_true rfl⟩
  have L_11 : ∀ (fu : Nat) (x1 : Int32) (x2 : Int32) (x3 : Int32)  (ls : Array Slot) (hl : lv_has ls 4 [(0, .ref (gA X 8 0)), (1, .int x1), (2, .int x2), (3, .int x3)]) (hF : F_X12_reserve_11 fu w x1 x2 x3 = some r) (H : Heap) (locs : List Loc) (hW : gWo X 251 (gE X w) H) (hL : gLo X locs), W p l e rmX12_reserve s m args below meth c H locs 0 0 (MQ below (gQi X r w) args s 0 0 (gFr X)) (F0 m 11 ls []) := by
    intro fu
    induction fu with
    | zero => intro x1 x2 x3 ls hl hF H locs hW hL; rw [F_X12_reserve_11_z] at hF; cases hF
    | succ fu11 ih11 =>
      intro x1 x2 x3 ls hl hF H locs hW hL
      rw [F_X12_reserve_11_s] at hF
      refine lv_iload_n hx hb dX12_reserve_11 rfl (lv_at hl 3 rfl) ?_
      refine lv_iconst (v := 4) hx hb dX12_reserve_12 (by decide) ?_
      refine lv_icmp_ge (tgt := 75) hx hb dX12_reserve_13 (by decide) (fun hc_1 => ?_) (fun hc_1 => ?_)
      · replace hF := gT hc_1 hF
        refine lv_ldc hx hb hown q85 dX12_reserve_75 ?_
        exact g_ri hx hb hr hlocks hW hL (Option.some.inj hF) dX12_reserve_77
      · replace hF := gF hc_1 hF
        refine lv_aload_n hx hb dX12_reserve_16 rfl (lv_at hl 0 rfl) ?_
        refine rg_X12_s hx hb hts inX12 hown hK hW q7 dX12_reserve_17 ?_
        refine lv_sipush (v := 306) hx hb dX12_reserve_20 (by decide) ?_
        refine lv_iload_n hx hb dX12_reserve_23 rfl (lv_at hl 3 rfl) ?_
        refine lv_iadd hx hb dX12_reserve_24 ?_
        obtain ⟨hin_2, hF⟩ := gB_some hF
        obtain ⟨k_3, ek_3⟩ : ∃ k, k = Int32.toNatClampNeg ((306 + x3)) := ⟨_, rfl⟩
        rw [← ek_3] at hF
        refine g_iald2 (k := k_3) hx hb hK hW (gok_o (by decide)) (gad_lt (gok_o (by decide))) gE_O1 hin_2 ek_3.symm dX12_reserve_25 ?_
        refine lv_if_le (tgt := 69) hx hb dX12_reserve_26 (by decide) (fun hc_4 => ?_) (fun hc_4 => ?_)
        · replace hF := gT hc_4 hF
          obtain ⟨x3_5, ex3_5, hF⟩ := gS_some hF
          refine lv_iinc (v := x3_5) (lv' := [(3, .int x3_5), (0, .ref (gA X 8 0)), (1, .int x1), (2, .int x2)]) hx hb dX12_reserve_69 hl (k := 3) rfl (by rw [ex3_5]; rfl) (by decide) rfl (fun ls hl => ?_)
          refine lv_goto (tgt := 11) hx hb dX12_reserve_72 (by decide) ?_
          exact ih11 x1 x2 x3_5 ls (lv_sub hl [1, 2, 3, 0] rfl) hF H locs hW hL
        · replace hF := gF hc_4 hF
          refine lv_aload_n hx hb dX12_reserve_29 rfl (lv_at hl 0 rfl) ?_
          refine lv_aload_n hx hb dX12_reserve_30 rfl (lv_at hl 0 rfl) ?_
          refine rg_X12_s hx hb hts inX12 hown hK hW q7 dX12_reserve_31 ?_
          refine lv_sipush (v := 306) hx hb dX12_reserve_34 (by decide) ?_
          refine lv_iload_n hx hb dX12_reserve_37 rfl (lv_at hl 3 rfl) ?_
          refine lv_iadd hx hb dX12_reserve_38 ?_
          obtain ⟨hin_6, hF⟩ := gB_some hF
          obtain ⟨k_7, ek_7⟩ : ∃ k, k = Int32.toNatClampNeg ((306 + x3)) := ⟨_, rfl⟩
          rw [← ek_7] at hF
          refine g_iald2 (k := k_7) hx hb hK hW (gok_o (by decide)) (gad_lt (gok_o (by decide))) gE_O1 hin_6 ek_7.symm dX12_reserve_39 ?_
          refine lv_iconst (v := 1) hx hb dX12_reserve_40 (by decide) ?_
          refine lv_isub hx hb dX12_reserve_41 ?_
          obtain ⟨v_9, hq_8, hF⟩ := gP_some hF
          refine g_Vi (As := [.int ((w 8 1 k_7) - 1)]) (rest := []) ⟨hx, hb, hml, hown, hts⟩ hK hW hL hl.1 (gok_o (by decide)) gE_O rfl (c_X12_isGone l X w (((w 8 1 k_7) - 1)) v_9 hq_8) k44 rfl rfl (Nat.le_of_ble_eq_true rfl) dX12_reserve_42 ⟨Nat.le_of_ble_eq_true rfl, Nat.le_of_ble_eq_true rfl⟩ (fun H locs hW hL => ?_)
          refine lv_if_ne (tgt := 69) hx hb dX12_reserve_45 (by decide) (fun hc_10 => ?_) (fun hc_10 => ?_)
          · replace hF := gF hc_10 hF
            obtain ⟨x3_11, ex3_11, hF⟩ := gS_some hF
            refine lv_iinc (v := x3_11) (lv' := [(3, .int x3_11), (0, .ref (gA X 8 0)), (1, .int x1), (2, .int x2)]) hx hb dX12_reserve_69 hl (k := 3) rfl (by rw [ex3_11]; rfl) (by decide) rfl (fun ls hl => ?_)
            refine lv_goto (tgt := 11) hx hb dX12_reserve_72 (by decide) ?_
            exact ih11 x1 x2 x3_11 ls (lv_sub hl [1, 2, 3, 0] rfl) hF H locs hW hL
          · replace hF := gT hc_10 hF
            refine lv_iload_n hx hb dX12_reserve_48 rfl (lv_at hl 2 rfl) ?_
            refine lv_iload_n hx hb dX12_reserve_49 rfl (lv_at hl 1 rfl) ?_
            refine lv_icmp_ne (tgt := 66) hx hb dX12_reserve_50 (by decide) (fun hc_12 => ?_) (fun hc_12 => ?_)
            · replace hF := gF hc_12 hF
              obtain ⟨x2_13, ex2_13, hF⟩ := gS_some hF
              refine lv_iinc (v := x2_13) (lv' := [(2, .int x2_13), (0, .ref (gA X 8 0)), (1, .int x1), (3, .int x3)]) hx hb dX12_reserve_66 hl (k := 2) rfl (by rw [ex2_13]; rfl) (by decide) rfl (fun ls hl => ?_)
              obtain ⟨x3_14, ex3_14, hF⟩ := gS_some hF
              refine lv_iinc (v := x3_14) (lv' := [(3, .int x3_14), (2, .int x2_13), (0, .ref (gA X 8 0)), (1, .int x1)]) hx hb dX12_reserve_69 hl (k := 3) rfl (by rw [ex3_14]; rfl) (by decide) rfl (fun ls hl => ?_)
              refine lv_goto (tgt := 11) hx hb dX12_reserve_72 (by decide) ?_
              exact ih11 x1 x2_13 x3_14 ls (lv_sub hl [2, 3, 1, 0] rfl) hF H locs hW hL
            · replace hF := gT hc_12 hF
              refine lv_aload_n hx hb dX12_reserve_53 rfl (lv_at hl 0 rfl) ?_
              refine rg_X12_s hx hb hts inX12 hown hK hW q7 dX12_reserve_54 ?_
              refine lv_sipush (v := 306) hx hb dX12_reserve_57 (by decide) ?_
              refine lv_iload_n hx hb dX12_reserve_60 rfl (lv_at hl 3 rfl) ?_
              refine lv_iadd hx hb dX12_reserve_61 ?_
              obtain ⟨hin_15, hF⟩ := gB_some hF
              obtain ⟨k_16, ek_16⟩ : ∃ k, k = Int32.toNatClampNeg ((306 + x3)) := ⟨_, rfl⟩
              rw [← ek_16] at hF
              refine g_iald2 (k := k_16) hx hb hK hW (gok_o (by decide)) (gad_lt (gok_o (by decide))) gE_O1 hin_15 ek_16.symm dX12_reserve_62 ?_
              refine lv_iconst (v := 1) hx hb dX12_reserve_63 (by decide) ?_
              refine lv_isub hx hb dX12_reserve_64 ?_
              exact g_ri hx hb hr hlocks hW hL (Option.some.inj hF) dX12_reserve_65
  rw [F_X12_reserve] at hF
  obtain ⟨locs, hlocs⟩ : ∃ locs : List Loc, locs = [] := ⟨_, rfl⟩
  rw [← hlocs] at hL ⊢
  refine lv_iload_n hx hb dX12_reserve_0 rfl (lv_at hl 1 rfl) ?_
  refine lv_if_ge (tgt := 7) hx hb dX12_reserve_1 (by decide) (fun hc_17 => ?_) (fun hc_17 => ?_)
  · replace hF := gT hc_17 hF
    refine lv_iconst (v := 0) hx hb dX12_reserve_7 (by decide) ?_
    refine lv_istore_n (lv' := [(2, .int 0), (0, .ref (gA X 8 0)), (1, .int x1)]) hx hb dX12_reserve_8 rfl hl (by decide) rfl (fun ls hl => ?_)
    refine lv_iconst (v := 0) hx hb dX12_reserve_9 (by decide) ?_
    refine lv_istore_n (lv' := [(3, .int 0), (2, .int 0), (0, .ref (gA X 8 0)), (1, .int x1)]) hx hb dX12_reserve_10 rfl hl (by decide) rfl (fun ls hl => ?_)
    exact L_11 gFU x1 0 0 ls (lv_sub hl [2, 3, 1, 0] rfl) hF H locs hW hL
  · replace hF := gF hc_17 hF
    refine lv_ldc hx hb hown q75 dX12_reserve_4 ?_
    exact g_ri hx hb hr hlocks hW hL (Option.some.inj hF) dX12_reserve_6
abbrev rmX12_reserves : Room := { frames := 3, cells := 0, slots := 0, locals := 66 }
abbrev wsX12_reserves : List Cond := gws yX12_reserves cX12_reserves 2 (some .int)
set_option maxHeartbeats 4000000 in
set_option maxRecDepth 100000 in
theorem c_X12_reserves (l : Launch) (X : gX) (w : gWd)  (r : Int32) (hF : F_X12_reserves w = some r) : Met l yX12_reserves wsX12_reserves rmX12_reserves (gPc X [.ref (gA X 8 0)] w) (gQi X r w) 0 0 (gFr X) := by
  refine g_ofW (cc := cX12_reserves) (maxL := 2) (ret := (some .int)) (by decide) rfl (Nat.le_of_ble_eq_true rfl) (fun p e s m args below meth c ls H hx hb hr hts hown hlocks hml hK hl hW => ?_)
  have hl : lv_has ls 2 [(0, .ref (gA X 8 0))] := hl
  have hown : s.vm.findClass RX12 = some m.cls := hown
  have hL : gLo X [] := gLo_nil
  show W p l e rmX12_reserves s m args below meth c H [] 0 0 _ _
  have k150 : CallW rmX12_reserves s args RX12 RX12 150 yX12_reserve cX12_reserve 4 (some .int) wsX12_reserve rmX12_reserve 0 0 1 := cwV 1 hts (gGoodV (fun w h => List.mem_cons_of_mem _ h) wk_X12_150) rfl rfl rfl (by decide +kernel) ⟨Nat.le_of_ble_eq_true rfl, Nat.le_of_ble_eq_true rfl⟩
  have L_2 : ∀ (fu : Nat) (x1 : Int32)  (ls : Array Slot) (hl : lv_has ls 2 [(0, .ref (gA X 8 0)), (1, .int x1)]) (hF : F_X12_reserves_2 fu w x1 = some r) (H : Heap) (locs : List Loc) (hW : gWo X 251 (gE X w) H) (hL : gLo X locs), W p l e rmX12_reserves s m args below meth c H locs 0 0 (MQ below (gQi X r w) args s 0 0 (gFr X)) (F0 m 2 ls []) := by
    intro fu
    induction fu with
    | zero => intro x1 ls hl hF H locs hW hL; rw [F_X12_reserves_2_z] at hF; cases hF
    | succ fu2 ih2 =>
      intro x1 ls hl hF H locs hW hL
      rw [F_X12_reserves_2_s] at hF
      refine lv_aload_n hx hb dX12_reserves_2 rfl (lv_at hl 0 rfl) ?_
      refine lv_iload_n hx hb dX12_reserves_3 rfl (lv_at hl 1 rfl) ?_
      obtain ⟨v_2, hq_1, hF⟩ := gP_some hF
      refine g_Vi (As := [.int x1]) (rest := []) ⟨hx, hb, hml, hown, hts⟩ hK hW hL hl.1 (gok_o (by decide)) gE_O rfl (c_X12_reserve l X w x1 v_2 hq_1) k150 rfl rfl (Nat.le_of_ble_eq_true rfl) dX12_reserves_4 ⟨Nat.le_of_ble_eq_true rfl, Nat.le_of_ble_eq_true rfl⟩ (fun H locs hW hL => ?_)
      refine lv_if_lt (tgt := 16) hx hb dX12_reserves_7 (by decide) (fun hc_3 => ?_) (fun hc_3 => ?_)
      · replace hF := gT hc_3 hF
        refine lv_iload_n hx hb dX12_reserves_16 rfl (lv_at hl 1 rfl) ?_
        exact g_ri hx hb hr hlocks hW hL (Option.some.inj hF) dX12_reserves_17
      · replace hF := gF hc_3 hF
        obtain ⟨x1_4, ex1_4, hF⟩ := gS_some hF
        refine lv_iinc (v := x1_4) (lv' := [(1, .int x1_4), (0, .ref (gA X 8 0))]) hx hb dX12_reserves_10 hl (k := 1) rfl (by rw [ex1_4]; rfl) (by decide) rfl (fun ls hl => ?_)
        refine lv_goto (tgt := 2) hx hb dX12_reserves_13 (by decide) ?_
        exact ih2 x1_4 ls (lv_sub hl [1, 0] rfl) hF H locs hW hL
  rw [F_X12_reserves] at hF
  obtain ⟨locs, hlocs⟩ : ∃ locs : List Loc, locs = [] := ⟨_, rfl⟩
  rw [← hlocs] at hL ⊢
  refine lv_iconst (v := 0) hx hb dX12_reserves_0 (by decide) ?_
  refine lv_istore_n (lv' := [(1, .int 0), (0, .ref (gA X 8 0))]) hx hb dX12_reserves_1 rfl hl (by decide) rfl (fun ls hl => ?_)
  exact L_2 gFU 0 ls (lv_sub hl [1, 0] rfl) hF H locs hW hL
abbrev rmX12_points : Room := { frames := 1, cells := 0, slots := 0, locals := 22 }
abbrev wsX12_points : List Cond := gws yX12_points cX12_points 2 (some .int)
set_option maxHeartbeats 4000000 in
set_option maxRecDepth 100000 in
theorem c_X12_points (l : Launch) (X : gX) (w : gWd) (x1 : Int32) (r : Int32) (hF : F_X12_points w x1 = some r) : Met l yX12_points wsX12_points rmX12_points (gPc X [.ref (gA X 8 0), .int x1] w) (gQi X r w) 0 0 (gFr X) := by
  refine g_ofW (cc := cX12_points) (maxL := 2) (ret := (some .int)) (by decide) rfl (Nat.le_of_ble_eq_true rfl) (fun p e s m args below meth c ls H hx hb hr hts hown hlocks hml hK hl hW => ?_)
  have hl : lv_has ls 2 [(0, .ref (gA X 8 0)), (1, .int x1)] := hl
  have hown : s.vm.findClass RX12 = some m.cls := hown
  have hL : gLo X [] := gLo_nil
  show W p l e rmX12_points s m args below meth c H [] 0 0 _ _
  have inX12 : ∀ w ∈ wsX120, w ∈ wsX12_points := fun w h => List.mem_cons_of_mem _ (inlX12 w h)
  have q7 := hts _ (List.mem_cons_of_mem _ wq_X12_7)
  have q75 := hts _ (List.mem_cons_of_mem _ wq_X12_75)
  have k36 : CallB rmX12_points s args RX12 36 yX12_in cX12_in 3 (some .boolean) wsX12_in rmX12_in 0 0 3 ∧ (Cond.static yX12_in).before args s = true := va_cwS 3 hts (gGoodS (fun w h => List.mem_cons_of_mem _ h) wk_X12_36) rfl rfl rfl (by decide +kernel) ⟨Nat.le_of_ble_eq_true rfl, Nat.le_of_ble_eq_true rfl⟩
  rw [F_X12_points] at hF
  obtain ⟨locs, hlocs⟩ : ∃ locs : List Loc, locs = [] := ⟨_, rfl⟩
  rw [← hlocs] at hL ⊢
  refine lv_iload_n hx hb dX12_points_0 rfl (lv_at hl 1 rfl) ?_
  refine lv_iconst (v := 0) hx hb dX12_points_1 (by decide) ?_
  refine lv_iconst (v := 5) hx hb dX12_points_2 (by decide) ?_
  obtain ⟨v_2, hq_1, hF⟩ := gP_some hF
  refine g_Si (As := [.int x1, .int 0, .int 5]) (rest := []) ⟨hx, hb, hml, hown, hts⟩ hK hW hL hl.1 (c_X12_in l X w x1 0 5 v_2 hq_1) k36 rfl rfl (Nat.le_of_ble_eq_true rfl) dX12_points_3 ⟨Nat.le_of_ble_eq_true rfl, Nat.le_of_ble_eq_true rfl⟩ (fun H locs hW hL => ?_)
  refine lv_if_eq (tgt := 22) hx hb dX12_points_6 (by decide) (fun hc_3 => ?_) (fun hc_3 => ?_)
  · replace hF := gT hc_3 hF
    refine lv_ldc hx hb hown q75 dX12_points_22 ?_
    exact g_ri hx hb hr hlocks hW hL (Option.some.inj hF) dX12_points_24
  · replace hF := gF hc_3 hF
    refine lv_aload_n hx hb dX12_points_9 rfl (lv_at hl 0 rfl) ?_
    refine rg_X12_s hx hb hts inX12 hown hK hW q7 dX12_points_10 ?_
    refine lv_sipush (v := 300) hx hb dX12_points_13 (by decide) ?_
    refine lv_iload_n hx hb dX12_points_16 rfl (lv_at hl 1 rfl) ?_
    refine lv_iadd hx hb dX12_points_17 ?_
    obtain ⟨hin_4, hF⟩ := gB_some hF
    obtain ⟨k_5, ek_5⟩ : ∃ k, k = Int32.toNatClampNeg ((300 + x1)) := ⟨_, rfl⟩
    rw [← ek_5] at hF
    refine g_iald2 (k := k_5) hx hb hK hW (gok_o (by decide)) (gad_lt (gok_o (by decide))) gE_O1 hin_4 ek_5.symm dX12_points_18 ?_
    refine lv_goto (tgt := 24) hx hb dX12_points_19 (by decide) ?_
    exact g_ri hx hb hr hlocks hW hL (Option.some.inj hF) dX12_points_24
abbrev rmX12_ifDrawn : Room := { frames := 4, cells := 0, slots := 0, locals := 89 }
abbrev wsX12_ifDrawn : List Cond := gws yX12_ifDrawn cX12_ifDrawn 5 (some .int)
set_option maxHeartbeats 4000000 in
set_option maxRecDepth 100000 in
theorem c_X12_ifDrawn (l : Launch) (X : gX) (w : gWd) (x1 : Int32) (x2 : Int32) (r : Int32) (w' : gWd) (hF : F_X12_ifDrawn w x1 x2 = some (r, w')) : Met l yX12_ifDrawn wsX12_ifDrawn rmX12_ifDrawn (gPc X [.ref (gA X 8 0), .int x1, .int x2] w) (gQi X r w') 0 0 (gFr X) := by
  refine g_ofW (cc := cX12_ifDrawn) (maxL := 5) (ret := (some .int)) (by decide) rfl (Nat.le_of_ble_eq_true rfl) (fun p e s m args below meth c ls H hx hb hr hts hown hlocks hml hK hl hW => ?_)
  have hl : lv_has ls 5 [(0, .ref (gA X 8 0)), (1, .int x1), (2, .int x2)] := hl
  have hown : s.vm.findClass RX12 = some m.cls := hown
  have hL : gLo X [] := gLo_nil
  show W p l e rmX12_ifDrawn s m args below meth c H [] 0 0 _ _
  have inX12 : ∀ w ∈ wsX120, w ∈ wsX12_ifDrawn := fun w h => List.mem_cons_of_mem _ (inlX12 w h)
  have q22 := hts _ (List.mem_cons_of_mem _ wq_X12_22)
  have q7 := hts _ (List.mem_cons_of_mem _ wq_X12_7)
  have q75 := hts _ (List.mem_cons_of_mem _ wq_X12_75)
  have q76 := hts _ (List.mem_cons_of_mem _ wq_X12_76)
  have k101 : CallW rmX12_ifDrawn s args RX12 RX12 101 yX12_laneIn cX12_laneIn 2 (some .int) wsX12_laneIn rmX12_laneIn 0 0 1 := cwV 1 hts (gGoodV (fun w h => List.mem_cons_of_mem _ h) wk_X12_101) rfl rfl rfl (by decide +kernel) ⟨Nat.le_of_ble_eq_true rfl, Nat.le_of_ble_eq_true rfl⟩
  have k36 : CallB rmX12_ifDrawn s args RX12 36 yX12_in cX12_in 3 (some .boolean) wsX12_in rmX12_in 0 0 3 ∧ (Cond.static yX12_in).before args s = true := va_cwS 3 hts (gGoodS (fun w h => List.mem_cons_of_mem _ h) wk_X12_36) rfl rfl rfl (by decide +kernel) ⟨Nat.le_of_ble_eq_true rfl, Nat.le_of_ble_eq_true rfl⟩
  have k44 : CallW rmX12_ifDrawn s args RX12 RX12 44 yX12_isGone cX12_isGone 2 (some .boolean) wsX12_isGone rmX12_isGone 0 0 1 := cwV 1 hts (gGoodV (fun w h => List.mem_cons_of_mem _ h) wk_X12_44) rfl rfl rfl (by decide +kernel) ⟨Nat.le_of_ble_eq_true rfl, Nat.le_of_ble_eq_true rfl⟩
  have k89 : CallW rmX12_ifDrawn s args RX12 RX12 89 yX12_isSwimmer cX12_isSwimmer 2 (some .boolean) wsX12_isSwimmer rmX12_isSwimmer 0 0 1 := cwV 1 hts (gGoodV (fun w h => List.mem_cons_of_mem _ h) wk_X12_89) rfl rfl rfl (by decide +kernel) ⟨Nat.le_of_ble_eq_true rfl, Nat.le_of_ble_eq_true rfl⟩
  have k95 : CallW rmX12_ifDrawn s args RX12 RX12 95 yX12_plans cX12_plans 5 (some .int) wsX12_plans rmX12_plans 0 0 0 := cwV 0 hts (gGoodV (fun w h => List.mem_cons_of_mem _ h) wk_X12_95) rfl rfl rfl (by decide +kernel) ⟨Nat.le_of_ble_eq_true rfl, Nat.le_of_ble_eq_true rfl⟩
  have k98 : CallW rmX12_ifDrawn s args RX12 RX12 98 yX12_entryRank cX12_entryRank 4 (some .int) wsX12_entryRank rmX12_entryRank 0 0 1 := cwV 1 hts (gGoodV (fun w h => List.mem_cons_of_mem _ h) wk_X12_98) rfl rfl rfl (by decide +kernel) ⟨Nat.le_of_ble_eq_true rfl, Nat.le_of_ble_eq_true rfl⟩
  rw [F_X12_ifDrawn] at hF
  obtain ⟨locs, hlocs⟩ : ∃ locs : List Loc, locs = [] := ⟨_, rfl⟩
  rw [← hlocs] at hL ⊢
  refine lv_aload_n hx hb dX12_ifDrawn_0 rfl (lv_at hl 0 rfl) ?_
  refine lv_iload_n hx hb dX12_ifDrawn_1 rfl (lv_at hl 1 rfl) ?_
  obtain ⟨v_2, hq_1, hF⟩ := gP_some hF
  refine g_Vi (As := [.int x1]) (rest := []) ⟨hx, hb, hml, hown, hts⟩ hK hW hL hl.1 (gok_o (by decide)) gE_O rfl (c_X12_isSwimmer l X w x1 v_2 hq_1) k89 rfl rfl (Nat.le_of_ble_eq_true rfl) dX12_ifDrawn_2 ⟨Nat.le_of_ble_eq_true rfl, Nat.le_of_ble_eq_true rfl⟩ (fun H locs hW hL => ?_)
  refine lv_if_eq (tgt := 17) hx hb dX12_ifDrawn_5 (by decide) (fun hc_3 => ?_) (fun hc_3 => ?_)
  · replace hF := gT hc_3 hF
    refine lv_ldc hx hb hown q75 dX12_ifDrawn_17 ?_
    exact g_ri hx hb hr hlocks (gW2 hF hW) hL (gI2 hF).1 dX12_ifDrawn_19
  · replace hF := gF hc_3 hF
    refine lv_iload_n hx hb dX12_ifDrawn_8 rfl (lv_at hl 2 rfl) ?_
    refine lv_iconst (v := 0) hx hb dX12_ifDrawn_9 (by decide) ?_
    refine lv_iconst (v := 2) hx hb dX12_ifDrawn_10 (by decide) ?_
    obtain ⟨v_5, hq_4, hF⟩ := gP_some hF
    refine g_Si (As := [.int x2, .int 0, .int 2]) (rest := []) ⟨hx, hb, hml, hown, hts⟩ hK hW hL hl.1 (c_X12_in l X w x2 0 2 v_5 hq_4) k36 rfl rfl (Nat.le_of_ble_eq_true rfl) dX12_ifDrawn_11 ⟨Nat.le_of_ble_eq_true rfl, Nat.le_of_ble_eq_true rfl⟩ (fun H locs hW hL => ?_)
    refine lv_if_ne (tgt := 20) hx hb dX12_ifDrawn_14 (by decide) (fun hc_6 => ?_) (fun hc_6 => ?_)
    · replace hF := gF hc_6 hF
      refine lv_aload_n hx hb dX12_ifDrawn_20 rfl (lv_at hl 0 rfl) ?_
      refine rg_X12_s hx hb hts inX12 hown hK hW q7 dX12_ifDrawn_21 ?_
      refine lv_sipush (v := 310) hx hb dX12_ifDrawn_24 (by decide) ?_
      refine g_iald2 (k := 310) hx hb hK hW (gok_o (by decide)) (gad_lt (gok_o (by decide))) gE_O1 (gin (by decide)) (by decide) dX12_ifDrawn_27 ?_
      refine lv_if_ne (tgt := 39) hx hb dX12_ifDrawn_28 (by decide) (fun hc_7 => ?_) (fun hc_7 => ?_)
      · replace hF := gF hc_7 hF
        refine lv_ldc hx hb hown q76 dX12_ifDrawn_39 ?_
        exact g_ri hx hb hr hlocks (gW2 hF hW) hL (gI2 hF).1 dX12_ifDrawn_41
      · replace hF := gT hc_7 hF
        refine lv_aload_n hx hb dX12_ifDrawn_31 rfl (lv_at hl 0 rfl) ?_
        refine lv_iload_n hx hb dX12_ifDrawn_32 rfl (lv_at hl 1 rfl) ?_
        obtain ⟨v_9, hq_8, hF⟩ := gP_some hF
        refine g_Vi (As := [.int x1]) (rest := []) ⟨hx, hb, hml, hown, hts⟩ hK hW hL hl.1 (gok_o (by decide)) gE_O rfl (c_X12_isGone l X w x1 v_9 hq_8) k44 rfl rfl (Nat.le_of_ble_eq_true rfl) dX12_ifDrawn_33 ⟨Nat.le_of_ble_eq_true rfl, Nat.le_of_ble_eq_true rfl⟩ (fun H locs hW hL => ?_)
        refine lv_if_eq (tgt := 42) hx hb dX12_ifDrawn_36 (by decide) (fun hc_10 => ?_) (fun hc_10 => ?_)
        · replace hF := gT hc_10 hF
          refine lv_aload_n hx hb dX12_ifDrawn_42 rfl (lv_at hl 0 rfl) ?_
          obtain ⟨v_12, w_13, hq_11, hF⟩ := gC_some hF
          refine g_Vi (As := []) (rest := []) ⟨hx, hb, hml, hown, hts⟩ hK hW hL hl.1 (gok_o (by decide)) gE_O rfl (c_X12_plans l X w  v_12 w_13 hq_11) k95 rfl rfl (Nat.le_of_ble_eq_true rfl) dX12_ifDrawn_43 ⟨Nat.le_of_ble_eq_true rfl, Nat.le_of_ble_eq_true rfl⟩ (fun H locs hW hL => ?_)
          refine lv_istore_n (lv' := [(3, .int v_12), (0, .ref (gA X 8 0)), (1, .int x1), (2, .int x2)]) hx hb dX12_ifDrawn_46 rfl hl (by decide) rfl (fun ls hl => ?_)
          refine lv_aload_n hx hb dX12_ifDrawn_47 rfl (lv_at hl 1 rfl) ?_
          refine lv_iload_n hx hb dX12_ifDrawn_48 rfl (lv_at hl 2 rfl) ?_
          obtain ⟨v_15, hq_14, hF⟩ := gP_some hF
          refine g_Vi (As := [.int x1]) (rest := []) ⟨hx, hb, hml, hown, hts⟩ hK hW hL hl.1 (gok_o (by decide)) gE_O rfl (c_X12_entryRank l X w_13 x1 v_15 hq_14) k98 rfl rfl (Nat.le_of_ble_eq_true rfl) dX12_ifDrawn_49 ⟨Nat.le_of_ble_eq_true rfl, Nat.le_of_ble_eq_true rfl⟩ (fun H locs hW hL => ?_)
          refine lv_istore (lv' := [(4, .int v_15), (3, .int v_12), (0, .ref (gA X 8 0)), (1, .int x1), (2, .int x2)]) hx hb dX12_ifDrawn_52 hl (by decide) rfl (fun ls hl => ?_)
          refine lv_iload_n hx hb dX12_ifDrawn_54 rfl (lv_at hl 4 rfl) ?_
          refine lv_if_ne (tgt := 68) hx hb dX12_ifDrawn_55 (by decide) (fun hc_16 => ?_) (fun hc_16 => ?_)
          · replace hF := gF hc_16 hF
            refine lv_iload_n hx hb dX12_ifDrawn_68 rfl (lv_at hl 4 rfl) ?_
            refine lv_iconst (v := 1) hx hb dX12_ifDrawn_69 (by decide) ?_
            refine lv_icmp_ne (tgt := 82) hx hb dX12_ifDrawn_70 (by decide) (fun hc_17 => ?_) (fun hc_17 => ?_)
            · replace hF := gF hc_17 hF
              refine lv_iload_n hx hb dX12_ifDrawn_82 rfl (lv_at hl 1 rfl) ?_
              exact g_ri hx hb hr hlocks (gW2 hF hW) hL (gI2 hF).1 dX12_ifDrawn_83
            · replace hF := gT hc_17 hF
              refine lv_aload_n hx hb dX12_ifDrawn_73 rfl (lv_at hl 2 rfl) ?_
              refine lv_iload hx hb dX12_ifDrawn_74 (lv_at hl 0 rfl) ?_
              obtain ⟨v_19, hq_18, hF⟩ := gP_some hF
              refine g_Vi (As := [.int v_15]) (rest := []) ⟨hx, hb, hml, hown, hts⟩ hK hW hL hl.1 (gok_o (by decide)) gE_O rfl (c_X12_laneIn l X w_13 v_15 v_19 hq_18) k101 rfl rfl (Nat.le_of_ble_eq_true rfl) dX12_ifDrawn_76 ⟨Nat.le_of_ble_eq_true rfl, Nat.le_of_ble_eq_true rfl⟩ (fun H locs hW hL => ?_)
              refine lv_goto (tgt := 83) hx hb dX12_ifDrawn_79 (by decide) ?_
              exact g_ri hx hb hr hlocks (gW2 hF hW) hL (gI2 hF).1 dX12_ifDrawn_83
          · replace hF := gT hc_16 hF
            refine lv_aload_n hx hb dX12_ifDrawn_58 rfl (lv_at hl 2 rfl) ?_
            refine rg_X12_drawn hx hb hts inX12 hown hK hW q22 dX12_ifDrawn_59 ?_
            refine lv_iload hx hb dX12_ifDrawn_62 (lv_at hl 0 rfl) ?_
            obtain ⟨hin_20, hF⟩ := gB_some hF
            obtain ⟨k_21, ek_21⟩ : ∃ k, k = Int32.toNatClampNeg v_15 := ⟨_, rfl⟩
            rw [← ek_21] at hF
            refine g_iald2 (k := k_21) hx hb hK hW (gok_o (by decide)) (gad_lt (gok_o (by decide))) gE_O5 hin_20 ek_21.symm dX12_ifDrawn_64 ?_
            refine lv_goto (tgt := 83) hx hb dX12_ifDrawn_65 (by decide) ?_
            exact g_ri hx hb hr hlocks (gW2 hF hW) hL (gI2 hF).1 dX12_ifDrawn_83
        · replace hF := gF hc_10 hF
          refine lv_ldc hx hb hown q76 dX12_ifDrawn_39 ?_
          exact g_ri hx hb hr hlocks (gW2 hF hW) hL (gI2 hF).1 dX12_ifDrawn_41
    · replace hF := gT hc_6 hF
      refine lv_ldc hx hb hown q75 dX12_ifDrawn_17 ?_
      exact g_ri hx hb hr hlocks (gW2 hF hW) hL (gI2 hF).1 dX12_ifDrawn_19
abbrev rmX12_lane : Room := { frames := 3, cells := 0, slots := 0, locals := 65 }
abbrev wsX12_lane : List Cond := gws yX12_lane cX12_lane 3 (some .int)
set_option maxHeartbeats 4000000 in
set_option maxRecDepth 100000 in
theorem c_X12_lane (l : Launch) (X : gX) (w : gWd) (x1 : Int32) (x2 : Int32) (r : Int32) (hF : F_X12_lane w x1 x2 = some r) : Met l yX12_lane wsX12_lane rmX12_lane (gPc X [.ref (gA X 8 0), .int x1, .int x2] w) (gQi X r w) 0 0 (gFr X) := by
  refine g_ofW (cc := cX12_lane) (maxL := 3) (ret := (some .int)) (by decide) rfl (Nat.le_of_ble_eq_true rfl) (fun p e s m args below meth c ls H hx hb hr hts hown hlocks hml hK hl hW => ?_)
  have hl : lv_has ls 3 [(0, .ref (gA X 8 0)), (1, .int x1), (2, .int x2)] := hl
  have hown : s.vm.findClass RX12 = some m.cls := hown
  have hL : gLo X [] := gLo_nil
  show W p l e rmX12_lane s m args below meth c H [] 0 0 _ _
  have q75 := hts _ (List.mem_cons_of_mem _ wq_X12_75)
  have k153 : CallW rmX12_lane s args RX12 RX12 153 yX12_rankOf cX12_rankOf 3 (some .int) wsX12_rankOf rmX12_rankOf 0 0 1 := cwV 1 hts (gGoodV (fun w h => List.mem_cons_of_mem _ h) wk_X12_153) rfl rfl rfl (by decide +kernel) ⟨Nat.le_of_ble_eq_true rfl, Nat.le_of_ble_eq_true rfl⟩
  have k36 : CallB rmX12_lane s args RX12 36 yX12_in cX12_in 3 (some .boolean) wsX12_in rmX12_in 0 0 3 ∧ (Cond.static yX12_in).before args s = true := va_cwS 3 hts (gGoodS (fun w h => List.mem_cons_of_mem _ h) wk_X12_36) rfl rfl rfl (by decide +kernel) ⟨Nat.le_of_ble_eq_true rfl, Nat.le_of_ble_eq_true rfl⟩
  have k59 : CallW rmX12_lane s args RX12 RX12 59 yX12_lanes cX12_lanes 1 (some .int) wsX12_lanes rmX12_lanes 0 0 0 := cwV 0 hts (gGoodV (fun w h => List.mem_cons_of_mem _ h) wk_X12_59) rfl rfl rfl (by decide +kernel) ⟨Nat.le_of_ble_eq_true rfl, Nat.le_of_ble_eq_true rfl⟩
  have k63 : CallW rmX12_lane s args RX12 RX12 63 yX12_laneOf cX12_laneOf 4 (some .int) wsX12_laneOf rmX12_laneOf 0 0 1 := cwV 1 hts (gGoodV (fun w h => List.mem_cons_of_mem _ h) wk_X12_63) rfl rfl rfl (by decide +kernel) ⟨Nat.le_of_ble_eq_true rfl, Nat.le_of_ble_eq_true rfl⟩
  rw [F_X12_lane] at hF
  obtain ⟨locs, hlocs⟩ : ∃ locs : List Loc, locs = [] := ⟨_, rfl⟩
  rw [← hlocs] at hL ⊢
  refine lv_iload_n hx hb dX12_lane_0 rfl (lv_at hl 1 rfl) ?_
  refine lv_iconst (v := 0) hx hb dX12_lane_1 (by decide) ?_
  refine lv_aload_n hx hb dX12_lane_2 rfl (lv_at hl 0 rfl) ?_
  obtain ⟨v_2, hq_1, hF⟩ := gP_some hF
  refine g_Vi (As := []) (rest := [.int 0, .int x1]) ⟨hx, hb, hml, hown, hts⟩ hK hW hL hl.1 (gok_o (by decide)) gE_O rfl (c_X12_lanes l X w  v_2 hq_1) k59 rfl rfl (Nat.le_of_ble_eq_true rfl) dX12_lane_3 ⟨Nat.le_of_ble_eq_true rfl, Nat.le_of_ble_eq_true rfl⟩ (fun H locs hW hL => ?_)
  refine lv_iconst (v := 1) hx hb dX12_lane_6 (by decide) ?_
  refine lv_isub hx hb dX12_lane_7 ?_
  obtain ⟨v_4, hq_3, hF⟩ := gP_some hF
  refine g_Si (As := [.int x1, .int 0, .int (v_2 - 1)]) (rest := []) ⟨hx, hb, hml, hown, hts⟩ hK hW hL hl.1 (c_X12_in l X w x1 0 ((v_2 - 1)) v_4 hq_3) k36 rfl rfl (Nat.le_of_ble_eq_true rfl) dX12_lane_8 ⟨Nat.le_of_ble_eq_true rfl, Nat.le_of_ble_eq_true rfl⟩ (fun H locs hW hL => ?_)
  refine lv_if_eq (tgt := 23) hx hb dX12_lane_11 (by decide) (fun hc_5 => ?_) (fun hc_5 => ?_)
  · replace hF := gT hc_5 hF
    refine lv_ldc hx hb hown q75 dX12_lane_23 ?_
    exact g_ri hx hb hr hlocks hW hL (Option.some.inj hF) dX12_lane_25
  · replace hF := gF hc_5 hF
    refine lv_iload_n hx hb dX12_lane_14 rfl (lv_at hl 2 rfl) ?_
    refine lv_iconst (v := 0) hx hb dX12_lane_15 (by decide) ?_
    refine lv_iconst (v := 1) hx hb dX12_lane_16 (by decide) ?_
    obtain ⟨v_7, hq_6, hF⟩ := gP_some hF
    refine g_Si (As := [.int x2, .int 0, .int 1]) (rest := []) ⟨hx, hb, hml, hown, hts⟩ hK hW hL hl.1 (c_X12_in l X w x2 0 1 v_7 hq_6) k36 rfl rfl (Nat.le_of_ble_eq_true rfl) dX12_lane_17 ⟨Nat.le_of_ble_eq_true rfl, Nat.le_of_ble_eq_true rfl⟩ (fun H locs hW hL => ?_)
    refine lv_if_ne (tgt := 26) hx hb dX12_lane_20 (by decide) (fun hc_8 => ?_) (fun hc_8 => ?_)
    · replace hF := gF hc_8 hF
      refine lv_iload_n hx hb dX12_lane_26 rfl (lv_at hl 2 rfl) ?_
      refine lv_if_ne (tgt := 38) hx hb dX12_lane_27 (by decide) (fun hc_9 => ?_) (fun hc_9 => ?_)
      · replace hF := gF hc_9 hF
        refine lv_aload_n hx hb dX12_lane_38 rfl (lv_at hl 0 rfl) ?_
        refine lv_iload_n hx hb dX12_lane_39 rfl (lv_at hl 1 rfl) ?_
        refine lv_iconst (v := 1) hx hb dX12_lane_40 (by decide) ?_
        refine lv_iadd hx hb dX12_lane_41 ?_
        obtain ⟨v_11, hq_10, hF⟩ := gP_some hF
        refine g_Vi (As := [.int (x1 + 1)]) (rest := []) ⟨hx, hb, hml, hown, hts⟩ hK hW hL hl.1 (gok_o (by decide)) gE_O rfl (c_X12_rankOf l X w ((x1 + 1)) v_11 hq_10) k153 rfl rfl (Nat.le_of_ble_eq_true rfl) dX12_lane_42 ⟨Nat.le_of_ble_eq_true rfl, Nat.le_of_ble_eq_true rfl⟩ (fun H locs hW hL => ?_)
        exact g_ri hx hb hr hlocks hW hL (Option.some.inj hF) dX12_lane_45
      · replace hF := gT hc_9 hF
        refine lv_aload_n hx hb dX12_lane_30 rfl (lv_at hl 0 rfl) ?_
        refine lv_iload_n hx hb dX12_lane_31 rfl (lv_at hl 1 rfl) ?_
        obtain ⟨v_13, hq_12, hF⟩ := gP_some hF
        refine g_Vi (As := [.int x1]) (rest := []) ⟨hx, hb, hml, hown, hts⟩ hK hW hL hl.1 (gok_o (by decide)) gE_O rfl (c_X12_laneOf l X w x1 v_13 hq_12) k63 rfl rfl (Nat.le_of_ble_eq_true rfl) dX12_lane_32 ⟨Nat.le_of_ble_eq_true rfl, Nat.le_of_ble_eq_true rfl⟩ (fun H locs hW hL => ?_)
        refine lv_goto (tgt := 45) hx hb dX12_lane_35 (by decide) ?_
        exact g_ri hx hb hr hlocks hW hL (Option.some.inj hF) dX12_lane_45
    · replace hF := gT hc_8 hF
      refine lv_ldc hx hb hown q75 dX12_lane_23 ?_
      exact g_ri hx hb hr hlocks hW hL (Option.some.inj hF) dX12_lane_25
abbrev rmX12_missing : Room := { frames := 3, cells := 0, slots := 0, locals := 64 }
abbrev wsX12_missing : List Cond := gws yX12_missing cX12_missing 4 (some .int)
set_option maxHeartbeats 4000000 in
set_option maxRecDepth 100000 in
theorem c_X12_missing (l : Launch) (X : gX) (w : gWd) (x1 : Int32) (r : Int32) (hF : F_X12_missing w x1 = some r) : Met l yX12_missing wsX12_missing rmX12_missing (gPc X [.ref (gA X 8 0), .int x1] w) (gQi X r w) 0 0 (gFr X) := by
  refine g_ofW (cc := cX12_missing) (maxL := 4) (ret := (some .int)) (by decide) rfl (Nat.le_of_ble_eq_true rfl) (fun p e s m args below meth c ls H hx hb hr hts hown hlocks hml hK hl hW => ?_)
  have hl : lv_has ls 4 [(0, .ref (gA X 8 0)), (1, .int x1)] := hl
  have hown : s.vm.findClass RX12 = some m.cls := hown
  have hL : gLo X [] := gLo_nil
  show W p l e rmX12_missing s m args below meth c H [] 0 0 _ _
  have inX12 : ∀ w ∈ wsX120, w ∈ wsX12_missing := fun w h => List.mem_cons_of_mem _ (inlX12 w h)
  have q7 := hts _ (List.mem_cons_of_mem _ wq_X12_7)
  have q75 := hts _ (List.mem_cons_of_mem _ wq_X12_75)
  have q85 := hts _ (List.mem_cons_of_mem _ wq_X12_85)
  have k104 : CallW rmX12_missing s args RX12 RX12 104 yX12_isAsked cX12_isAsked 2 (some .boolean) wsX12_isAsked rmX12_isAsked 0 0 1 := cwV 1 hts (gGoodV (fun w h => List.mem_cons_of_mem _ h) wk_X12_104) rfl rfl rfl (by decide +kernel) ⟨Nat.le_of_ble_eq_true rfl, Nat.le_of_ble_eq_true rfl⟩
  have k107 : CallW rmX12_missing s args RX12 RX12 107 yX12_timeNow cX12_timeNow 1 (some .int) wsX12_timeNow rmX12_timeNow 0 0 0 := cwV 0 hts (gGoodV (fun w h => List.mem_cons_of_mem _ h) wk_X12_107) rfl rfl rfl (by decide +kernel) ⟨Nat.le_of_ble_eq_true rfl, Nat.le_of_ble_eq_true rfl⟩
  have k40 : CallW rmX12_missing s args RX12 RX12 40 yX12_of cX12_of 3 (some .int) wsX12_of rmX12_of 0 0 2 := cwV 2 hts (gGoodV (fun w h => List.mem_cons_of_mem _ h) wk_X12_40) rfl rfl rfl (by decide +kernel) ⟨Nat.le_of_ble_eq_true rfl, Nat.le_of_ble_eq_true rfl⟩
  have L_11 : ∀ (fu : Nat) (x1 : Int32) (x2 : Int32) (x3 : Int32)  (ls : Array Slot) (hl : lv_has ls 4 [(0, .ref (gA X 8 0)), (1, .int x1), (2, .int x2), (3, .int x3)]) (hF : F_X12_missing_11 fu w x1 x2 x3 = some r) (H : Heap) (locs : List Loc) (hW : gWo X 251 (gE X w) H) (hL : gLo X locs), W p l e rmX12_missing s m args below meth c H locs 0 0 (MQ below (gQi X r w) args s 0 0 (gFr X)) (F0 m 11 ls []) := by
    intro fu
    induction fu with
    | zero => intro x1 x2 x3 ls hl hF H locs hW hL; rw [F_X12_missing_11_z] at hF; cases hF
    | succ fu11 ih11 =>
      intro x1 x2 x3 ls hl hF H locs hW hL
      rw [F_X12_missing_11_s] at hF
      refine lv_iload_n hx hb dX12_missing_11 rfl (lv_at hl 3 rfl) ?_
      refine lv_aload_n hx hb dX12_missing_12 rfl (lv_at hl 0 rfl) ?_
      refine rg_X12_s hx hb hts inX12 hown hK hW q7 dX12_missing_13 ?_
      refine lv_sipush (v := 311) hx hb dX12_missing_16 (by decide) ?_
      refine g_iald2 (k := 311) hx hb hK hW (gok_o (by decide)) (gad_lt (gok_o (by decide))) gE_O1 (gin (by decide)) (by decide) dX12_missing_19 ?_
      refine lv_icmp_ge (tgt := 59) hx hb dX12_missing_20 (by decide) (fun hc_1 => ?_) (fun hc_1 => ?_)
      · replace hF := gT hc_1 hF
        refine lv_ldc hx hb hown q85 dX12_missing_59 ?_
        exact g_ri hx hb hr hlocks hW hL (Option.some.inj hF) dX12_missing_61
      · replace hF := gF hc_1 hF
        refine lv_aload_n hx hb dX12_missing_23 rfl (lv_at hl 0 rfl) ?_
        refine lv_iload_n hx hb dX12_missing_24 rfl (lv_at hl 3 rfl) ?_
        obtain ⟨v_3, hq_2, hF⟩ := gP_some hF
        refine g_Vi (As := [.int x3]) (rest := []) ⟨hx, hb, hml, hown, hts⟩ hK hW hL hl.1 (gok_o (by decide)) gE_O rfl (c_X12_isAsked l X w x3 v_3 hq_2) k104 rfl rfl (Nat.le_of_ble_eq_true rfl) dX12_missing_25 ⟨Nat.le_of_ble_eq_true rfl, Nat.le_of_ble_eq_true rfl⟩ (fun H locs hW hL => ?_)
        refine lv_if_eq (tgt := 53) hx hb dX12_missing_28 (by decide) (fun hc_4 => ?_) (fun hc_4 => ?_)
        · replace hF := gT hc_4 hF
          obtain ⟨x3_5, ex3_5, hF⟩ := gS_some hF
          refine lv_iinc (v := x3_5) (lv' := [(3, .int x3_5), (0, .ref (gA X 8 0)), (1, .int x1), (2, .int x2)]) hx hb dX12_missing_53 hl (k := 3) rfl (by rw [ex3_5]; rfl) (by decide) rfl (fun ls hl => ?_)
          refine lv_goto (tgt := 11) hx hb dX12_missing_56 (by decide) ?_
          exact ih11 x1 x2 x3_5 ls (lv_sub hl [1, 2, 3, 0] rfl) hF H locs hW hL
        · replace hF := gF hc_4 hF
          refine lv_aload_n hx hb dX12_missing_31 rfl (lv_at hl 0 rfl) ?_
          refine lv_iload_n hx hb dX12_missing_32 rfl (lv_at hl 3 rfl) ?_
          refine lv_aload_n hx hb dX12_missing_33 rfl (lv_at hl 0 rfl) ?_
          obtain ⟨v_7, hq_6, hF⟩ := gP_some hF
          refine g_Vi (As := []) (rest := [.int x3, .ref (gA X 8 0)]) ⟨hx, hb, hml, hown, hts⟩ hK hW hL hl.1 (gok_o (by decide)) gE_O rfl (c_X12_timeNow l X w  v_7 hq_6) k107 rfl rfl (Nat.le_of_ble_eq_true rfl) dX12_missing_34 ⟨Nat.le_of_ble_eq_true rfl, Nat.le_of_ble_eq_true rfl⟩ (fun H locs hW hL => ?_)
          obtain ⟨v_9, hq_8, hF⟩ := gP_some hF
          refine g_Vi (As := [.int x3, .int v_7]) (rest := []) ⟨hx, hb, hml, hown, hts⟩ hK hW hL hl.1 (gok_o (by decide)) gE_O rfl (c_X12_of l X w x3 v_7 v_9 hq_8) k40 rfl rfl (Nat.le_of_ble_eq_true rfl) dX12_missing_37 ⟨Nat.le_of_ble_eq_true rfl, Nat.le_of_ble_eq_true rfl⟩ (fun H locs hW hL => ?_)
          refine lv_if_ne (tgt := 53) hx hb dX12_missing_40 (by decide) (fun hc_10 => ?_) (fun hc_10 => ?_)
          · replace hF := gF hc_10 hF
            obtain ⟨x3_11, ex3_11, hF⟩ := gS_some hF
            refine lv_iinc (v := x3_11) (lv' := [(3, .int x3_11), (0, .ref (gA X 8 0)), (1, .int x1), (2, .int x2)]) hx hb dX12_missing_53 hl (k := 3) rfl (by rw [ex3_11]; rfl) (by decide) rfl (fun ls hl => ?_)
            refine lv_goto (tgt := 11) hx hb dX12_missing_56 (by decide) ?_
            exact ih11 x1 x2 x3_11 ls (lv_sub hl [1, 2, 3, 0] rfl) hF H locs hW hL
          · replace hF := gT hc_10 hF
            refine lv_iload_n hx hb dX12_missing_43 rfl (lv_at hl 2 rfl) ?_
            refine lv_iload_n hx hb dX12_missing_44 rfl (lv_at hl 1 rfl) ?_
            refine lv_icmp_ne (tgt := 50) hx hb dX12_missing_45 (by decide) (fun hc_12 => ?_) (fun hc_12 => ?_)
            · replace hF := gF hc_12 hF
              obtain ⟨x2_13, ex2_13, hF⟩ := gS_some hF
              refine lv_iinc (v := x2_13) (lv' := [(2, .int x2_13), (0, .ref (gA X 8 0)), (1, .int x1), (3, .int x3)]) hx hb dX12_missing_50 hl (k := 2) rfl (by rw [ex2_13]; rfl) (by decide) rfl (fun ls hl => ?_)
              obtain ⟨x3_14, ex3_14, hF⟩ := gS_some hF
              refine lv_iinc (v := x3_14) (lv' := [(3, .int x3_14), (2, .int x2_13), (0, .ref (gA X 8 0)), (1, .int x1)]) hx hb dX12_missing_53 hl (k := 3) rfl (by rw [ex3_14]; rfl) (by decide) rfl (fun ls hl => ?_)
              refine lv_goto (tgt := 11) hx hb dX12_missing_56 (by decide) ?_
              exact ih11 x1 x2_13 x3_14 ls (lv_sub hl [2, 3, 1, 0] rfl) hF H locs hW hL
            · replace hF := gT hc_12 hF
              refine lv_iload_n hx hb dX12_missing_48 rfl (lv_at hl 3 rfl) ?_
              exact g_ri hx hb hr hlocks hW hL (Option.some.inj hF) dX12_missing_49
  rw [F_X12_missing] at hF
  obtain ⟨locs, hlocs⟩ : ∃ locs : List Loc, locs = [] := ⟨_, rfl⟩
  rw [← hlocs] at hL ⊢
  refine lv_iload_n hx hb dX12_missing_0 rfl (lv_at hl 1 rfl) ?_
  refine lv_if_ge (tgt := 7) hx hb dX12_missing_1 (by decide) (fun hc_15 => ?_) (fun hc_15 => ?_)
  · replace hF := gT hc_15 hF
    refine lv_iconst (v := 0) hx hb dX12_missing_7 (by decide) ?_
    refine lv_istore_n (lv' := [(2, .int 0), (0, .ref (gA X 8 0)), (1, .int x1)]) hx hb dX12_missing_8 rfl hl (by decide) rfl (fun ls hl => ?_)
    refine lv_iconst (v := 0) hx hb dX12_missing_9 (by decide) ?_
    refine lv_istore_n (lv' := [(3, .int 0), (2, .int 0), (0, .ref (gA X 8 0)), (1, .int x1)]) hx hb dX12_missing_10 rfl hl (by decide) rfl (fun ls hl => ?_)
    exact L_11 gFU x1 0 0 ls (lv_sub hl [2, 3, 1, 0] rfl) hF H locs hW hL
  · replace hF := gF hc_15 hF
    refine lv_ldc hx hb hown q75 dX12_missing_4 ?_
    exact g_ri hx hb hr hlocks hW hL (Option.some.inj hF) dX12_missing_6
abbrev rmX12_leader : Room := { frames := 1, cells := 0, slots := 0, locals := 22 }
abbrev wsX12_leader : List Cond := gws yX12_leader cX12_leader 7 (some .int)
set_option maxHeartbeats 4000000 in
set_option maxRecDepth 100000 in
theorem c_X12_leader (l : Launch) (X : gX) (w : gWd) (x1 : Int32) (r : Int32) (hF : F_X12_leader w x1 = some r) : Met l yX12_leader wsX12_leader rmX12_leader (gPc X [.ref (gA X 8 0), .int x1] w) (gQi X r w) 0 0 (gFr X) := by
  refine g_ofW (cc := cX12_leader) (maxL := 7) (ret := (some .int)) (by decide) rfl (Nat.le_of_ble_eq_true rfl) (fun p e s m args below meth c ls H hx hb hr hts hown hlocks hml hK hl hW => ?_)
  have hl : lv_has ls 7 [(0, .ref (gA X 8 0)), (1, .int x1)] := hl
  have hown : s.vm.findClass RX12 = some m.cls := hown
  have hL : gLo X [] := gLo_nil
  show W p l e rmX12_leader s m args below meth c H [] 0 0 _ _
  have inX12 : ∀ w ∈ wsX120, w ∈ wsX12_leader := fun w h => List.mem_cons_of_mem _ (inlX12 w h)
  have q7 := hts _ (List.mem_cons_of_mem _ wq_X12_7)
  have q75 := hts _ (List.mem_cons_of_mem _ wq_X12_75)
  have k36 : CallB rmX12_leader s args RX12 36 yX12_in cX12_in 3 (some .boolean) wsX12_in rmX12_in 0 0 3 ∧ (Cond.static yX12_in).before args s = true := va_cwS 3 hts (gGoodS (fun w h => List.mem_cons_of_mem _ h) wk_X12_36) rfl rfl rfl (by decide +kernel) ⟨Nat.le_of_ble_eq_true rfl, Nat.le_of_ble_eq_true rfl⟩
  have L_16 : ∀ (fu : Nat) (x1 : Int32) (x2 : Int32) (x3 : Int32)  (ls : Array Slot) (hl : lv_has ls 7 [(0, .ref (gA X 8 0)), (1, .int x1), (2, .int x2), (3, .int x3)]) (hF : F_X12_leader_16 fu w x1 x2 x3 = some r) (H : Heap) (locs : List Loc) (hW : gWo X 251 (gE X w) H) (hL : gLo X locs), W p l e rmX12_leader s m args below meth c H locs 0 0 (MQ below (gQi X r w) args s 0 0 (gFr X)) (F0 m 16 ls []) := by
    intro fu
    induction fu with
    | zero => intro x1 x2 x3 ls hl hF H locs hW hL; rw [F_X12_leader_16_z] at hF; cases hF
    | succ fu16 ih16 =>
      have L_28 : ∀ (fu : Nat) (x1 : Int32) (x2 : Int32) (x3 : Int32) (x4 : Int32) (x5 : Int32)  (ls : Array Slot) (hl : lv_has ls 7 [(0, .ref (gA X 8 0)), (1, .int x1), (2, .int x2), (3, .int x3), (4, .int x4), (5, .int x5)]) (hF : F_X12_leader_28 (F_X12_leader_16 fu16) fu w x1 x2 x3 x4 x5 = some r) (H : Heap) (locs : List Loc) (hW : gWo X 251 (gE X w) H) (hL : gLo X locs), W p l e rmX12_leader s m args below meth c H locs 0 0 (MQ below (gQi X r w) args s 0 0 (gFr X)) (F0 m 28 ls []) := by
        intro fu
        induction fu with
        | zero => intro x1 x2 x3 x4 x5 ls hl hF H locs hW hL; rw [F_X12_leader_28_z] at hF; cases hF
        | succ fu28 ih28 =>
          have B_77 : ∀ (x1 : Int32) (x2 : Int32) (x3 : Int32) (x5 : Int32) (xs0 : Int32)  (ls : Array Slot) (hl : lv_has ls 7 [(0, .ref (gA X 8 0)), (1, .int x1), (2, .int x2), (3, .int x3), (5, .int x5)]) (hF : F_X12_leader_77 (F_X12_leader_16 fu16) (F_X12_leader_28 (F_X12_leader_16 fu16) fu28) w x1 x2 x3 x5 xs0 = some r) (H : Heap) (locs : List Loc) (hW : gWo X 251 (gE X w) H) (hL : gLo X locs), W p l e rmX12_leader s m args below meth c H locs 0 0 (MQ below (gQi X r w) args s 0 0 (gFr X)) (F0 m 77 ls [.int xs0]) := by
            intro x1 x2 x3 x5 xs0 ls hl hF H locs hW hL
            rw [F_X12_leader_77] at hF
            refine lv_iconst (v := 1) hx hb dX12_leader_77 (by decide) ?_
            refine lv_goto (tgt := 82) hx hb dX12_leader_78 (by decide) ?_
            refine lv_iadd hx hb dX12_leader_82 ?_
            obtain ⟨x4_14, ex4_14, hF⟩ := gS_some hF
            refine g_top ex4_14 ?_
            refine lv_istore (lv' := [(4, .int x4_14), (0, .ref (gA X 8 0)), (1, .int x1), (2, .int x2), (3, .int x3), (5, .int x5)]) hx hb dX12_leader_83 hl (by decide) rfl (fun ls hl => ?_)
            obtain ⟨x5_15, ex5_15, hF⟩ := gS_some hF
            refine lv_iinc (v := x5_15) (lv' := [(5, .int x5_15), (4, .int x4_14), (0, .ref (gA X 8 0)), (1, .int x1), (2, .int x2), (3, .int x3)]) hx hb dX12_leader_85 hl (k := 5) rfl (by rw [ex5_15]; rfl) (by decide) rfl (fun ls hl => ?_)
            refine lv_goto (tgt := 28) hx hb dX12_leader_88 (by decide) ?_
            exact ih28 x1 x2 x3 x4_14 x5_15 ls (lv_sub hl [2, 3, 4, 5, 1, 0] rfl) hF H locs hW hL
          have B_81 : ∀ (x1 : Int32) (x2 : Int32) (x3 : Int32) (x5 : Int32) (xs0 : Int32)  (ls : Array Slot) (hl : lv_has ls 7 [(0, .ref (gA X 8 0)), (1, .int x1), (2, .int x2), (3, .int x3), (5, .int x5)]) (hF : F_X12_leader_81 (F_X12_leader_16 fu16) (F_X12_leader_28 (F_X12_leader_16 fu16) fu28) w x1 x2 x3 x5 xs0 = some r) (H : Heap) (locs : List Loc) (hW : gWo X 251 (gE X w) H) (hL : gLo X locs), W p l e rmX12_leader s m args below meth c H locs 0 0 (MQ below (gQi X r w) args s 0 0 (gFr X)) (F0 m 81 ls [.int xs0]) := by
            intro x1 x2 x3 x5 xs0 ls hl hF H locs hW hL
            rw [F_X12_leader_81] at hF
            refine lv_iconst (v := 0) hx hb dX12_leader_81 (by decide) ?_
            refine lv_iadd hx hb dX12_leader_82 ?_
            obtain ⟨x4_16, ex4_16, hF⟩ := gS_some hF
            refine g_top ex4_16 ?_
            refine lv_istore (lv' := [(4, .int x4_16), (0, .ref (gA X 8 0)), (1, .int x1), (2, .int x2), (3, .int x3), (5, .int x5)]) hx hb dX12_leader_83 hl (by decide) rfl (fun ls hl => ?_)
            obtain ⟨x5_17, ex5_17, hF⟩ := gS_some hF
            refine lv_iinc (v := x5_17) (lv' := [(5, .int x5_17), (4, .int x4_16), (0, .ref (gA X 8 0)), (1, .int x1), (2, .int x2), (3, .int x3)]) hx hb dX12_leader_85 hl (k := 5) rfl (by rw [ex5_17]; rfl) (by decide) rfl (fun ls hl => ?_)
            refine lv_goto (tgt := 28) hx hb dX12_leader_88 (by decide) ?_
            exact ih28 x1 x2 x3 x4_16 x5_17 ls (lv_sub hl [2, 3, 4, 5, 1, 0] rfl) hF H locs hW hL
          intro x1 x2 x3 x4 x5 ls hl hF H locs hW hL
          rw [F_X12_leader_28_s] at hF
          refine lv_iload hx hb dX12_leader_28 (lv_at hl 5 rfl) ?_
          refine lv_bipush (v := 6) hx hb dX12_leader_30 (by decide) ?_
          refine lv_icmp_ge (tgt := 91) hx hb dX12_leader_32 (by decide) (fun hc_2 => ?_) (fun hc_2 => ?_)
          · replace hF := gT hc_2 hF
            refine lv_iload hx hb dX12_leader_91 (lv_at hl 4 rfl) ?_
            refine lv_iload_n hx hb dX12_leader_93 rfl (lv_at hl 1 rfl) ?_
            refine lv_icmp_ne (tgt := 101) hx hb dX12_leader_94 (by decide) (fun hc_3 => ?_) (fun hc_3 => ?_)
            · replace hF := gF hc_3 hF
              refine lv_iload_n hx hb dX12_leader_101 rfl (lv_at hl 2 rfl) ?_
              refine lv_istore_n (lv' := [(2, .int x2), (0, .ref (gA X 8 0)), (1, .int x1), (3, .int x3), (4, .int x4), (5, .int x5)]) hx hb dX12_leader_102 rfl hl (by decide) rfl (fun ls hl => ?_)
              obtain ⟨x3_4, ex3_4, hF⟩ := gS_some hF
              refine lv_iinc (v := x3_4) (lv' := [(3, .int x3_4), (2, .int x2), (0, .ref (gA X 8 0)), (1, .int x1), (4, .int x4), (5, .int x5)]) hx hb dX12_leader_103 hl (k := 3) rfl (by rw [ex3_4]; rfl) (by decide) rfl (fun ls hl => ?_)
              refine lv_goto (tgt := 16) hx hb dX12_leader_106 (by decide) ?_
              exact ih16 x1 x2 x3_4 ls (lv_sub hl [2, 3, 1, 0] rfl) hF H locs hW hL
            · replace hF := gT hc_3 hF
              refine lv_iload_n hx hb dX12_leader_97 rfl (lv_at hl 3 rfl) ?_
              refine lv_goto (tgt := 102) hx hb dX12_leader_98 (by decide) ?_
              refine lv_istore_n (lv' := [(2, .int x3), (0, .ref (gA X 8 0)), (1, .int x1), (3, .int x3), (4, .int x4), (5, .int x5)]) hx hb dX12_leader_102 rfl hl (by decide) rfl (fun ls hl => ?_)
              obtain ⟨x3_5, ex3_5, hF⟩ := gS_some hF
              refine lv_iinc (v := x3_5) (lv' := [(3, .int x3_5), (2, .int x3), (0, .ref (gA X 8 0)), (1, .int x1), (4, .int x4), (5, .int x5)]) hx hb dX12_leader_103 hl (k := 3) rfl (by rw [ex3_5]; rfl) (by decide) rfl (fun ls hl => ?_)
              refine lv_goto (tgt := 16) hx hb dX12_leader_106 (by decide) ?_
              exact ih16 x1 x3 x3_5 ls (lv_sub hl [2, 3, 1, 0] rfl) hF H locs hW hL
          · replace hF := gF hc_2 hF
            refine lv_aload_n hx hb dX12_leader_35 rfl (lv_at hl 0 rfl) ?_
            refine rg_X12_s hx hb hts inX12 hown hK hW q7 dX12_leader_36 ?_
            refine lv_sipush (v := 300) hx hb dX12_leader_39 (by decide) ?_
            refine lv_iload hx hb dX12_leader_42 (lv_at hl 5 rfl) ?_
            refine lv_iadd hx hb dX12_leader_44 ?_
            obtain ⟨hin_6, hF⟩ := gB_some hF
            obtain ⟨k_7, ek_7⟩ : ∃ k, k = Int32.toNatClampNeg ((300 + x5)) := ⟨_, rfl⟩
            rw [← ek_7] at hF
            refine g_iald2 (k := k_7) hx hb hK hW (gok_o (by decide)) (gad_lt (gok_o (by decide))) gE_O1 hin_6 ek_7.symm dX12_leader_45 ?_
            refine lv_aload_n hx hb dX12_leader_46 rfl (lv_at hl 0 rfl) ?_
            refine rg_X12_s hx hb hts inX12 hown hK hW q7 dX12_leader_47 ?_
            refine lv_sipush (v := 300) hx hb dX12_leader_50 (by decide) ?_
            refine lv_iload_n hx hb dX12_leader_53 rfl (lv_at hl 3 rfl) ?_
            refine lv_iadd hx hb dX12_leader_54 ?_
            obtain ⟨hin_8, hF⟩ := gB_some hF
            obtain ⟨k_9, ek_9⟩ : ∃ k, k = Int32.toNatClampNeg ((300 + x3)) := ⟨_, rfl⟩
            rw [← ek_9] at hF
            refine g_iald2 (k := k_9) hx hb hK hW (gok_o (by decide)) (gad_lt (gok_o (by decide))) gE_O1 hin_8 ek_9.symm dX12_leader_55 ?_
            refine lv_isub hx hb dX12_leader_56 ?_
            obtain ⟨x6_10, ex6_10, hF⟩ := gS_some hF
            refine g_top ex6_10 ?_
            refine lv_istore (lv' := [(6, .int x6_10), (0, .ref (gA X 8 0)), (1, .int x1), (2, .int x2), (3, .int x3), (4, .int x4), (5, .int x5)]) hx hb dX12_leader_57 hl (by decide) rfl (fun ls hl => ?_)
            refine lv_iload hx hb dX12_leader_59 (lv_at hl 5 rfl) ?_
            refine lv_iload hx hb dX12_leader_61 (lv_at hl 0 rfl) ?_
            refine lv_if_gt (tgt := 77) hx hb dX12_leader_63 (by decide) (fun hc_11 => ?_) (fun hc_11 => ?_)
            · replace hF := gT hc_11 hF
              exact B_77 x1 x2 x3 x5 x4 ls (lv_sub hl [1, 2, 3, 4, 6] rfl) hF H locs hW hL
            · replace hF := gF hc_11 hF
              refine lv_iload hx hb dX12_leader_66 (lv_at hl 0 rfl) ?_
              refine lv_if_ne (tgt := 81) hx hb dX12_leader_68 (by decide) (fun hc_12 => ?_) (fun hc_12 => ?_)
              · replace hF := gF hc_12 hF
                exact B_81 x1 x2 x3 x5 x4 ls (lv_sub hl [1, 2, 3, 4, 6] rfl) hF H locs hW hL
              · replace hF := gT hc_12 hF
                refine lv_iload hx hb dX12_leader_71 (lv_at hl 6 rfl) ?_
                refine lv_iload_n hx hb dX12_leader_73 rfl (lv_at hl 4 rfl) ?_
                refine lv_icmp_ge (tgt := 81) hx hb dX12_leader_74 (by decide) (fun hc_13 => ?_) (fun hc_13 => ?_)
                · replace hF := gT hc_13 hF
                  exact B_81 x1 x2 x3 x5 x4 ls (lv_sub hl [1, 2, 3, 4, 6] rfl) hF H locs hW hL
                · replace hF := gF hc_13 hF
                  exact B_77 x1 x2 x3 x5 x4 ls (lv_sub hl [1, 2, 3, 4, 6] rfl) hF H locs hW hL
      intro x1 x2 x3 ls hl hF H locs hW hL
      rw [F_X12_leader_16_s] at hF
      refine lv_iload_n hx hb dX12_leader_16 rfl (lv_at hl 3 rfl) ?_
      refine lv_bipush (v := 6) hx hb dX12_leader_17 (by decide) ?_
      refine lv_icmp_ge (tgt := 109) hx hb dX12_leader_19 (by decide) (fun hc_1 => ?_) (fun hc_1 => ?_)
      · replace hF := gT hc_1 hF
        refine lv_iload_n hx hb dX12_leader_109 rfl (lv_at hl 2 rfl) ?_
        exact g_ri hx hb hr hlocks hW hL (Option.some.inj hF) dX12_leader_110
      · replace hF := gF hc_1 hF
        refine lv_iconst (v := 0) hx hb dX12_leader_22 (by decide) ?_
        refine lv_istore (lv' := [(4, .int 0), (0, .ref (gA X 8 0)), (1, .int x1), (2, .int x2), (3, .int x3)]) hx hb dX12_leader_23 hl (by decide) rfl (fun ls hl => ?_)
        refine lv_iconst (v := 0) hx hb dX12_leader_25 (by decide) ?_
        refine lv_istore (lv' := [(5, .int 0), (4, .int 0), (0, .ref (gA X 8 0)), (1, .int x1), (2, .int x2), (3, .int x3)]) hx hb dX12_leader_26 hl (by decide) rfl (fun ls hl => ?_)
        exact L_28 gFU x1 x2 x3 0 0 ls (lv_sub hl [2, 3, 4, 5, 1, 0] rfl) hF H locs hW hL
  rw [F_X12_leader] at hF
  obtain ⟨locs, hlocs⟩ : ∃ locs : List Loc, locs = [] := ⟨_, rfl⟩
  rw [← hlocs] at hL ⊢
  refine lv_iload_n hx hb dX12_leader_0 rfl (lv_at hl 1 rfl) ?_
  refine lv_iconst (v := 0) hx hb dX12_leader_1 (by decide) ?_
  refine lv_iconst (v := 5) hx hb dX12_leader_2 (by decide) ?_
  obtain ⟨v_19, hq_18, hF⟩ := gP_some hF
  refine g_Si (As := [.int x1, .int 0, .int 5]) (rest := []) ⟨hx, hb, hml, hown, hts⟩ hK hW hL hl.1 (c_X12_in l X w x1 0 5 v_19 hq_18) k36 rfl rfl (Nat.le_of_ble_eq_true rfl) dX12_leader_3 ⟨Nat.le_of_ble_eq_true rfl, Nat.le_of_ble_eq_true rfl⟩ (fun H locs hW hL => ?_)
  refine lv_if_ne (tgt := 12) hx hb dX12_leader_6 (by decide) (fun hc_20 => ?_) (fun hc_20 => ?_)
  · replace hF := gF hc_20 hF
    refine lv_iconst (v := 0) hx hb dX12_leader_12 (by decide) ?_
    refine lv_istore_n (lv' := [(2, .int 0), (0, .ref (gA X 8 0)), (1, .int x1)]) hx hb dX12_leader_13 rfl hl (by decide) rfl (fun ls hl => ?_)
    refine lv_iconst (v := 0) hx hb dX12_leader_14 (by decide) ?_
    refine lv_istore_n (lv' := [(3, .int 0), (2, .int 0), (0, .ref (gA X 8 0)), (1, .int x1)]) hx hb dX12_leader_15 rfl hl (by decide) rfl (fun ls hl => ?_)
    exact L_16 gFU x1 0 0 ls (lv_sub hl [2, 3, 1, 0] rfl) hF H locs hW hL
  · replace hF := gT hc_20 hF
    refine lv_ldc hx hb hown q75 dX12_leader_9 ?_
    exact g_ri hx hb hr hlocks hW hL (Option.some.inj hF) dX12_leader_11
abbrev rmX12_mean : Room := { frames := 2, cells := 0, slots := 0, locals := 84 }
abbrev wsX12_mean : List Cond := gws yX12_mean cX12_mean 5 (some .int)
set_option maxHeartbeats 4000000 in
set_option maxRecDepth 100000 in
theorem c_X12_mean (l : Launch) (X : gX) (w : gWd)  (r : Int32) (hF : F_X12_mean w = some r) : Met l yX12_mean wsX12_mean rmX12_mean (gPc X [.ref (gA X 8 0)] w) (gQi X r w) 0 0 (gFr X) := by
  refine g_ofW (cc := cX12_mean) (maxL := 5) (ret := (some .int)) (by decide) rfl (Nat.le_of_ble_eq_true rfl) (fun p e s m args below meth c ls H hx hb hr hts hown hlocks hml hK hl hW => ?_)
  have hl : lv_has ls 5 [(0, .ref (gA X 8 0))] := hl
  have hown : s.vm.findClass RX12 = some m.cls := hown
  have hL : gLo X [] := gLo_nil
  show W p l e rmX12_mean s m args below meth c H [] 0 0 _ _
  have inX12 : ∀ w ∈ wsX120, w ∈ wsX12_mean := fun w h => List.mem_cons_of_mem _ (inlX12 w h)
  have q7 := hts _ (List.mem_cons_of_mem _ wq_X12_7)
  have q85 := hts _ (List.mem_cons_of_mem _ wq_X12_85)
  have k107 : CallW rmX12_mean s args RX12 RX12 107 yX12_timeNow cX12_timeNow 1 (some .int) wsX12_timeNow rmX12_timeNow 0 0 0 := cwV 0 hts (gGoodV (fun w h => List.mem_cons_of_mem _ h) wk_X12_107) rfl rfl rfl (by decide +kernel) ⟨Nat.le_of_ble_eq_true rfl, Nat.le_of_ble_eq_true rfl⟩
  have k156 : CallB rmX12_mean s args RX12 156 yJxf58ca_floatToIntBits_5c35a cJxf58ca_floatToIntBits_5c35a 1 (some .int) wsJxf58ca_floatToIntBits_5c35a rmJxf58ca_floatToIntBits_5c35a 0 0 1 ∧ (Cond.static yJxf58ca_floatToIntBits_5c35a).before args s = true := va_cwS 1 hts (gGoodS (fun w h => List.mem_cons_of_mem _ h) wk_X12_156) rfl rfl rfl (by decide +kernel) ⟨Nat.le_of_ble_eq_true rfl, Nat.le_of_ble_eq_true rfl⟩
  have k40 : CallW rmX12_mean s args RX12 RX12 40 yX12_of cX12_of 3 (some .int) wsX12_of rmX12_of 0 0 2 := cwV 2 hts (gGoodV (fun w h => List.mem_cons_of_mem _ h) wk_X12_40) rfl rfl rfl (by decide +kernel) ⟨Nat.le_of_ble_eq_true rfl, Nat.le_of_ble_eq_true rfl⟩
  have L_6 : ∀ (fu : Nat) (x1 : Int32) (x2 : Int32) (x3 : Int32)  (ls : Array Slot) (hl : lv_has ls 5 [(0, .ref (gA X 8 0)), (1, .int x1), (2, .int x2), (3, .int x3)]) (hF : F_X12_mean_6 fu w x1 x2 x3 = some r) (H : Heap) (locs : List Loc) (hW : gWo X 251 (gE X w) H) (hL : gLo X locs), W p l e rmX12_mean s m args below meth c H locs 0 0 (MQ below (gQi X r w) args s 0 0 (gFr X)) (F0 m 6 ls []) := by
    intro fu
    induction fu with
    | zero => intro x1 x2 x3 ls hl hF H locs hW hL; rw [F_X12_mean_6_z] at hF; cases hF
    | succ fu6 ih6 =>
      have B_43 : ∀ (x2 : Int32) (x3 : Int32) (x4 : Int32) (xs0 : Int32) (xs1 : Int32)  (ls : Array Slot) (hl : lv_has ls 5 [(0, .ref (gA X 8 0)), (2, .int x2), (3, .int x3), (4, .int x4)]) (hF : F_X12_mean_43 (F_X12_mean_6 fu6) w x2 x3 x4 xs0 xs1 = some r) (H : Heap) (locs : List Loc) (hW : gWo X 251 (gE X w) H) (hL : gLo X locs), W p l e rmX12_mean s m args below meth c H locs 0 0 (MQ below (gQi X r w) args s 0 0 (gFr X)) (F0 m 43 ls [.int xs0, .int xs1]) := by
        intro x2 x3 x4 xs0 xs1 ls hl hF H locs hW hL
        rw [F_X12_mean_43] at hF
        refine lv_iadd hx hb dX12_mean_43 ?_
        obtain ⟨x1_14, ex1_14, hF⟩ := gS_some hF
        refine g_top ex1_14 ?_
        refine lv_istore_n (lv' := [(1, .int x1_14), (0, .ref (gA X 8 0)), (2, .int x2), (3, .int x3), (4, .int x4)]) hx hb dX12_mean_44 rfl hl (by decide) rfl (fun ls hl => ?_)
        refine lv_iload_n hx hb dX12_mean_45 rfl (lv_at hl 2 rfl) ?_
        refine lv_iload hx hb dX12_mean_46 (lv_at hl 4 rfl) ?_
        refine lv_if_le (tgt := 55) hx hb dX12_mean_48 (by decide) (fun hc_15 => ?_) (fun hc_15 => ?_)
        · replace hF := gT hc_15 hF
          refine lv_iconst (v := 0) hx hb dX12_mean_55 (by decide) ?_
          refine lv_iadd hx hb dX12_mean_56 ?_
          obtain ⟨x2_16, ex2_16, hF⟩ := gS_some hF
          refine g_top ex2_16 ?_
          refine lv_istore_n (lv' := [(2, .int x2_16), (1, .int x1_14), (0, .ref (gA X 8 0)), (3, .int x3), (4, .int x4)]) hx hb dX12_mean_57 rfl hl (by decide) rfl (fun ls hl => ?_)
          obtain ⟨x3_17, ex3_17, hF⟩ := gS_some hF
          refine lv_iinc (v := x3_17) (lv' := [(3, .int x3_17), (2, .int x2_16), (1, .int x1_14), (0, .ref (gA X 8 0)), (4, .int x4)]) hx hb dX12_mean_58 hl (k := 3) rfl (by rw [ex3_17]; rfl) (by decide) rfl (fun ls hl => ?_)
          refine lv_goto (tgt := 6) hx hb dX12_mean_61 (by decide) ?_
          exact ih6 x1_14 x2_16 x3_17 ls (lv_sub hl [3, 2, 1, 0] rfl) hF H locs hW hL
        · replace hF := gF hc_15 hF
          refine lv_iconst (v := 1) hx hb dX12_mean_51 (by decide) ?_
          refine lv_goto (tgt := 56) hx hb dX12_mean_52 (by decide) ?_
          refine lv_iadd hx hb dX12_mean_56 ?_
          obtain ⟨x2_18, ex2_18, hF⟩ := gS_some hF
          refine g_top ex2_18 ?_
          refine lv_istore_n (lv' := [(2, .int x2_18), (1, .int x1_14), (0, .ref (gA X 8 0)), (3, .int x3), (4, .int x4)]) hx hb dX12_mean_57 rfl hl (by decide) rfl (fun ls hl => ?_)
          obtain ⟨x3_19, ex3_19, hF⟩ := gS_some hF
          refine lv_iinc (v := x3_19) (lv' := [(3, .int x3_19), (2, .int x2_18), (1, .int x1_14), (0, .ref (gA X 8 0)), (4, .int x4)]) hx hb dX12_mean_58 hl (k := 3) rfl (by rw [ex3_19]; rfl) (by decide) rfl (fun ls hl => ?_)
          refine lv_goto (tgt := 6) hx hb dX12_mean_61 (by decide) ?_
          exact ih6 x1_14 x2_18 x3_19 ls (lv_sub hl [3, 2, 1, 0] rfl) hF H locs hW hL
      intro x1 x2 x3 ls hl hF H locs hW hL
      rw [F_X12_mean_6_s] at hF
      refine lv_iload_n hx hb dX12_mean_6 rfl (lv_at hl 3 rfl) ?_
      refine lv_aload_n hx hb dX12_mean_7 rfl (lv_at hl 0 rfl) ?_
      refine rg_X12_s hx hb hts inX12 hown hK hW q7 dX12_mean_8 ?_
      refine lv_sipush (v := 311) hx hb dX12_mean_11 (by decide) ?_
      refine g_iald2 (k := 311) hx hb hK hW (gok_o (by decide)) (gad_lt (gok_o (by decide))) gE_O1 (gin (by decide)) (by decide) dX12_mean_14 ?_
      refine lv_icmp_ge (tgt := 64) hx hb dX12_mean_15 (by decide) (fun hc_1 => ?_) (fun hc_1 => ?_)
      · replace hF := gT hc_1 hF
        refine lv_iload_n hx hb dX12_mean_64 rfl (lv_at hl 1 rfl) ?_
        refine lv_i2f hx hb dX12_mean_65 ?_
        obtain ⟨f3_2, ef3_2, hF⟩ := gS_some hF
        refine g_topf ef3_2 ?_
        refine lv_fstore_n (lv' := [(3, .float f3_2), (0, .ref (gA X 8 0)), (1, .int x1), (2, .int x2)]) hx hb dX12_mean_66 rfl hl (by decide) rfl (fun ls hl => ?_)
        refine lv_iload_n hx hb dX12_mean_67 rfl (lv_at hl 3 rfl) ?_
        refine lv_i2f hx hb dX12_mean_68 ?_
        obtain ⟨f4_3, ef4_3, hF⟩ := gS_some hF
        refine g_topf ef4_3 ?_
        refine lv_fstore (lv' := [(4, .float f4_3), (3, .float f3_2), (0, .ref (gA X 8 0)), (1, .int x1), (2, .int x2)]) hx hb dX12_mean_69 hl (by decide) rfl (fun ls hl => ?_)
        refine lv_iload_n hx hb dX12_mean_71 rfl (lv_at hl 4 rfl) ?_
        refine lv_if_ne (tgt := 80) hx hb dX12_mean_72 (by decide) (fun hc_4 => ?_) (fun hc_4 => ?_)
        · replace hF := gF hc_4 hF
          refine lv_fload_n hx hb dX12_mean_80 rfl (lv_at hl 1 rfl) ?_
          refine lv_fload hx hb dX12_mean_81 (lv_at hl 0 rfl) ?_
          obtain ⟨hn_5, hF⟩ := gN_some hF
          refine lv_fdiv hx hb dX12_mean_83 hn_5 ?_
          obtain ⟨v_7, hq_6, hF⟩ := gP_some hF
          refine g_Si (As := [.float (FP.fdiv f3_2 f4_3)]) (rest := []) ⟨hx, hb, hml, hown, hts⟩ hK hW hL hl.1 (c_Jxf58ca_floatToIntBits_5c35a l X w ((FP.fdiv f3_2 f4_3)) v_7 hq_6) k156 rfl rfl (Nat.le_of_ble_eq_true rfl) dX12_mean_84 ⟨Nat.le_of_ble_eq_true rfl, Nat.le_of_ble_eq_true rfl⟩ (fun H locs hW hL => ?_)
          exact g_ri hx hb hr hlocks hW hL (Option.some.inj hF) dX12_mean_87
        · replace hF := gT hc_4 hF
          refine lv_ldc hx hb hown q85 dX12_mean_75 ?_
          refine lv_goto (tgt := 87) hx hb dX12_mean_77 (by decide) ?_
          exact g_ri hx hb hr hlocks hW hL (Option.some.inj hF) dX12_mean_87
      · replace hF := gF hc_1 hF
        refine lv_aload_n hx hb dX12_mean_18 rfl (lv_at hl 0 rfl) ?_
        refine lv_iload_n hx hb dX12_mean_19 rfl (lv_at hl 3 rfl) ?_
        refine lv_aload_n hx hb dX12_mean_20 rfl (lv_at hl 0 rfl) ?_
        obtain ⟨v_9, hq_8, hF⟩ := gP_some hF
        refine g_Vi (As := []) (rest := [.int x3, .ref (gA X 8 0)]) ⟨hx, hb, hml, hown, hts⟩ hK hW hL hl.1 (gok_o (by decide)) gE_O rfl (c_X12_timeNow l X w  v_9 hq_8) k107 rfl rfl (Nat.le_of_ble_eq_true rfl) dX12_mean_21 ⟨Nat.le_of_ble_eq_true rfl, Nat.le_of_ble_eq_true rfl⟩ (fun H locs hW hL => ?_)
        obtain ⟨v_11, hq_10, hF⟩ := gP_some hF
        refine g_Vi (As := [.int x3, .int v_9]) (rest := []) ⟨hx, hb, hml, hown, hts⟩ hK hW hL hl.1 (gok_o (by decide)) gE_O rfl (c_X12_of l X w x3 v_9 v_11 hq_10) k40 rfl rfl (Nat.le_of_ble_eq_true rfl) dX12_mean_24 ⟨Nat.le_of_ble_eq_true rfl, Nat.le_of_ble_eq_true rfl⟩ (fun H locs hW hL => ?_)
        refine lv_iconst (v := 1) hx hb dX12_mean_27 (by decide) ?_
        refine lv_isub hx hb dX12_mean_28 ?_
        obtain ⟨x4_12, ex4_12, hF⟩ := gS_some hF
        refine g_top ex4_12 ?_
        refine lv_istore (lv' := [(4, .int x4_12), (0, .ref (gA X 8 0)), (1, .int x1), (2, .int x2), (3, .int x3)]) hx hb dX12_mean_29 hl (by decide) rfl (fun ls hl => ?_)
        refine lv_iload_n hx hb dX12_mean_31 rfl (lv_at hl 2 rfl) ?_
        refine lv_iload hx hb dX12_mean_32 (lv_at hl 0 rfl) ?_
        refine lv_if_le (tgt := 42) hx hb dX12_mean_34 (by decide) (fun hc_13 => ?_) (fun hc_13 => ?_)
        · replace hF := gT hc_13 hF
          refine lv_iconst (v := 0) hx hb dX12_mean_42 (by decide) ?_
          exact B_43 x2 x3 x4_12 0 x1 ls (lv_sub hl [1, 3, 4, 0] rfl) hF H locs hW hL
        · replace hF := gF hc_13 hF
          refine lv_iload hx hb dX12_mean_37 (lv_at hl 0 rfl) ?_
          refine lv_goto (tgt := 43) hx hb dX12_mean_39 (by decide) ?_
          exact B_43 x2 x3 x4_12 x4_12 x1 ls (lv_sub hl [1, 3, 4, 0] rfl) hF H locs hW hL
  rw [F_X12_mean] at hF
  obtain ⟨locs, hlocs⟩ : ∃ locs : List Loc, locs = [] := ⟨_, rfl⟩
  rw [← hlocs] at hL ⊢
  refine lv_iconst (v := 0) hx hb dX12_mean_0 (by decide) ?_
  refine lv_istore_n (lv' := [(1, .int 0), (0, .ref (gA X 8 0))]) hx hb dX12_mean_1 rfl hl (by decide) rfl (fun ls hl => ?_)
  refine lv_iconst (v := 0) hx hb dX12_mean_2 (by decide) ?_
  refine lv_istore_n (lv' := [(2, .int 0), (1, .int 0), (0, .ref (gA X 8 0))]) hx hb dX12_mean_3 rfl hl (by decide) rfl (fun ls hl => ?_)
  refine lv_iconst (v := 0) hx hb dX12_mean_4 (by decide) ?_
  refine lv_istore_n (lv' := [(3, .int 0), (2, .int 0), (1, .int 0), (0, .ref (gA X 8 0))]) hx hb dX12_mean_5 rfl hl (by decide) rfl (fun ls hl => ?_)
  exact L_6 gFU 0 0 0 ls (lv_sub hl [3, 2, 1, 0] rfl) hF H locs hW hL
abbrev rmX12_goneOnes : Room := { frames := 2, cells := 0, slots := 0, locals := 43 }
abbrev wsX12_goneOnes : List Cond := gws yX12_goneOnes cX12_goneOnes 3 (some .int)
set_option maxHeartbeats 4000000 in
set_option maxRecDepth 100000 in
theorem c_X12_goneOnes (l : Launch) (X : gX) (w : gWd)  (r : Int32) (hF : F_X12_goneOnes w = some r) : Met l yX12_goneOnes wsX12_goneOnes rmX12_goneOnes (gPc X [.ref (gA X 8 0)] w) (gQi X r w) 0 0 (gFr X) := by
  refine g_ofW (cc := cX12_goneOnes) (maxL := 3) (ret := (some .int)) (by decide) rfl (Nat.le_of_ble_eq_true rfl) (fun p e s m args below meth c ls H hx hb hr hts hown hlocks hml hK hl hW => ?_)
  have hl : lv_has ls 3 [(0, .ref (gA X 8 0))] := hl
  have hown : s.vm.findClass RX12 = some m.cls := hown
  have hL : gLo X [] := gLo_nil
  show W p l e rmX12_goneOnes s m args below meth c H [] 0 0 _ _
  have inX12 : ∀ w ∈ wsX120, w ∈ wsX12_goneOnes := fun w h => List.mem_cons_of_mem _ (inlX12 w h)
  have q7 := hts _ (List.mem_cons_of_mem _ wq_X12_7)
  have k44 : CallW rmX12_goneOnes s args RX12 RX12 44 yX12_isGone cX12_isGone 2 (some .boolean) wsX12_isGone rmX12_isGone 0 0 1 := cwV 1 hts (gGoodV (fun w h => List.mem_cons_of_mem _ h) wk_X12_44) rfl rfl rfl (by decide +kernel) ⟨Nat.le_of_ble_eq_true rfl, Nat.le_of_ble_eq_true rfl⟩
  have L_4 : ∀ (fu : Nat) (x1 : Int32) (x2 : Int32)  (ls : Array Slot) (hl : lv_has ls 3 [(0, .ref (gA X 8 0)), (1, .int x1), (2, .int x2)]) (hF : F_X12_goneOnes_4 fu w x1 x2 = some r) (H : Heap) (locs : List Loc) (hW : gWo X 251 (gE X w) H) (hL : gLo X locs), W p l e rmX12_goneOnes s m args below meth c H locs 0 0 (MQ below (gQi X r w) args s 0 0 (gFr X)) (F0 m 4 ls []) := by
    intro fu
    induction fu with
    | zero => intro x1 x2 ls hl hF H locs hW hL; rw [F_X12_goneOnes_4_z] at hF; cases hF
    | succ fu4 ih4 =>
      intro x1 x2 ls hl hF H locs hW hL
      rw [F_X12_goneOnes_4_s] at hF
      refine lv_iload_n hx hb dX12_goneOnes_4 rfl (lv_at hl 2 rfl) ?_
      refine lv_aload_n hx hb dX12_goneOnes_5 rfl (lv_at hl 0 rfl) ?_
      refine rg_X12_s hx hb hts inX12 hown hK hW q7 dX12_goneOnes_6 ?_
      refine lv_sipush (v := 311) hx hb dX12_goneOnes_9 (by decide) ?_
      refine g_iald2 (k := 311) hx hb hK hW (gok_o (by decide)) (gad_lt (gok_o (by decide))) gE_O1 (gin (by decide)) (by decide) dX12_goneOnes_12 ?_
      refine lv_icmp_ge (tgt := 40) hx hb dX12_goneOnes_13 (by decide) (fun hc_1 => ?_) (fun hc_1 => ?_)
      · replace hF := gT hc_1 hF
        refine lv_iload_n hx hb dX12_goneOnes_40 rfl (lv_at hl 1 rfl) ?_
        exact g_ri hx hb hr hlocks hW hL (Option.some.inj hF) dX12_goneOnes_41
      · replace hF := gF hc_1 hF
        refine lv_iload_n hx hb dX12_goneOnes_16 rfl (lv_at hl 1 rfl) ?_
        refine lv_aload_n hx hb dX12_goneOnes_17 rfl (lv_at hl 0 rfl) ?_
        refine lv_iload_n hx hb dX12_goneOnes_18 rfl (lv_at hl 2 rfl) ?_
        obtain ⟨v_3, hq_2, hF⟩ := gP_some hF
        refine g_Vi (As := [.int x2]) (rest := [.int x1]) ⟨hx, hb, hml, hown, hts⟩ hK hW hL hl.1 (gok_o (by decide)) gE_O rfl (c_X12_isGone l X w x2 v_3 hq_2) k44 rfl rfl (Nat.le_of_ble_eq_true rfl) dX12_goneOnes_19 ⟨Nat.le_of_ble_eq_true rfl, Nat.le_of_ble_eq_true rfl⟩ (fun H locs hW hL => ?_)
        refine lv_if_eq (tgt := 31) hx hb dX12_goneOnes_22 (by decide) (fun hc_4 => ?_) (fun hc_4 => ?_)
        · replace hF := gT hc_4 hF
          refine lv_iconst (v := 0) hx hb dX12_goneOnes_31 (by decide) ?_
          refine lv_ior hx hb dX12_goneOnes_32 ?_
          obtain ⟨x1_5, ex1_5, hF⟩ := gS_some hF
          refine g_top ex1_5 ?_
          refine lv_istore_n (lv' := [(1, .int x1_5), (0, .ref (gA X 8 0)), (2, .int x2)]) hx hb dX12_goneOnes_33 rfl hl (by decide) rfl (fun ls hl => ?_)
          obtain ⟨x2_6, ex2_6, hF⟩ := gS_some hF
          refine lv_iinc (v := x2_6) (lv' := [(2, .int x2_6), (1, .int x1_5), (0, .ref (gA X 8 0))]) hx hb dX12_goneOnes_34 hl (k := 2) rfl (by rw [ex2_6]; rfl) (by decide) rfl (fun ls hl => ?_)
          refine lv_goto (tgt := 4) hx hb dX12_goneOnes_37 (by decide) ?_
          exact ih4 x1_5 x2_6 ls (lv_sub hl [2, 1, 0] rfl) hF H locs hW hL
        · replace hF := gF hc_4 hF
          refine lv_iconst (v := 1) hx hb dX12_goneOnes_25 (by decide) ?_
          refine lv_iload_n hx hb dX12_goneOnes_26 rfl (lv_at hl 2 rfl) ?_
          refine lv_ishl hx hb dX12_goneOnes_27 ?_
          refine lv_goto (tgt := 32) hx hb dX12_goneOnes_28 (by decide) ?_
          refine lv_ior hx hb dX12_goneOnes_32 ?_
          obtain ⟨x1_7, ex1_7, hF⟩ := gS_some hF
          refine g_top ex1_7 ?_
          refine lv_istore_n (lv' := [(1, .int x1_7), (0, .ref (gA X 8 0)), (2, .int x2)]) hx hb dX12_goneOnes_33 rfl hl (by decide) rfl (fun ls hl => ?_)
          obtain ⟨x2_8, ex2_8, hF⟩ := gS_some hF
          refine lv_iinc (v := x2_8) (lv' := [(2, .int x2_8), (1, .int x1_7), (0, .ref (gA X 8 0))]) hx hb dX12_goneOnes_34 hl (k := 2) rfl (by rw [ex2_8]; rfl) (by decide) rfl (fun ls hl => ?_)
          refine lv_goto (tgt := 4) hx hb dX12_goneOnes_37 (by decide) ?_
          exact ih4 x1_7 x2_8 ls (lv_sub hl [2, 1, 0] rfl) hF H locs hW hL
  rw [F_X12_goneOnes] at hF
  obtain ⟨locs, hlocs⟩ : ∃ locs : List Loc, locs = [] := ⟨_, rfl⟩
  rw [← hlocs] at hL ⊢
  refine lv_iconst (v := 0) hx hb dX12_goneOnes_0 (by decide) ?_
  refine lv_istore_n (lv' := [(1, .int 0), (0, .ref (gA X 8 0))]) hx hb dX12_goneOnes_1 rfl hl (by decide) rfl (fun ls hl => ?_)
  refine lv_iconst (v := 0) hx hb dX12_goneOnes_2 (by decide) ?_
  refine lv_istore_n (lv' := [(2, .int 0), (1, .int 0), (0, .ref (gA X 8 0))]) hx hb dX12_goneOnes_3 rfl hl (by decide) rfl (fun ls hl => ?_)
  exact L_4 gFU 0 0 ls (lv_sub hl [2, 1, 0] rfl) hF H locs hW hL
abbrev rmX12_timesNow : Room := { frames := 1, cells := 0, slots := 0, locals := 22 }
abbrev wsX12_timesNow : List Cond := gws yX12_timesNow cX12_timesNow 3 (some .int)
set_option maxHeartbeats 4000000 in
set_option maxRecDepth 100000 in
theorem c_X12_timesNow (l : Launch) (X : gX) (w : gWd)  (r : Int32) (hF : F_X12_timesNow w = some r) : Met l yX12_timesNow wsX12_timesNow rmX12_timesNow (gPc X [.ref (gA X 8 0)] w) (gQi X r w) 0 0 (gFr X) := by
  refine g_ofW (cc := cX12_timesNow) (maxL := 3) (ret := (some .int)) (by decide) rfl (Nat.le_of_ble_eq_true rfl) (fun p e s m args below meth c ls H hx hb hr hts hown hlocks hml hK hl hW => ?_)
  have hl : lv_has ls 3 [(0, .ref (gA X 8 0))] := hl
  have hown : s.vm.findClass RX12 = some m.cls := hown
  have hL : gLo X [] := gLo_nil
  show W p l e rmX12_timesNow s m args below meth c H [] 0 0 _ _
  have inX12 : ∀ w ∈ wsX120, w ∈ wsX12_timesNow := fun w h => List.mem_cons_of_mem _ (inlX12 w h)
  have q7 := hts _ (List.mem_cons_of_mem _ wq_X12_7)
  have k40 : CallW rmX12_timesNow s args RX12 RX12 40 yX12_of cX12_of 3 (some .int) wsX12_of rmX12_of 0 0 2 := cwV 2 hts (gGoodV (fun w h => List.mem_cons_of_mem _ h) wk_X12_40) rfl rfl rfl (by decide +kernel) ⟨Nat.le_of_ble_eq_true rfl, Nat.le_of_ble_eq_true rfl⟩
  have L_4 : ∀ (fu : Nat) (x1 : Int32) (x2 : Int32)  (ls : Array Slot) (hl : lv_has ls 3 [(0, .ref (gA X 8 0)), (1, .int x1), (2, .int x2)]) (hF : F_X12_timesNow_4 fu w x1 x2 = some r) (H : Heap) (locs : List Loc) (hW : gWo X 251 (gE X w) H) (hL : gLo X locs), W p l e rmX12_timesNow s m args below meth c H locs 0 0 (MQ below (gQi X r w) args s 0 0 (gFr X)) (F0 m 4 ls []) := by
    intro fu
    induction fu with
    | zero => intro x1 x2 ls hl hF H locs hW hL; rw [F_X12_timesNow_4_z] at hF; cases hF
    | succ fu4 ih4 =>
      have B_31 : ∀ (x2 : Int32) (xs0 : Int32) (xs1 : Int32)  (ls : Array Slot) (hl : lv_has ls 3 [(0, .ref (gA X 8 0)), (2, .int x2)]) (hF : F_X12_timesNow_31 (F_X12_timesNow_4 fu4) w x2 xs0 xs1 = some r) (H : Heap) (locs : List Loc) (hW : gWo X 251 (gE X w) H) (hL : gLo X locs), W p l e rmX12_timesNow s m args below meth c H locs 0 0 (MQ below (gQi X r w) args s 0 0 (gFr X)) (F0 m 31 ls [.int xs0, .int xs1]) := by
        intro x2 xs0 xs1 ls hl hF H locs hW hL
        rw [F_X12_timesNow_31] at hF
        refine lv_aload_n hx hb dX12_timesNow_31 rfl (lv_at hl 0 rfl) ?_
        refine lv_iload_n hx hb dX12_timesNow_32 rfl (lv_at hl 1 rfl) ?_
        refine lv_bipush (v := 7) hx hb dX12_timesNow_33 (by decide) ?_
        obtain ⟨v_6, hq_5, hF⟩ := gP_some hF
        refine g_Vi (As := [.int x2, .int 7]) (rest := [.int xs0, .int xs1]) ⟨hx, hb, hml, hown, hts⟩ hK hW hL hl.1 (gok_o (by decide)) gE_O rfl (c_X12_of l X w x2 7 v_6 hq_5) k40 rfl rfl (Nat.le_of_ble_eq_true rfl) dX12_timesNow_35 ⟨Nat.le_of_ble_eq_true rfl, Nat.le_of_ble_eq_true rfl⟩ (fun H locs hW hL => ?_)
        refine lv_if_le (tgt := 45) hx hb dX12_timesNow_38 (by decide) (fun hc_7 => ?_) (fun hc_7 => ?_)
        · replace hF := gT hc_7 hF
          refine lv_iconst (v := 0) hx hb dX12_timesNow_45 (by decide) ?_
          refine lv_iadd hx hb dX12_timesNow_46 ?_
          refine lv_iadd hx hb dX12_timesNow_47 ?_
          obtain ⟨x1_8, ex1_8, hF⟩ := gS_some hF
          refine g_top ex1_8 ?_
          refine lv_istore_n (lv' := [(1, .int x1_8), (0, .ref (gA X 8 0)), (2, .int x2)]) hx hb dX12_timesNow_48 rfl hl (by decide) rfl (fun ls hl => ?_)
          obtain ⟨x2_9, ex2_9, hF⟩ := gS_some hF
          refine lv_iinc (v := x2_9) (lv' := [(2, .int x2_9), (1, .int x1_8), (0, .ref (gA X 8 0))]) hx hb dX12_timesNow_49 hl (k := 2) rfl (by rw [ex2_9]; rfl) (by decide) rfl (fun ls hl => ?_)
          refine lv_goto (tgt := 4) hx hb dX12_timesNow_52 (by decide) ?_
          exact ih4 x1_8 x2_9 ls (lv_sub hl [2, 1, 0] rfl) hF H locs hW hL
        · replace hF := gF hc_7 hF
          refine lv_iconst (v := 1) hx hb dX12_timesNow_41 (by decide) ?_
          refine lv_goto (tgt := 46) hx hb dX12_timesNow_42 (by decide) ?_
          refine lv_iadd hx hb dX12_timesNow_46 ?_
          refine lv_iadd hx hb dX12_timesNow_47 ?_
          obtain ⟨x1_10, ex1_10, hF⟩ := gS_some hF
          refine g_top ex1_10 ?_
          refine lv_istore_n (lv' := [(1, .int x1_10), (0, .ref (gA X 8 0)), (2, .int x2)]) hx hb dX12_timesNow_48 rfl hl (by decide) rfl (fun ls hl => ?_)
          obtain ⟨x2_11, ex2_11, hF⟩ := gS_some hF
          refine lv_iinc (v := x2_11) (lv' := [(2, .int x2_11), (1, .int x1_10), (0, .ref (gA X 8 0))]) hx hb dX12_timesNow_49 hl (k := 2) rfl (by rw [ex2_11]; rfl) (by decide) rfl (fun ls hl => ?_)
          refine lv_goto (tgt := 4) hx hb dX12_timesNow_52 (by decide) ?_
          exact ih4 x1_10 x2_11 ls (lv_sub hl [2, 1, 0] rfl) hF H locs hW hL
      intro x1 x2 ls hl hF H locs hW hL
      rw [F_X12_timesNow_4_s] at hF
      refine lv_iload_n hx hb dX12_timesNow_4 rfl (lv_at hl 2 rfl) ?_
      refine lv_aload_n hx hb dX12_timesNow_5 rfl (lv_at hl 0 rfl) ?_
      refine rg_X12_s hx hb hts inX12 hown hK hW q7 dX12_timesNow_6 ?_
      refine lv_sipush (v := 311) hx hb dX12_timesNow_9 (by decide) ?_
      refine g_iald2 (k := 311) hx hb hK hW (gok_o (by decide)) (gad_lt (gok_o (by decide))) gE_O1 (gin (by decide)) (by decide) dX12_timesNow_12 ?_
      refine lv_icmp_ge (tgt := 55) hx hb dX12_timesNow_13 (by decide) (fun hc_1 => ?_) (fun hc_1 => ?_)
      · replace hF := gT hc_1 hF
        refine lv_iload_n hx hb dX12_timesNow_55 rfl (lv_at hl 1 rfl) ?_
        exact g_ri hx hb hr hlocks hW hL (Option.some.inj hF) dX12_timesNow_56
      · replace hF := gF hc_1 hF
        refine lv_iload_n hx hb dX12_timesNow_16 rfl (lv_at hl 1 rfl) ?_
        refine lv_aload_n hx hb dX12_timesNow_17 rfl (lv_at hl 0 rfl) ?_
        refine lv_iload_n hx hb dX12_timesNow_18 rfl (lv_at hl 2 rfl) ?_
        refine lv_iconst (v := 5) hx hb dX12_timesNow_19 (by decide) ?_
        obtain ⟨v_3, hq_2, hF⟩ := gP_some hF
        refine g_Vi (As := [.int x2, .int 5]) (rest := [.int x1]) ⟨hx, hb, hml, hown, hts⟩ hK hW hL hl.1 (gok_o (by decide)) gE_O rfl (c_X12_of l X w x2 5 v_3 hq_2) k40 rfl rfl (Nat.le_of_ble_eq_true rfl) dX12_timesNow_20 ⟨Nat.le_of_ble_eq_true rfl, Nat.le_of_ble_eq_true rfl⟩ (fun H locs hW hL => ?_)
        refine lv_if_le (tgt := 30) hx hb dX12_timesNow_23 (by decide) (fun hc_4 => ?_) (fun hc_4 => ?_)
        · replace hF := gT hc_4 hF
          refine lv_iconst (v := 0) hx hb dX12_timesNow_30 (by decide) ?_
          exact B_31 x2 0 x1 ls (lv_sub hl [0, 2] rfl) hF H locs hW hL
        · replace hF := gF hc_4 hF
          refine lv_iconst (v := 1) hx hb dX12_timesNow_26 (by decide) ?_
          refine lv_goto (tgt := 31) hx hb dX12_timesNow_27 (by decide) ?_
          exact B_31 x2 1 x1 ls (lv_sub hl [0, 2] rfl) hF H locs hW hL
  rw [F_X12_timesNow] at hF
  obtain ⟨locs, hlocs⟩ : ∃ locs : List Loc, locs = [] := ⟨_, rfl⟩
  rw [← hlocs] at hL ⊢
  refine lv_iconst (v := 0) hx hb dX12_timesNow_0 (by decide) ?_
  refine lv_istore_n (lv' := [(1, .int 0), (0, .ref (gA X 8 0))]) hx hb dX12_timesNow_1 rfl hl (by decide) rfl (fun ls hl => ?_)
  refine lv_iconst (v := 0) hx hb dX12_timesNow_2 (by decide) ?_
  refine lv_istore_n (lv' := [(2, .int 0), (1, .int 0), (0, .ref (gA X 8 0))]) hx hb dX12_timesNow_3 rfl hl (by decide) rfl (fun ls hl => ?_)
  exact L_4 gFU 0 0 ls (lv_sub hl [2, 1, 0] rfl) hF H locs hW hL
