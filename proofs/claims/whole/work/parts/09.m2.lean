abbrev rmX12_inFinal : Room := { frames := 1, cells := 0, slots := 0, locals := 22 }
abbrev wsX12_inFinal : List Cond := gws yX12_inFinal cX12_inFinal 3 (some .int)
set_option maxHeartbeats 4000000 in
set_option maxRecDepth 100000 in
theorem c_X12_inFinal (l : Launch) (X : gX) (w : gWd)  (r : Int32) (hF : F_X12_inFinal w = some r) : Met l yX12_inFinal wsX12_inFinal rmX12_inFinal (gPc X [.ref (gA X 8 0)] w) (gQi X r w) 0 0 (gFr X) := by
  refine g_ofW (cc := cX12_inFinal) (maxL := 3) (ret := (some .int)) (by decide) rfl (Nat.le_of_ble_eq_true rfl) (fun p e s m args below meth c ls H hx hb hr hts hown hlocks hml hK hl hW => ?_)
  have hl : lv_has ls 3 [(0, .ref (gA X 8 0))] := hl
  have hown : s.vm.findClass RX12 = some m.cls := hown
  have hL : gLo X [] := gLo_nil
  show W p l e rmX12_inFinal s m args below meth c H [] 0 0 _ _
  have inX12 : ∀ w ∈ wsX120, w ∈ wsX12_inFinal := fun w h => List.mem_cons_of_mem _ (inlX12 w h)
  have q7 := hts _ (List.mem_cons_of_mem _ wq_X12_7)
  have k40 : CallW rmX12_inFinal s args RX12 RX12 40 yX12_of cX12_of 3 (some .int) wsX12_of rmX12_of 0 0 2 := cwV 2 hts (gGoodV (fun w h => List.mem_cons_of_mem _ h) wk_X12_40) rfl rfl rfl (by decide +kernel) ⟨Nat.le_of_ble_eq_true rfl, Nat.le_of_ble_eq_true rfl⟩
  have L_4 : ∀ (fu : Nat) (x1 : Int32) (x2 : Int32)  (ls : Array Slot) (hl : lv_has ls 3 [(0, .ref (gA X 8 0)), (1, .int x1), (2, .int x2)]) (hF : F_X12_inFinal_4 fu w x1 x2 = some r) (H : Heap) (locs : List Loc) (hW : gWo X 251 (gE X w) H) (hL : gLo X locs), W p l e rmX12_inFinal s m args below meth c H locs 0 0 (MQ below (gQi X r w) args s 0 0 (gFr X)) (F0 m 4 ls []) := by
    intro fu
    induction fu with
    | zero => intro x1 x2 ls hl hF H locs hW hL; rw [F_X12_inFinal_4_z] at hF; cases hF
    | succ fu4 ih4 =>
      intro x1 x2 ls hl hF H locs hW hL
      rw [F_X12_inFinal_4_s] at hF
      refine lv_iload_n hx hb dX12_inFinal_4 rfl (lv_at hl 2 rfl) ?_
      refine lv_aload_n hx hb dX12_inFinal_5 rfl (lv_at hl 0 rfl) ?_
      refine rg_X12_s hx hb hts inX12 hown hK hW q7 dX12_inFinal_6 ?_
      refine lv_sipush (v := 311) hx hb dX12_inFinal_9 (by decide) ?_
      refine g_iald2 (k := 311) hx hb hK hW (gok_o (by decide)) (gad_lt (gok_o (by decide))) gE_O1 (gin (by decide)) (by decide) dX12_inFinal_12 ?_
      refine lv_icmp_ge (tgt := 42) hx hb dX12_inFinal_13 (by decide) (fun hc_1 => ?_) (fun hc_1 => ?_)
      · replace hF := gT hc_1 hF
        refine lv_iload_n hx hb dX12_inFinal_42 rfl (lv_at hl 1 rfl) ?_
        exact g_ri hx hb hr hlocks hW hL (Option.some.inj hF) dX12_inFinal_43
      · replace hF := gF hc_1 hF
        refine lv_iload_n hx hb dX12_inFinal_16 rfl (lv_at hl 1 rfl) ?_
        refine lv_aload_n hx hb dX12_inFinal_17 rfl (lv_at hl 0 rfl) ?_
        refine lv_iload_n hx hb dX12_inFinal_18 rfl (lv_at hl 2 rfl) ?_
        refine lv_bipush (v := 6) hx hb dX12_inFinal_19 (by decide) ?_
        obtain ⟨v_3, hq_2, hF⟩ := gP_some hF
        refine g_Vi (As := [.int x2, .int 6]) (rest := [.int x1]) ⟨hx, hb, hml, hown, hts⟩ hK hW hL hl.1 (gok_o (by decide)) gE_O rfl (c_X12_of l X w x2 6 v_3 hq_2) k40 rfl rfl (Nat.le_of_ble_eq_true rfl) dX12_inFinal_21 ⟨Nat.le_of_ble_eq_true rfl, Nat.le_of_ble_eq_true rfl⟩ (fun H locs hW hL => ?_)
        refine lv_if_le (tgt := 33) hx hb dX12_inFinal_24 (by decide) (fun hc_4 => ?_) (fun hc_4 => ?_)
        · replace hF := gT hc_4 hF
          refine lv_iconst (v := 0) hx hb dX12_inFinal_33 (by decide) ?_
          refine lv_ior hx hb dX12_inFinal_34 ?_
          obtain ⟨x1_5, ex1_5, hF⟩ := gS_some hF
          refine g_top ex1_5 ?_
          refine lv_istore_n (lv' := [(1, .int x1_5), (0, .ref (gA X 8 0)), (2, .int x2)]) hx hb dX12_inFinal_35 rfl hl (by decide) rfl (fun ls hl => ?_)
          obtain ⟨x2_6, ex2_6, hF⟩ := gS_some hF
          refine lv_iinc (v := x2_6) (lv' := [(2, .int x2_6), (1, .int x1_5), (0, .ref (gA X 8 0))]) hx hb dX12_inFinal_36 hl (k := 2) rfl (by rw [ex2_6]; rfl) (by decide) rfl (fun ls hl => ?_)
          refine lv_goto (tgt := 4) hx hb dX12_inFinal_39 (by decide) ?_
          exact ih4 x1_5 x2_6 ls (lv_sub hl [2, 1, 0] rfl) hF H locs hW hL
        · replace hF := gF hc_4 hF
          refine lv_iconst (v := 1) hx hb dX12_inFinal_27 (by decide) ?_
          refine lv_iload_n hx hb dX12_inFinal_28 rfl (lv_at hl 2 rfl) ?_
          refine lv_ishl hx hb dX12_inFinal_29 ?_
          refine lv_goto (tgt := 34) hx hb dX12_inFinal_30 (by decide) ?_
          refine lv_ior hx hb dX12_inFinal_34 ?_
          obtain ⟨x1_7, ex1_7, hF⟩ := gS_some hF
          refine g_top ex1_7 ?_
          refine lv_istore_n (lv' := [(1, .int x1_7), (0, .ref (gA X 8 0)), (2, .int x2)]) hx hb dX12_inFinal_35 rfl hl (by decide) rfl (fun ls hl => ?_)
          obtain ⟨x2_8, ex2_8, hF⟩ := gS_some hF
          refine lv_iinc (v := x2_8) (lv' := [(2, .int x2_8), (1, .int x1_7), (0, .ref (gA X 8 0))]) hx hb dX12_inFinal_36 hl (k := 2) rfl (by rw [ex2_8]; rfl) (by decide) rfl (fun ls hl => ?_)
          refine lv_goto (tgt := 4) hx hb dX12_inFinal_39 (by decide) ?_
          exact ih4 x1_7 x2_8 ls (lv_sub hl [2, 1, 0] rfl) hF H locs hW hL
  rw [F_X12_inFinal] at hF
  obtain ⟨locs, hlocs⟩ : ∃ locs : List Loc, locs = [] := ⟨_, rfl⟩
  rw [← hlocs] at hL ⊢
  refine lv_iconst (v := 0) hx hb dX12_inFinal_0 (by decide) ?_
  refine lv_istore_n (lv' := [(1, .int 0), (0, .ref (gA X 8 0))]) hx hb dX12_inFinal_1 rfl hl (by decide) rfl (fun ls hl => ?_)
  refine lv_iconst (v := 0) hx hb dX12_inFinal_2 (by decide) ?_
  refine lv_istore_n (lv' := [(2, .int 0), (1, .int 0), (0, .ref (gA X 8 0))]) hx hb dX12_inFinal_3 rfl hl (by decide) rfl (fun ls hl => ?_)
  exact L_4 gFU 0 0 ls (lv_sub hl [2, 1, 0] rfl) hF H locs hW hL
abbrev rmX12_finals : Room := { frames := 5, cells := 0, slots := 0, locals := 106 }
abbrev wsX12_finals : List Cond := gws yX12_finals cX12_finals 3 (some .int)
set_option maxHeartbeats 4000000 in
set_option maxRecDepth 100000 in
theorem c_X12_finals (l : Launch) (X : gX) (w : gWd)  (r : Int32) (w' : gWd) (hF : F_X12_finals w = some (r, w')) : Met l yX12_finals wsX12_finals rmX12_finals (gPc X [.ref (gA X 8 0)] w) (gQi X r w') 0 0 (gFr X) := by
  refine g_ofW (cc := cX12_finals) (maxL := 3) (ret := (some .int)) (by decide) rfl (Nat.le_of_ble_eq_true rfl) (fun p e s m args below meth c ls H hx hb hr hts hown hlocks hml hK hl hW => ?_)
  have hl : lv_has ls 3 [(0, .ref (gA X 8 0))] := hl
  have hown : s.vm.findClass RX12 = some m.cls := hown
  have hL : gLo X [] := gLo_nil
  show W p l e rmX12_finals s m args below meth c H [] 0 0 _ _
  have inX12 : ∀ w ∈ wsX120, w ∈ wsX12_finals := fun w h => List.mem_cons_of_mem _ (inlX12 w h)
  have q7 := hts _ (List.mem_cons_of_mem _ wq_X12_7)
  have q76 := hts _ (List.mem_cons_of_mem _ wq_X12_76)
  have k116 : CallW rmX12_finals s args RX12 RX12 116 yX12_why cX12_why 1 (some .int) wsX12_why rmX12_why 0 0 0 := cwV 0 hts (gGoodV (fun w h => List.mem_cons_of_mem _ h) wk_X12_116) rfl rfl rfl (by decide +kernel) ⟨Nat.le_of_ble_eq_true rfl, Nat.le_of_ble_eq_true rfl⟩
  have k119 : CallW rmX12_finals s args RX12 RX12 119 yX12_timeRank cX12_timeRank 4 (some .int) wsX12_timeRank rmX12_timeRank 0 0 1 := cwV 1 hts (gGoodV (fun w h => List.mem_cons_of_mem _ h) wk_X12_119) rfl rfl rfl (by decide +kernel) ⟨Nat.le_of_ble_eq_true rfl, Nat.le_of_ble_eq_true rfl⟩
  have k122 : CallW rmX12_finals s args RX12 RX12 122 yX12_inFinal cX12_inFinal 3 (some .int) wsX12_inFinal rmX12_inFinal 0 0 0 := cwV 0 hts (gGoodV (fun w h => List.mem_cons_of_mem _ h) wk_X12_122) rfl rfl rfl (by decide +kernel) ⟨Nat.le_of_ble_eq_true rfl, Nat.le_of_ble_eq_true rfl⟩
  have k52 : CallW rmX12_finals s args RX12 RX12 52 yX12_hasTime cX12_hasTime 2 (some .boolean) wsX12_hasTime rmX12_hasTime 0 0 1 := cwV 1 hts (gGoodV (fun w h => List.mem_cons_of_mem _ h) wk_X12_52) rfl rfl rfl (by decide +kernel) ⟨Nat.le_of_ble_eq_true rfl, Nat.le_of_ble_eq_true rfl⟩
  have k59 : CallW rmX12_finals s args RX12 RX12 59 yX12_lanes cX12_lanes 1 (some .int) wsX12_lanes rmX12_lanes 0 0 0 := cwV 0 hts (gGoodV (fun w h => List.mem_cons_of_mem _ h) wk_X12_59) rfl rfl rfl (by decide +kernel) ⟨Nat.le_of_ble_eq_true rfl, Nat.le_of_ble_eq_true rfl⟩
  have k63 : CallW rmX12_finals s args RX12 RX12 63 yX12_laneOf cX12_laneOf 4 (some .int) wsX12_laneOf rmX12_laneOf 0 0 1 := cwV 1 hts (gGoodV (fun w h => List.mem_cons_of_mem _ h) wk_X12_63) rfl rfl rfl (by decide +kernel) ⟨Nat.le_of_ble_eq_true rfl, Nat.le_of_ble_eq_true rfl⟩
  have k78 : CallW rmX12_finals s args RX12 RX12 78 yX12_changes cX12_changes 2 none wsX12_changes rmX12_changes 0 0 0 := cwV 0 hts (gGoodV (fun w h => List.mem_cons_of_mem _ h) wk_X12_78) rfl rfl rfl (by decide +kernel) ⟨Nat.le_of_ble_eq_true rfl, Nat.le_of_ble_eq_true rfl⟩
  have k81 : CallW rmX12_finals s args RX12 RX12 81 yX12_lay cX12_lay 4 none wsX12_lay rmX12_lay 0 0 3 := cwV 3 hts (gGoodV (fun w h => List.mem_cons_of_mem _ h) wk_X12_81) rfl rfl rfl (by decide +kernel) ⟨Nat.le_of_ble_eq_true rfl, Nat.le_of_ble_eq_true rfl⟩
  have L_28 : ∀ (fu : Nat) (w : gWd) (x1 : Int32)  (ls : Array Slot) (hl : lv_has ls 3 [(0, .ref (gA X 8 0)), (1, .int x1)]) (hF : F_X12_finals_28 fu w x1 = some (r, w')) (H : Heap) (locs : List Loc) (hW : gWo X 251 (gE X w) H) (hL : gLo X locs), W p l e rmX12_finals s m args below meth c H locs 0 0 (MQ below (gQi X r w') args s 0 0 (gFr X)) (F0 m 28 ls []) := by
    intro fu
    induction fu with
    | zero => intro w x1 ls hl hF H locs hW hL; rw [F_X12_finals_28_z] at hF; cases hF
    | succ fu28 ih28 =>
      have B_58 : ∀ (w : gWd) (x1 : Int32) (xs0 : Int32)  (ls : Array Slot) (hl : lv_has ls 3 [(0, .ref (gA X 8 0)), (1, .int x1)]) (hF : F_X12_finals_58 (F_X12_finals_28 fu28) w x1 xs0 = some (r, w')) (H : Heap) (locs : List Loc) (hW : gWo X 251 (gE X w) H) (hL : gLo X locs), W p l e rmX12_finals s m args below meth c H locs 0 0 (MQ below (gQi X r w') args s 0 0 (gFr X)) (F0 m 58 ls [.int xs0]) := by
        intro w x1 xs0 ls hl hF H locs hW hL
        rw [F_X12_finals_58] at hF
        refine lv_istore_n (lv' := [(2, .int xs0), (0, .ref (gA X 8 0)), (1, .int x1)]) hx hb dX12_finals_58 rfl hl (by decide) rfl (fun ls hl => ?_)
        refine lv_iload_n hx hb dX12_finals_59 rfl (lv_at hl 0 rfl) ?_
        refine lv_aload_n hx hb dX12_finals_60 rfl (lv_at hl 1 rfl) ?_
        obtain ⟨v_11, hq_10, hF⟩ := gP_some hF
        refine g_Vi (As := []) (rest := [.int xs0]) ⟨hx, hb, hml, hown, hts⟩ hK hW hL hl.1 (gok_o (by decide)) gE_O rfl (c_X12_lanes l X w  v_11 hq_10) k59 rfl rfl (Nat.le_of_ble_eq_true rfl) dX12_finals_61 ⟨Nat.le_of_ble_eq_true rfl, Nat.le_of_ble_eq_true rfl⟩ (fun H locs hW hL => ?_)
        refine lv_icmp_ge (tgt := 82) hx hb dX12_finals_64 (by decide) (fun hc_12 => ?_) (fun hc_12 => ?_)
        · replace hF := gT hc_12 hF
          refine lv_iload_n hx hb dX12_finals_82 rfl (lv_at hl 0 rfl) ?_
          refine lv_aload_n hx hb dX12_finals_83 rfl (lv_at hl 1 rfl) ?_
          obtain ⟨v_14, hq_13, hF⟩ := gP_some hF
          refine g_Vi (As := []) (rest := [.int xs0]) ⟨hx, hb, hml, hown, hts⟩ hK hW hL hl.1 (gok_o (by decide)) gE_O rfl (c_X12_lanes l X w  v_14 hq_13) k59 rfl rfl (Nat.le_of_ble_eq_true rfl) dX12_finals_84 ⟨Nat.le_of_ble_eq_true rfl, Nat.le_of_ble_eq_true rfl⟩ (fun H locs hW hL => ?_)
          refine lv_aload_n hx hb dX12_finals_87 rfl (lv_at hl 1 rfl) ?_
          refine rg_X12_s hx hb hts inX12 hown hK hW q7 dX12_finals_88 ?_
          refine lv_sipush (v := 319) hx hb dX12_finals_91 (by decide) ?_
          refine g_iald2 (k := 319) hx hb hK hW (gok_o (by decide)) (gad_lt (gok_o (by decide))) gE_O1 (gin (by decide)) (by decide) dX12_finals_94 ?_
          refine lv_iadd hx hb dX12_finals_95 ?_
          refine lv_icmp_ge (tgt := 123) hx hb dX12_finals_96 (by decide) (fun hc_15 => ?_) (fun hc_15 => ?_)
          · replace hF := gT hc_15 hF
            obtain ⟨x1_16, ex1_16, hF⟩ := gS_some hF
            refine lv_iinc (v := x1_16) (lv' := [(1, .int x1_16), (2, .int xs0), (0, .ref (gA X 8 0))]) hx hb dX12_finals_123 hl (k := 2) rfl (by rw [ex1_16]; rfl) (by decide) rfl (fun ls hl => ?_)
            refine lv_goto (tgt := 28) hx hb dX12_finals_126 (by decide) ?_
            exact ih28 w x1_16 ls (lv_sub hl [2, 0] rfl) hF H locs hW hL
          · replace hF := gF hc_15 hF
            refine lv_iload_n hx hb dX12_finals_99 rfl (lv_at hl 0 rfl) ?_
            refine lv_bipush (v := 30) hx hb dX12_finals_100 (by decide) ?_
            refine lv_icmp_ge (tgt := 123) hx hb dX12_finals_102 (by decide) (fun hc_17 => ?_) (fun hc_17 => ?_)
            · replace hF := gT hc_17 hF
              obtain ⟨x1_18, ex1_18, hF⟩ := gS_some hF
              refine lv_iinc (v := x1_18) (lv' := [(1, .int x1_18), (2, .int xs0), (0, .ref (gA X 8 0))]) hx hb dX12_finals_123 hl (k := 2) rfl (by rw [ex1_18]; rfl) (by decide) rfl (fun ls hl => ?_)
              refine lv_goto (tgt := 28) hx hb dX12_finals_126 (by decide) ?_
              exact ih28 w x1_18 ls (lv_sub hl [2, 0] rfl) hF H locs hW hL
            · replace hF := gF hc_17 hF
              refine lv_aload_n hx hb dX12_finals_105 rfl (lv_at hl 1 rfl) ?_
              refine rg_X12_s hx hb hts inX12 hown hK hW q7 dX12_finals_106 ?_
              refine lv_sipush (v := 306) hx hb dX12_finals_109 (by decide) ?_
              refine lv_iload_n hx hb dX12_finals_112 rfl (lv_at hl 0 rfl) ?_
              refine lv_iadd hx hb dX12_finals_113 ?_
              refine lv_aload_n hx hb dX12_finals_114 rfl (lv_at hl 1 rfl) ?_
              obtain ⟨v_20, hq_19, hF⟩ := gP_some hF
              refine g_Vi (As := []) (rest := [.int (306 + xs0), .ref (gA X 8 1)]) ⟨hx, hb, hml, hown, hts⟩ hK hW hL hl.1 (gok_o (by decide)) gE_O rfl (c_X12_lanes l X w  v_20 hq_19) k59 rfl rfl (Nat.le_of_ble_eq_true rfl) dX12_finals_115 ⟨Nat.le_of_ble_eq_true rfl, Nat.le_of_ble_eq_true rfl⟩ (fun H locs hW hL => ?_)
              refine lv_isub hx hb dX12_finals_118 ?_
              refine lv_iload_n hx hb dX12_finals_119 rfl (lv_at hl 2 rfl) ?_
              refine lv_iconst (v := 1) hx hb dX12_finals_120 (by decide) ?_
              refine lv_iadd hx hb dX12_finals_121 ?_
              obtain ⟨hin_21, hF⟩ := gB_some hF
              obtain ⟨k_22, ek_22⟩ : ∃ k, k = Int32.toNatClampNeg (((306 + xs0) - v_20)) := ⟨_, rfl⟩
              rw [← ek_22] at hF
              obtain ⟨w_23, ew_23, hF⟩ := gS_some hF
              refine g_iast2 (k := k_22) hx hb hK hW hL (gok_o (by decide)) (fun w => gE_O1 (w := w)) hin_21 ek_22.symm dX12_finals_122 (fun H locs hW hL => ?_)
              rw [← ew_23] at hW
              obtain ⟨x1_24, ex1_24, hF⟩ := gS_some hF
              refine lv_iinc (v := x1_24) (lv' := [(1, .int x1_24), (2, .int xs0), (0, .ref (gA X 8 0))]) hx hb dX12_finals_123 hl (k := 2) rfl (by rw [ex1_24]; rfl) (by decide) rfl (fun ls hl => ?_)
              refine lv_goto (tgt := 28) hx hb dX12_finals_126 (by decide) ?_
              exact ih28 w_23 x1_24 ls (lv_sub hl [2, 0] rfl) hF H locs hW hL
        · replace hF := gF hc_12 hF
          refine lv_aload_n hx hb dX12_finals_67 rfl (lv_at hl 1 rfl) ?_
          refine lv_iload_n hx hb dX12_finals_68 rfl (lv_at hl 2 rfl) ?_
          refine lv_bipush (v := 6) hx hb dX12_finals_69 (by decide) ?_
          refine lv_aload_n hx hb dX12_finals_71 rfl (lv_at hl 1 rfl) ?_
          refine lv_iload_n hx hb dX12_finals_72 rfl (lv_at hl 0 rfl) ?_
          obtain ⟨v_26, hq_25, hF⟩ := gP_some hF
          refine g_Vi (As := [.int xs0]) (rest := [.int 6, .int x1, .ref (gA X 8 0)]) ⟨hx, hb, hml, hown, hts⟩ hK hW hL hl.1 (gok_o (by decide)) gE_O rfl (c_X12_laneOf l X w xs0 v_26 hq_25) k63 rfl rfl (Nat.le_of_ble_eq_true rfl) dX12_finals_73 ⟨Nat.le_of_ble_eq_true rfl, Nat.le_of_ble_eq_true rfl⟩ (fun H locs hW hL => ?_)
          obtain ⟨w_28, hq_27, hF⟩ := gP_some hF
          refine g_Vv (As := [.int x1, .int 6, .int v_26]) (rest := []) ⟨hx, hb, hml, hown, hts⟩ hK hW hL hl.1 (gok_o (by decide)) gE_O rfl (c_X12_lay l X w x1 6 v_26 w_28 hq_27) k81 rfl rfl (Nat.le_of_ble_eq_true rfl) dX12_finals_76 ⟨Nat.le_of_ble_eq_true rfl, Nat.le_of_ble_eq_true rfl⟩ (fun H locs hW hL => ?_)
          refine lv_goto (tgt := 123) hx hb dX12_finals_79 (by decide) ?_
          obtain ⟨x1_29, ex1_29, hF⟩ := gS_some hF
          refine lv_iinc (v := x1_29) (lv' := [(1, .int x1_29), (2, .int xs0), (0, .ref (gA X 8 0))]) hx hb dX12_finals_123 hl (k := 2) rfl (by rw [ex1_29]; rfl) (by decide) rfl (fun ls hl => ?_)
          refine lv_goto (tgt := 28) hx hb dX12_finals_126 (by decide) ?_
          exact ih28 w_28 x1_29 ls (lv_sub hl [2, 0] rfl) hF H locs hW hL
      intro w x1 ls hl hF H locs hW hL
      rw [F_X12_finals_28_s] at hF
      refine lv_iload_n hx hb dX12_finals_28 rfl (lv_at hl 1 rfl) ?_
      refine lv_aload_n hx hb dX12_finals_29 rfl (lv_at hl 0 rfl) ?_
      refine rg_X12_s hx hb hts inX12 hown hK hW q7 dX12_finals_30 ?_
      refine lv_sipush (v := 311) hx hb dX12_finals_33 (by decide) ?_
      refine g_iald2 (k := 311) hx hb hK hW (gok_o (by decide)) (gad_lt (gok_o (by decide))) gE_O1 (gin (by decide)) (by decide) dX12_finals_36 ?_
      refine lv_icmp_ge (tgt := 129) hx hb dX12_finals_37 (by decide) (fun hc_1 => ?_) (fun hc_1 => ?_)
      · replace hF := gT hc_1 hF
        refine lv_aload_n hx hb dX12_finals_129 rfl (lv_at hl 0 rfl) ?_
        refine rg_X12_s hx hb hts inX12 hown hK hW q7 dX12_finals_130 ?_
        refine lv_sipush (v := 310) hx hb dX12_finals_133 (by decide) ?_
        refine lv_iconst (v := 2) hx hb dX12_finals_136 (by decide) ?_
        obtain ⟨w_2, ew_2, hF⟩ := gS_some hF
        refine g_iast2 (k := 310) hx hb hK hW hL (gok_o (by decide)) (fun w => gE_O1 (w := w)) (gin (by decide)) (by decide) dX12_finals_137 (fun H locs hW hL => ?_)
        rw [← ew_2] at hW
        refine lv_aload_n hx hb dX12_finals_138 rfl (lv_at hl 0 rfl) ?_
        obtain ⟨v_4, hq_3, hF⟩ := gP_some hF
        refine g_Vi (As := []) (rest := []) ⟨hx, hb, hml, hown, hts⟩ hK hW hL hl.1 (gok_o (by decide)) gE_O rfl (c_X12_inFinal l X w_2  v_4 hq_3) k122 rfl rfl (Nat.le_of_ble_eq_true rfl) dX12_finals_139 ⟨Nat.le_of_ble_eq_true rfl, Nat.le_of_ble_eq_true rfl⟩ (fun H locs hW hL => ?_)
        exact g_ri hx hb hr hlocks (gW2 hF hW) hL (gI2 hF).1 dX12_finals_142
      · replace hF := gF hc_1 hF
        refine lv_aload_n hx hb dX12_finals_40 rfl (lv_at hl 0 rfl) ?_
        refine lv_iload_n hx hb dX12_finals_41 rfl (lv_at hl 1 rfl) ?_
        obtain ⟨v_6, hq_5, hF⟩ := gP_some hF
        refine g_Vi (As := [.int x1]) (rest := []) ⟨hx, hb, hml, hown, hts⟩ hK hW hL hl.1 (gok_o (by decide)) gE_O rfl (c_X12_hasTime l X w x1 v_6 hq_5) k52 rfl rfl (Nat.le_of_ble_eq_true rfl) dX12_finals_42 ⟨Nat.le_of_ble_eq_true rfl, Nat.le_of_ble_eq_true rfl⟩ (fun H locs hW hL => ?_)
        refine lv_if_eq (tgt := 56) hx hb dX12_finals_45 (by decide) (fun hc_7 => ?_) (fun hc_7 => ?_)
        · replace hF := gT hc_7 hF
          refine lv_bipush (v := 30) hx hb dX12_finals_56 (by decide) ?_
          exact B_58 w x1 30 ls (hl) hF H locs hW hL
        · replace hF := gF hc_7 hF
          refine lv_aload_n hx hb dX12_finals_48 rfl (lv_at hl 0 rfl) ?_
          refine lv_iload_n hx hb dX12_finals_49 rfl (lv_at hl 1 rfl) ?_
          obtain ⟨v_9, hq_8, hF⟩ := gP_some hF
          refine g_Vi (As := [.int x1]) (rest := []) ⟨hx, hb, hml, hown, hts⟩ hK hW hL hl.1 (gok_o (by decide)) gE_O rfl (c_X12_timeRank l X w x1 v_9 hq_8) k119 rfl rfl (Nat.le_of_ble_eq_true rfl) dX12_finals_50 ⟨Nat.le_of_ble_eq_true rfl, Nat.le_of_ble_eq_true rfl⟩ (fun H locs hW hL => ?_)
          refine lv_goto (tgt := 58) hx hb dX12_finals_53 (by decide) ?_
          exact B_58 w x1 v_9 ls (hl) hF H locs hW hL
  rw [F_X12_finals] at hF
  obtain ⟨locs, hlocs⟩ : ∃ locs : List Loc, locs = [] := ⟨_, rfl⟩
  rw [← hlocs] at hL ⊢
  refine lv_aload_n hx hb dX12_finals_0 rfl (lv_at hl 0 rfl) ?_
  refine rg_X12_s hx hb hts inX12 hown hK hW q7 dX12_finals_1 ?_
  refine lv_sipush (v := 310) hx hb dX12_finals_4 (by decide) ?_
  refine g_iald2 (k := 310) hx hb hK hW (gok_o (by decide)) (gad_lt (gok_o (by decide))) gE_O1 (gin (by decide)) (by decide) dX12_finals_7 ?_
  refine lv_iconst (v := 1) hx hb dX12_finals_8 (by decide) ?_
  refine lv_icmp_ne (tgt := 19) hx hb dX12_finals_9 (by decide) (fun hc_30 => ?_) (fun hc_30 => ?_)
  · replace hF := gF hc_30 hF
    refine lv_ldc hx hb hown q76 dX12_finals_19 ?_
    exact g_ri hx hb hr hlocks (gW2 hF hW) hL (gI2 hF).1 dX12_finals_21
  · replace hF := gT hc_30 hF
    refine lv_aload_n hx hb dX12_finals_12 rfl (lv_at hl 0 rfl) ?_
    obtain ⟨v_32, hq_31, hF⟩ := gP_some hF
    refine g_Vi (As := []) (rest := []) ⟨hx, hb, hml, hown, hts⟩ hK hW hL hl.1 (gok_o (by decide)) gE_O rfl (c_X12_why l X w  v_32 hq_31) k116 rfl rfl (Nat.le_of_ble_eq_true rfl) dX12_finals_13 ⟨Nat.le_of_ble_eq_true rfl, Nat.le_of_ble_eq_true rfl⟩ (fun H locs hW hL => ?_)
    refine lv_if_le (tgt := 22) hx hb dX12_finals_16 (by decide) (fun hc_33 => ?_) (fun hc_33 => ?_)
    · replace hF := gT hc_33 hF
      refine lv_aload_n hx hb dX12_finals_22 rfl (lv_at hl 0 rfl) ?_
      obtain ⟨w_35, hq_34, hF⟩ := gP_some hF
      refine g_Vv (As := []) (rest := []) ⟨hx, hb, hml, hown, hts⟩ hK hW hL hl.1 (gok_o (by decide)) gE_O rfl (c_X12_changes l X w  w_35 hq_34) k78 rfl rfl (Nat.le_of_ble_eq_true rfl) dX12_finals_23 ⟨Nat.le_of_ble_eq_true rfl, Nat.le_of_ble_eq_true rfl⟩ (fun H locs hW hL => ?_)
      refine lv_iconst (v := 0) hx hb dX12_finals_26 (by decide) ?_
      refine lv_istore_n (lv' := [(1, .int 0), (0, .ref (gA X 8 0))]) hx hb dX12_finals_27 rfl hl (by decide) rfl (fun ls hl => ?_)
      exact L_28 gFU w_35 0 ls (lv_sub hl [1, 0] rfl) hF H locs hW hL
    · replace hF := gF hc_33 hF
      refine lv_ldc hx hb hown q76 dX12_finals_19 ?_
      exact g_ri hx hb hr hlocks (gW2 hF hW) hL (gI2 hF).1 dX12_finals_21
abbrev rmX12_finishers : Room := { frames := 1, cells := 0, slots := 0, locals := 22 }
abbrev wsX12_finishers : List Cond := gws yX12_finishers cX12_finishers 5 (some .int)
set_option maxHeartbeats 4000000 in
set_option maxRecDepth 100000 in
theorem c_X12_finishers (l : Launch) (X : gX) (w : gWd) (x1 : Int32) (x2 : Int32) (r : Int32) (hF : F_X12_finishers w x1 x2 = some r) : Met l yX12_finishers wsX12_finishers rmX12_finishers (gPc X [.ref (gA X 8 0), .int x1, .int x2] w) (gQi X r w) 0 0 (gFr X) := by
  refine g_ofW (cc := cX12_finishers) (maxL := 5) (ret := (some .int)) (by decide) rfl (Nat.le_of_ble_eq_true rfl) (fun p e s m args below meth c ls H hx hb hr hts hown hlocks hml hK hl hW => ?_)
  have hl : lv_has ls 5 [(0, .ref (gA X 8 0)), (1, .int x1), (2, .int x2)] := hl
  have hown : s.vm.findClass RX12 = some m.cls := hown
  have hL : gLo X [] := gLo_nil
  show W p l e rmX12_finishers s m args below meth c H [] 0 0 _ _
  have inX12 : ∀ w ∈ wsX120, w ∈ wsX12_finishers := fun w h => List.mem_cons_of_mem _ (inlX12 w h)
  have q7 := hts _ (List.mem_cons_of_mem _ wq_X12_7)
  have k36 : CallB rmX12_finishers s args RX12 36 yX12_in cX12_in 3 (some .boolean) wsX12_in rmX12_in 0 0 3 ∧ (Cond.static yX12_in).before args s = true := va_cwS 3 hts (gGoodS (fun w h => List.mem_cons_of_mem _ h) wk_X12_36) rfl rfl rfl (by decide +kernel) ⟨Nat.le_of_ble_eq_true rfl, Nat.le_of_ble_eq_true rfl⟩
  have k40 : CallW rmX12_finishers s args RX12 RX12 40 yX12_of cX12_of 3 (some .int) wsX12_of rmX12_of 0 0 2 := cwV 2 hts (gGoodV (fun w h => List.mem_cons_of_mem _ h) wk_X12_40) rfl rfl rfl (by decide +kernel) ⟨Nat.le_of_ble_eq_true rfl, Nat.le_of_ble_eq_true rfl⟩
  have L_5 : ∀ (fu : Nat) (x1 : Int32) (x2 : Int32) (x3 : Int32) (x4 : Int32)  (ls : Array Slot) (hl : lv_has ls 5 [(0, .ref (gA X 8 0)), (1, .int x1), (2, .int x2), (3, .int x3), (4, .int x4)]) (hF : F_X12_finishers_5 fu w x1 x2 x3 x4 = some r) (H : Heap) (locs : List Loc) (hW : gWo X 251 (gE X w) H) (hL : gLo X locs), W p l e rmX12_finishers s m args below meth c H locs 0 0 (MQ below (gQi X r w) args s 0 0 (gFr X)) (F0 m 5 ls []) := by
    intro fu
    induction fu with
    | zero => intro x1 x2 x3 x4 ls hl hF H locs hW hL; rw [F_X12_finishers_5_z] at hF; cases hF
    | succ fu5 ih5 =>
      intro x1 x2 x3 x4 ls hl hF H locs hW hL
      rw [F_X12_finishers_5_s] at hF
      refine lv_iload hx hb dX12_finishers_5 (lv_at hl 4 rfl) ?_
      refine lv_aload_n hx hb dX12_finishers_7 rfl (lv_at hl 0 rfl) ?_
      refine rg_X12_s hx hb hts inX12 hown hK hW q7 dX12_finishers_8 ?_
      refine lv_sipush (v := 311) hx hb dX12_finishers_11 (by decide) ?_
      refine g_iald2 (k := 311) hx hb hK hW (gok_o (by decide)) (gad_lt (gok_o (by decide))) gE_O1 (gin (by decide)) (by decide) dX12_finishers_14 ?_
      refine lv_icmp_ge (tgt := 50) hx hb dX12_finishers_15 (by decide) (fun hc_1 => ?_) (fun hc_1 => ?_)
      · replace hF := gT hc_1 hF
        refine lv_iload_n hx hb dX12_finishers_50 rfl (lv_at hl 3 rfl) ?_
        exact g_ri hx hb hr hlocks hW hL (Option.some.inj hF) dX12_finishers_51
      · replace hF := gF hc_1 hF
        refine lv_iload_n hx hb dX12_finishers_18 rfl (lv_at hl 3 rfl) ?_
        refine lv_aload_n hx hb dX12_finishers_19 rfl (lv_at hl 0 rfl) ?_
        refine lv_iload hx hb dX12_finishers_20 (lv_at hl 4 rfl) ?_
        refine lv_bipush (v := 7) hx hb dX12_finishers_22 (by decide) ?_
        obtain ⟨v_3, hq_2, hF⟩ := gP_some hF
        refine g_Vi (As := [.int x4, .int 7]) (rest := [.int x3]) ⟨hx, hb, hml, hown, hts⟩ hK hW hL hl.1 (gok_o (by decide)) gE_O rfl (c_X12_of l X w x4 7 v_3 hq_2) k40 rfl rfl (Nat.le_of_ble_eq_true rfl) dX12_finishers_24 ⟨Nat.le_of_ble_eq_true rfl, Nat.le_of_ble_eq_true rfl⟩ (fun H locs hW hL => ?_)
        refine lv_iconst (v := 1) hx hb dX12_finishers_27 (by decide) ?_
        refine lv_isub hx hb dX12_finishers_28 ?_
        refine lv_iload_n hx hb dX12_finishers_29 rfl (lv_at hl 1 rfl) ?_
        refine lv_iload_n hx hb dX12_finishers_30 rfl (lv_at hl 2 rfl) ?_
        obtain ⟨v_5, hq_4, hF⟩ := gP_some hF
        refine g_Si (As := [.int (v_3 - 1), .int x1, .int x2]) (rest := [.int x3]) ⟨hx, hb, hml, hown, hts⟩ hK hW hL hl.1 (c_X12_in l X w ((v_3 - 1)) x1 x2 v_5 hq_4) k36 rfl rfl (Nat.le_of_ble_eq_true rfl) dX12_finishers_31 ⟨Nat.le_of_ble_eq_true rfl, Nat.le_of_ble_eq_true rfl⟩ (fun H locs hW hL => ?_)
        refine lv_if_eq (tgt := 41) hx hb dX12_finishers_34 (by decide) (fun hc_6 => ?_) (fun hc_6 => ?_)
        · replace hF := gT hc_6 hF
          refine lv_iconst (v := 0) hx hb dX12_finishers_41 (by decide) ?_
          refine lv_iadd hx hb dX12_finishers_42 ?_
          obtain ⟨x3_7, ex3_7, hF⟩ := gS_some hF
          refine g_top ex3_7 ?_
          refine lv_istore_n (lv' := [(3, .int x3_7), (0, .ref (gA X 8 0)), (1, .int x1), (2, .int x2), (4, .int x4)]) hx hb dX12_finishers_43 rfl hl (by decide) rfl (fun ls hl => ?_)
          obtain ⟨x4_8, ex4_8, hF⟩ := gS_some hF
          refine lv_iinc (v := x4_8) (lv' := [(4, .int x4_8), (3, .int x3_7), (0, .ref (gA X 8 0)), (1, .int x1), (2, .int x2)]) hx hb dX12_finishers_44 hl (k := 4) rfl (by rw [ex4_8]; rfl) (by decide) rfl (fun ls hl => ?_)
          refine lv_goto (tgt := 5) hx hb dX12_finishers_47 (by decide) ?_
          exact ih5 x1 x2 x3_7 x4_8 ls (lv_sub hl [2, 3, 4, 1, 0] rfl) hF H locs hW hL
        · replace hF := gF hc_6 hF
          refine lv_iconst (v := 1) hx hb dX12_finishers_37 (by decide) ?_
          refine lv_goto (tgt := 42) hx hb dX12_finishers_38 (by decide) ?_
          refine lv_iadd hx hb dX12_finishers_42 ?_
          obtain ⟨x3_9, ex3_9, hF⟩ := gS_some hF
          refine g_top ex3_9 ?_
          refine lv_istore_n (lv' := [(3, .int x3_9), (0, .ref (gA X 8 0)), (1, .int x1), (2, .int x2), (4, .int x4)]) hx hb dX12_finishers_43 rfl hl (by decide) rfl (fun ls hl => ?_)
          obtain ⟨x4_10, ex4_10, hF⟩ := gS_some hF
          refine lv_iinc (v := x4_10) (lv' := [(4, .int x4_10), (3, .int x3_9), (0, .ref (gA X 8 0)), (1, .int x1), (2, .int x2)]) hx hb dX12_finishers_44 hl (k := 4) rfl (by rw [ex4_10]; rfl) (by decide) rfl (fun ls hl => ?_)
          refine lv_goto (tgt := 5) hx hb dX12_finishers_47 (by decide) ?_
          exact ih5 x1 x2 x3_9 x4_10 ls (lv_sub hl [2, 3, 4, 1, 0] rfl) hF H locs hW hL
  rw [F_X12_finishers] at hF
  obtain ⟨locs, hlocs⟩ : ∃ locs : List Loc, locs = [] := ⟨_, rfl⟩
  rw [← hlocs] at hL ⊢
  refine lv_iconst (v := 0) hx hb dX12_finishers_0 (by decide) ?_
  refine lv_istore_n (lv' := [(3, .int 0), (0, .ref (gA X 8 0)), (1, .int x1), (2, .int x2)]) hx hb dX12_finishers_1 rfl hl (by decide) rfl (fun ls hl => ?_)
  refine lv_iconst (v := 0) hx hb dX12_finishers_2 (by decide) ?_
  refine lv_istore (lv' := [(4, .int 0), (3, .int 0), (0, .ref (gA X 8 0)), (1, .int x1), (2, .int x2)]) hx hb dX12_finishers_3 hl (by decide) rfl (fun ls hl => ?_)
  exact L_5 gFU x1 x2 0 0 ls (lv_sub hl [2, 3, 4, 1, 0] rfl) hF H locs hW hL
abbrev rmX12_worth : Room := { frames := 1, cells := 0, slots := 0, locals := 20 }
abbrev wsX12_worth : List Cond := gws yX12_worth cX12_worth 2 (some .int)
set_option maxHeartbeats 4000000 in
set_option maxRecDepth 100000 in
theorem c_X12_worth (l : Launch) (X : gX) (w : gWd) (x1 : Int32) (r : Int32) (hF : F_X12_worth w x1 = some r) : Met l yX12_worth wsX12_worth rmX12_worth (gPc X [.ref (gA X 8 0), .int x1] w) (gQi X r w) 0 0 (gFr X) := by
  refine g_ofW (cc := cX12_worth) (maxL := 2) (ret := (some .int)) (by decide) rfl (Nat.le_of_ble_eq_true rfl) (fun p e s m args below meth c ls H hx hb hr hts hown hlocks hml hK hl hW => ?_)
  have hl : lv_has ls 2 [(0, .ref (gA X 8 0)), (1, .int x1)] := hl
  have hown : s.vm.findClass RX12 = some m.cls := hown
  have hL : gLo X [] := gLo_nil
  show W p l e rmX12_worth s m args below meth c H [] 0 0 _ _
  have k59 : CallW rmX12_worth s args RX12 RX12 59 yX12_lanes cX12_lanes 1 (some .int) wsX12_lanes rmX12_lanes 0 0 0 := cwV 0 hts (gGoodV (fun w h => List.mem_cons_of_mem _ h) wk_X12_59) rfl rfl rfl (by decide +kernel) ⟨Nat.le_of_ble_eq_true rfl, Nat.le_of_ble_eq_true rfl⟩
  rw [F_X12_worth] at hF
  obtain ⟨locs, hlocs⟩ : ∃ locs : List Loc, locs = [] := ⟨_, rfl⟩
  rw [← hlocs] at hL ⊢
  refine lv_aload_n hx hb dX12_worth_0 rfl (lv_at hl 0 rfl) ?_
  obtain ⟨v_2, hq_1, hF⟩ := gP_some hF
  refine g_Vi (As := []) (rest := []) ⟨hx, hb, hml, hown, hts⟩ hK hW hL hl.1 (gok_o (by decide)) gE_O rfl (c_X12_lanes l X w  v_2 hq_1) k59 rfl rfl (Nat.le_of_ble_eq_true rfl) dX12_worth_1 ⟨Nat.le_of_ble_eq_true rfl, Nat.le_of_ble_eq_true rfl⟩ (fun H locs hW hL => ?_)
  refine lv_iload_n hx hb dX12_worth_4 rfl (lv_at hl 1 rfl) ?_
  refine lv_isub hx hb dX12_worth_5 ?_
  refine lv_iconst (v := 1) hx hb dX12_worth_6 (by decide) ?_
  refine lv_iadd hx hb dX12_worth_7 ?_
  refine lv_iload_n hx hb dX12_worth_8 rfl (lv_at hl 1 rfl) ?_
  refine lv_iconst (v := 1) hx hb dX12_worth_9 (by decide) ?_
  refine lv_icmp_ne (tgt := 17) hx hb dX12_worth_10 (by decide) (fun hc_3 => ?_) (fun hc_3 => ?_)
  · replace hF := gF hc_3 hF
    refine lv_iconst (v := 0) hx hb dX12_worth_17 (by decide) ?_
    refine lv_iadd hx hb dX12_worth_18 ?_
    exact g_ri hx hb hr hlocks hW hL (Option.some.inj hF) dX12_worth_19
  · replace hF := gT hc_3 hF
    refine lv_iconst (v := 1) hx hb dX12_worth_13 (by decide) ?_
    refine lv_goto (tgt := 18) hx hb dX12_worth_14 (by decide) ?_
    refine lv_iadd hx hb dX12_worth_18 ?_
    exact g_ri hx hb hr hlocks hW hL (Option.some.inj hF) dX12_worth_19
abbrev rmX12_end : Room := { frames := 5, cells := 0, slots := 0, locals := 106 }
abbrev wsX12_end : List Cond := gws yX12_end cX12_end 8 (some .int)
set_option maxHeartbeats 4000000 in
set_option maxRecDepth 100000 in
theorem c_X12_end (l : Launch) (X : gX) (w : gWd)  (r : Int32) (w' : gWd) (hF : F_X12_end w = some (r, w')) : Met l yX12_end wsX12_end rmX12_end (gPc X [.ref (gA X 8 0)] w) (gQi X r w') 0 0 (gFr X) := by
  refine g_ofW (cc := cX12_end) (maxL := 8) (ret := (some .int)) (by decide) rfl (Nat.le_of_ble_eq_true rfl) (fun p e s m args below meth c ls H hx hb hr hts hown hlocks hml hK hl hW => ?_)
  have hl : lv_has ls 8 [(0, .ref (gA X 8 0))] := hl
  have hown : s.vm.findClass RX12 = some m.cls := hown
  have hL : gLo X [] := gLo_nil
  show W p l e rmX12_end s m args below meth c H [] 0 0 _ _
  have inX12 : ∀ w ∈ wsX120, w ∈ wsX12_end := fun w h => List.mem_cons_of_mem _ (inlX12 w h)
  have q7 := hts _ (List.mem_cons_of_mem _ wq_X12_7)
  have q76 := hts _ (List.mem_cons_of_mem _ wq_X12_76)
  have k116 : CallW rmX12_end s args RX12 RX12 116 yX12_why cX12_why 1 (some .int) wsX12_why rmX12_why 0 0 0 := cwV 0 hts (gGoodV (fun w h => List.mem_cons_of_mem _ h) wk_X12_116) rfl rfl rfl (by decide +kernel) ⟨Nat.le_of_ble_eq_true rfl, Nat.le_of_ble_eq_true rfl⟩
  have k125 : CallW rmX12_end s args RX12 RX12 125 yX12_finishers cX12_finishers 5 (some .int) wsX12_finishers rmX12_finishers 0 0 2 := cwV 2 hts (gGoodV (fun w h => List.mem_cons_of_mem _ h) wk_X12_125) rfl rfl rfl (by decide +kernel) ⟨Nat.le_of_ble_eq_true rfl, Nat.le_of_ble_eq_true rfl⟩
  have k128 : CallW rmX12_end s args RX12 RX12 128 yX12_worth cX12_worth 2 (some .int) wsX12_worth rmX12_worth 0 0 1 := cwV 1 hts (gGoodV (fun w h => List.mem_cons_of_mem _ h) wk_X12_128) rfl rfl rfl (by decide +kernel) ⟨Nat.le_of_ble_eq_true rfl, Nat.le_of_ble_eq_true rfl⟩
  have k40 : CallW rmX12_end s args RX12 RX12 40 yX12_of cX12_of 3 (some .int) wsX12_of rmX12_of 0 0 2 := cwV 2 hts (gGoodV (fun w h => List.mem_cons_of_mem _ h) wk_X12_40) rfl rfl rfl (by decide +kernel) ⟨Nat.le_of_ble_eq_true rfl, Nat.le_of_ble_eq_true rfl⟩
  have k78 : CallW rmX12_end s args RX12 RX12 78 yX12_changes cX12_changes 2 none wsX12_changes rmX12_changes 0 0 0 := cwV 0 hts (gGoodV (fun w h => List.mem_cons_of_mem _ h) wk_X12_78) rfl rfl rfl (by decide +kernel) ⟨Nat.le_of_ble_eq_true rfl, Nat.le_of_ble_eq_true rfl⟩
  have k81 : CallW rmX12_end s args RX12 RX12 81 yX12_lay cX12_lay 4 none wsX12_lay rmX12_lay 0 0 3 := cwV 3 hts (gGoodV (fun w h => List.mem_cons_of_mem _ h) wk_X12_81) rfl rfl rfl (by decide +kernel) ⟨Nat.le_of_ble_eq_true rfl, Nat.le_of_ble_eq_true rfl⟩
  have L_30 : ∀ (fu : Nat) (w : gWd) (x1 : Int32) (x2 : Int32)  (ls : Array Slot) (hl : lv_has ls 8 [(0, .ref (gA X 8 0)), (1, .int x1), (2, .int x2)]) (hF : F_X12_end_30 fu w x1 x2 = some (r, w')) (H : Heap) (locs : List Loc) (hW : gWo X 251 (gE X w) H) (hL : gLo X locs), W p l e rmX12_end s m args below meth c H locs 0 0 (MQ below (gQi X r w') args s 0 0 (gFr X)) (F0 m 30 ls []) := by
    intro fu
    induction fu with
    | zero => intro w x1 x2 ls hl hF H locs hW hL; rw [F_X12_end_30_z] at hF; cases hF
    | succ fu30 ih30 =>
      have B_180 : ∀ (w : gWd) (x2 : Int32) (xs0 : Int32) (xs1 : Int32)  (ls : Array Slot) (hl : lv_has ls 8 [(0, .ref (gA X 8 0)), (2, .int x2)]) (hF : F_X12_end_180 (F_X12_end_30 fu30) w x2 xs0 xs1 = some (r, w')) (H : Heap) (locs : List Loc) (hW : gWo X 251 (gE X w) H) (hL : gLo X locs), W p l e rmX12_end s m args below meth c H locs 0 0 (MQ below (gQi X r w') args s 0 0 (gFr X)) (F0 m 180 ls [.int xs0, .int xs1]) := by
        intro w x2 xs0 xs1 ls hl hF H locs hW hL
        rw [F_X12_end_180] at hF
        refine lv_ior hx hb dX12_end_180 ?_
        obtain ⟨x1_35, ex1_35, hF⟩ := gS_some hF
        refine g_top ex1_35 ?_
        refine lv_istore_n (lv' := [(1, .int x1_35), (0, .ref (gA X 8 0)), (2, .int x2)]) hx hb dX12_end_181 rfl hl (by decide) rfl (fun ls hl => ?_)
        obtain ⟨x2_36, ex2_36, hF⟩ := gS_some hF
        refine lv_iinc (v := x2_36) (lv' := [(2, .int x2_36), (1, .int x1_35), (0, .ref (gA X 8 0))]) hx hb dX12_end_182 hl (k := 2) rfl (by rw [ex2_36]; rfl) (by decide) rfl (fun ls hl => ?_)
        refine lv_goto (tgt := 30) hx hb dX12_end_185 (by decide) ?_
        exact ih30 w x1_35 x2_36 ls (lv_sub hl [2, 1, 0] rfl) hF H locs hW hL
      have L_83 : ∀ (fu : Nat) (w : gWd) (x1 : Int32) (x2 : Int32) (x4 : Int32) (x5 : Int32) (x6 : Int32) (x7 : Int32)  (ls : Array Slot) (hl : lv_has ls 8 [(0, .ref (gA X 8 0)), (1, .int x1), (2, .int x2), (4, .int x4), (5, .int x5), (6, .int x6), (7, .int x7)]) (hF : F_X12_end_83 (F_X12_end_30 fu30) fu w x1 x2 x4 x5 x6 x7 = some (r, w')) (H : Heap) (locs : List Loc) (hW : gWo X 251 (gE X w) H) (hL : gLo X locs), W p l e rmX12_end s m args below meth c H locs 0 0 (MQ below (gQi X r w') args s 0 0 (gFr X)) (F0 m 83 ls []) := by
        intro fu
        induction fu with
        | zero => intro w x1 x2 x4 x5 x6 x7 ls hl hF H locs hW hL; rw [F_X12_end_83_z] at hF; cases hF
        | succ fu83 ih83 =>
          intro w x1 x2 x4 x5 x6 x7 ls hl hF H locs hW hL
          rw [F_X12_end_83_s] at hF
          refine lv_iload hx hb dX12_end_83 (lv_at hl 6 rfl) ?_
          refine lv_iload hx hb dX12_end_85 (lv_at hl 3 rfl) ?_
          refine lv_iload hx hb dX12_end_87 (lv_at hl 4 rfl) ?_
          refine lv_iadd hx hb dX12_end_89 ?_
          refine lv_icmp_ge (tgt := 110) hx hb dX12_end_90 (by decide) (fun hc_14 => ?_) (fun hc_14 => ?_)
          · replace hF := gT hc_14 hF
            refine lv_aload_n hx hb dX12_end_110 rfl (lv_at hl 0 rfl) ?_
            refine lv_iload_n hx hb dX12_end_111 rfl (lv_at hl 2 rfl) ?_
            refine lv_bipush (v := 8) hx hb dX12_end_112 (by decide) ?_
            refine lv_iload hx hb dX12_end_114 (lv_at hl 3 rfl) ?_
            obtain ⟨w_16, hq_15, hF⟩ := gP_some hF
            refine g_Vv (As := [.int x2, .int 8, .int x4]) (rest := []) ⟨hx, hb, hml, hown, hts⟩ hK hW hL hl.1 (gok_o (by decide)) gE_O rfl (c_X12_lay l X w x2 8 x4 w_16 hq_15) k81 rfl rfl (Nat.le_of_ble_eq_true rfl) dX12_end_116 ⟨Nat.le_of_ble_eq_true rfl, Nat.le_of_ble_eq_true rfl⟩ (fun H locs hW hL => ?_)
            refine lv_aload_n hx hb dX12_end_119 rfl (lv_at hl 0 rfl) ?_
            refine lv_iload_n hx hb dX12_end_120 rfl (lv_at hl 2 rfl) ?_
            refine lv_bipush (v := 9) hx hb dX12_end_121 (by decide) ?_
            refine lv_aload_n hx hb dX12_end_123 rfl (lv_at hl 0 rfl) ?_
            refine lv_iload_n hx hb dX12_end_124 rfl (lv_at hl 2 rfl) ?_
            refine lv_bipush (v := 9) hx hb dX12_end_125 (by decide) ?_
            obtain ⟨v_18, hq_17, hF⟩ := gP_some hF
            refine g_Vi (As := [.int x2, .int 9]) (rest := [.int 9, .int x2, .ref (gA X 8 0)]) ⟨hx, hb, hml, hown, hts⟩ hK hW hL hl.1 (gok_o (by decide)) gE_O rfl (c_X12_of l X w_16 x2 9 v_18 hq_17) k40 rfl rfl (Nat.le_of_ble_eq_true rfl) dX12_end_127 ⟨Nat.le_of_ble_eq_true rfl, Nat.le_of_ble_eq_true rfl⟩ (fun H locs hW hL => ?_)
            refine lv_iconst (v := 2) hx hb dX12_end_130 (by decide) ?_
            refine lv_iload hx hb dX12_end_131 (lv_at hl 5 rfl) ?_
            refine lv_imul hx hb dX12_end_133 ?_
            refine lv_iload hx hb dX12_end_134 (lv_at hl 4 rfl) ?_
            obtain ⟨hd_19, hF⟩ := gD_some hF
            refine lv_idiv hx hb dX12_end_136 hd_19 ?_
            refine lv_iadd hx hb dX12_end_137 ?_
            obtain ⟨w_21, hq_20, hF⟩ := gP_some hF
            refine g_Vv (As := [.int x2, .int 9, .int (v_18 + ((2 * x6) / x5))]) (rest := []) ⟨hx, hb, hml, hown, hts⟩ hK hW hL hl.1 (gok_o (by decide)) gE_O rfl (c_X12_lay l X w_16 x2 9 ((v_18 + ((2 * x6) / x5))) w_21 hq_20) k81 rfl rfl (Nat.le_of_ble_eq_true rfl) dX12_end_138 ⟨Nat.le_of_ble_eq_true rfl, Nat.le_of_ble_eq_true rfl⟩ (fun H locs hW hL => ?_)
            refine lv_aload_n hx hb dX12_end_141 rfl (lv_at hl 0 rfl) ?_
            refine rg_X12_s hx hb hts inX12 hown hK hW q7 dX12_end_142 ?_
            refine lv_sipush (v := 300) hx hb dX12_end_145 (by decide) ?_
            refine lv_aload_n hx hb dX12_end_148 rfl (lv_at hl 0 rfl) ?_
            refine lv_iload_n hx hb dX12_end_149 rfl (lv_at hl 2 rfl) ?_
            refine lv_iconst (v := 0) hx hb dX12_end_150 (by decide) ?_
            obtain ⟨v_23, hq_22, hF⟩ := gP_some hF
            refine g_Vi (As := [.int x2, .int 0]) (rest := [.int 300, .ref (gA X 8 1)]) ⟨hx, hb, hml, hown, hts⟩ hK hW hL hl.1 (gok_o (by decide)) gE_O rfl (c_X12_of l X w_21 x2 0 v_23 hq_22) k40 rfl rfl (Nat.le_of_ble_eq_true rfl) dX12_end_151 ⟨Nat.le_of_ble_eq_true rfl, Nat.le_of_ble_eq_true rfl⟩ (fun H locs hW hL => ?_)
            refine lv_iadd hx hb dX12_end_154 ?_
            refine lv_dup2_11 hx hb dX12_end_155 rfl rfl ?_
            obtain ⟨hin_24, hF⟩ := gB_some hF
            obtain ⟨k_25, ek_25⟩ : ∃ k, k = Int32.toNatClampNeg ((300 + v_23)) := ⟨_, rfl⟩
            rw [← ek_25] at hF
            refine g_iald2 (k := k_25) hx hb hK hW (gok_o (by decide)) (gad_lt (gok_o (by decide))) gE_O1 hin_24 ek_25.symm dX12_end_156 ?_
            refine lv_iconst (v := 2) hx hb dX12_end_157 (by decide) ?_
            refine lv_iload hx hb dX12_end_158 (lv_at hl 5 rfl) ?_
            refine lv_imul hx hb dX12_end_160 ?_
            refine lv_iload hx hb dX12_end_161 (lv_at hl 4 rfl) ?_
            obtain ⟨hd_26, hF⟩ := gD_some hF
            refine lv_idiv hx hb dX12_end_163 hd_26 ?_
            refine lv_iadd hx hb dX12_end_164 ?_
            obtain ⟨hin_27, hF⟩ := gB_some hF
            obtain ⟨k_28, ek_28⟩ : ∃ k, k = Int32.toNatClampNeg ((300 + v_23)) := ⟨_, rfl⟩
            rw [← ek_28] at hF
            obtain ⟨w_29, ew_29, hF⟩ := gS_some hF
            refine g_iast2 (k := k_28) hx hb hK hW hL (gok_o (by decide)) (fun w => gE_O1 (w := w)) hin_27 ek_28.symm dX12_end_165 (fun H locs hW hL => ?_)
            rw [← ew_29] at hW
            refine lv_iload_n hx hb dX12_end_166 rfl (lv_at hl 1 rfl) ?_
            refine lv_iload hx hb dX12_end_167 (lv_at hl 3 rfl) ?_
            refine lv_iconst (v := 1) hx hb dX12_end_169 (by decide) ?_
            refine lv_icmp_ne (tgt := 179) hx hb dX12_end_170 (by decide) (fun hc_30 => ?_) (fun hc_30 => ?_)
            · replace hF := gF hc_30 hF
              refine lv_iconst (v := 0) hx hb dX12_end_179 (by decide) ?_
              exact B_180 w_29 x2 0 x1 ls (lv_sub hl [0, 2] rfl) hF H locs hW hL
            · replace hF := gT hc_30 hF
              refine lv_iconst (v := 1) hx hb dX12_end_173 (by decide) ?_
              refine lv_iload_n hx hb dX12_end_174 rfl (lv_at hl 2 rfl) ?_
              refine lv_ishl hx hb dX12_end_175 ?_
              refine lv_goto (tgt := 180) hx hb dX12_end_176 (by decide) ?_
              exact B_180 w_29 x2 ((1 <<< (x2 &&& 31))) x1 ls (lv_sub hl [0, 2] rfl) hF H locs hW hL
          · replace hF := gF hc_14 hF
            refine lv_iload hx hb dX12_end_93 (lv_at hl 5 rfl) ?_
            refine lv_aload_n hx hb dX12_end_95 rfl (lv_at hl 0 rfl) ?_
            refine lv_iload hx hb dX12_end_96 (lv_at hl 6 rfl) ?_
            obtain ⟨v_32, hq_31, hF⟩ := gP_some hF
            refine g_Vi (As := [.int x7]) (rest := [.int x6]) ⟨hx, hb, hml, hown, hts⟩ hK hW hL hl.1 (gok_o (by decide)) gE_O rfl (c_X12_worth l X w x7 v_32 hq_31) k128 rfl rfl (Nat.le_of_ble_eq_true rfl) dX12_end_98 ⟨Nat.le_of_ble_eq_true rfl, Nat.le_of_ble_eq_true rfl⟩ (fun H locs hW hL => ?_)
            refine lv_iadd hx hb dX12_end_101 ?_
            obtain ⟨x6_33, ex6_33, hF⟩ := gS_some hF
            refine g_top ex6_33 ?_
            refine lv_istore (lv' := [(6, .int x6_33), (0, .ref (gA X 8 0)), (1, .int x1), (2, .int x2), (4, .int x4), (5, .int x5), (7, .int x7)]) hx hb dX12_end_102 hl (by decide) rfl (fun ls hl => ?_)
            obtain ⟨x7_34, ex7_34, hF⟩ := gS_some hF
            refine lv_iinc (v := x7_34) (lv' := [(7, .int x7_34), (6, .int x6_33), (0, .ref (gA X 8 0)), (1, .int x1), (2, .int x2), (4, .int x4), (5, .int x5)]) hx hb dX12_end_104 hl (k := 6) rfl (by rw [ex7_34]; rfl) (by decide) rfl (fun ls hl => ?_)
            refine lv_goto (tgt := 83) hx hb dX12_end_107 (by decide) ?_
            exact ih83 w x1 x2 x4 x5 x6_33 x7_34 ls (lv_sub hl [2, 3, 4, 5, 6, 1, 0] rfl) hF H locs hW hL
      intro w x1 x2 ls hl hF H locs hW hL
      rw [F_X12_end_30_s] at hF
      refine lv_iload_n hx hb dX12_end_30 rfl (lv_at hl 2 rfl) ?_
      refine lv_aload_n hx hb dX12_end_31 rfl (lv_at hl 0 rfl) ?_
      refine rg_X12_s hx hb hts inX12 hown hK hW q7 dX12_end_32 ?_
      refine lv_sipush (v := 311) hx hb dX12_end_35 (by decide) ?_
      refine g_iald2 (k := 311) hx hb hK hW (gok_o (by decide)) (gad_lt (gok_o (by decide))) gE_O1 (gin (by decide)) (by decide) dX12_end_38 ?_
      refine lv_icmp_ge (tgt := 188) hx hb dX12_end_39 (by decide) (fun hc_1 => ?_) (fun hc_1 => ?_)
      · replace hF := gT hc_1 hF
        refine lv_aload_n hx hb dX12_end_188 rfl (lv_at hl 0 rfl) ?_
        refine rg_X12_s hx hb hts inX12 hown hK hW q7 dX12_end_189 ?_
        refine lv_sipush (v := 310) hx hb dX12_end_192 (by decide) ?_
        refine lv_iconst (v := 3) hx hb dX12_end_195 (by decide) ?_
        obtain ⟨w_2, ew_2, hF⟩ := gS_some hF
        refine g_iast2 (k := 310) hx hb hK hW hL (gok_o (by decide)) (fun w => gE_O1 (w := w)) (gin (by decide)) (by decide) dX12_end_196 (fun H locs hW hL => ?_)
        rw [← ew_2] at hW
        refine lv_aload_n hx hb dX12_end_197 rfl (lv_at hl 0 rfl) ?_
        refine rg_X12_s hx hb hts inX12 hown hK hW q7 dX12_end_198 ?_
        refine lv_sipush (v := 313) hx hb dX12_end_201 (by decide) ?_
        refine lv_dup2_11 hx hb dX12_end_204 rfl rfl ?_
        refine g_iald2 (k := 313) hx hb hK hW (gok_o (by decide)) (gad_lt (gok_o (by decide))) gE_O1 (gin (by decide)) (by decide) dX12_end_205 ?_
        refine lv_iconst (v := 1) hx hb dX12_end_206 (by decide) ?_
        refine lv_iadd hx hb dX12_end_207 ?_
        obtain ⟨w_3, ew_3, hF⟩ := gS_some hF
        refine g_iast2 (k := 313) hx hb hK hW hL (gok_o (by decide)) (fun w => gE_O1 (w := w)) (gin (by decide)) (by decide) dX12_end_208 (fun H locs hW hL => ?_)
        rw [← ew_3] at hW
        refine lv_iload_n hx hb dX12_end_209 rfl (lv_at hl 1 rfl) ?_
        exact g_ri hx hb hr hlocks (gW2 hF hW) hL (gI2 hF).1 dX12_end_210
      · replace hF := gF hc_1 hF
        refine lv_aload_n hx hb dX12_end_42 rfl (lv_at hl 0 rfl) ?_
        refine lv_iload_n hx hb dX12_end_43 rfl (lv_at hl 2 rfl) ?_
        refine lv_bipush (v := 7) hx hb dX12_end_44 (by decide) ?_
        obtain ⟨v_5, hq_4, hF⟩ := gP_some hF
        refine g_Vi (As := [.int x2, .int 7]) (rest := []) ⟨hx, hb, hml, hown, hts⟩ hK hW hL hl.1 (gok_o (by decide)) gE_O rfl (c_X12_of l X w x2 7 v_5 hq_4) k40 rfl rfl (Nat.le_of_ble_eq_true rfl) dX12_end_46 ⟨Nat.le_of_ble_eq_true rfl, Nat.le_of_ble_eq_true rfl⟩ (fun H locs hW hL => ?_)
        refine lv_iconst (v := 1) hx hb dX12_end_49 (by decide) ?_
        refine lv_isub hx hb dX12_end_50 ?_
        obtain ⟨x3_6, ex3_6, hF⟩ := gS_some hF
        refine g_top ex3_6 ?_
        refine lv_istore_n (lv' := [(3, .int x3_6), (0, .ref (gA X 8 0)), (1, .int x1), (2, .int x2)]) hx hb dX12_end_51 rfl hl (by decide) rfl (fun ls hl => ?_)
        refine lv_iload_n hx hb dX12_end_52 rfl (lv_at hl 0 rfl) ?_
        refine lv_if_le (tgt := 182) hx hb dX12_end_53 (by decide) (fun hc_7 => ?_) (fun hc_7 => ?_)
        · replace hF := gT hc_7 hF
          obtain ⟨x2_8, ex2_8, hF⟩ := gS_some hF
          refine lv_iinc (v := x2_8) (lv' := [(2, .int x2_8), (3, .int x3_6), (0, .ref (gA X 8 0)), (1, .int x1)]) hx hb dX12_end_182 hl (k := 3) rfl (by rw [ex2_8]; rfl) (by decide) rfl (fun ls hl => ?_)
          refine lv_goto (tgt := 30) hx hb dX12_end_185 (by decide) ?_
          exact ih30 w x1 x2_8 ls (lv_sub hl [2, 3, 0] rfl) hF H locs hW hL
        · replace hF := gF hc_7 hF
          refine lv_aload_n hx hb dX12_end_56 rfl (lv_at hl 1 rfl) ?_
          refine lv_iconst (v := 1) hx hb dX12_end_57 (by decide) ?_
          refine lv_iload_n hx hb dX12_end_58 rfl (lv_at hl 0 rfl) ?_
          refine lv_iconst (v := 1) hx hb dX12_end_59 (by decide) ?_
          refine lv_isub hx hb dX12_end_60 ?_
          obtain ⟨v_10, hq_9, hF⟩ := gP_some hF
          refine g_Vi (As := [.int 1, .int (x3_6 - 1)]) (rest := []) ⟨hx, hb, hml, hown, hts⟩ hK hW hL hl.1 (gok_o (by decide)) gE_O rfl (c_X12_finishers l X w 1 ((x3_6 - 1)) v_10 hq_9) k125 rfl rfl (Nat.le_of_ble_eq_true rfl) dX12_end_61 ⟨Nat.le_of_ble_eq_true rfl, Nat.le_of_ble_eq_true rfl⟩ (fun H locs hW hL => ?_)
          refine lv_iconst (v := 1) hx hb dX12_end_64 (by decide) ?_
          refine lv_iadd hx hb dX12_end_65 ?_
          obtain ⟨x4_11, ex4_11, hF⟩ := gS_some hF
          refine g_top ex4_11 ?_
          refine lv_istore (lv' := [(4, .int x4_11), (3, .int x3_6), (0, .ref (gA X 8 0)), (1, .int x1), (2, .int x2)]) hx hb dX12_end_66 hl (by decide) rfl (fun ls hl => ?_)
          refine lv_aload_n hx hb dX12_end_68 rfl (lv_at hl 2 rfl) ?_
          refine lv_iload_n hx hb dX12_end_69 rfl (lv_at hl 1 rfl) ?_
          refine lv_iload_n hx hb dX12_end_70 rfl (lv_at hl 1 rfl) ?_
          obtain ⟨v_13, hq_12, hF⟩ := gP_some hF
          refine g_Vi (As := [.int x3_6, .int x3_6]) (rest := []) ⟨hx, hb, hml, hown, hts⟩ hK hW hL hl.1 (gok_o (by decide)) gE_O rfl (c_X12_finishers l X w x3_6 x3_6 v_13 hq_12) k125 rfl rfl (Nat.le_of_ble_eq_true rfl) dX12_end_71 ⟨Nat.le_of_ble_eq_true rfl, Nat.le_of_ble_eq_true rfl⟩ (fun H locs hW hL => ?_)
          refine lv_istore (lv' := [(5, .int v_13), (4, .int x4_11), (3, .int x3_6), (0, .ref (gA X 8 0)), (1, .int x1), (2, .int x2)]) hx hb dX12_end_74 hl (by decide) rfl (fun ls hl => ?_)
          refine lv_iconst (v := 0) hx hb dX12_end_76 (by decide) ?_
          refine lv_istore (lv' := [(6, .int 0), (5, .int v_13), (4, .int x4_11), (3, .int x3_6), (0, .ref (gA X 8 0)), (1, .int x1), (2, .int x2)]) hx hb dX12_end_77 hl (by decide) rfl (fun ls hl => ?_)
          refine lv_iload hx hb dX12_end_79 (lv_at hl 2 rfl) ?_
          refine lv_istore (lv' := [(7, .int x4_11), (6, .int 0), (5, .int v_13), (4, .int x4_11), (3, .int x3_6), (0, .ref (gA X 8 0)), (1, .int x1), (2, .int x2)]) hx hb dX12_end_81 hl (by decide) rfl (fun ls hl => ?_)
          exact L_83 gFU w x1 x2 x4_11 v_13 0 x4_11 ls (lv_sub hl [5, 6, 7, 3, 2, 1, 0] rfl) hF H locs hW hL
  rw [F_X12_end] at hF
  obtain ⟨locs, hlocs⟩ : ∃ locs : List Loc, locs = [] := ⟨_, rfl⟩
  rw [← hlocs] at hL ⊢
  refine lv_aload_n hx hb dX12_end_0 rfl (lv_at hl 0 rfl) ?_
  refine rg_X12_s hx hb hts inX12 hown hK hW q7 dX12_end_1 ?_
  refine lv_sipush (v := 310) hx hb dX12_end_4 (by decide) ?_
  refine g_iald2 (k := 310) hx hb hK hW (gok_o (by decide)) (gad_lt (gok_o (by decide))) gE_O1 (gin (by decide)) (by decide) dX12_end_7 ?_
  refine lv_iconst (v := 2) hx hb dX12_end_8 (by decide) ?_
  refine lv_icmp_ne (tgt := 19) hx hb dX12_end_9 (by decide) (fun hc_37 => ?_) (fun hc_37 => ?_)
  · replace hF := gF hc_37 hF
    refine lv_ldc hx hb hown q76 dX12_end_19 ?_
    exact g_ri hx hb hr hlocks (gW2 hF hW) hL (gI2 hF).1 dX12_end_21
  · replace hF := gT hc_37 hF
    refine lv_aload_n hx hb dX12_end_12 rfl (lv_at hl 0 rfl) ?_
    obtain ⟨v_39, hq_38, hF⟩ := gP_some hF
    refine g_Vi (As := []) (rest := []) ⟨hx, hb, hml, hown, hts⟩ hK hW hL hl.1 (gok_o (by decide)) gE_O rfl (c_X12_why l X w  v_39 hq_38) k116 rfl rfl (Nat.le_of_ble_eq_true rfl) dX12_end_13 ⟨Nat.le_of_ble_eq_true rfl, Nat.le_of_ble_eq_true rfl⟩ (fun H locs hW hL => ?_)
    refine lv_if_le (tgt := 22) hx hb dX12_end_16 (by decide) (fun hc_40 => ?_) (fun hc_40 => ?_)
    · replace hF := gT hc_40 hF
      refine lv_aload_n hx hb dX12_end_22 rfl (lv_at hl 0 rfl) ?_
      obtain ⟨w_42, hq_41, hF⟩ := gP_some hF
      refine g_Vv (As := []) (rest := []) ⟨hx, hb, hml, hown, hts⟩ hK hW hL hl.1 (gok_o (by decide)) gE_O rfl (c_X12_changes l X w  w_42 hq_41) k78 rfl rfl (Nat.le_of_ble_eq_true rfl) dX12_end_23 ⟨Nat.le_of_ble_eq_true rfl, Nat.le_of_ble_eq_true rfl⟩ (fun H locs hW hL => ?_)
      refine lv_iconst (v := 0) hx hb dX12_end_26 (by decide) ?_
      refine lv_istore_n (lv' := [(1, .int 0), (0, .ref (gA X 8 0))]) hx hb dX12_end_27 rfl hl (by decide) rfl (fun ls hl => ?_)
      refine lv_iconst (v := 0) hx hb dX12_end_28 (by decide) ?_
      refine lv_istore_n (lv' := [(2, .int 0), (1, .int 0), (0, .ref (gA X 8 0))]) hx hb dX12_end_29 rfl hl (by decide) rfl (fun ls hl => ?_)
      exact L_30 gFU w_42 0 0 ls (lv_sub hl [2, 1, 0] rfl) hF H locs hW hL
    · replace hF := gF hc_40 hF
      refine lv_ldc hx hb hown q76 dX12_end_19 ?_
      exact g_ri hx hb hr hlocks (gW2 hF hW) hL (gI2 hF).1 dX12_end_21
abbrev rmX12_better : Room := { frames := 0, cells := 0, slots := 0, locals := 0 }
abbrev wsX12_better : List Cond := gws yX12_better cX12_better 2 (some .int)
set_option maxHeartbeats 4000000 in
set_option maxRecDepth 100000 in
theorem c_X12_better (l : Launch) (X : gX) (w : gWd) (x0 : Int32) (x1 : Int32) (r : Int32) (hF : F_X12_better w x0 x1 = some r) : Met l yX12_better wsX12_better rmX12_better (gPc X [.int x0, .int x1] w) (gQi X r w) 0 0 (gFr X) := by
  refine g_ofW (cc := cX12_better) (maxL := 2) (ret := (some .int)) (by decide) rfl (Nat.le_of_ble_eq_true rfl) (fun p e s m args below meth c ls H hx hb hr hts hown hlocks hml hK hl hW => ?_)
  have hl : lv_has ls 2 [(0, .int x0), (1, .int x1)] := hl
  have hown : s.vm.findClass RX12 = some m.cls := hown
  have hL : gLo X [] := gLo_nil
  show W p l e rmX12_better s m args below meth c H [] 0 0 _ _
  have B_13 : ∀ (x1 : Int32)  (ls : Array Slot) (hl : lv_has ls 2 [(1, .int x1)]) (hF : F_X12_better_13 w x1 = some r) (H : Heap) (locs : List Loc) (hW : gWo X 251 (gE X w) H) (hL : gLo X locs), W p l e rmX12_better s m args below meth c H locs 0 0 (MQ below (gQi X r w) args s 0 0 (gFr X)) (F0 m 13 ls []) := by
    intro x1 ls hl hF H locs hW hL
    rw [F_X12_better_13] at hF
    refine lv_iload_n hx hb dX12_better_13 rfl (lv_at hl 0 rfl) ?_
    refine lv_goto (tgt := 18) hx hb dX12_better_14 (by decide) ?_
    exact g_ri hx hb hr hlocks hW hL (Option.some.inj hF) dX12_better_18
  have B_17 : ∀ (x0 : Int32)  (ls : Array Slot) (hl : lv_has ls 2 [(0, .int x0)]) (hF : F_X12_better_17 w x0 = some r) (H : Heap) (locs : List Loc) (hW : gWo X 251 (gE X w) H) (hL : gLo X locs), W p l e rmX12_better s m args below meth c H locs 0 0 (MQ below (gQi X r w) args s 0 0 (gFr X)) (F0 m 17 ls []) := by
    intro x0 ls hl hF H locs hW hL
    rw [F_X12_better_17] at hF
    refine lv_iload_n hx hb dX12_better_17 rfl (lv_at hl 0 rfl) ?_
    exact g_ri hx hb hr hlocks hW hL (Option.some.inj hF) dX12_better_18
  rw [F_X12_better] at hF
  obtain ⟨locs, hlocs⟩ : ∃ locs : List Loc, locs = [] := ⟨_, rfl⟩
  rw [← hlocs] at hL ⊢
  refine lv_iload_n hx hb dX12_better_0 rfl (lv_at hl 1 rfl) ?_
  refine lv_if_le (tgt := 17) hx hb dX12_better_1 (by decide) (fun hc_1 => ?_) (fun hc_1 => ?_)
  · replace hF := gT hc_1 hF
    exact B_17 x0 ls (lv_sub hl [0] rfl) hF H locs hW hL
  · replace hF := gF hc_1 hF
    refine lv_iload_n hx hb dX12_better_4 rfl (lv_at hl 0 rfl) ?_
    refine lv_if_eq (tgt := 13) hx hb dX12_better_5 (by decide) (fun hc_2 => ?_) (fun hc_2 => ?_)
    · replace hF := gT hc_2 hF
      exact B_13 x1 ls (lv_sub hl [1] rfl) hF H locs hW hL
    · replace hF := gF hc_2 hF
      refine lv_iload_n hx hb dX12_better_8 rfl (lv_at hl 1 rfl) ?_
      refine lv_iload_n hx hb dX12_better_9 rfl (lv_at hl 0 rfl) ?_
      refine lv_icmp_ge (tgt := 17) hx hb dX12_better_10 (by decide) (fun hc_3 => ?_) (fun hc_3 => ?_)
      · replace hF := gT hc_3 hF
        exact B_17 x0 ls (lv_sub hl [0] rfl) hF H locs hW hL
      · replace hF := gF hc_3 hF
        exact B_13 x1 ls (lv_sub hl [1] rfl) hF H locs hW hL
abbrev rmX12_next : Room := { frames := 1, cells := 0, slots := 0, locals := 23 }
abbrev wsX12_next : List Cond := gws yX12_next cX12_next 6 (some .int)
set_option maxHeartbeats 4000000 in
set_option maxRecDepth 100000 in
theorem c_X12_next (l : Launch) (X : gX) (w : gWd)  (r : Int32) (w' : gWd) (hF : F_X12_next w = some (r, w')) : Met l yX12_next wsX12_next rmX12_next (gPc X [.ref (gA X 8 0)] w) (gQi X r w') 0 0 (gFr X) := by
  refine g_ofW (cc := cX12_next) (maxL := 6) (ret := (some .int)) (by decide) rfl (Nat.le_of_ble_eq_true rfl) (fun p e s m args below meth c ls H hx hb hr hts hown hlocks hml hK hl hW => ?_)
  have hl : lv_has ls 6 [(0, .ref (gA X 8 0))] := hl
  have hown : s.vm.findClass RX12 = some m.cls := hown
  have hL : gLo X [] := gLo_nil
  show W p l e rmX12_next s m args below meth c H [] 0 0 _ _
  have inX12 : ∀ w ∈ wsX120, w ∈ wsX12_next := fun w h => List.mem_cons_of_mem _ (inlX12 w h)
  have q7 := hts _ (List.mem_cons_of_mem _ wq_X12_7)
  have q76 := hts _ (List.mem_cons_of_mem _ wq_X12_76)
  have k131 : CallB rmX12_next s args RX12 131 yX12_better cX12_better 2 (some .int) wsX12_better rmX12_better 0 0 2 ∧ (Cond.static yX12_better).before args s = true := va_cwS 2 hts (gGoodS (fun w h => List.mem_cons_of_mem _ h) wk_X12_131) rfl rfl rfl (by decide +kernel) ⟨Nat.le_of_ble_eq_true rfl, Nat.le_of_ble_eq_true rfl⟩
  have k40 : CallW rmX12_next s args RX12 RX12 40 yX12_of cX12_of 3 (some .int) wsX12_of rmX12_of 0 0 2 := cwV 2 hts (gGoodV (fun w h => List.mem_cons_of_mem _ h) wk_X12_40) rfl rfl rfl (by decide +kernel) ⟨Nat.le_of_ble_eq_true rfl, Nat.le_of_ble_eq_true rfl⟩
  have k78 : CallW rmX12_next s args RX12 RX12 78 yX12_changes cX12_changes 2 none wsX12_changes rmX12_changes 0 0 0 := cwV 0 hts (gGoodV (fun w h => List.mem_cons_of_mem _ h) wk_X12_78) rfl rfl rfl (by decide +kernel) ⟨Nat.le_of_ble_eq_true rfl, Nat.le_of_ble_eq_true rfl⟩
  have k81 : CallW rmX12_next s args RX12 RX12 81 yX12_lay cX12_lay 4 none wsX12_lay rmX12_lay 0 0 3 := cwV 3 hts (gGoodV (fun w h => List.mem_cons_of_mem _ h) wk_X12_81) rfl rfl rfl (by decide +kernel) ⟨Nat.le_of_ble_eq_true rfl, Nat.le_of_ble_eq_true rfl⟩
  have L_122 : ∀ (fu : Nat) (w : gWd) (x1 : Int32) (x2 : Int32)  (ls : Array Slot) (hl : lv_has ls 6 [(0, .ref (gA X 8 0)), (1, .int x1), (2, .int x2)]) (hF : F_X12_next_122 fu w x1 x2 = some (r, w')) (H : Heap) (locs : List Loc) (hW : gWo X 251 (gE X w) H) (hL : gLo X locs), W p l e rmX12_next s m args below meth c H locs 0 0 (MQ below (gQi X r w') args s 0 0 (gFr X)) (F0 m 122 ls []) := by
    intro fu
    induction fu with
    | zero => intro w x1 x2 ls hl hF H locs hW hL; rw [F_X12_next_122_z] at hF; cases hF
    | succ fu122 ih122 =>
      intro w x1 x2 ls hl hF H locs hW hL
      rw [F_X12_next_122_s] at hF
      refine lv_iload_n hx hb dX12_next_122 rfl (lv_at hl 2 rfl) ?_
      refine lv_iconst (v := 4) hx hb dX12_next_123 (by decide) ?_
      refine lv_icmp_ge (tgt := 144) hx hb dX12_next_124 (by decide) (fun hc_21 => ?_) (fun hc_21 => ?_)
      · replace hF := gT hc_21 hF
        refine lv_aload_n hx hb dX12_next_144 rfl (lv_at hl 0 rfl) ?_
        refine rg_X12_s hx hb hts inX12 hown hK hW q7 dX12_next_145 ?_
        refine lv_sipush (v := 310) hx hb dX12_next_148 (by decide) ?_
        refine lv_iconst (v := 0) hx hb dX12_next_151 (by decide) ?_
        obtain ⟨w_22, ew_22, hF⟩ := gS_some hF
        refine g_iast2 (k := 310) hx hb hK hW hL (gok_o (by decide)) (fun w => gE_O1 (w := w)) (gin (by decide)) (by decide) dX12_next_152 (fun H locs hW hL => ?_)
        rw [← ew_22] at hW
        refine lv_aload_n hx hb dX12_next_153 rfl (lv_at hl 0 rfl) ?_
        refine rg_X12_s hx hb hts inX12 hown hK hW q7 dX12_next_154 ?_
        refine lv_sipush (v := 312) hx hb dX12_next_157 (by decide) ?_
        refine lv_iconst (v := 0) hx hb dX12_next_160 (by decide) ?_
        obtain ⟨w_23, ew_23, hF⟩ := gS_some hF
        refine g_iast2 (k := 312) hx hb hK hW hL (gok_o (by decide)) (fun w => gE_O1 (w := w)) (gin (by decide)) (by decide) dX12_next_161 (fun H locs hW hL => ?_)
        rw [← ew_23] at hW
        refine lv_iload_n hx hb dX12_next_162 rfl (lv_at hl 1 rfl) ?_
        exact g_ri hx hb hr hlocks (gW2 hF hW) hL (gI2 hF).1 dX12_next_163
      · replace hF := gF hc_21 hF
        refine lv_aload_n hx hb dX12_next_127 rfl (lv_at hl 0 rfl) ?_
        refine rg_X12_s hx hb hts inX12 hown hK hW q7 dX12_next_128 ?_
        refine lv_sipush (v := 306) hx hb dX12_next_131 (by decide) ?_
        refine lv_iload_n hx hb dX12_next_134 rfl (lv_at hl 2 rfl) ?_
        refine lv_iadd hx hb dX12_next_135 ?_
        refine lv_iconst (v := 0) hx hb dX12_next_136 (by decide) ?_
        obtain ⟨hin_24, hF⟩ := gB_some hF
        obtain ⟨k_25, ek_25⟩ : ∃ k, k = Int32.toNatClampNeg ((306 + x2)) := ⟨_, rfl⟩
        rw [← ek_25] at hF
        obtain ⟨w_26, ew_26, hF⟩ := gS_some hF
        refine g_iast2 (k := k_25) hx hb hK hW hL (gok_o (by decide)) (fun w => gE_O1 (w := w)) hin_24 ek_25.symm dX12_next_137 (fun H locs hW hL => ?_)
        rw [← ew_26] at hW
        obtain ⟨x2_27, ex2_27, hF⟩ := gS_some hF
        refine lv_iinc (v := x2_27) (lv' := [(2, .int x2_27), (0, .ref (gA X 8 0)), (1, .int x1)]) hx hb dX12_next_138 hl (k := 2) rfl (by rw [ex2_27]; rfl) (by decide) rfl (fun ls hl => ?_)
        refine lv_goto (tgt := 122) hx hb dX12_next_141 (by decide) ?_
        exact ih122 w_26 x1 x2_27 ls (lv_sub hl [1, 2, 0] rfl) hF H locs hW hL
  have L_23 : ∀ (fu : Nat) (w : gWd) (x1 : Int32) (x2 : Int32)  (ls : Array Slot) (hl : lv_has ls 6 [(0, .ref (gA X 8 0)), (1, .int x1), (2, .int x2)]) (hF : F_X12_next_23 fu w x1 x2 = some (r, w')) (H : Heap) (locs : List Loc) (hW : gWo X 251 (gE X w) H) (hL : gLo X locs), W p l e rmX12_next s m args below meth c H locs 0 0 (MQ below (gQi X r w') args s 0 0 (gFr X)) (F0 m 23 ls []) := by
    intro fu
    induction fu with
    | zero => intro w x1 x2 ls hl hF H locs hW hL; rw [F_X12_next_23_z] at hF; cases hF
    | succ fu23 ih23 =>
      have L_93 : ∀ (fu : Nat) (w : gWd) (x1 : Int32) (x2 : Int32) (x5 : Int32)  (ls : Array Slot) (hl : lv_has ls 6 [(0, .ref (gA X 8 0)), (1, .int x1), (2, .int x2), (5, .int x5)]) (hF : F_X12_next_93 (F_X12_next_23 fu23) fu w x1 x2 x5 = some (r, w')) (H : Heap) (locs : List Loc) (hW : gWo X 251 (gE X w) H) (hL : gLo X locs), W p l e rmX12_next s m args below meth c H locs 0 0 (MQ below (gQi X r w') args s 0 0 (gFr X)) (F0 m 93 ls []) := by
        intro fu
        induction fu with
        | zero => intro w x1 x2 x5 ls hl hF H locs hW hL; rw [F_X12_next_93_z] at hF; cases hF
        | succ fu93 ih93 =>
          intro w x1 x2 x5 ls hl hF H locs hW hL
          rw [F_X12_next_93_s] at hF
          refine lv_iload hx hb dX12_next_93 (lv_at hl 3 rfl) ?_
          refine lv_bipush (v := 8) hx hb dX12_next_95 (by decide) ?_
          refine lv_icmp_gt (tgt := 114) hx hb dX12_next_97 (by decide) (fun hc_16 => ?_) (fun hc_16 => ?_)
          · replace hF := gT hc_16 hF
            obtain ⟨x2_17, ex2_17, hF⟩ := gS_some hF
            refine lv_iinc (v := x2_17) (lv' := [(2, .int x2_17), (0, .ref (gA X 8 0)), (1, .int x1), (5, .int x5)]) hx hb dX12_next_114 hl (k := 2) rfl (by rw [ex2_17]; rfl) (by decide) rfl (fun ls hl => ?_)
            refine lv_goto (tgt := 23) hx hb dX12_next_117 (by decide) ?_
            exact ih23 w x1 x2_17 ls (lv_sub hl [1, 2, 0] rfl) hF H locs hW hL
          · replace hF := gF hc_16 hF
            refine lv_aload_n hx hb dX12_next_100 rfl (lv_at hl 0 rfl) ?_
            refine lv_iload_n hx hb dX12_next_101 rfl (lv_at hl 2 rfl) ?_
            refine lv_iload hx hb dX12_next_102 (lv_at hl 3 rfl) ?_
            refine lv_iconst (v := 0) hx hb dX12_next_104 (by decide) ?_
            obtain ⟨w_19, hq_18, hF⟩ := gP_some hF
            refine g_Vv (As := [.int x2, .int x5, .int 0]) (rest := []) ⟨hx, hb, hml, hown, hts⟩ hK hW hL hl.1 (gok_o (by decide)) gE_O rfl (c_X12_lay l X w x2 x5 0 w_19 hq_18) k81 rfl rfl (Nat.le_of_ble_eq_true rfl) dX12_next_105 ⟨Nat.le_of_ble_eq_true rfl, Nat.le_of_ble_eq_true rfl⟩ (fun H locs hW hL => ?_)
            obtain ⟨x5_20, ex5_20, hF⟩ := gS_some hF
            refine lv_iinc (v := x5_20) (lv' := [(5, .int x5_20), (0, .ref (gA X 8 0)), (1, .int x1), (2, .int x2)]) hx hb dX12_next_108 hl (k := 3) rfl (by rw [ex5_20]; rfl) (by decide) rfl (fun ls hl => ?_)
            refine lv_goto (tgt := 93) hx hb dX12_next_111 (by decide) ?_
            exact ih93 w_19 x1 x2 x5_20 ls (lv_sub hl [1, 2, 3, 0] rfl) hF H locs hW hL
      have B_80 : ∀ (w : gWd) (x2 : Int32) (x4 : Int32) (xs0 : Int32) (xs1 : Int32)  (ls : Array Slot) (hl : lv_has ls 6 [(0, .ref (gA X 8 0)), (2, .int x2), (4, .int x4)]) (hF : F_X12_next_80 (F_X12_next_23 fu23) w x2 x4 xs0 xs1 = some (r, w')) (H : Heap) (locs : List Loc) (hW : gWo X 251 (gE X w) H) (hL : gLo X locs), W p l e rmX12_next s m args below meth c H locs 0 0 (MQ below (gQi X r w') args s 0 0 (gFr X)) (F0 m 80 ls [.int xs0, .int xs1]) := by
        intro w x2 x4 xs0 xs1 ls hl hF H locs hW hL
        rw [F_X12_next_80] at hF
        refine lv_iadd hx hb dX12_next_80 ?_
        obtain ⟨x1_13, ex1_13, hF⟩ := gS_some hF
        refine g_top ex1_13 ?_
        refine lv_istore_n (lv' := [(1, .int x1_13), (0, .ref (gA X 8 0)), (2, .int x2), (4, .int x4)]) hx hb dX12_next_81 rfl hl (by decide) rfl (fun ls hl => ?_)
        refine lv_aload_n hx hb dX12_next_82 rfl (lv_at hl 1 rfl) ?_
        refine lv_iload_n hx hb dX12_next_83 rfl (lv_at hl 2 rfl) ?_
        refine lv_iconst (v := 1) hx hb dX12_next_84 (by decide) ?_
        refine lv_iload hx hb dX12_next_85 (lv_at hl 3 rfl) ?_
        obtain ⟨w_15, hq_14, hF⟩ := gP_some hF
        refine g_Vv (As := [.int x2, .int 1, .int x4]) (rest := []) ⟨hx, hb, hml, hown, hts⟩ hK hW hL hl.1 (gok_o (by decide)) gE_O rfl (c_X12_lay l X w x2 1 x4 w_15 hq_14) k81 rfl rfl (Nat.le_of_ble_eq_true rfl) dX12_next_87 ⟨Nat.le_of_ble_eq_true rfl, Nat.le_of_ble_eq_true rfl⟩ (fun H locs hW hL => ?_)
        refine lv_iconst (v := 2) hx hb dX12_next_90 (by decide) ?_
        refine lv_istore (lv' := [(5, .int 2), (1, .int x1_13), (0, .ref (gA X 8 0)), (2, .int x2), (4, .int x4)]) hx hb dX12_next_91 hl (by decide) rfl (fun ls hl => ?_)
        exact L_93 gFU w_15 x1_13 x2 2 ls (lv_sub hl [2, 1, 3, 0] rfl) hF H locs hW hL
      intro w x1 x2 ls hl hF H locs hW hL
      rw [F_X12_next_23_s] at hF
      refine lv_iload_n hx hb dX12_next_23 rfl (lv_at hl 2 rfl) ?_
      refine lv_aload_n hx hb dX12_next_24 rfl (lv_at hl 0 rfl) ?_
      refine rg_X12_s hx hb hts inX12 hown hK hW q7 dX12_next_25 ?_
      refine lv_sipush (v := 311) hx hb dX12_next_28 (by decide) ?_
      refine g_iald2 (k := 311) hx hb hK hW (gok_o (by decide)) (gad_lt (gok_o (by decide))) gE_O1 (gin (by decide)) (by decide) dX12_next_31 ?_
      refine lv_icmp_ge (tgt := 120) hx hb dX12_next_32 (by decide) (fun hc_1 => ?_) (fun hc_1 => ?_)
      · replace hF := gT hc_1 hF
        refine lv_iconst (v := 0) hx hb dX12_next_120 (by decide) ?_
        refine lv_istore_n (lv' := [(2, .int 0), (0, .ref (gA X 8 0)), (1, .int x1)]) hx hb dX12_next_121 rfl hl (by decide) rfl (fun ls hl => ?_)
        exact L_122 gFU w x1 0 ls (lv_sub hl [1, 2, 0] rfl) hF H locs hW hL
      · replace hF := gF hc_1 hF
        refine lv_aload_n hx hb dX12_next_35 rfl (lv_at hl 0 rfl) ?_
        refine lv_iload_n hx hb dX12_next_36 rfl (lv_at hl 2 rfl) ?_
        refine lv_iconst (v := 1) hx hb dX12_next_37 (by decide) ?_
        obtain ⟨v_3, hq_2, hF⟩ := gP_some hF
        refine g_Vi (As := [.int x2, .int 1]) (rest := []) ⟨hx, hb, hml, hown, hts⟩ hK hW hL hl.1 (gok_o (by decide)) gE_O rfl (c_X12_of l X w x2 1 v_3 hq_2) k40 rfl rfl (Nat.le_of_ble_eq_true rfl) dX12_next_38 ⟨Nat.le_of_ble_eq_true rfl, Nat.le_of_ble_eq_true rfl⟩ (fun H locs hW hL => ?_)
        refine lv_istore_n (lv' := [(3, .int v_3), (0, .ref (gA X 8 0)), (1, .int x1), (2, .int x2)]) hx hb dX12_next_41 rfl hl (by decide) rfl (fun ls hl => ?_)
        refine lv_iload_n hx hb dX12_next_42 rfl (lv_at hl 0 rfl) ?_
        refine lv_aload_n hx hb dX12_next_43 rfl (lv_at hl 1 rfl) ?_
        refine lv_iload_n hx hb dX12_next_44 rfl (lv_at hl 3 rfl) ?_
        refine lv_iconst (v := 5) hx hb dX12_next_45 (by decide) ?_
        obtain ⟨v_5, hq_4, hF⟩ := gP_some hF
        refine g_Vi (As := [.int x2, .int 5]) (rest := [.int v_3]) ⟨hx, hb, hml, hown, hts⟩ hK hW hL hl.1 (gok_o (by decide)) gE_O rfl (c_X12_of l X w x2 5 v_5 hq_4) k40 rfl rfl (Nat.le_of_ble_eq_true rfl) dX12_next_46 ⟨Nat.le_of_ble_eq_true rfl, Nat.le_of_ble_eq_true rfl⟩ (fun H locs hW hL => ?_)
        refine lv_iconst (v := 1) hx hb dX12_next_49 (by decide) ?_
        refine lv_isub hx hb dX12_next_50 ?_
        obtain ⟨v_7, hq_6, hF⟩ := gP_some hF
        refine g_Si (As := [.int v_3, .int (v_5 - 1)]) (rest := []) ⟨hx, hb, hml, hown, hts⟩ hK hW hL hl.1 (c_X12_better l X w v_3 ((v_5 - 1)) v_7 hq_6) k131 rfl rfl (Nat.le_of_ble_eq_true rfl) dX12_next_51 ⟨Nat.le_of_ble_eq_true rfl, Nat.le_of_ble_eq_true rfl⟩ (fun H locs hW hL => ?_)
        refine lv_aload_n hx hb dX12_next_54 rfl (lv_at hl 1 rfl) ?_
        refine lv_iload_n hx hb dX12_next_55 rfl (lv_at hl 3 rfl) ?_
        refine lv_bipush (v := 7) hx hb dX12_next_56 (by decide) ?_
        obtain ⟨v_9, hq_8, hF⟩ := gP_some hF
        refine g_Vi (As := [.int x2, .int 7]) (rest := [.int v_7]) ⟨hx, hb, hml, hown, hts⟩ hK hW hL hl.1 (gok_o (by decide)) gE_O rfl (c_X12_of l X w x2 7 v_9 hq_8) k40 rfl rfl (Nat.le_of_ble_eq_true rfl) dX12_next_58 ⟨Nat.le_of_ble_eq_true rfl, Nat.le_of_ble_eq_true rfl⟩ (fun H locs hW hL => ?_)
        refine lv_iconst (v := 1) hx hb dX12_next_61 (by decide) ?_
        refine lv_isub hx hb dX12_next_62 ?_
        obtain ⟨v_11, hq_10, hF⟩ := gP_some hF
        refine g_Si (As := [.int v_7, .int (v_9 - 1)]) (rest := []) ⟨hx, hb, hml, hown, hts⟩ hK hW hL hl.1 (c_X12_better l X w v_7 ((v_9 - 1)) v_11 hq_10) k131 rfl rfl (Nat.le_of_ble_eq_true rfl) dX12_next_63 ⟨Nat.le_of_ble_eq_true rfl, Nat.le_of_ble_eq_true rfl⟩ (fun H locs hW hL => ?_)
        refine lv_istore (lv' := [(4, .int v_11), (3, .int v_3), (0, .ref (gA X 8 0)), (1, .int x1), (2, .int x2)]) hx hb dX12_next_66 hl (by decide) rfl (fun ls hl => ?_)
        refine lv_iload_n hx hb dX12_next_68 rfl (lv_at hl 3 rfl) ?_
        refine lv_iload hx hb dX12_next_69 (lv_at hl 0 rfl) ?_
        refine lv_iload_n hx hb dX12_next_71 rfl (lv_at hl 1 rfl) ?_
        refine lv_icmp_eq (tgt := 79) hx hb dX12_next_72 (by decide) (fun hc_12 => ?_) (fun hc_12 => ?_)
        · replace hF := gT hc_12 hF
          refine lv_iconst (v := 0) hx hb dX12_next_79 (by decide) ?_
          exact B_80 w x2 v_11 0 x1 ls (lv_sub hl [2, 4, 0] rfl) hF H locs hW hL
        · replace hF := gF hc_12 hF
          refine lv_iconst (v := 1) hx hb dX12_next_75 (by decide) ?_
          refine lv_goto (tgt := 80) hx hb dX12_next_76 (by decide) ?_
          exact B_80 w x2 v_11 1 x1 ls (lv_sub hl [2, 4, 0] rfl) hF H locs hW hL
  rw [F_X12_next] at hF
  obtain ⟨locs, hlocs⟩ : ∃ locs : List Loc, locs = [] := ⟨_, rfl⟩
  rw [← hlocs] at hL ⊢
  refine lv_aload_n hx hb dX12_next_0 rfl (lv_at hl 0 rfl) ?_
  refine rg_X12_s hx hb hts inX12 hown hK hW q7 dX12_next_1 ?_
  refine lv_sipush (v := 310) hx hb dX12_next_4 (by decide) ?_
  refine g_iald2 (k := 310) hx hb hK hW (gok_o (by decide)) (gad_lt (gok_o (by decide))) gE_O1 (gin (by decide)) (by decide) dX12_next_7 ?_
  refine lv_iconst (v := 3) hx hb dX12_next_8 (by decide) ?_
  refine lv_icmp_eq (tgt := 15) hx hb dX12_next_9 (by decide) (fun hc_28 => ?_) (fun hc_28 => ?_)
  · replace hF := gT hc_28 hF
    refine lv_aload_n hx hb dX12_next_15 rfl (lv_at hl 0 rfl) ?_
    obtain ⟨w_30, hq_29, hF⟩ := gP_some hF
    refine g_Vv (As := []) (rest := []) ⟨hx, hb, hml, hown, hts⟩ hK hW hL hl.1 (gok_o (by decide)) gE_O rfl (c_X12_changes l X w  w_30 hq_29) k78 rfl rfl (Nat.le_of_ble_eq_true rfl) dX12_next_16 ⟨Nat.le_of_ble_eq_true rfl, Nat.le_of_ble_eq_true rfl⟩ (fun H locs hW hL => ?_)
    refine lv_iconst (v := 0) hx hb dX12_next_19 (by decide) ?_
    refine lv_istore_n (lv' := [(1, .int 0), (0, .ref (gA X 8 0))]) hx hb dX12_next_20 rfl hl (by decide) rfl (fun ls hl => ?_)
    refine lv_iconst (v := 0) hx hb dX12_next_21 (by decide) ?_
    refine lv_istore_n (lv' := [(2, .int 0), (1, .int 0), (0, .ref (gA X 8 0))]) hx hb dX12_next_22 rfl hl (by decide) rfl (fun ls hl => ?_)
    exact L_23 gFU w_30 0 0 ls (lv_sub hl [2, 1, 0] rfl) hF H locs hW hL
  · replace hF := gF hc_28 hF
    refine lv_ldc hx hb hown q76 dX12_next_12 ?_
    exact g_ri hx hb hr hlocks (gW2 hF hW) hL (gI2 hF).1 dX12_next_14
abbrev rmX12_orNone : Room := { frames := 0, cells := 0, slots := 0, locals := 0 }
abbrev wsX12_orNone : List Cond := gws yX12_orNone cX12_orNone 1 (some .int)
set_option maxHeartbeats 4000000 in
set_option maxRecDepth 100000 in
theorem c_X12_orNone (l : Launch) (X : gX) (w : gWd) (x0 : Int32) (r : Int32) (hF : F_X12_orNone w x0 = some r) : Met l yX12_orNone wsX12_orNone rmX12_orNone (gPc X [.int x0] w) (gQi X r w) 0 0 (gFr X) := by
  refine g_ofW (cc := cX12_orNone) (maxL := 1) (ret := (some .int)) (by decide) rfl (Nat.le_of_ble_eq_true rfl) (fun p e s m args below meth c ls H hx hb hr hts hown hlocks hml hK hl hW => ?_)
  have hl : lv_has ls 1 [(0, .int x0)] := hl
  have hown : s.vm.findClass RX12 = some m.cls := hown
  have hL : gLo X [] := gLo_nil
  show W p l e rmX12_orNone s m args below meth c H [] 0 0 _ _
  have q85 := hts _ (List.mem_cons_of_mem _ wq_X12_85)
  rw [F_X12_orNone] at hF
  obtain ⟨locs, hlocs⟩ : ∃ locs : List Loc, locs = [] := ⟨_, rfl⟩
  rw [← hlocs] at hL ⊢
  refine lv_iload_n hx hb dX12_orNone_0 rfl (lv_at hl 0 rfl) ?_
  refine lv_if_le (tgt := 8) hx hb dX12_orNone_1 (by decide) (fun hc_1 => ?_) (fun hc_1 => ?_)
  · replace hF := gT hc_1 hF
    refine lv_ldc hx hb hown q85 dX12_orNone_8 ?_
    exact g_ri hx hb hr hlocks hW hL (Option.some.inj hF) dX12_orNone_10
  · replace hF := gF hc_1 hF
    refine lv_iload_n hx hb dX12_orNone_4 rfl (lv_at hl 0 rfl) ?_
    refine lv_goto (tgt := 10) hx hb dX12_orNone_5 (by decide) ?_
    exact g_ri hx hb hr hlocks hW hL (Option.some.inj hF) dX12_orNone_10
abbrev rmX12_lessOne : Room := { frames := 0, cells := 0, slots := 0, locals := 0 }
abbrev wsX12_lessOne : List Cond := gws yX12_lessOne cX12_lessOne 1 (some .int)
set_option maxHeartbeats 4000000 in
set_option maxRecDepth 100000 in
theorem c_X12_lessOne (l : Launch) (X : gX) (w : gWd) (x0 : Int32) (r : Int32) (hF : F_X12_lessOne w x0 = some r) : Met l yX12_lessOne wsX12_lessOne rmX12_lessOne (gPc X [.int x0] w) (gQi X r w) 0 0 (gFr X) := by
  refine g_ofW (cc := cX12_lessOne) (maxL := 1) (ret := (some .int)) (by decide) rfl (Nat.le_of_ble_eq_true rfl) (fun p e s m args below meth c ls H hx hb hr hts hown hlocks hml hK hl hW => ?_)
  have hl : lv_has ls 1 [(0, .int x0)] := hl
  have hown : s.vm.findClass RX12 = some m.cls := hown
  have hL : gLo X [] := gLo_nil
  show W p l e rmX12_lessOne s m args below meth c H [] 0 0 _ _
  have q85 := hts _ (List.mem_cons_of_mem _ wq_X12_85)
  rw [F_X12_lessOne] at hF
  obtain ⟨locs, hlocs⟩ : ∃ locs : List Loc, locs = [] := ⟨_, rfl⟩
  rw [← hlocs] at hL ⊢
  refine lv_iload_n hx hb dX12_lessOne_0 rfl (lv_at hl 0 rfl) ?_
  refine lv_if_le (tgt := 10) hx hb dX12_lessOne_1 (by decide) (fun hc_1 => ?_) (fun hc_1 => ?_)
  · replace hF := gT hc_1 hF
    refine lv_ldc hx hb hown q85 dX12_lessOne_10 ?_
    exact g_ri hx hb hr hlocks hW hL (Option.some.inj hF) dX12_lessOne_12
  · replace hF := gF hc_1 hF
    refine lv_iload_n hx hb dX12_lessOne_4 rfl (lv_at hl 0 rfl) ?_
    refine lv_iconst (v := 1) hx hb dX12_lessOne_5 (by decide) ?_
    refine lv_isub hx hb dX12_lessOne_6 ?_
    refine lv_goto (tgt := 12) hx hb dX12_lessOne_7 (by decide) ?_
    exact g_ri hx hb hr hlocks hW hL (Option.some.inj hF) dX12_lessOne_12
abbrev rmX12_swimmer : Room := { frames := 4, cells := 0, slots := 0, locals := 90 }
abbrev wsX12_swimmer : List Cond := gws yX12_swimmer cX12_swimmer 3 (some .int)
set_option maxHeartbeats 4000000 in
set_option maxRecDepth 100000 in
theorem c_X12_swimmer (l : Launch) (X : gX) (w : gWd) (x1 : Int32) (x2 : Int32) (r : Int32) (hF : F_X12_swimmer w x1 x2 = some r) : Met l yX12_swimmer wsX12_swimmer rmX12_swimmer (gPc X [.ref (gA X 8 0), .int x1, .int x2] w) (gQi X r w) 0 0 (gFr X) := by
  refine g_ofW (cc := cX12_swimmer) (maxL := 3) (ret := (some .int)) (by decide) rfl (Nat.le_of_ble_eq_true rfl) (fun p e s m args below meth c ls H hx hb hr hts hown hlocks hml hK hl hW => ?_)
  have hl : lv_has ls 3 [(0, .ref (gA X 8 0)), (1, .int x1), (2, .int x2)] := hl
  have hown : s.vm.findClass RX12 = some m.cls := hown
  have hL : gLo X [] := gLo_nil
  show W p l e rmX12_swimmer s m args below meth c H [] 0 0 _ _
  have q75 := hts _ (List.mem_cons_of_mem _ wq_X12_75)
  have q85 := hts _ (List.mem_cons_of_mem _ wq_X12_85)
  have k119 : CallW rmX12_swimmer s args RX12 RX12 119 yX12_timeRank cX12_timeRank 4 (some .int) wsX12_timeRank rmX12_timeRank 0 0 1 := cwV 1 hts (gGoodV (fun w h => List.mem_cons_of_mem _ h) wk_X12_119) rfl rfl rfl (by decide +kernel) ⟨Nat.le_of_ble_eq_true rfl, Nat.le_of_ble_eq_true rfl⟩
  have k134 : CallB rmX12_swimmer s args RX12 134 yX12_lessOne cX12_lessOne 1 (some .int) wsX12_lessOne rmX12_lessOne 0 0 1 ∧ (Cond.static yX12_lessOne).before args s = true := va_cwS 1 hts (gGoodS (fun w h => List.mem_cons_of_mem _ h) wk_X12_134) rfl rfl rfl (by decide +kernel) ⟨Nat.le_of_ble_eq_true rfl, Nat.le_of_ble_eq_true rfl⟩
  have k137 : CallB rmX12_swimmer s args RX12 137 yX12_orNone cX12_orNone 1 (some .int) wsX12_orNone rmX12_orNone 0 0 1 ∧ (Cond.static yX12_orNone).before args s = true := va_cwS 1 hts (gGoodS (fun w h => List.mem_cons_of_mem _ h) wk_X12_137) rfl rfl rfl (by decide +kernel) ⟨Nat.le_of_ble_eq_true rfl, Nat.le_of_ble_eq_true rfl⟩
  have k36 : CallB rmX12_swimmer s args RX12 36 yX12_in cX12_in 3 (some .boolean) wsX12_in rmX12_in 0 0 3 ∧ (Cond.static yX12_in).before args s = true := va_cwS 3 hts (gGoodS (fun w h => List.mem_cons_of_mem _ h) wk_X12_36) rfl rfl rfl (by decide +kernel) ⟨Nat.le_of_ble_eq_true rfl, Nat.le_of_ble_eq_true rfl⟩
  have k40 : CallW rmX12_swimmer s args RX12 RX12 40 yX12_of cX12_of 3 (some .int) wsX12_of rmX12_of 0 0 2 := cwV 2 hts (gGoodV (fun w h => List.mem_cons_of_mem _ h) wk_X12_40) rfl rfl rfl (by decide +kernel) ⟨Nat.le_of_ble_eq_true rfl, Nat.le_of_ble_eq_true rfl⟩
  have k44 : CallW rmX12_swimmer s args RX12 RX12 44 yX12_isGone cX12_isGone 2 (some .boolean) wsX12_isGone rmX12_isGone 0 0 1 := cwV 1 hts (gGoodV (fun w h => List.mem_cons_of_mem _ h) wk_X12_44) rfl rfl rfl (by decide +kernel) ⟨Nat.le_of_ble_eq_true rfl, Nat.le_of_ble_eq_true rfl⟩
  have k52 : CallW rmX12_swimmer s args RX12 RX12 52 yX12_hasTime cX12_hasTime 2 (some .boolean) wsX12_hasTime rmX12_hasTime 0 0 1 := cwV 1 hts (gGoodV (fun w h => List.mem_cons_of_mem _ h) wk_X12_52) rfl rfl rfl (by decide +kernel) ⟨Nat.le_of_ble_eq_true rfl, Nat.le_of_ble_eq_true rfl⟩
  have k89 : CallW rmX12_swimmer s args RX12 RX12 89 yX12_isSwimmer cX12_isSwimmer 2 (some .boolean) wsX12_isSwimmer rmX12_isSwimmer 0 0 1 := cwV 1 hts (gGoodV (fun w h => List.mem_cons_of_mem _ h) wk_X12_89) rfl rfl rfl (by decide +kernel) ⟨Nat.le_of_ble_eq_true rfl, Nat.le_of_ble_eq_true rfl⟩
  have k98 : CallW rmX12_swimmer s args RX12 RX12 98 yX12_entryRank cX12_entryRank 4 (some .int) wsX12_entryRank rmX12_entryRank 0 0 1 := cwV 1 hts (gGoodV (fun w h => List.mem_cons_of_mem _ h) wk_X12_98) rfl rfl rfl (by decide +kernel) ⟨Nat.le_of_ble_eq_true rfl, Nat.le_of_ble_eq_true rfl⟩
  rw [F_X12_swimmer] at hF
  obtain ⟨locs, hlocs⟩ : ∃ locs : List Loc, locs = [] := ⟨_, rfl⟩
  rw [← hlocs] at hL ⊢
  refine lv_aload_n hx hb dX12_swimmer_0 rfl (lv_at hl 0 rfl) ?_
  refine lv_iload_n hx hb dX12_swimmer_1 rfl (lv_at hl 1 rfl) ?_
  obtain ⟨v_2, hq_1, hF⟩ := gP_some hF
  refine g_Vi (As := [.int x1]) (rest := []) ⟨hx, hb, hml, hown, hts⟩ hK hW hL hl.1 (gok_o (by decide)) gE_O rfl (c_X12_isSwimmer l X w x1 v_2 hq_1) k89 rfl rfl (Nat.le_of_ble_eq_true rfl) dX12_swimmer_2 ⟨Nat.le_of_ble_eq_true rfl, Nat.le_of_ble_eq_true rfl⟩ (fun H locs hW hL => ?_)
  refine lv_if_eq (tgt := 18) hx hb dX12_swimmer_5 (by decide) (fun hc_3 => ?_) (fun hc_3 => ?_)
  · replace hF := gT hc_3 hF
    refine lv_ldc hx hb hown q75 dX12_swimmer_18 ?_
    exact g_ri hx hb hr hlocks hW hL (Option.some.inj hF) dX12_swimmer_20
  · replace hF := gF hc_3 hF
    refine lv_iload_n hx hb dX12_swimmer_8 rfl (lv_at hl 2 rfl) ?_
    refine lv_iconst (v := 0) hx hb dX12_swimmer_9 (by decide) ?_
    refine lv_bipush (v := 11) hx hb dX12_swimmer_10 (by decide) ?_
    obtain ⟨v_5, hq_4, hF⟩ := gP_some hF
    refine g_Si (As := [.int x2, .int 0, .int 11]) (rest := []) ⟨hx, hb, hml, hown, hts⟩ hK hW hL hl.1 (c_X12_in l X w x2 0 11 v_5 hq_4) k36 rfl rfl (Nat.le_of_ble_eq_true rfl) dX12_swimmer_12 ⟨Nat.le_of_ble_eq_true rfl, Nat.le_of_ble_eq_true rfl⟩ (fun H locs hW hL => ?_)
    refine lv_if_ne (tgt := 21) hx hb dX12_swimmer_15 (by decide) (fun hc_6 => ?_) (fun hc_6 => ?_)
    · replace hF := gF hc_6 hF
      refine lv_iload_n hx hb dX12_swimmer_21 rfl (lv_at hl 2 rfl) ?_
      by_cases hc_7 : x2 = 2
      · replace hF := gT hc_7 hF
        refine lv_tableIn (off := 54) (tgt := 76) hx hb dX12_swimmer_22 (by rw [hc_7]; decide) (by rw [hc_7]; decide) (by rw [hc_7]; rfl) (by decide) ?_
        refine lv_aload_n hx hb dX12_swimmer_76 rfl (lv_at hl 0 rfl) ?_
        refine lv_iload_n hx hb dX12_swimmer_77 rfl (lv_at hl 1 rfl) ?_
        obtain ⟨v_9, hq_8, hF⟩ := gP_some hF
        refine g_Vi (As := [.int x1]) (rest := []) ⟨hx, hb, hml, hown, hts⟩ hK hW hL hl.1 (gok_o (by decide)) gE_O rfl (c_X12_isGone l X w x1 v_9 hq_8) k44 rfl rfl (Nat.le_of_ble_eq_true rfl) dX12_swimmer_78 ⟨Nat.le_of_ble_eq_true rfl, Nat.le_of_ble_eq_true rfl⟩ (fun H locs hW hL => ?_)
        refine lv_if_eq (tgt := 89) hx hb dX12_swimmer_81 (by decide) (fun hc_10 => ?_) (fun hc_10 => ?_)
        · replace hF := gT hc_10 hF
          refine lv_aload_n hx hb dX12_swimmer_89 rfl (lv_at hl 0 rfl) ?_
          refine lv_iload_n hx hb dX12_swimmer_90 rfl (lv_at hl 1 rfl) ?_
          obtain ⟨v_12, hq_11, hF⟩ := gP_some hF
          refine g_Vi (As := [.int x1]) (rest := []) ⟨hx, hb, hml, hown, hts⟩ hK hW hL hl.1 (gok_o (by decide)) gE_O rfl (c_X12_entryRank l X w x1 v_12 hq_11) k98 rfl rfl (Nat.le_of_ble_eq_true rfl) dX12_swimmer_91 ⟨Nat.le_of_ble_eq_true rfl, Nat.le_of_ble_eq_true rfl⟩ (fun H locs hW hL => ?_)
          exact g_ri hx hb hr hlocks hW hL (Option.some.inj hF) dX12_swimmer_94
        · replace hF := gF hc_10 hF
          refine lv_ldc hx hb hown q85 dX12_swimmer_84 ?_
          refine lv_goto (tgt := 94) hx hb dX12_swimmer_86 (by decide) ?_
          exact g_ri hx hb hr hlocks hW hL (Option.some.inj hF) dX12_swimmer_94
      · replace hF := gF hc_7 hF
        by_cases hc_13 : x2 = 3
        · replace hF := gT hc_13 hF
          refine lv_tableIn (off := 73) (tgt := 95) hx hb dX12_swimmer_22 (by rw [hc_13]; decide) (by rw [hc_13]; decide) (by rw [hc_13]; rfl) (by decide) ?_
          refine lv_aload_n hx hb dX12_swimmer_95 rfl (lv_at hl 0 rfl) ?_
          refine lv_iload_n hx hb dX12_swimmer_96 rfl (lv_at hl 1 rfl) ?_
          refine lv_iconst (v := 3) hx hb dX12_swimmer_97 (by decide) ?_
          obtain ⟨v_15, hq_14, hF⟩ := gP_some hF
          refine g_Vi (As := [.int x1, .int 3]) (rest := []) ⟨hx, hb, hml, hown, hts⟩ hK hW hL hl.1 (gok_o (by decide)) gE_O rfl (c_X12_of l X w x1 3 v_15 hq_14) k40 rfl rfl (Nat.le_of_ble_eq_true rfl) dX12_swimmer_98 ⟨Nat.le_of_ble_eq_true rfl, Nat.le_of_ble_eq_true rfl⟩ (fun H locs hW hL => ?_)
          obtain ⟨v_17, hq_16, hF⟩ := gP_some hF
          refine g_Si (As := [.int v_15]) (rest := []) ⟨hx, hb, hml, hown, hts⟩ hK hW hL hl.1 (c_X12_lessOne l X w v_15 v_17 hq_16) k134 rfl rfl (Nat.le_of_ble_eq_true rfl) dX12_swimmer_101 ⟨Nat.le_of_ble_eq_true rfl, Nat.le_of_ble_eq_true rfl⟩ (fun H locs hW hL => ?_)
          exact g_ri hx hb hr hlocks hW hL (Option.some.inj hF) dX12_swimmer_104
        · replace hF := gF hc_13 hF
          by_cases hc_18 : x2 = 4
          · replace hF := gT hc_18 hF
            refine lv_tableIn (off := 83) (tgt := 105) hx hb dX12_swimmer_22 (by rw [hc_18]; decide) (by rw [hc_18]; decide) (by rw [hc_18]; rfl) (by decide) ?_
            refine lv_aload_n hx hb dX12_swimmer_105 rfl (lv_at hl 0 rfl) ?_
            refine lv_iload_n hx hb dX12_swimmer_106 rfl (lv_at hl 1 rfl) ?_
            refine lv_iconst (v := 4) hx hb dX12_swimmer_107 (by decide) ?_
            obtain ⟨v_20, hq_19, hF⟩ := gP_some hF
            refine g_Vi (As := [.int x1, .int 4]) (rest := []) ⟨hx, hb, hml, hown, hts⟩ hK hW hL hl.1 (gok_o (by decide)) gE_O rfl (c_X12_of l X w x1 4 v_20 hq_19) k40 rfl rfl (Nat.le_of_ble_eq_true rfl) dX12_swimmer_108 ⟨Nat.le_of_ble_eq_true rfl, Nat.le_of_ble_eq_true rfl⟩ (fun H locs hW hL => ?_)
            obtain ⟨v_22, hq_21, hF⟩ := gP_some hF
            refine g_Si (As := [.int v_20]) (rest := []) ⟨hx, hb, hml, hown, hts⟩ hK hW hL hl.1 (c_X12_orNone l X w v_20 v_22 hq_21) k137 rfl rfl (Nat.le_of_ble_eq_true rfl) dX12_swimmer_111 ⟨Nat.le_of_ble_eq_true rfl, Nat.le_of_ble_eq_true rfl⟩ (fun H locs hW hL => ?_)
            exact g_ri hx hb hr hlocks hW hL (Option.some.inj hF) dX12_swimmer_114
          · replace hF := gF hc_18 hF
            by_cases hc_23 : x2 = 5
            · replace hF := gT hc_23 hF
              refine lv_tableIn (off := 93) (tgt := 115) hx hb dX12_swimmer_22 (by rw [hc_23]; decide) (by rw [hc_23]; decide) (by rw [hc_23]; rfl) (by decide) ?_
              refine lv_aload_n hx hb dX12_swimmer_115 rfl (lv_at hl 0 rfl) ?_
              refine lv_iload_n hx hb dX12_swimmer_116 rfl (lv_at hl 1 rfl) ?_
              refine lv_iconst (v := 5) hx hb dX12_swimmer_117 (by decide) ?_
              obtain ⟨v_25, hq_24, hF⟩ := gP_some hF
              refine g_Vi (As := [.int x1, .int 5]) (rest := []) ⟨hx, hb, hml, hown, hts⟩ hK hW hL hl.1 (gok_o (by decide)) gE_O rfl (c_X12_of l X w x1 5 v_25 hq_24) k40 rfl rfl (Nat.le_of_ble_eq_true rfl) dX12_swimmer_118 ⟨Nat.le_of_ble_eq_true rfl, Nat.le_of_ble_eq_true rfl⟩ (fun H locs hW hL => ?_)
              obtain ⟨v_27, hq_26, hF⟩ := gP_some hF
              refine g_Si (As := [.int v_25]) (rest := []) ⟨hx, hb, hml, hown, hts⟩ hK hW hL hl.1 (c_X12_lessOne l X w v_25 v_27 hq_26) k134 rfl rfl (Nat.le_of_ble_eq_true rfl) dX12_swimmer_121 ⟨Nat.le_of_ble_eq_true rfl, Nat.le_of_ble_eq_true rfl⟩ (fun H locs hW hL => ?_)
              exact g_ri hx hb hr hlocks hW hL (Option.some.inj hF) dX12_swimmer_124
            · replace hF := gF hc_23 hF
              by_cases hc_28 : x2 = 6
              · replace hF := gT hc_28 hF
                refine lv_tableIn (off := 103) (tgt := 125) hx hb dX12_swimmer_22 (by rw [hc_28]; decide) (by rw [hc_28]; decide) (by rw [hc_28]; rfl) (by decide) ?_
                refine lv_aload_n hx hb dX12_swimmer_125 rfl (lv_at hl 0 rfl) ?_
                refine lv_iload_n hx hb dX12_swimmer_126 rfl (lv_at hl 1 rfl) ?_
                obtain ⟨v_30, hq_29, hF⟩ := gP_some hF
                refine g_Vi (As := [.int x1]) (rest := []) ⟨hx, hb, hml, hown, hts⟩ hK hW hL hl.1 (gok_o (by decide)) gE_O rfl (c_X12_hasTime l X w x1 v_30 hq_29) k52 rfl rfl (Nat.le_of_ble_eq_true rfl) dX12_swimmer_127 ⟨Nat.le_of_ble_eq_true rfl, Nat.le_of_ble_eq_true rfl⟩ (fun H locs hW hL => ?_)
                refine lv_if_eq (tgt := 141) hx hb dX12_swimmer_130 (by decide) (fun hc_31 => ?_) (fun hc_31 => ?_)
                · replace hF := gT hc_31 hF
                  refine lv_ldc hx hb hown q85 dX12_swimmer_141 ?_
                  exact g_ri hx hb hr hlocks hW hL (Option.some.inj hF) dX12_swimmer_143
                · replace hF := gF hc_31 hF
                  refine lv_aload_n hx hb dX12_swimmer_133 rfl (lv_at hl 0 rfl) ?_
                  refine lv_iload_n hx hb dX12_swimmer_134 rfl (lv_at hl 1 rfl) ?_
                  obtain ⟨v_33, hq_32, hF⟩ := gP_some hF
                  refine g_Vi (As := [.int x1]) (rest := []) ⟨hx, hb, hml, hown, hts⟩ hK hW hL hl.1 (gok_o (by decide)) gE_O rfl (c_X12_timeRank l X w x1 v_33 hq_32) k119 rfl rfl (Nat.le_of_ble_eq_true rfl) dX12_swimmer_135 ⟨Nat.le_of_ble_eq_true rfl, Nat.le_of_ble_eq_true rfl⟩ (fun H locs hW hL => ?_)
                  refine lv_goto (tgt := 143) hx hb dX12_swimmer_138 (by decide) ?_
                  exact g_ri hx hb hr hlocks hW hL (Option.some.inj hF) dX12_swimmer_143
              · replace hF := gF hc_28 hF
                by_cases hc_34 : x2 = 7
                · replace hF := gT hc_34 hF
                  refine lv_tableIn (off := 122) (tgt := 144) hx hb dX12_swimmer_22 (by rw [hc_34]; decide) (by rw [hc_34]; decide) (by rw [hc_34]; rfl) (by decide) ?_
                  refine lv_aload_n hx hb dX12_swimmer_144 rfl (lv_at hl 0 rfl) ?_
                  refine lv_iload_n hx hb dX12_swimmer_145 rfl (lv_at hl 1 rfl) ?_
                  refine lv_bipush (v := 6) hx hb dX12_swimmer_146 (by decide) ?_
                  obtain ⟨v_36, hq_35, hF⟩ := gP_some hF
                  refine g_Vi (As := [.int x1, .int 6]) (rest := []) ⟨hx, hb, hml, hown, hts⟩ hK hW hL hl.1 (gok_o (by decide)) gE_O rfl (c_X12_of l X w x1 6 v_36 hq_35) k40 rfl rfl (Nat.le_of_ble_eq_true rfl) dX12_swimmer_148 ⟨Nat.le_of_ble_eq_true rfl, Nat.le_of_ble_eq_true rfl⟩ (fun H locs hW hL => ?_)
                  obtain ⟨v_38, hq_37, hF⟩ := gP_some hF
                  refine g_Si (As := [.int v_36]) (rest := []) ⟨hx, hb, hml, hown, hts⟩ hK hW hL hl.1 (c_X12_orNone l X w v_36 v_38 hq_37) k137 rfl rfl (Nat.le_of_ble_eq_true rfl) dX12_swimmer_151 ⟨Nat.le_of_ble_eq_true rfl, Nat.le_of_ble_eq_true rfl⟩ (fun H locs hW hL => ?_)
                  exact g_ri hx hb hr hlocks hW hL (Option.some.inj hF) dX12_swimmer_154
                · replace hF := gF hc_34 hF
                  by_cases hc_39 : x2 = 8
                  · replace hF := gT hc_39 hF
                    refine lv_tableIn (off := 133) (tgt := 155) hx hb dX12_swimmer_22 (by rw [hc_39]; decide) (by rw [hc_39]; decide) (by rw [hc_39]; rfl) (by decide) ?_
                    refine lv_aload_n hx hb dX12_swimmer_155 rfl (lv_at hl 0 rfl) ?_
                    refine lv_iload_n hx hb dX12_swimmer_156 rfl (lv_at hl 1 rfl) ?_
                    refine lv_bipush (v := 7) hx hb dX12_swimmer_157 (by decide) ?_
                    obtain ⟨v_41, hq_40, hF⟩ := gP_some hF
                    refine g_Vi (As := [.int x1, .int 7]) (rest := []) ⟨hx, hb, hml, hown, hts⟩ hK hW hL hl.1 (gok_o (by decide)) gE_O rfl (c_X12_of l X w x1 7 v_41 hq_40) k40 rfl rfl (Nat.le_of_ble_eq_true rfl) dX12_swimmer_159 ⟨Nat.le_of_ble_eq_true rfl, Nat.le_of_ble_eq_true rfl⟩ (fun H locs hW hL => ?_)
                    obtain ⟨v_43, hq_42, hF⟩ := gP_some hF
                    refine g_Si (As := [.int v_41]) (rest := []) ⟨hx, hb, hml, hown, hts⟩ hK hW hL hl.1 (c_X12_lessOne l X w v_41 v_43 hq_42) k134 rfl rfl (Nat.le_of_ble_eq_true rfl) dX12_swimmer_162 ⟨Nat.le_of_ble_eq_true rfl, Nat.le_of_ble_eq_true rfl⟩ (fun H locs hW hL => ?_)
                    exact g_ri hx hb hr hlocks hW hL (Option.some.inj hF) dX12_swimmer_165
                  · replace hF := gF hc_39 hF
                    by_cases hc_44 : x2 = 9
                    · replace hF := gT hc_44 hF
                      refine lv_tableIn (off := 144) (tgt := 166) hx hb dX12_swimmer_22 (by rw [hc_44]; decide) (by rw [hc_44]; decide) (by rw [hc_44]; rfl) (by decide) ?_
                      refine lv_aload_n hx hb dX12_swimmer_166 rfl (lv_at hl 0 rfl) ?_
                      refine lv_iload_n hx hb dX12_swimmer_167 rfl (lv_at hl 1 rfl) ?_
                      refine lv_bipush (v := 8) hx hb dX12_swimmer_168 (by decide) ?_
                      obtain ⟨v_46, hq_45, hF⟩ := gP_some hF
                      refine g_Vi (As := [.int x1, .int 8]) (rest := []) ⟨hx, hb, hml, hown, hts⟩ hK hW hL hl.1 (gok_o (by decide)) gE_O rfl (c_X12_of l X w x1 8 v_46 hq_45) k40 rfl rfl (Nat.le_of_ble_eq_true rfl) dX12_swimmer_170 ⟨Nat.le_of_ble_eq_true rfl, Nat.le_of_ble_eq_true rfl⟩ (fun H locs hW hL => ?_)
                      obtain ⟨v_48, hq_47, hF⟩ := gP_some hF
                      refine g_Si (As := [.int v_46]) (rest := []) ⟨hx, hb, hml, hown, hts⟩ hK hW hL hl.1 (c_X12_orNone l X w v_46 v_48 hq_47) k137 rfl rfl (Nat.le_of_ble_eq_true rfl) dX12_swimmer_173 ⟨Nat.le_of_ble_eq_true rfl, Nat.le_of_ble_eq_true rfl⟩ (fun H locs hW hL => ?_)
                      exact g_ri hx hb hr hlocks hW hL (Option.some.inj hF) dX12_swimmer_176
                    · replace hF := gF hc_44 hF
                      by_cases hc_49 : x2 = 10
                      · replace hF := gT hc_49 hF
                        refine lv_tableIn (off := 155) (tgt := 177) hx hb dX12_swimmer_22 (by rw [hc_49]; decide) (by rw [hc_49]; decide) (by rw [hc_49]; rfl) (by decide) ?_
                        refine lv_aload_n hx hb dX12_swimmer_177 rfl (lv_at hl 0 rfl) ?_
                        refine lv_iload_n hx hb dX12_swimmer_178 rfl (lv_at hl 1 rfl) ?_
                        refine lv_iconst (v := 2) hx hb dX12_swimmer_179 (by decide) ?_
                        obtain ⟨v_51, hq_50, hF⟩ := gP_some hF
                        refine g_Vi (As := [.int x1, .int 2]) (rest := []) ⟨hx, hb, hml, hown, hts⟩ hK hW hL hl.1 (gok_o (by decide)) gE_O rfl (c_X12_of l X w x1 2 v_51 hq_50) k40 rfl rfl (Nat.le_of_ble_eq_true rfl) dX12_swimmer_180 ⟨Nat.le_of_ble_eq_true rfl, Nat.le_of_ble_eq_true rfl⟩ (fun H locs hW hL => ?_)
                        exact g_ri hx hb hr hlocks hW hL (Option.some.inj hF) dX12_swimmer_183
                      · replace hF := gF hc_49 hF
                        by_cases hc_52 : x2 = 11
                        · replace hF := gT hc_52 hF
                          refine lv_tableIn (off := 162) (tgt := 184) hx hb dX12_swimmer_22 (by rw [hc_52]; decide) (by rw [hc_52]; decide) (by rw [hc_52]; rfl) (by decide) ?_
                          refine lv_aload_n hx hb dX12_swimmer_184 rfl (lv_at hl 0 rfl) ?_
                          refine lv_iload_n hx hb dX12_swimmer_185 rfl (lv_at hl 1 rfl) ?_
                          refine lv_bipush (v := 9) hx hb dX12_swimmer_186 (by decide) ?_
                          obtain ⟨v_54, hq_53, hF⟩ := gP_some hF
                          refine g_Vi (As := [.int x1, .int 9]) (rest := []) ⟨hx, hb, hml, hown, hts⟩ hK hW hL hl.1 (gok_o (by decide)) gE_O rfl (c_X12_of l X w x1 9 v_54 hq_53) k40 rfl rfl (Nat.le_of_ble_eq_true rfl) dX12_swimmer_188 ⟨Nat.le_of_ble_eq_true rfl, Nat.le_of_ble_eq_true rfl⟩ (fun H locs hW hL => ?_)
                          exact g_ri hx hb hr hlocks hW hL (Option.some.inj hF) dX12_swimmer_191
                        · replace hF := gF hc_52 hF
                          refine lv_tableOut (tgt := 192) hx hb dX12_swimmer_22 (g_tabOut (fun k h1 h2 h3 => ?_)) (by decide) ?_
                          · have hk : k = 2 ∨ k = 3 ∨ k = 4 ∨ k = 5 ∨ k = 6 ∨ k = 7 ∨ k = 8 ∨ k = 9 ∨ k = 10 ∨ k = 11 := by omega
                            rcases hk with rfl | rfl | rfl | rfl | rfl | rfl | rfl | rfl | rfl | rfl
                            · exact hc_7 (Int32.toInt_inj.mp (h3.trans (by decide)))
                            · exact hc_13 (Int32.toInt_inj.mp (h3.trans (by decide)))
                            · exact hc_18 (Int32.toInt_inj.mp (h3.trans (by decide)))
                            · exact hc_23 (Int32.toInt_inj.mp (h3.trans (by decide)))
                            · exact hc_28 (Int32.toInt_inj.mp (h3.trans (by decide)))
                            · exact hc_34 (Int32.toInt_inj.mp (h3.trans (by decide)))
                            · exact hc_39 (Int32.toInt_inj.mp (h3.trans (by decide)))
                            · exact hc_44 (Int32.toInt_inj.mp (h3.trans (by decide)))
                            · exact hc_49 (Int32.toInt_inj.mp (h3.trans (by decide)))
                            · exact hc_52 (Int32.toInt_inj.mp (h3.trans (by decide)))
                          · skip
                            refine lv_aload_n hx hb dX12_swimmer_192 rfl (lv_at hl 0 rfl) ?_
                            refine lv_iload_n hx hb dX12_swimmer_193 rfl (lv_at hl 1 rfl) ?_
                            refine lv_iload_n hx hb dX12_swimmer_194 rfl (lv_at hl 2 rfl) ?_
                            obtain ⟨v_56, hq_55, hF⟩ := gP_some hF
                            refine g_Vi (As := [.int x1, .int x2]) (rest := []) ⟨hx, hb, hml, hown, hts⟩ hK hW hL hl.1 (gok_o (by decide)) gE_O rfl (c_X12_of l X w x1 x2 v_56 hq_55) k40 rfl rfl (Nat.le_of_ble_eq_true rfl) dX12_swimmer_195 ⟨Nat.le_of_ble_eq_true rfl, Nat.le_of_ble_eq_true rfl⟩ (fun H locs hW hL => ?_)
                            exact g_ri hx hb hr hlocks hW hL (Option.some.inj hF) dX12_swimmer_198
    · replace hF := gT hc_6 hF
      refine lv_ldc hx hb hown q75 dX12_swimmer_18 ?_
      exact g_ri hx hb hr hlocks hW hL (Option.some.inj hF) dX12_swimmer_20
abbrev rmX12_isHeat : Room := { frames := 0, cells := 0, slots := 0, locals := 0 }
abbrev wsX12_isHeat : List Cond := gws yX12_isHeat cX12_isHeat 2 (some .boolean)
set_option maxHeartbeats 4000000 in
set_option maxRecDepth 100000 in
theorem c_X12_isHeat (l : Launch) (X : gX) (w : gWd) (x1 : Int32) (r : Int32) (hF : F_X12_isHeat w x1 = some r) : Met l yX12_isHeat wsX12_isHeat rmX12_isHeat (gPc X [.ref (gA X 8 0), .int x1] w) (gQi X r w) 0 0 (gFr X) := by
  refine g_ofW (cc := cX12_isHeat) (maxL := 2) (ret := (some .boolean)) (by decide) rfl (Nat.le_of_ble_eq_true rfl) (fun p e s m args below meth c ls H hx hb hr hts hown hlocks hml hK hl hW => ?_)
  have hl : lv_has ls 2 [(0, .ref (gA X 8 0)), (1, .int x1)] := hl
  have hown : s.vm.findClass RX12 = some m.cls := hown
  have hL : gLo X [] := gLo_nil
  show W p l e rmX12_isHeat s m args below meth c H [] 0 0 _ _
  have inX12 : ∀ w ∈ wsX120, w ∈ wsX12_isHeat := fun w h => List.mem_cons_of_mem _ (inlX12 w h)
  have q7 := hts _ (List.mem_cons_of_mem _ wq_X12_7)
  have B_25 : ∀   (ls : Array Slot) (hl : lv_has ls 2 []) (hF : F_X12_isHeat_25 w = some r) (H : Heap) (locs : List Loc) (hW : gWo X 251 (gE X w) H) (hL : gLo X locs), W p l e rmX12_isHeat s m args below meth c H locs 0 0 (MQ below (gQi X r w) args s 0 0 (gFr X)) (F0 m 25 ls []) := by
    intro ls hl hF H locs hW hL
    rw [F_X12_isHeat_25] at hF
    refine lv_iconst (v := 0) hx hb dX12_isHeat_25 (by decide) ?_
    refine lv_goto (tgt := 46) hx hb dX12_isHeat_26 (by decide) ?_
    exact g_rz hx hb hr hlocks hW hL (Or.inl rfl) (Option.some.inj hF) dX12_isHeat_46
  rw [F_X12_isHeat] at hF
  obtain ⟨locs, hlocs⟩ : ∃ locs : List Loc, locs = [] := ⟨_, rfl⟩
  rw [← hlocs] at hL ⊢
  refine lv_iload_n hx hb dX12_isHeat_0 rfl (lv_at hl 1 rfl) ?_
  refine lv_if_ge (tgt := 29) hx hb dX12_isHeat_1 (by decide) (fun hc_1 => ?_) (fun hc_1 => ?_)
  · replace hF := gT hc_1 hF
    refine lv_iload_n hx hb dX12_isHeat_29 rfl (lv_at hl 1 rfl) ?_
    refine lv_aload_n hx hb dX12_isHeat_30 rfl (lv_at hl 0 rfl) ?_
    refine rg_X12_s hx hb hts inX12 hown hK hW q7 dX12_isHeat_31 ?_
    refine lv_sipush (v := 312) hx hb dX12_isHeat_34 (by decide) ?_
    refine g_iald2 (k := 312) hx hb hK hW (gok_o (by decide)) (gad_lt (gok_o (by decide))) gE_O1 (gin (by decide)) (by decide) dX12_isHeat_37 ?_
    refine lv_icmp_ge (tgt := 45) hx hb dX12_isHeat_38 (by decide) (fun hc_2 => ?_) (fun hc_2 => ?_)
    · replace hF := gT hc_2 hF
      refine lv_iconst (v := 0) hx hb dX12_isHeat_45 (by decide) ?_
      exact g_rz hx hb hr hlocks hW hL (Or.inl rfl) (Option.some.inj hF) dX12_isHeat_46
    · replace hF := gF hc_2 hF
      refine lv_iconst (v := 1) hx hb dX12_isHeat_41 (by decide) ?_
      refine lv_goto (tgt := 46) hx hb dX12_isHeat_42 (by decide) ?_
      exact g_rz hx hb hr hlocks hW hL (Or.inr rfl) (Option.some.inj hF) dX12_isHeat_46
  · replace hF := gF hc_1 hF
    refine lv_iload_n hx hb dX12_isHeat_4 rfl (lv_at hl 1 rfl) ?_
    refine lv_iconst (v := (-1)) hx hb dX12_isHeat_5 (by decide) ?_
    refine lv_icmp_ne (tgt := 25) hx hb dX12_isHeat_6 (by decide) (fun hc_3 => ?_) (fun hc_3 => ?_)
    · replace hF := gF hc_3 hF
      exact B_25  ls (lv_sub hl [] rfl) hF H locs hW hL
    · replace hF := gT hc_3 hF
      refine lv_aload_n hx hb dX12_isHeat_9 rfl (lv_at hl 0 rfl) ?_
      refine rg_X12_s hx hb hts inX12 hown hK hW q7 dX12_isHeat_10 ?_
      refine lv_sipush (v := 310) hx hb dX12_isHeat_13 (by decide) ?_
      refine g_iald2 (k := 310) hx hb hK hW (gok_o (by decide)) (gad_lt (gok_o (by decide))) gE_O1 (gin (by decide)) (by decide) dX12_isHeat_16 ?_
      refine lv_iconst (v := 1) hx hb dX12_isHeat_17 (by decide) ?_
      refine lv_icmp_le (tgt := 25) hx hb dX12_isHeat_18 (by decide) (fun hc_4 => ?_) (fun hc_4 => ?_)
      · replace hF := gT hc_4 hF
        exact B_25  ls (lv_sub hl [] rfl) hF H locs hW hL
      · replace hF := gF hc_4 hF
        refine lv_iconst (v := 1) hx hb dX12_isHeat_21 (by decide) ?_
        refine lv_goto (tgt := 46) hx hb dX12_isHeat_22 (by decide) ?_
        exact g_rz hx hb hr hlocks hW hL (Or.inr rfl) (Option.some.inj hF) dX12_isHeat_46
abbrev rmX12_isIn : Room := { frames := 1, cells := 0, slots := 0, locals := 22 }
abbrev wsX12_isIn : List Cond := gws yX12_isIn cX12_isIn 3 (some .boolean)
set_option maxHeartbeats 4000000 in
set_option maxRecDepth 100000 in
theorem c_X12_isIn (l : Launch) (X : gX) (w : gWd) (x1 : Int32) (x2 : Int32) (r : Int32) (hF : F_X12_isIn w x1 x2 = some r) : Met l yX12_isIn wsX12_isIn rmX12_isIn (gPc X [.ref (gA X 8 0), .int x1, .int x2] w) (gQi X r w) 0 0 (gFr X) := by
  refine g_ofW (cc := cX12_isIn) (maxL := 3) (ret := (some .boolean)) (by decide) rfl (Nat.le_of_ble_eq_true rfl) (fun p e s m args below meth c ls H hx hb hr hts hown hlocks hml hK hl hW => ?_)
  have hl : lv_has ls 3 [(0, .ref (gA X 8 0)), (1, .int x1), (2, .int x2)] := hl
  have hown : s.vm.findClass RX12 = some m.cls := hown
  have hL : gLo X [] := gLo_nil
  show W p l e rmX12_isIn s m args below meth c H [] 0 0 _ _
  have k40 : CallW rmX12_isIn s args RX12 RX12 40 yX12_of cX12_of 3 (some .int) wsX12_of rmX12_of 0 0 2 := cwV 2 hts (gGoodV (fun w h => List.mem_cons_of_mem _ h) wk_X12_40) rfl rfl rfl (by decide +kernel) ⟨Nat.le_of_ble_eq_true rfl, Nat.le_of_ble_eq_true rfl⟩
  rw [F_X12_isIn] at hF
  obtain ⟨locs, hlocs⟩ : ∃ locs : List Loc, locs = [] := ⟨_, rfl⟩
  rw [← hlocs] at hL ⊢
  refine lv_iload_n hx hb dX12_isIn_0 rfl (lv_at hl 2 rfl) ?_
  refine lv_if_ge (tgt := 22) hx hb dX12_isIn_1 (by decide) (fun hc_1 => ?_) (fun hc_1 => ?_)
  · replace hF := gT hc_1 hF
    refine lv_aload_n hx hb dX12_isIn_22 rfl (lv_at hl 0 rfl) ?_
    refine lv_iload_n hx hb dX12_isIn_23 rfl (lv_at hl 1 rfl) ?_
    refine lv_iconst (v := 3) hx hb dX12_isIn_24 (by decide) ?_
    obtain ⟨v_3, hq_2, hF⟩ := gP_some hF
    refine g_Vi (As := [.int x1, .int 3]) (rest := []) ⟨hx, hb, hml, hown, hts⟩ hK hW hL hl.1 (gok_o (by decide)) gE_O rfl (c_X12_of l X w x1 3 v_3 hq_2) k40 rfl rfl (Nat.le_of_ble_eq_true rfl) dX12_isIn_25 ⟨Nat.le_of_ble_eq_true rfl, Nat.le_of_ble_eq_true rfl⟩ (fun H locs hW hL => ?_)
    refine lv_iload_n hx hb dX12_isIn_28 rfl (lv_at hl 2 rfl) ?_
    refine lv_iconst (v := 1) hx hb dX12_isIn_29 (by decide) ?_
    refine lv_iadd hx hb dX12_isIn_30 ?_
    refine lv_icmp_ne (tgt := 38) hx hb dX12_isIn_31 (by decide) (fun hc_4 => ?_) (fun hc_4 => ?_)
    · replace hF := gF hc_4 hF
      refine lv_iconst (v := 0) hx hb dX12_isIn_38 (by decide) ?_
      exact g_rz hx hb hr hlocks hW hL (Or.inl rfl) (Option.some.inj hF) dX12_isIn_39
    · replace hF := gT hc_4 hF
      refine lv_iconst (v := 1) hx hb dX12_isIn_34 (by decide) ?_
      refine lv_goto (tgt := 39) hx hb dX12_isIn_35 (by decide) ?_
      exact g_rz hx hb hr hlocks hW hL (Or.inr rfl) (Option.some.inj hF) dX12_isIn_39
  · replace hF := gF hc_1 hF
    refine lv_aload_n hx hb dX12_isIn_4 rfl (lv_at hl 0 rfl) ?_
    refine lv_iload_n hx hb dX12_isIn_5 rfl (lv_at hl 1 rfl) ?_
    refine lv_bipush (v := 6) hx hb dX12_isIn_6 (by decide) ?_
    obtain ⟨v_6, hq_5, hF⟩ := gP_some hF
    refine g_Vi (As := [.int x1, .int 6]) (rest := []) ⟨hx, hb, hml, hown, hts⟩ hK hW hL hl.1 (gok_o (by decide)) gE_O rfl (c_X12_of l X w x1 6 v_6 hq_5) k40 rfl rfl (Nat.le_of_ble_eq_true rfl) dX12_isIn_8 ⟨Nat.le_of_ble_eq_true rfl, Nat.le_of_ble_eq_true rfl⟩ (fun H locs hW hL => ?_)
    refine lv_if_le (tgt := 18) hx hb dX12_isIn_11 (by decide) (fun hc_7 => ?_) (fun hc_7 => ?_)
    · replace hF := gT hc_7 hF
      refine lv_iconst (v := 0) hx hb dX12_isIn_18 (by decide) ?_
      refine lv_goto (tgt := 39) hx hb dX12_isIn_19 (by decide) ?_
      exact g_rz hx hb hr hlocks hW hL (Or.inl rfl) (Option.some.inj hF) dX12_isIn_39
    · replace hF := gF hc_7 hF
      refine lv_iconst (v := 1) hx hb dX12_isIn_14 (by decide) ?_
      refine lv_goto (tgt := 39) hx hb dX12_isIn_15 (by decide) ?_
      exact g_rz hx hb hr hlocks hW hL (Or.inr rfl) (Option.some.inj hF) dX12_isIn_39
