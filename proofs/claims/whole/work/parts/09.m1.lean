abbrev rmX12_enter : Room := { frames := 1, cells := 0, slots := 0, locals := 23 }
abbrev wsX12_enter : List Cond := gws yX12_enter cX12_enter 3 (some .int)
set_option maxHeartbeats 4000000 in
set_option maxRecDepth 100000 in
theorem c_X12_enter (l : Launch) (X : gX) (w : gWd) (x1 : Int32) (x2 : Int32) (r : Int32) (w' : gWd) (hF : F_X12_enter w x1 x2 = some (r, w')) : Met l yX12_enter wsX12_enter rmX12_enter (gPc X [.ref (gA X 8 0), .int x1, .int x2] w) (gQi X r w') 0 0 (gFr X) := by
  refine g_ofW (cc := cX12_enter) (maxL := 3) (ret := (some .int)) (by decide) rfl (Nat.le_of_ble_eq_true rfl) (fun p e s m args below meth c ls H hx hb hr hts hown hlocks hml hK hl hW => ?_)
  have hl : lv_has ls 3 [(0, .ref (gA X 8 0)), (1, .int x1), (2, .int x2)] := hl
  have hown : s.vm.findClass RX12 = some m.cls := hown
  have hL : gLo X [] := gLo_nil
  show W p l e rmX12_enter s m args below meth c H [] 0 0 _ _
  have inX12 : ∀ w ∈ wsX120, w ∈ wsX12_enter := fun w h => List.mem_cons_of_mem _ (inlX12 w h)
  have q7 := hts _ (List.mem_cons_of_mem _ wq_X12_7)
  have q75 := hts _ (List.mem_cons_of_mem _ wq_X12_75)
  have q76 := hts _ (List.mem_cons_of_mem _ wq_X12_76)
  have q77 := hts _ (List.mem_cons_of_mem _ wq_X12_77)
  have k36 : CallB rmX12_enter s args RX12 36 yX12_in cX12_in 3 (some .boolean) wsX12_in rmX12_in 0 0 3 ∧ (Cond.static yX12_in).before args s = true := va_cwS 3 hts (gGoodS (fun w h => List.mem_cons_of_mem _ h) wk_X12_36) rfl rfl rfl (by decide +kernel) ⟨Nat.le_of_ble_eq_true rfl, Nat.le_of_ble_eq_true rfl⟩
  have k78 : CallW rmX12_enter s args RX12 RX12 78 yX12_changes cX12_changes 2 none wsX12_changes rmX12_changes 0 0 0 := cwV 0 hts (gGoodV (fun w h => List.mem_cons_of_mem _ h) wk_X12_78) rfl rfl rfl (by decide +kernel) ⟨Nat.le_of_ble_eq_true rfl, Nat.le_of_ble_eq_true rfl⟩
  have k81 : CallW rmX12_enter s args RX12 RX12 81 yX12_lay cX12_lay 4 none wsX12_lay rmX12_lay 0 0 3 := cwV 3 hts (gGoodV (fun w h => List.mem_cons_of_mem _ h) wk_X12_81) rfl rfl rfl (by decide +kernel) ⟨Nat.le_of_ble_eq_true rfl, Nat.le_of_ble_eq_true rfl⟩
  have B_28 : ∀ (w : gWd) (x1 : Int32) (x2 : Int32)  (ls : Array Slot) (hl : lv_has ls 3 [(0, .ref (gA X 8 0)), (1, .int x1), (2, .int x2)]) (hF : F_X12_enter_28 w x1 x2 = some (r, w')) (H : Heap) (locs : List Loc) (hW : gWo X 251 (gE X w) H) (hL : gLo X locs), W p l e rmX12_enter s m args below meth c H locs 0 0 (MQ below (gQi X r w') args s 0 0 (gFr X)) (F0 m 28 ls []) := by
    intro w x1 x2 ls hl hF H locs hW hL
    rw [F_X12_enter_28] at hF
    refine lv_aload_n hx hb dX12_enter_28 rfl (lv_at hl 0 rfl) ?_
    refine rg_X12_s hx hb hts inX12 hown hK hW q7 dX12_enter_29 ?_
    refine lv_sipush (v := 310) hx hb dX12_enter_32 (by decide) ?_
    refine g_iald2 (k := 310) hx hb hK hW (gok_o (by decide)) (gad_lt (gok_o (by decide))) gE_O1 (gin (by decide)) (by decide) dX12_enter_35 ?_
    refine lv_if_eq (tgt := 42) hx hb dX12_enter_36 (by decide) (fun hc_1 => ?_) (fun hc_1 => ?_)
    · replace hF := gT hc_1 hF
      refine lv_aload_n hx hb dX12_enter_42 rfl (lv_at hl 0 rfl) ?_
      refine rg_X12_s hx hb hts inX12 hown hK hW q7 dX12_enter_43 ?_
      refine lv_sipush (v := 311) hx hb dX12_enter_46 (by decide) ?_
      refine g_iald2 (k := 311) hx hb hK hW (gok_o (by decide)) (gad_lt (gok_o (by decide))) gE_O1 (gin (by decide)) (by decide) dX12_enter_49 ?_
      refine lv_bipush (v := 30) hx hb dX12_enter_50 (by decide) ?_
      refine lv_icmp_ne (tgt := 58) hx hb dX12_enter_52 (by decide) (fun hc_2 => ?_) (fun hc_2 => ?_)
      · replace hF := gF hc_2 hF
        refine lv_aload_n hx hb dX12_enter_58 rfl (lv_at hl 0 rfl) ?_
        obtain ⟨w_4, hq_3, hF⟩ := gP_some hF
        refine g_Vv (As := []) (rest := []) ⟨hx, hb, hml, hown, hts⟩ hK hW hL hl.1 (gok_o (by decide)) gE_O rfl (c_X12_changes l X w  w_4 hq_3) k78 rfl rfl (Nat.le_of_ble_eq_true rfl) dX12_enter_59 ⟨Nat.le_of_ble_eq_true rfl, Nat.le_of_ble_eq_true rfl⟩ (fun H locs hW hL => ?_)
        refine lv_aload_n hx hb dX12_enter_62 rfl (lv_at hl 0 rfl) ?_
        refine lv_aload_n hx hb dX12_enter_63 rfl (lv_at hl 0 rfl) ?_
        refine rg_X12_s hx hb hts inX12 hown hK hW q7 dX12_enter_64 ?_
        refine lv_sipush (v := 311) hx hb dX12_enter_67 (by decide) ?_
        refine g_iald2 (k := 311) hx hb hK hW (gok_o (by decide)) (gad_lt (gok_o (by decide))) gE_O1 (gin (by decide)) (by decide) dX12_enter_70 ?_
        refine lv_iconst (v := 0) hx hb dX12_enter_71 (by decide) ?_
        refine lv_iload_n hx hb dX12_enter_72 rfl (lv_at hl 1 rfl) ?_
        obtain ⟨w_6, hq_5, hF⟩ := gP_some hF
        refine g_Vv (As := [.int (w_4 8 1 311), .int 0, .int x1]) (rest := []) ⟨hx, hb, hml, hown, hts⟩ hK hW hL hl.1 (gok_o (by decide)) gE_O rfl (c_X12_lay l X w_4 ((w_4 8 1 311)) 0 x1 w_6 hq_5) k81 rfl rfl (Nat.le_of_ble_eq_true rfl) dX12_enter_73 ⟨Nat.le_of_ble_eq_true rfl, Nat.le_of_ble_eq_true rfl⟩ (fun H locs hW hL => ?_)
        refine lv_aload_n hx hb dX12_enter_76 rfl (lv_at hl 0 rfl) ?_
        refine lv_aload_n hx hb dX12_enter_77 rfl (lv_at hl 0 rfl) ?_
        refine rg_X12_s hx hb hts inX12 hown hK hW q7 dX12_enter_78 ?_
        refine lv_sipush (v := 311) hx hb dX12_enter_81 (by decide) ?_
        refine g_iald2 (k := 311) hx hb hK hW (gok_o (by decide)) (gad_lt (gok_o (by decide))) gE_O1 (gin (by decide)) (by decide) dX12_enter_84 ?_
        refine lv_iconst (v := 1) hx hb dX12_enter_85 (by decide) ?_
        refine lv_iload_n hx hb dX12_enter_86 rfl (lv_at hl 2 rfl) ?_
        obtain ⟨w_8, hq_7, hF⟩ := gP_some hF
        refine g_Vv (As := [.int (w_6 8 1 311), .int 1, .int x2]) (rest := []) ⟨hx, hb, hml, hown, hts⟩ hK hW hL hl.1 (gok_o (by decide)) gE_O rfl (c_X12_lay l X w_6 ((w_6 8 1 311)) 1 x2 w_8 hq_7) k81 rfl rfl (Nat.le_of_ble_eq_true rfl) dX12_enter_87 ⟨Nat.le_of_ble_eq_true rfl, Nat.le_of_ble_eq_true rfl⟩ (fun H locs hW hL => ?_)
        refine lv_aload_n hx hb dX12_enter_90 rfl (lv_at hl 0 rfl) ?_
        refine rg_X12_s hx hb hts inX12 hown hK hW q7 dX12_enter_91 ?_
        refine lv_sipush (v := 311) hx hb dX12_enter_94 (by decide) ?_
        refine lv_dup2_11 hx hb dX12_enter_97 rfl rfl ?_
        refine g_iald2 (k := 311) hx hb hK hW (gok_o (by decide)) (gad_lt (gok_o (by decide))) gE_O1 (gin (by decide)) (by decide) dX12_enter_98 ?_
        refine lv_iconst (v := 1) hx hb dX12_enter_99 (by decide) ?_
        refine lv_iadd hx hb dX12_enter_100 ?_
        obtain ⟨w_9, ew_9, hF⟩ := gS_some hF
        refine g_iast2 (k := 311) hx hb hK hW hL (gok_o (by decide)) (fun w => gE_O1 (w := w)) (gin (by decide)) (by decide) dX12_enter_101 (fun H locs hW hL => ?_)
        rw [← ew_9] at hW
        refine lv_aload_n hx hb dX12_enter_102 rfl (lv_at hl 0 rfl) ?_
        refine rg_X12_s hx hb hts inX12 hown hK hW q7 dX12_enter_103 ?_
        refine lv_sipush (v := 311) hx hb dX12_enter_106 (by decide) ?_
        refine g_iald2 (k := 311) hx hb hK hW (gok_o (by decide)) (gad_lt (gok_o (by decide))) gE_O1 (gin (by decide)) (by decide) dX12_enter_109 ?_
        refine lv_iconst (v := 1) hx hb dX12_enter_110 (by decide) ?_
        refine lv_isub hx hb dX12_enter_111 ?_
        exact g_ri hx hb hr hlocks (gW2 hF hW) hL (gI2 hF).1 dX12_enter_112
      · replace hF := gT hc_2 hF
        refine lv_ldc hx hb hown q77 dX12_enter_55 ?_
        exact g_ri hx hb hr hlocks (gW2 hF hW) hL (gI2 hF).1 dX12_enter_57
    · replace hF := gF hc_1 hF
      refine lv_ldc hx hb hown q76 dX12_enter_39 ?_
      exact g_ri hx hb hr hlocks (gW2 hF hW) hL (gI2 hF).1 dX12_enter_41
  rw [F_X12_enter] at hF
  obtain ⟨locs, hlocs⟩ : ∃ locs : List Loc, locs = [] := ⟨_, rfl⟩
  rw [← hlocs] at hL ⊢
  refine lv_iload_n hx hb dX12_enter_0 rfl (lv_at hl 1 rfl) ?_
  refine lv_iconst (v := 0) hx hb dX12_enter_1 (by decide) ?_
  refine lv_iconst (v := 5) hx hb dX12_enter_2 (by decide) ?_
  obtain ⟨v_11, hq_10, hF⟩ := gP_some hF
  refine g_Si (As := [.int x1, .int 0, .int 5]) (rest := []) ⟨hx, hb, hml, hown, hts⟩ hK hW hL hl.1 (c_X12_in l X w x1 0 5 v_11 hq_10) k36 rfl rfl (Nat.le_of_ble_eq_true rfl) dX12_enter_3 ⟨Nat.le_of_ble_eq_true rfl, Nat.le_of_ble_eq_true rfl⟩ (fun H locs hW hL => ?_)
  refine lv_if_eq (tgt := 25) hx hb dX12_enter_6 (by decide) (fun hc_12 => ?_) (fun hc_12 => ?_)
  · replace hF := gT hc_12 hF
    refine lv_ldc hx hb hown q75 dX12_enter_25 ?_
    exact g_ri hx hb hr hlocks (gW2 hF hW) hL (gI2 hF).1 dX12_enter_27
  · replace hF := gF hc_12 hF
    refine lv_iload_n hx hb dX12_enter_9 rfl (lv_at hl 2 rfl) ?_
    refine lv_if_eq (tgt := 28) hx hb dX12_enter_10 (by decide) (fun hc_13 => ?_) (fun hc_13 => ?_)
    · replace hF := gT hc_13 hF
      exact B_28 w x1 x2 ls (hl) hF H locs hW hL
    · replace hF := gF hc_13 hF
      refine lv_iload_n hx hb dX12_enter_13 rfl (lv_at hl 2 rfl) ?_
      refine lv_bipush (v := 100) hx hb dX12_enter_14 (by decide) ?_
      refine lv_sipush (v := 999) hx hb dX12_enter_16 (by decide) ?_
      obtain ⟨v_15, hq_14, hF⟩ := gP_some hF
      refine g_Si (As := [.int x2, .int 100, .int 999]) (rest := []) ⟨hx, hb, hml, hown, hts⟩ hK hW hL hl.1 (c_X12_in l X w x2 100 999 v_15 hq_14) k36 rfl rfl (Nat.le_of_ble_eq_true rfl) dX12_enter_19 ⟨Nat.le_of_ble_eq_true rfl, Nat.le_of_ble_eq_true rfl⟩ (fun H locs hW hL => ?_)
      refine lv_if_ne (tgt := 28) hx hb dX12_enter_22 (by decide) (fun hc_16 => ?_) (fun hc_16 => ?_)
      · replace hF := gF hc_16 hF
        exact B_28 w x1 x2 ls (hl) hF H locs hW hL
      · replace hF := gT hc_16 hF
        refine lv_ldc hx hb hown q75 dX12_enter_25 ?_
        exact g_ri hx hb hr hlocks (gW2 hF hW) hL (gI2 hF).1 dX12_enter_27
abbrev rmX12_firstReserve : Room := { frames := 2, cells := 0, slots := 0, locals := 43 }
abbrev wsX12_firstReserve : List Cond := gws yX12_firstReserve cX12_firstReserve 2 (some .int)
set_option maxHeartbeats 4000000 in
set_option maxRecDepth 100000 in
theorem c_X12_firstReserve (l : Launch) (X : gX) (w : gWd)  (r : Int32) (hF : F_X12_firstReserve w = some r) : Met l yX12_firstReserve wsX12_firstReserve rmX12_firstReserve (gPc X [.ref (gA X 8 0)] w) (gQi X r w) 0 0 (gFr X) := by
  refine g_ofW (cc := cX12_firstReserve) (maxL := 2) (ret := (some .int)) (by decide) rfl (Nat.le_of_ble_eq_true rfl) (fun p e s m args below meth c ls H hx hb hr hts hown hlocks hml hK hl hW => ?_)
  have hl : lv_has ls 2 [(0, .ref (gA X 8 0))] := hl
  have hown : s.vm.findClass RX12 = some m.cls := hown
  have hL : gLo X [] := gLo_nil
  show W p l e rmX12_firstReserve s m args below meth c H [] 0 0 _ _
  have inX12 : ∀ w ∈ wsX120, w ∈ wsX12_firstReserve := fun w h => List.mem_cons_of_mem _ (inlX12 w h)
  have q7 := hts _ (List.mem_cons_of_mem _ wq_X12_7)
  have q85 := hts _ (List.mem_cons_of_mem _ wq_X12_85)
  have k44 : CallW rmX12_firstReserve s args RX12 RX12 44 yX12_isGone cX12_isGone 2 (some .boolean) wsX12_isGone rmX12_isGone 0 0 1 := cwV 1 hts (gGoodV (fun w h => List.mem_cons_of_mem _ h) wk_X12_44) rfl rfl rfl (by decide +kernel) ⟨Nat.le_of_ble_eq_true rfl, Nat.le_of_ble_eq_true rfl⟩
  have L_2 : ∀ (fu : Nat) (x1 : Int32)  (ls : Array Slot) (hl : lv_has ls 2 [(0, .ref (gA X 8 0)), (1, .int x1)]) (hF : F_X12_firstReserve_2 fu w x1 = some r) (H : Heap) (locs : List Loc) (hW : gWo X 251 (gE X w) H) (hL : gLo X locs), W p l e rmX12_firstReserve s m args below meth c H locs 0 0 (MQ below (gQi X r w) args s 0 0 (gFr X)) (F0 m 2 ls []) := by
    intro fu
    induction fu with
    | zero => intro x1 ls hl hF H locs hW hL; rw [F_X12_firstReserve_2_z] at hF; cases hF
    | succ fu2 ih2 =>
      intro x1 ls hl hF H locs hW hL
      rw [F_X12_firstReserve_2_s] at hF
      refine lv_iload_n hx hb dX12_firstReserve_2 rfl (lv_at hl 1 rfl) ?_
      refine lv_iconst (v := 4) hx hb dX12_firstReserve_3 (by decide) ?_
      refine lv_icmp_ge (tgt := 47) hx hb dX12_firstReserve_4 (by decide) (fun hc_1 => ?_) (fun hc_1 => ?_)
      · replace hF := gT hc_1 hF
        refine lv_ldc hx hb hown q85 dX12_firstReserve_47 ?_
        exact g_ri hx hb hr hlocks hW hL (Option.some.inj hF) dX12_firstReserve_49
      · replace hF := gF hc_1 hF
        refine lv_aload_n hx hb dX12_firstReserve_7 rfl (lv_at hl 0 rfl) ?_
        refine rg_X12_s hx hb hts inX12 hown hK hW q7 dX12_firstReserve_8 ?_
        refine lv_sipush (v := 306) hx hb dX12_firstReserve_11 (by decide) ?_
        refine lv_iload_n hx hb dX12_firstReserve_14 rfl (lv_at hl 1 rfl) ?_
        refine lv_iadd hx hb dX12_firstReserve_15 ?_
        obtain ⟨hin_2, hF⟩ := gB_some hF
        obtain ⟨k_3, ek_3⟩ : ∃ k, k = Int32.toNatClampNeg ((306 + x1)) := ⟨_, rfl⟩
        rw [← ek_3] at hF
        refine g_iald2 (k := k_3) hx hb hK hW (gok_o (by decide)) (gad_lt (gok_o (by decide))) gE_O1 hin_2 ek_3.symm dX12_firstReserve_16 ?_
        refine lv_if_le (tgt := 41) hx hb dX12_firstReserve_17 (by decide) (fun hc_4 => ?_) (fun hc_4 => ?_)
        · replace hF := gT hc_4 hF
          obtain ⟨x1_5, ex1_5, hF⟩ := gS_some hF
          refine lv_iinc (v := x1_5) (lv' := [(1, .int x1_5), (0, .ref (gA X 8 0))]) hx hb dX12_firstReserve_41 hl (k := 1) rfl (by rw [ex1_5]; rfl) (by decide) rfl (fun ls hl => ?_)
          refine lv_goto (tgt := 2) hx hb dX12_firstReserve_44 (by decide) ?_
          exact ih2 x1_5 ls (lv_sub hl [1, 0] rfl) hF H locs hW hL
        · replace hF := gF hc_4 hF
          refine lv_aload_n hx hb dX12_firstReserve_20 rfl (lv_at hl 0 rfl) ?_
          refine lv_aload_n hx hb dX12_firstReserve_21 rfl (lv_at hl 0 rfl) ?_
          refine rg_X12_s hx hb hts inX12 hown hK hW q7 dX12_firstReserve_22 ?_
          refine lv_sipush (v := 306) hx hb dX12_firstReserve_25 (by decide) ?_
          refine lv_iload_n hx hb dX12_firstReserve_28 rfl (lv_at hl 1 rfl) ?_
          refine lv_iadd hx hb dX12_firstReserve_29 ?_
          obtain ⟨hin_6, hF⟩ := gB_some hF
          obtain ⟨k_7, ek_7⟩ : ∃ k, k = Int32.toNatClampNeg ((306 + x1)) := ⟨_, rfl⟩
          rw [← ek_7] at hF
          refine g_iald2 (k := k_7) hx hb hK hW (gok_o (by decide)) (gad_lt (gok_o (by decide))) gE_O1 hin_6 ek_7.symm dX12_firstReserve_30 ?_
          refine lv_iconst (v := 1) hx hb dX12_firstReserve_31 (by decide) ?_
          refine lv_isub hx hb dX12_firstReserve_32 ?_
          obtain ⟨v_9, hq_8, hF⟩ := gP_some hF
          refine g_Vi (As := [.int ((w 8 1 k_7) - 1)]) (rest := []) ⟨hx, hb, hml, hown, hts⟩ hK hW hL hl.1 (gok_o (by decide)) gE_O rfl (c_X12_isGone l X w (((w 8 1 k_7) - 1)) v_9 hq_8) k44 rfl rfl (Nat.le_of_ble_eq_true rfl) dX12_firstReserve_33 ⟨Nat.le_of_ble_eq_true rfl, Nat.le_of_ble_eq_true rfl⟩ (fun H locs hW hL => ?_)
          refine lv_if_ne (tgt := 41) hx hb dX12_firstReserve_36 (by decide) (fun hc_10 => ?_) (fun hc_10 => ?_)
          · replace hF := gF hc_10 hF
            obtain ⟨x1_11, ex1_11, hF⟩ := gS_some hF
            refine lv_iinc (v := x1_11) (lv' := [(1, .int x1_11), (0, .ref (gA X 8 0))]) hx hb dX12_firstReserve_41 hl (k := 1) rfl (by rw [ex1_11]; rfl) (by decide) rfl (fun ls hl => ?_)
            refine lv_goto (tgt := 2) hx hb dX12_firstReserve_44 (by decide) ?_
            exact ih2 x1_11 ls (lv_sub hl [1, 0] rfl) hF H locs hW hL
          · replace hF := gT hc_10 hF
            refine lv_iload_n hx hb dX12_firstReserve_39 rfl (lv_at hl 1 rfl) ?_
            exact g_ri hx hb hr hlocks hW hL (Option.some.inj hF) dX12_firstReserve_40
  rw [F_X12_firstReserve] at hF
  obtain ⟨locs, hlocs⟩ : ∃ locs : List Loc, locs = [] := ⟨_, rfl⟩
  rw [← hlocs] at hL ⊢
  refine lv_iconst (v := 0) hx hb dX12_firstReserve_0 (by decide) ?_
  refine lv_istore_n (lv' := [(1, .int 0), (0, .ref (gA X 8 0))]) hx hb dX12_firstReserve_1 rfl hl (by decide) rfl (fun ls hl => ?_)
  exact L_2 gFU 0 ls (lv_sub hl [1, 0] rfl) hF H locs hW hL
abbrev rmX12_calls : Room := { frames := 3, cells := 0, slots := 0, locals := 64 }
abbrev wsX12_calls : List Cond := gws yX12_calls cX12_calls 4 (some .int)
set_option maxHeartbeats 4000000 in
set_option maxRecDepth 100000 in
theorem c_X12_calls (l : Launch) (X : gX) (w : gWd) (x1 : Int32) (r : Int32) (w' : gWd) (hF : F_X12_calls w x1 = some (r, w')) : Met l yX12_calls wsX12_calls rmX12_calls (gPc X [.ref (gA X 8 0), .int x1] w) (gQi X r w') 0 0 (gFr X) := by
  refine g_ofW (cc := cX12_calls) (maxL := 4) (ret := (some .int)) (by decide) rfl (Nat.le_of_ble_eq_true rfl) (fun p e s m args below meth c ls H hx hb hr hts hown hlocks hml hK hl hW => ?_)
  have hl : lv_has ls 4 [(0, .ref (gA X 8 0)), (1, .int x1)] := hl
  have hown : s.vm.findClass RX12 = some m.cls := hown
  have hL : gLo X [] := gLo_nil
  show W p l e rmX12_calls s m args below meth c H [] 0 0 _ _
  have inX12 : ∀ w ∈ wsX120, w ∈ wsX12_calls := fun w h => List.mem_cons_of_mem _ (inlX12 w h)
  have q7 := hts _ (List.mem_cons_of_mem _ wq_X12_7)
  have k81 : CallW rmX12_calls s args RX12 RX12 81 yX12_lay cX12_lay 4 none wsX12_lay rmX12_lay 0 0 3 := cwV 3 hts (gGoodV (fun w h => List.mem_cons_of_mem _ h) wk_X12_81) rfl rfl rfl (by decide +kernel) ⟨Nat.le_of_ble_eq_true rfl, Nat.le_of_ble_eq_true rfl⟩
  have k86 : CallW rmX12_calls s args RX12 RX12 86 yX12_firstReserve cX12_firstReserve 2 (some .int) wsX12_firstReserve rmX12_firstReserve 0 0 0 := cwV 0 hts (gGoodV (fun w h => List.mem_cons_of_mem _ h) wk_X12_86) rfl rfl rfl (by decide +kernel) ⟨Nat.le_of_ble_eq_true rfl, Nat.le_of_ble_eq_true rfl⟩
  rw [F_X12_calls] at hF
  obtain ⟨locs, hlocs⟩ : ∃ locs : List Loc, locs = [] := ⟨_, rfl⟩
  rw [← hlocs] at hL ⊢
  refine lv_aload_n hx hb dX12_calls_0 rfl (lv_at hl 0 rfl) ?_
  obtain ⟨v_2, hq_1, hF⟩ := gP_some hF
  refine g_Vi (As := []) (rest := []) ⟨hx, hb, hml, hown, hts⟩ hK hW hL hl.1 (gok_o (by decide)) gE_O rfl (c_X12_firstReserve l X w  v_2 hq_1) k86 rfl rfl (Nat.le_of_ble_eq_true rfl) dX12_calls_1 ⟨Nat.le_of_ble_eq_true rfl, Nat.le_of_ble_eq_true rfl⟩ (fun H locs hW hL => ?_)
  refine lv_istore_n (lv' := [(2, .int v_2), (0, .ref (gA X 8 0)), (1, .int x1)]) hx hb dX12_calls_4 rfl hl (by decide) rfl (fun ls hl => ?_)
  refine lv_iload_n hx hb dX12_calls_5 rfl (lv_at hl 0 rfl) ?_
  refine lv_if_ge (tgt := 12) hx hb dX12_calls_6 (by decide) (fun hc_3 => ?_) (fun hc_3 => ?_)
  · replace hF := gT hc_3 hF
    refine lv_aload_n hx hb dX12_calls_12 rfl (lv_at hl 1 rfl) ?_
    refine rg_X12_s hx hb hts inX12 hown hK hW q7 dX12_calls_13 ?_
    refine lv_sipush (v := 306) hx hb dX12_calls_16 (by decide) ?_
    refine lv_iload_n hx hb dX12_calls_19 rfl (lv_at hl 0 rfl) ?_
    refine lv_iadd hx hb dX12_calls_20 ?_
    obtain ⟨hin_4, hF⟩ := gB_some hF
    obtain ⟨k_5, ek_5⟩ : ∃ k, k = Int32.toNatClampNeg ((306 + v_2)) := ⟨_, rfl⟩
    rw [← ek_5] at hF
    refine g_iald2 (k := k_5) hx hb hK hW (gok_o (by decide)) (gad_lt (gok_o (by decide))) gE_O1 hin_4 ek_5.symm dX12_calls_21 ?_
    refine lv_iconst (v := 1) hx hb dX12_calls_22 (by decide) ?_
    refine lv_isub hx hb dX12_calls_23 ?_
    obtain ⟨x3_6, ex3_6, hF⟩ := gS_some hF
    refine g_top ex3_6 ?_
    refine lv_istore_n (lv' := [(3, .int x3_6), (2, .int v_2), (0, .ref (gA X 8 0)), (1, .int x1)]) hx hb dX12_calls_24 rfl hl (by decide) rfl (fun ls hl => ?_)
    refine lv_aload_n hx hb dX12_calls_25 rfl (lv_at hl 2 rfl) ?_
    refine rg_X12_s hx hb hts inX12 hown hK hW q7 dX12_calls_26 ?_
    refine lv_sipush (v := 306) hx hb dX12_calls_29 (by decide) ?_
    refine lv_iload_n hx hb dX12_calls_32 rfl (lv_at hl 1 rfl) ?_
    refine lv_iadd hx hb dX12_calls_33 ?_
    refine lv_iconst (v := 0) hx hb dX12_calls_34 (by decide) ?_
    obtain ⟨hin_7, hF⟩ := gB_some hF
    obtain ⟨k_8, ek_8⟩ : ∃ k, k = Int32.toNatClampNeg ((306 + v_2)) := ⟨_, rfl⟩
    rw [← ek_8] at hF
    obtain ⟨w_9, ew_9, hF⟩ := gS_some hF
    refine g_iast2 (k := k_8) hx hb hK hW hL (gok_o (by decide)) (fun w => gE_O1 (w := w)) hin_7 ek_8.symm dX12_calls_35 (fun H locs hW hL => ?_)
    rw [← ew_9] at hW
    refine lv_aload_n hx hb dX12_calls_36 rfl (lv_at hl 2 rfl) ?_
    refine rg_X12_s hx hb hts inX12 hown hK hW q7 dX12_calls_37 ?_
    refine lv_sipush (v := 316) hx hb dX12_calls_40 (by decide) ?_
    refine lv_dup2_11 hx hb dX12_calls_43 rfl rfl ?_
    refine g_iald2 (k := 316) hx hb hK hW (gok_o (by decide)) (gad_lt (gok_o (by decide))) gE_O1 (gin (by decide)) (by decide) dX12_calls_44 ?_
    refine lv_iconst (v := 1) hx hb dX12_calls_45 (by decide) ?_
    refine lv_iadd hx hb dX12_calls_46 ?_
    obtain ⟨w_10, ew_10, hF⟩ := gS_some hF
    refine g_iast2 (k := 316) hx hb hK hW hL (gok_o (by decide)) (fun w => gE_O1 (w := w)) (gin (by decide)) (by decide) dX12_calls_47 (fun H locs hW hL => ?_)
    rw [← ew_10] at hW
    refine lv_aload_n hx hb dX12_calls_48 rfl (lv_at hl 2 rfl) ?_
    refine lv_iload_n hx hb dX12_calls_49 rfl (lv_at hl 0 rfl) ?_
    refine lv_bipush (v := 6) hx hb dX12_calls_50 (by decide) ?_
    refine lv_iload_n hx hb dX12_calls_52 rfl (lv_at hl 3 rfl) ?_
    obtain ⟨w_12, hq_11, hF⟩ := gP_some hF
    refine g_Vv (As := [.int x3_6, .int 6, .int x1]) (rest := []) ⟨hx, hb, hml, hown, hts⟩ hK hW hL hl.1 (gok_o (by decide)) gE_O rfl (c_X12_lay l X w_10 x3_6 6 x1 w_12 hq_11) k81 rfl rfl (Nat.le_of_ble_eq_true rfl) dX12_calls_53 ⟨Nat.le_of_ble_eq_true rfl, Nat.le_of_ble_eq_true rfl⟩ (fun H locs hW hL => ?_)
    refine lv_iload_n hx hb dX12_calls_56 rfl (lv_at hl 0 rfl) ?_
    exact g_ri hx hb hr hlocks (gW2 hF hW) hL (gI2 hF).1 dX12_calls_57
  · replace hF := gF hc_3 hF
    refine lv_bipush (v := 100) hx hb dX12_calls_9 (by decide) ?_
    exact g_ri hx hb hr hlocks (gW2 hF hW) hL (gI2 hF).1 dX12_calls_11
abbrev rmX12_scratch : Room := { frames := 4, cells := 0, slots := 0, locals := 87 }
abbrev wsX12_scratch : List Cond := gws yX12_scratch cX12_scratch 3 (some .int)
set_option maxHeartbeats 4000000 in
set_option maxRecDepth 100000 in
theorem c_X12_scratch (l : Launch) (X : gX) (w : gWd) (x1 : Int32) (r : Int32) (w' : gWd) (hF : F_X12_scratch w x1 = some (r, w')) : Met l yX12_scratch wsX12_scratch rmX12_scratch (gPc X [.ref (gA X 8 0), .int x1] w) (gQi X r w') 0 0 (gFr X) := by
  refine g_ofW (cc := cX12_scratch) (maxL := 3) (ret := (some .int)) (by decide) rfl (Nat.le_of_ble_eq_true rfl) (fun p e s m args below meth c ls H hx hb hr hts hown hlocks hml hK hl hW => ?_)
  have hl : lv_has ls 3 [(0, .ref (gA X 8 0)), (1, .int x1)] := hl
  have hown : s.vm.findClass RX12 = some m.cls := hown
  have hL : gLo X [] := gLo_nil
  show W p l e rmX12_scratch s m args below meth c H [] 0 0 _ _
  have inX12 : ∀ w ∈ wsX120, w ∈ wsX12_scratch := fun w h => List.mem_cons_of_mem _ (inlX12 w h)
  have q7 := hts _ (List.mem_cons_of_mem _ wq_X12_7)
  have q75 := hts _ (List.mem_cons_of_mem _ wq_X12_75)
  have q76 := hts _ (List.mem_cons_of_mem _ wq_X12_76)
  have k40 : CallW rmX12_scratch s args RX12 RX12 40 yX12_of cX12_of 3 (some .int) wsX12_of rmX12_of 0 0 2 := cwV 2 hts (gGoodV (fun w h => List.mem_cons_of_mem _ h) wk_X12_40) rfl rfl rfl (by decide +kernel) ⟨Nat.le_of_ble_eq_true rfl, Nat.le_of_ble_eq_true rfl⟩
  have k44 : CallW rmX12_scratch s args RX12 RX12 44 yX12_isGone cX12_isGone 2 (some .boolean) wsX12_isGone rmX12_isGone 0 0 1 := cwV 1 hts (gGoodV (fun w h => List.mem_cons_of_mem _ h) wk_X12_44) rfl rfl rfl (by decide +kernel) ⟨Nat.le_of_ble_eq_true rfl, Nat.le_of_ble_eq_true rfl⟩
  have k78 : CallW rmX12_scratch s args RX12 RX12 78 yX12_changes cX12_changes 2 none wsX12_changes rmX12_changes 0 0 0 := cwV 0 hts (gGoodV (fun w h => List.mem_cons_of_mem _ h) wk_X12_78) rfl rfl rfl (by decide +kernel) ⟨Nat.le_of_ble_eq_true rfl, Nat.le_of_ble_eq_true rfl⟩
  have k81 : CallW rmX12_scratch s args RX12 RX12 81 yX12_lay cX12_lay 4 none wsX12_lay rmX12_lay 0 0 3 := cwV 3 hts (gGoodV (fun w h => List.mem_cons_of_mem _ h) wk_X12_81) rfl rfl rfl (by decide +kernel) ⟨Nat.le_of_ble_eq_true rfl, Nat.le_of_ble_eq_true rfl⟩
  have k89 : CallW rmX12_scratch s args RX12 RX12 89 yX12_isSwimmer cX12_isSwimmer 2 (some .boolean) wsX12_isSwimmer rmX12_isSwimmer 0 0 1 := cwV 1 hts (gGoodV (fun w h => List.mem_cons_of_mem _ h) wk_X12_89) rfl rfl rfl (by decide +kernel) ⟨Nat.le_of_ble_eq_true rfl, Nat.le_of_ble_eq_true rfl⟩
  have k92 : CallW rmX12_scratch s args RX12 RX12 92 yX12_calls cX12_calls 4 (some .int) wsX12_calls rmX12_calls 0 0 1 := cwV 1 hts (gGoodV (fun w h => List.mem_cons_of_mem _ h) wk_X12_92) rfl rfl rfl (by decide +kernel) ⟨Nat.le_of_ble_eq_true rfl, Nat.le_of_ble_eq_true rfl⟩
  have B_78 : ∀ (w : gWd) (x1 : Int32)  (ls : Array Slot) (hl : lv_has ls 3 [(0, .ref (gA X 8 0)), (1, .int x1)]) (hF : F_X12_scratch_78 w x1 = some (r, w')) (H : Heap) (locs : List Loc) (hW : gWo X 251 (gE X w) H) (hL : gLo X locs), W p l e rmX12_scratch s m args below meth c H locs 0 0 (MQ below (gQi X r w') args s 0 0 (gFr X)) (F0 m 78 ls []) := by
    intro w x1 ls hl hF H locs hW hL
    rw [F_X12_scratch_78] at hF
    refine lv_aload_n hx hb dX12_scratch_78 rfl (lv_at hl 0 rfl) ?_
    refine lv_iload_n hx hb dX12_scratch_79 rfl (lv_at hl 1 rfl) ?_
    refine lv_bipush (v := 6) hx hb dX12_scratch_80 (by decide) ?_
    obtain ⟨v_2, hq_1, hF⟩ := gP_some hF
    refine g_Vi (As := [.int x1, .int 6]) (rest := []) ⟨hx, hb, hml, hown, hts⟩ hK hW hL hl.1 (gok_o (by decide)) gE_O rfl (c_X12_of l X w x1 6 v_2 hq_1) k40 rfl rfl (Nat.le_of_ble_eq_true rfl) dX12_scratch_82 ⟨Nat.le_of_ble_eq_true rfl, Nat.le_of_ble_eq_true rfl⟩ (fun H locs hW hL => ?_)
    refine lv_istore_n (lv' := [(2, .int v_2), (0, .ref (gA X 8 0)), (1, .int x1)]) hx hb dX12_scratch_85 rfl hl (by decide) rfl (fun ls hl => ?_)
    refine lv_iload_n hx hb dX12_scratch_86 rfl (lv_at hl 0 rfl) ?_
    refine lv_if_ne (tgt := 93) hx hb dX12_scratch_87 (by decide) (fun hc_3 => ?_) (fun hc_3 => ?_)
    · replace hF := gF hc_3 hF
      refine lv_aload_n hx hb dX12_scratch_93 rfl (lv_at hl 1 rfl) ?_
      refine lv_iload_n hx hb dX12_scratch_94 rfl (lv_at hl 2 rfl) ?_
      refine lv_bipush (v := 6) hx hb dX12_scratch_95 (by decide) ?_
      refine lv_iconst (v := 0) hx hb dX12_scratch_97 (by decide) ?_
      obtain ⟨w_5, hq_4, hF⟩ := gP_some hF
      refine g_Vv (As := [.int x1, .int 6, .int 0]) (rest := []) ⟨hx, hb, hml, hown, hts⟩ hK hW hL hl.1 (gok_o (by decide)) gE_O rfl (c_X12_lay l X w x1 6 0 w_5 hq_4) k81 rfl rfl (Nat.le_of_ble_eq_true rfl) dX12_scratch_98 ⟨Nat.le_of_ble_eq_true rfl, Nat.le_of_ble_eq_true rfl⟩ (fun H locs hW hL => ?_)
      refine lv_aload_n hx hb dX12_scratch_101 rfl (lv_at hl 1 rfl) ?_
      refine lv_iload_n hx hb dX12_scratch_102 rfl (lv_at hl 2 rfl) ?_
      refine lv_bipush (v := 7) hx hb dX12_scratch_103 (by decide) ?_
      refine lv_iconst (v := 0) hx hb dX12_scratch_105 (by decide) ?_
      obtain ⟨w_7, hq_6, hF⟩ := gP_some hF
      refine g_Vv (As := [.int x1, .int 7, .int 0]) (rest := []) ⟨hx, hb, hml, hown, hts⟩ hK hW hL hl.1 (gok_o (by decide)) gE_O rfl (c_X12_lay l X w_5 x1 7 0 w_7 hq_6) k81 rfl rfl (Nat.le_of_ble_eq_true rfl) dX12_scratch_106 ⟨Nat.le_of_ble_eq_true rfl, Nat.le_of_ble_eq_true rfl⟩ (fun H locs hW hL => ?_)
      refine lv_aload_n hx hb dX12_scratch_109 rfl (lv_at hl 1 rfl) ?_
      refine lv_iload_n hx hb dX12_scratch_110 rfl (lv_at hl 0 rfl) ?_
      obtain ⟨v_9, w_10, hq_8, hF⟩ := gC_some hF
      refine g_Vi (As := [.int v_2]) (rest := []) ⟨hx, hb, hml, hown, hts⟩ hK hW hL hl.1 (gok_o (by decide)) gE_O rfl (c_X12_calls l X w_7 v_2 v_9 w_10 hq_8) k92 rfl rfl (Nat.le_of_ble_eq_true rfl) dX12_scratch_111 ⟨Nat.le_of_ble_eq_true rfl, Nat.le_of_ble_eq_true rfl⟩ (fun H locs hW hL => ?_)
      exact g_ri hx hb hr hlocks (gW2 hF hW) hL (gI2 hF).1 dX12_scratch_114
    · replace hF := gT hc_3 hF
      refine lv_bipush (v := 100) hx hb dX12_scratch_90 (by decide) ?_
      exact g_ri hx hb hr hlocks (gW2 hF hW) hL (gI2 hF).1 dX12_scratch_92
  rw [F_X12_scratch] at hF
  obtain ⟨locs, hlocs⟩ : ∃ locs : List Loc, locs = [] := ⟨_, rfl⟩
  rw [← hlocs] at hL ⊢
  refine lv_aload_n hx hb dX12_scratch_0 rfl (lv_at hl 0 rfl) ?_
  refine lv_iload_n hx hb dX12_scratch_1 rfl (lv_at hl 1 rfl) ?_
  obtain ⟨v_12, hq_11, hF⟩ := gP_some hF
  refine g_Vi (As := [.int x1]) (rest := []) ⟨hx, hb, hml, hown, hts⟩ hK hW hL hl.1 (gok_o (by decide)) gE_O rfl (c_X12_isSwimmer l X w x1 v_12 hq_11) k89 rfl rfl (Nat.le_of_ble_eq_true rfl) dX12_scratch_2 ⟨Nat.le_of_ble_eq_true rfl, Nat.le_of_ble_eq_true rfl⟩ (fun H locs hW hL => ?_)
  refine lv_if_ne (tgt := 11) hx hb dX12_scratch_5 (by decide) (fun hc_13 => ?_) (fun hc_13 => ?_)
  · replace hF := gF hc_13 hF
    refine lv_aload_n hx hb dX12_scratch_11 rfl (lv_at hl 0 rfl) ?_
    refine lv_iload_n hx hb dX12_scratch_12 rfl (lv_at hl 1 rfl) ?_
    obtain ⟨v_15, hq_14, hF⟩ := gP_some hF
    refine g_Vi (As := [.int x1]) (rest := []) ⟨hx, hb, hml, hown, hts⟩ hK hW hL hl.1 (gok_o (by decide)) gE_O rfl (c_X12_isGone l X w x1 v_15 hq_14) k44 rfl rfl (Nat.le_of_ble_eq_true rfl) dX12_scratch_13 ⟨Nat.le_of_ble_eq_true rfl, Nat.le_of_ble_eq_true rfl⟩ (fun H locs hW hL => ?_)
    refine lv_if_ne (tgt := 31) hx hb dX12_scratch_16 (by decide) (fun hc_16 => ?_) (fun hc_16 => ?_)
    · replace hF := gF hc_16 hF
      refine lv_ldc hx hb hown q76 dX12_scratch_31 ?_
      exact g_ri hx hb hr hlocks (gW2 hF hW) hL (gI2 hF).1 dX12_scratch_33
    · replace hF := gT hc_16 hF
      refine lv_aload_n hx hb dX12_scratch_19 rfl (lv_at hl 0 rfl) ?_
      refine rg_X12_s hx hb hts inX12 hown hK hW q7 dX12_scratch_20 ?_
      refine lv_sipush (v := 310) hx hb dX12_scratch_23 (by decide) ?_
      refine g_iald2 (k := 310) hx hb hK hW (gok_o (by decide)) (gad_lt (gok_o (by decide))) gE_O1 (gin (by decide)) (by decide) dX12_scratch_26 ?_
      refine lv_iconst (v := 3) hx hb dX12_scratch_27 (by decide) ?_
      refine lv_icmp_ne (tgt := 34) hx hb dX12_scratch_28 (by decide) (fun hc_17 => ?_) (fun hc_17 => ?_)
      · replace hF := gF hc_17 hF
        refine lv_aload_n hx hb dX12_scratch_34 rfl (lv_at hl 0 rfl) ?_
        obtain ⟨w_19, hq_18, hF⟩ := gP_some hF
        refine g_Vv (As := []) (rest := []) ⟨hx, hb, hml, hown, hts⟩ hK hW hL hl.1 (gok_o (by decide)) gE_O rfl (c_X12_changes l X w  w_19 hq_18) k78 rfl rfl (Nat.le_of_ble_eq_true rfl) dX12_scratch_35 ⟨Nat.le_of_ble_eq_true rfl, Nat.le_of_ble_eq_true rfl⟩ (fun H locs hW hL => ?_)
        refine lv_aload_n hx hb dX12_scratch_38 rfl (lv_at hl 0 rfl) ?_
        refine lv_iload_n hx hb dX12_scratch_39 rfl (lv_at hl 1 rfl) ?_
        refine lv_iconst (v := 2) hx hb dX12_scratch_40 (by decide) ?_
        refine lv_iconst (v := 1) hx hb dX12_scratch_41 (by decide) ?_
        obtain ⟨w_21, hq_20, hF⟩ := gP_some hF
        refine g_Vv (As := [.int x1, .int 2, .int 1]) (rest := []) ⟨hx, hb, hml, hown, hts⟩ hK hW hL hl.1 (gok_o (by decide)) gE_O rfl (c_X12_lay l X w_19 x1 2 1 w_21 hq_20) k81 rfl rfl (Nat.le_of_ble_eq_true rfl) dX12_scratch_42 ⟨Nat.le_of_ble_eq_true rfl, Nat.le_of_ble_eq_true rfl⟩ (fun H locs hW hL => ?_)
        refine lv_aload_n hx hb dX12_scratch_45 rfl (lv_at hl 0 rfl) ?_
        refine rg_X12_s hx hb hts inX12 hown hK hW q7 dX12_scratch_46 ?_
        refine lv_sipush (v := 310) hx hb dX12_scratch_49 (by decide) ?_
        refine g_iald2 (k := 310) hx hb hK hW (gok_o (by decide)) (gad_lt (gok_o (by decide))) gE_O1 (gin (by decide)) (by decide) dX12_scratch_52 ?_
        refine lv_iconst (v := 1) hx hb dX12_scratch_53 (by decide) ?_
        refine lv_icmp_ne (tgt := 78) hx hb dX12_scratch_54 (by decide) (fun hc_22 => ?_) (fun hc_22 => ?_)
        · replace hF := gF hc_22 hF
          exact B_78 w_21 x1 ls (hl) hF H locs hW hL
        · replace hF := gT hc_22 hF
          refine lv_aload_n hx hb dX12_scratch_57 rfl (lv_at hl 0 rfl) ?_
          refine lv_iload_n hx hb dX12_scratch_58 rfl (lv_at hl 1 rfl) ?_
          refine lv_iconst (v := 3) hx hb dX12_scratch_59 (by decide) ?_
          refine lv_iconst (v := 0) hx hb dX12_scratch_60 (by decide) ?_
          obtain ⟨w_24, hq_23, hF⟩ := gP_some hF
          refine g_Vv (As := [.int x1, .int 3, .int 0]) (rest := []) ⟨hx, hb, hml, hown, hts⟩ hK hW hL hl.1 (gok_o (by decide)) gE_O rfl (c_X12_lay l X w_21 x1 3 0 w_24 hq_23) k81 rfl rfl (Nat.le_of_ble_eq_true rfl) dX12_scratch_61 ⟨Nat.le_of_ble_eq_true rfl, Nat.le_of_ble_eq_true rfl⟩ (fun H locs hW hL => ?_)
          refine lv_aload_n hx hb dX12_scratch_64 rfl (lv_at hl 0 rfl) ?_
          refine lv_iload_n hx hb dX12_scratch_65 rfl (lv_at hl 1 rfl) ?_
          refine lv_iconst (v := 4) hx hb dX12_scratch_66 (by decide) ?_
          refine lv_iconst (v := 0) hx hb dX12_scratch_67 (by decide) ?_
          obtain ⟨w_26, hq_25, hF⟩ := gP_some hF
          refine g_Vv (As := [.int x1, .int 4, .int 0]) (rest := []) ⟨hx, hb, hml, hown, hts⟩ hK hW hL hl.1 (gok_o (by decide)) gE_O rfl (c_X12_lay l X w_24 x1 4 0 w_26 hq_25) k81 rfl rfl (Nat.le_of_ble_eq_true rfl) dX12_scratch_68 ⟨Nat.le_of_ble_eq_true rfl, Nat.le_of_ble_eq_true rfl⟩ (fun H locs hW hL => ?_)
          refine lv_aload_n hx hb dX12_scratch_71 rfl (lv_at hl 0 rfl) ?_
          refine lv_iload_n hx hb dX12_scratch_72 rfl (lv_at hl 1 rfl) ?_
          refine lv_iconst (v := 5) hx hb dX12_scratch_73 (by decide) ?_
          refine lv_iconst (v := 0) hx hb dX12_scratch_74 (by decide) ?_
          obtain ⟨w_28, hq_27, hF⟩ := gP_some hF
          refine g_Vv (As := [.int x1, .int 5, .int 0]) (rest := []) ⟨hx, hb, hml, hown, hts⟩ hK hW hL hl.1 (gok_o (by decide)) gE_O rfl (c_X12_lay l X w_26 x1 5 0 w_28 hq_27) k81 rfl rfl (Nat.le_of_ble_eq_true rfl) dX12_scratch_75 ⟨Nat.le_of_ble_eq_true rfl, Nat.le_of_ble_eq_true rfl⟩ (fun H locs hW hL => ?_)
          exact B_78 w_28 x1 ls (hl) hF H locs hW hL
      · replace hF := gT hc_17 hF
        refine lv_ldc hx hb hown q76 dX12_scratch_31 ?_
        exact g_ri hx hb hr hlocks (gW2 hF hW) hL (gI2 hF).1 dX12_scratch_33
  · replace hF := gT hc_13 hF
    refine lv_ldc hx hb hown q75 dX12_scratch_8 ?_
    exact g_ri hx hb hr hlocks (gW2 hF hW) hL (gI2 hF).1 dX12_scratch_10
abbrev rmX12_set : Room := { frames := 1, cells := 0, slots := 0, locals := 22 }
abbrev wsX12_set : List Cond := gws yX12_set cX12_set 4 (some .int)
set_option maxHeartbeats 4000000 in
set_option maxRecDepth 100000 in
theorem c_X12_set (l : Launch) (X : gX) (w : gWd) (x1 : Int32) (x2 : Int32) (r : Int32) (w' : gWd) (hF : F_X12_set w x1 x2 = some (r, w')) : Met l yX12_set wsX12_set rmX12_set (gPc X [.ref (gA X 8 0), .int x1, .int x2] w) (gQi X r w') 0 0 (gFr X) := by
  refine g_ofW (cc := cX12_set) (maxL := 4) (ret := (some .int)) (by decide) rfl (Nat.le_of_ble_eq_true rfl) (fun p e s m args below meth c ls H hx hb hr hts hown hlocks hml hK hl hW => ?_)
  have hl : lv_has ls 4 [(0, .ref (gA X 8 0)), (1, .int x1), (2, .int x2)] := hl
  have hown : s.vm.findClass RX12 = some m.cls := hown
  have hL : gLo X [] := gLo_nil
  show W p l e rmX12_set s m args below meth c H [] 0 0 _ _
  have inX12 : ∀ w ∈ wsX120, w ∈ wsX12_set := fun w h => List.mem_cons_of_mem _ (inlX12 w h)
  have q7 := hts _ (List.mem_cons_of_mem _ wq_X12_7)
  have q75 := hts _ (List.mem_cons_of_mem _ wq_X12_75)
  have q76 := hts _ (List.mem_cons_of_mem _ wq_X12_76)
  have k36 : CallB rmX12_set s args RX12 36 yX12_in cX12_in 3 (some .boolean) wsX12_in rmX12_in 0 0 3 ∧ (Cond.static yX12_in).before args s = true := va_cwS 3 hts (gGoodS (fun w h => List.mem_cons_of_mem _ h) wk_X12_36) rfl rfl rfl (by decide +kernel) ⟨Nat.le_of_ble_eq_true rfl, Nat.le_of_ble_eq_true rfl⟩
  have k78 : CallW rmX12_set s args RX12 RX12 78 yX12_changes cX12_changes 2 none wsX12_changes rmX12_changes 0 0 0 := cwV 0 hts (gGoodV (fun w h => List.mem_cons_of_mem _ h) wk_X12_78) rfl rfl rfl (by decide +kernel) ⟨Nat.le_of_ble_eq_true rfl, Nat.le_of_ble_eq_true rfl⟩
  have B_47 : ∀ (w : gWd) (x1 : Int32) (x2 : Int32) (xs0 : Int32) (xs1 : Int32) (xs2 : Int32)  (ls : Array Slot) (hl : lv_has ls 4 [(0, .ref (gA X 8 0)), (1, .int x1), (2, .int x2)]) (hF : F_X12_set_47 w x1 x2 xs0 xs1 xs2 = some (r, w')) (H : Heap) (locs : List Loc) (hW : gWo X 251 (gE X w) H) (hL : gLo X locs), W p l e rmX12_set s m args below meth c H locs 0 0 (MQ below (gQi X r w') args s 0 0 (gFr X)) (F0 m 47 ls [.int xs0, .int xs1, .int xs2]) := by
    intro w x1 x2 xs0 xs1 xs2 ls hl hF H locs hW hL
    rw [F_X12_set_47] at hF
    obtain ⟨v_4, hq_3, hF⟩ := gP_some hF
    refine g_Si (As := [.int xs2, .int xs1, .int xs0]) (rest := []) ⟨hx, hb, hml, hown, hts⟩ hK hW hL hl.1 (c_X12_in l X w xs2 xs1 xs0 v_4 hq_3) k36 rfl rfl (Nat.le_of_ble_eq_true rfl) dX12_set_47 ⟨Nat.le_of_ble_eq_true rfl, Nat.le_of_ble_eq_true rfl⟩ (fun H locs hW hL => ?_)
    refine lv_if_ne (tgt := 56) hx hb dX12_set_50 (by decide) (fun hc_5 => ?_) (fun hc_5 => ?_)
    · replace hF := gF hc_5 hF
      refine lv_aload_n hx hb dX12_set_56 rfl (lv_at hl 0 rfl) ?_
      refine rg_X12_s hx hb hts inX12 hown hK hW q7 dX12_set_57 ?_
      refine lv_sipush (v := 310) hx hb dX12_set_60 (by decide) ?_
      refine g_iald2 (k := 310) hx hb hK hW (gok_o (by decide)) (gad_lt (gok_o (by decide))) gE_O1 (gin (by decide)) (by decide) dX12_set_63 ?_
      refine lv_if_eq (tgt := 70) hx hb dX12_set_64 (by decide) (fun hc_6 => ?_) (fun hc_6 => ?_)
      · replace hF := gT hc_6 hF
        refine lv_aload_n hx hb dX12_set_70 rfl (lv_at hl 0 rfl) ?_
        obtain ⟨w_8, hq_7, hF⟩ := gP_some hF
        refine g_Vv (As := []) (rest := []) ⟨hx, hb, hml, hown, hts⟩ hK hW hL hl.1 (gok_o (by decide)) gE_O rfl (c_X12_changes l X w  w_8 hq_7) k78 rfl rfl (Nat.le_of_ble_eq_true rfl) dX12_set_71 ⟨Nat.le_of_ble_eq_true rfl, Nat.le_of_ble_eq_true rfl⟩ (fun H locs hW hL => ?_)
        refine lv_aload_n hx hb dX12_set_74 rfl (lv_at hl 0 rfl) ?_
        refine rg_X12_s hx hb hts inX12 hown hK hW q7 dX12_set_75 ?_
        refine lv_sipush (v := 317) hx hb dX12_set_78 (by decide) ?_
        refine lv_iload_n hx hb dX12_set_81 rfl (lv_at hl 1 rfl) ?_
        refine lv_iadd hx hb dX12_set_82 ?_
        obtain ⟨hin_9, hF⟩ := gB_some hF
        obtain ⟨k_10, ek_10⟩ : ∃ k, k = Int32.toNatClampNeg ((317 + x1)) := ⟨_, rfl⟩
        rw [← ek_10] at hF
        refine g_iald2 (k := k_10) hx hb hK hW (gok_o (by decide)) (gad_lt (gok_o (by decide))) gE_O1 hin_9 ek_10.symm dX12_set_83 ?_
        obtain ⟨x3_11, ex3_11, hF⟩ := gS_some hF
        refine g_top ex3_11 ?_
        refine lv_istore_n (lv' := [(3, .int x3_11), (0, .ref (gA X 8 0)), (1, .int x1), (2, .int x2)]) hx hb dX12_set_84 rfl hl (by decide) rfl (fun ls hl => ?_)
        refine lv_aload_n hx hb dX12_set_85 rfl (lv_at hl 1 rfl) ?_
        refine rg_X12_s hx hb hts inX12 hown hK hW q7 dX12_set_86 ?_
        refine lv_sipush (v := 317) hx hb dX12_set_89 (by decide) ?_
        refine lv_iload_n hx hb dX12_set_92 rfl (lv_at hl 2 rfl) ?_
        refine lv_iadd hx hb dX12_set_93 ?_
        refine lv_iload_n hx hb dX12_set_94 rfl (lv_at hl 3 rfl) ?_
        obtain ⟨hin_12, hF⟩ := gB_some hF
        obtain ⟨k_13, ek_13⟩ : ∃ k, k = Int32.toNatClampNeg ((317 + x1)) := ⟨_, rfl⟩
        rw [← ek_13] at hF
        obtain ⟨w_14, ew_14, hF⟩ := gS_some hF
        refine g_iast2 (k := k_13) hx hb hK hW hL (gok_o (by decide)) (fun w => gE_O1 (w := w)) hin_12 ek_13.symm dX12_set_95 (fun H locs hW hL => ?_)
        rw [← ew_14] at hW
        refine lv_iload_n hx hb dX12_set_96 rfl (lv_at hl 0 rfl) ?_
        exact g_ri hx hb hr hlocks (gW2 hF hW) hL (gI2 hF).1 dX12_set_97
      · replace hF := gF hc_6 hF
        refine lv_ldc hx hb hown q76 dX12_set_67 ?_
        exact g_ri hx hb hr hlocks (gW2 hF hW) hL (gI2 hF).1 dX12_set_69
    · replace hF := gT hc_5 hF
      refine lv_ldc hx hb hown q75 dX12_set_53 ?_
      exact g_ri hx hb hr hlocks (gW2 hF hW) hL (gI2 hF).1 dX12_set_55
  have B_28 : ∀ (w : gWd) (x1 : Int32) (x2 : Int32) (xs0 : Int32) (xs1 : Int32)  (ls : Array Slot) (hl : lv_has ls 4 [(0, .ref (gA X 8 0)), (1, .int x1), (2, .int x2)]) (hF : F_X12_set_28 w x1 x2 xs0 xs1 = some (r, w')) (H : Heap) (locs : List Loc) (hW : gWo X 251 (gE X w) H) (hL : gLo X locs), W p l e rmX12_set s m args below meth c H locs 0 0 (MQ below (gQi X r w') args s 0 0 (gFr X)) (F0 m 28 ls [.int xs0, .int xs1]) := by
    intro w x1 x2 xs0 xs1 ls hl hF H locs hW hL
    rw [F_X12_set_28] at hF
    refine lv_iload_n hx hb dX12_set_28 rfl (lv_at hl 1 rfl) ?_
    refine lv_if_ne (tgt := 37) hx hb dX12_set_29 (by decide) (fun hc_1 => ?_) (fun hc_1 => ?_)
    · replace hF := gF hc_1 hF
      refine lv_iload_n hx hb dX12_set_37 rfl (lv_at hl 1 rfl) ?_
      refine lv_iconst (v := 1) hx hb dX12_set_38 (by decide) ?_
      refine lv_icmp_ne (tgt := 46) hx hb dX12_set_39 (by decide) (fun hc_2 => ?_) (fun hc_2 => ?_)
      · replace hF := gF hc_2 hF
        refine lv_iconst (v := 4) hx hb dX12_set_46 (by decide) ?_
        exact B_47 w x1 x2 4 xs0 xs1 ls (hl) hF H locs hW hL
      · replace hF := gT hc_2 hF
        refine lv_iconst (v := 3) hx hb dX12_set_42 (by decide) ?_
        refine lv_goto (tgt := 47) hx hb dX12_set_43 (by decide) ?_
        exact B_47 w x1 x2 3 xs0 xs1 ls (hl) hF H locs hW hL
    · replace hF := gT hc_1 hF
      refine lv_bipush (v := 10) hx hb dX12_set_32 (by decide) ?_
      refine lv_goto (tgt := 47) hx hb dX12_set_34 (by decide) ?_
      exact B_47 w x1 x2 10 xs0 xs1 ls (hl) hF H locs hW hL
  rw [F_X12_set] at hF
  obtain ⟨locs, hlocs⟩ : ∃ locs : List Loc, locs = [] := ⟨_, rfl⟩
  rw [← hlocs] at hL ⊢
  refine lv_iload_n hx hb dX12_set_0 rfl (lv_at hl 1 rfl) ?_
  refine lv_iconst (v := 0) hx hb dX12_set_1 (by decide) ?_
  refine lv_iconst (v := 2) hx hb dX12_set_2 (by decide) ?_
  obtain ⟨v_16, hq_15, hF⟩ := gP_some hF
  refine g_Si (As := [.int x1, .int 0, .int 2]) (rest := []) ⟨hx, hb, hml, hown, hts⟩ hK hW hL hl.1 (c_X12_in l X w x1 0 2 v_16 hq_15) k36 rfl rfl (Nat.le_of_ble_eq_true rfl) dX12_set_3 ⟨Nat.le_of_ble_eq_true rfl, Nat.le_of_ble_eq_true rfl⟩ (fun H locs hW hL => ?_)
  refine lv_if_eq (tgt := 53) hx hb dX12_set_6 (by decide) (fun hc_17 => ?_) (fun hc_17 => ?_)
  · replace hF := gT hc_17 hF
    refine lv_ldc hx hb hown q75 dX12_set_53 ?_
    exact g_ri hx hb hr hlocks (gW2 hF hW) hL (gI2 hF).1 dX12_set_55
  · replace hF := gF hc_17 hF
    refine lv_iload_n hx hb dX12_set_9 rfl (lv_at hl 2 rfl) ?_
    refine lv_iload_n hx hb dX12_set_10 rfl (lv_at hl 1 rfl) ?_
    refine lv_if_ne (tgt := 18) hx hb dX12_set_11 (by decide) (fun hc_18 => ?_) (fun hc_18 => ?_)
    · replace hF := gF hc_18 hF
      refine lv_iload_n hx hb dX12_set_18 rfl (lv_at hl 1 rfl) ?_
      refine lv_iconst (v := 1) hx hb dX12_set_19 (by decide) ?_
      refine lv_icmp_ne (tgt := 27) hx hb dX12_set_20 (by decide) (fun hc_19 => ?_) (fun hc_19 => ?_)
      · replace hF := gF hc_19 hF
        refine lv_iconst (v := 0) hx hb dX12_set_27 (by decide) ?_
        exact B_28 w x1 x2 0 x2 ls (hl) hF H locs hW hL
      · replace hF := gT hc_19 hF
        refine lv_iconst (v := 1) hx hb dX12_set_23 (by decide) ?_
        refine lv_goto (tgt := 28) hx hb dX12_set_24 (by decide) ?_
        exact B_28 w x1 x2 1 x2 ls (hl) hF H locs hW hL
    · replace hF := gT hc_18 hF
      refine lv_iconst (v := 4) hx hb dX12_set_14 (by decide) ?_
      refine lv_goto (tgt := 28) hx hb dX12_set_15 (by decide) ?_
      exact B_28 w x1 x2 4 x2 ls (hl) hF H locs hW hL
abbrev rmX12_draw : Room := { frames := 4, cells := 0, slots := 0, locals := 89 }
abbrev wsX12_draw : List Cond := gws yX12_draw cX12_draw 4 (some .int)
set_option maxHeartbeats 4000000 in
set_option maxRecDepth 100000 in
theorem c_X12_draw (l : Launch) (X : gX) (w : gWd)  (r : Int32) (w' : gWd) (hF : F_X12_draw w = some (r, w')) : Met l yX12_draw wsX12_draw rmX12_draw (gPc X [.ref (gA X 8 0)] w) (gQi X r w') 0 0 (gFr X) := by
  refine g_ofW (cc := cX12_draw) (maxL := 4) (ret := (some .int)) (by decide) rfl (Nat.le_of_ble_eq_true rfl) (fun p e s m args below meth c ls H hx hb hr hts hown hlocks hml hK hl hW => ?_)
  have hl : lv_has ls 4 [(0, .ref (gA X 8 0))] := hl
  have hown : s.vm.findClass RX12 = some m.cls := hown
  have hL : gLo X [] := gLo_nil
  show W p l e rmX12_draw s m args below meth c H [] 0 0 _ _
  have inX12 : ∀ w ∈ wsX120, w ∈ wsX12_draw := fun w h => List.mem_cons_of_mem _ (inlX12 w h)
  have q22 := hts _ (List.mem_cons_of_mem _ wq_X12_22)
  have q7 := hts _ (List.mem_cons_of_mem _ wq_X12_7)
  have q76 := hts _ (List.mem_cons_of_mem _ wq_X12_76)
  have k101 : CallW rmX12_draw s args RX12 RX12 101 yX12_laneIn cX12_laneIn 2 (some .int) wsX12_laneIn rmX12_laneIn 0 0 1 := cwV 1 hts (gGoodV (fun w h => List.mem_cons_of_mem _ h) wk_X12_101) rfl rfl rfl (by decide +kernel) ⟨Nat.le_of_ble_eq_true rfl, Nat.le_of_ble_eq_true rfl⟩
  have k44 : CallW rmX12_draw s args RX12 RX12 44 yX12_isGone cX12_isGone 2 (some .boolean) wsX12_isGone rmX12_isGone 0 0 1 := cwV 1 hts (gGoodV (fun w h => List.mem_cons_of_mem _ h) wk_X12_44) rfl rfl rfl (by decide +kernel) ⟨Nat.le_of_ble_eq_true rfl, Nat.le_of_ble_eq_true rfl⟩
  have k66 : CallW rmX12_draw s args RX12 RX12 66 yX12_present cX12_present 3 (some .int) wsX12_present rmX12_present 0 0 0 := cwV 0 hts (gGoodV (fun w h => List.mem_cons_of_mem _ h) wk_X12_66) rfl rfl rfl (by decide +kernel) ⟨Nat.le_of_ble_eq_true rfl, Nat.le_of_ble_eq_true rfl⟩
  have k78 : CallW rmX12_draw s args RX12 RX12 78 yX12_changes cX12_changes 2 none wsX12_changes rmX12_changes 0 0 0 := cwV 0 hts (gGoodV (fun w h => List.mem_cons_of_mem _ h) wk_X12_78) rfl rfl rfl (by decide +kernel) ⟨Nat.le_of_ble_eq_true rfl, Nat.le_of_ble_eq_true rfl⟩
  have k81 : CallW rmX12_draw s args RX12 RX12 81 yX12_lay cX12_lay 4 none wsX12_lay rmX12_lay 0 0 3 := cwV 3 hts (gGoodV (fun w h => List.mem_cons_of_mem _ h) wk_X12_81) rfl rfl rfl (by decide +kernel) ⟨Nat.le_of_ble_eq_true rfl, Nat.le_of_ble_eq_true rfl⟩
  have k95 : CallW rmX12_draw s args RX12 RX12 95 yX12_plans cX12_plans 5 (some .int) wsX12_plans rmX12_plans 0 0 0 := cwV 0 hts (gGoodV (fun w h => List.mem_cons_of_mem _ h) wk_X12_95) rfl rfl rfl (by decide +kernel) ⟨Nat.le_of_ble_eq_true rfl, Nat.le_of_ble_eq_true rfl⟩
  have k98 : CallW rmX12_draw s args RX12 RX12 98 yX12_entryRank cX12_entryRank 4 (some .int) wsX12_entryRank rmX12_entryRank 0 0 1 := cwV 1 hts (gGoodV (fun w h => List.mem_cons_of_mem _ h) wk_X12_98) rfl rfl rfl (by decide +kernel) ⟨Nat.le_of_ble_eq_true rfl, Nat.le_of_ble_eq_true rfl⟩
  have L_32 : ∀ (fu : Nat) (w : gWd) (x1 : Int32) (x2 : Int32)  (ls : Array Slot) (hl : lv_has ls 4 [(0, .ref (gA X 8 0)), (1, .int x1), (2, .int x2)]) (hF : F_X12_draw_32 fu w x1 x2 = some (r, w')) (H : Heap) (locs : List Loc) (hW : gWo X 251 (gE X w) H) (hL : gLo X locs), W p l e rmX12_draw s m args below meth c H locs 0 0 (MQ below (gQi X r w') args s 0 0 (gFr X)) (F0 m 32 ls []) := by
    intro fu
    induction fu with
    | zero => intro w x1 x2 ls hl hF H locs hW hL; rw [F_X12_draw_32_z] at hF; cases hF
    | succ fu32 ih32 =>
      intro w x1 x2 ls hl hF H locs hW hL
      rw [F_X12_draw_32_s] at hF
      refine lv_iload_n hx hb dX12_draw_32 rfl (lv_at hl 2 rfl) ?_
      refine lv_aload_n hx hb dX12_draw_33 rfl (lv_at hl 0 rfl) ?_
      refine rg_X12_s hx hb hts inX12 hown hK hW q7 dX12_draw_34 ?_
      refine lv_sipush (v := 311) hx hb dX12_draw_37 (by decide) ?_
      refine g_iald2 (k := 311) hx hb hK hW (gok_o (by decide)) (gad_lt (gok_o (by decide))) gE_O1 (gin (by decide)) (by decide) dX12_draw_40 ?_
      refine lv_icmp_ge (tgt := 89) hx hb dX12_draw_41 (by decide) (fun hc_1 => ?_) (fun hc_1 => ?_)
      · replace hF := gT hc_1 hF
        refine lv_aload_n hx hb dX12_draw_89 rfl (lv_at hl 0 rfl) ?_
        refine rg_X12_s hx hb hts inX12 hown hK hW q7 dX12_draw_90 ?_
        refine lv_sipush (v := 310) hx hb dX12_draw_93 (by decide) ?_
        refine lv_iconst (v := 1) hx hb dX12_draw_96 (by decide) ?_
        obtain ⟨w_2, ew_2, hF⟩ := gS_some hF
        refine g_iast2 (k := 310) hx hb hK hW hL (gok_o (by decide)) (fun w => gE_O1 (w := w)) (gin (by decide)) (by decide) dX12_draw_97 (fun H locs hW hL => ?_)
        rw [← ew_2] at hW
        refine lv_aload_n hx hb dX12_draw_98 rfl (lv_at hl 0 rfl) ?_
        refine rg_X12_s hx hb hts inX12 hown hK hW q7 dX12_draw_99 ?_
        refine lv_sipush (v := 312) hx hb dX12_draw_102 (by decide) ?_
        refine lv_iload_n hx hb dX12_draw_105 rfl (lv_at hl 1 rfl) ?_
        obtain ⟨w_3, ew_3, hF⟩ := gS_some hF
        refine g_iast2 (k := 312) hx hb hK hW hL (gok_o (by decide)) (fun w => gE_O1 (w := w)) (gin (by decide)) (by decide) dX12_draw_106 (fun H locs hW hL => ?_)
        rw [← ew_3] at hW
        refine lv_iload_n hx hb dX12_draw_107 rfl (lv_at hl 1 rfl) ?_
        exact g_ri hx hb hr hlocks (gW2 hF hW) hL (gI2 hF).1 dX12_draw_108
      · replace hF := gF hc_1 hF
        refine lv_aload_n hx hb dX12_draw_44 rfl (lv_at hl 0 rfl) ?_
        refine lv_iload_n hx hb dX12_draw_45 rfl (lv_at hl 2 rfl) ?_
        obtain ⟨v_5, hq_4, hF⟩ := gP_some hF
        refine g_Vi (As := [.int x2]) (rest := []) ⟨hx, hb, hml, hown, hts⟩ hK hW hL hl.1 (gok_o (by decide)) gE_O rfl (c_X12_isGone l X w x2 v_5 hq_4) k44 rfl rfl (Nat.le_of_ble_eq_true rfl) dX12_draw_46 ⟨Nat.le_of_ble_eq_true rfl, Nat.le_of_ble_eq_true rfl⟩ (fun H locs hW hL => ?_)
        refine lv_if_ne (tgt := 83) hx hb dX12_draw_49 (by decide) (fun hc_6 => ?_) (fun hc_6 => ?_)
        · replace hF := gF hc_6 hF
          obtain ⟨x2_7, ex2_7, hF⟩ := gS_some hF
          refine lv_iinc (v := x2_7) (lv' := [(2, .int x2_7), (0, .ref (gA X 8 0)), (1, .int x1)]) hx hb dX12_draw_83 hl (k := 2) rfl (by rw [ex2_7]; rfl) (by decide) rfl (fun ls hl => ?_)
          refine lv_goto (tgt := 32) hx hb dX12_draw_86 (by decide) ?_
          exact ih32 w x1 x2_7 ls (lv_sub hl [1, 2, 0] rfl) hF H locs hW hL
        · replace hF := gT hc_6 hF
          refine lv_aload_n hx hb dX12_draw_52 rfl (lv_at hl 0 rfl) ?_
          refine lv_iload_n hx hb dX12_draw_53 rfl (lv_at hl 2 rfl) ?_
          obtain ⟨v_9, hq_8, hF⟩ := gP_some hF
          refine g_Vi (As := [.int x2]) (rest := []) ⟨hx, hb, hml, hown, hts⟩ hK hW hL hl.1 (gok_o (by decide)) gE_O rfl (c_X12_entryRank l X w x2 v_9 hq_8) k98 rfl rfl (Nat.le_of_ble_eq_true rfl) dX12_draw_54 ⟨Nat.le_of_ble_eq_true rfl, Nat.le_of_ble_eq_true rfl⟩ (fun H locs hW hL => ?_)
          refine lv_istore_n (lv' := [(3, .int v_9), (0, .ref (gA X 8 0)), (1, .int x1), (2, .int x2)]) hx hb dX12_draw_57 rfl hl (by decide) rfl (fun ls hl => ?_)
          refine lv_aload_n hx hb dX12_draw_58 rfl (lv_at hl 1 rfl) ?_
          refine lv_iload_n hx hb dX12_draw_59 rfl (lv_at hl 3 rfl) ?_
          refine lv_iconst (v := 3) hx hb dX12_draw_60 (by decide) ?_
          refine lv_aload_n hx hb dX12_draw_61 rfl (lv_at hl 1 rfl) ?_
          refine rg_X12_drawn hx hb hts inX12 hown hK hW q22 dX12_draw_62 ?_
          refine lv_iload_n hx hb dX12_draw_65 rfl (lv_at hl 0 rfl) ?_
          obtain ⟨hin_10, hF⟩ := gB_some hF
          obtain ⟨k_11, ek_11⟩ : ∃ k, k = Int32.toNatClampNeg v_9 := ⟨_, rfl⟩
          rw [← ek_11] at hF
          refine g_iald2 (k := k_11) hx hb hK hW (gok_o (by decide)) (gad_lt (gok_o (by decide))) gE_O5 hin_10 ek_11.symm dX12_draw_66 ?_
          refine lv_iconst (v := 1) hx hb dX12_draw_67 (by decide) ?_
          refine lv_iadd hx hb dX12_draw_68 ?_
          obtain ⟨w_13, hq_12, hF⟩ := gP_some hF
          refine g_Vv (As := [.int x2, .int 3, .int ((w 8 5 k_11) + 1)]) (rest := []) ⟨hx, hb, hml, hown, hts⟩ hK hW hL hl.1 (gok_o (by decide)) gE_O rfl (c_X12_lay l X w x2 3 (((w 8 5 k_11) + 1)) w_13 hq_12) k81 rfl rfl (Nat.le_of_ble_eq_true rfl) dX12_draw_69 ⟨Nat.le_of_ble_eq_true rfl, Nat.le_of_ble_eq_true rfl⟩ (fun H locs hW hL => ?_)
          refine lv_aload_n hx hb dX12_draw_72 rfl (lv_at hl 1 rfl) ?_
          refine lv_iload_n hx hb dX12_draw_73 rfl (lv_at hl 3 rfl) ?_
          refine lv_iconst (v := 4) hx hb dX12_draw_74 (by decide) ?_
          refine lv_aload_n hx hb dX12_draw_75 rfl (lv_at hl 1 rfl) ?_
          refine lv_iload_n hx hb dX12_draw_76 rfl (lv_at hl 0 rfl) ?_
          obtain ⟨v_15, hq_14, hF⟩ := gP_some hF
          refine g_Vi (As := [.int v_9]) (rest := [.int 4, .int x2, .ref (gA X 8 0)]) ⟨hx, hb, hml, hown, hts⟩ hK hW hL hl.1 (gok_o (by decide)) gE_O rfl (c_X12_laneIn l X w_13 v_9 v_15 hq_14) k101 rfl rfl (Nat.le_of_ble_eq_true rfl) dX12_draw_77 ⟨Nat.le_of_ble_eq_true rfl, Nat.le_of_ble_eq_true rfl⟩ (fun H locs hW hL => ?_)
          obtain ⟨w_17, hq_16, hF⟩ := gP_some hF
          refine g_Vv (As := [.int x2, .int 4, .int v_15]) (rest := []) ⟨hx, hb, hml, hown, hts⟩ hK hW hL hl.1 (gok_o (by decide)) gE_O rfl (c_X12_lay l X w_13 x2 4 v_15 w_17 hq_16) k81 rfl rfl (Nat.le_of_ble_eq_true rfl) dX12_draw_80 ⟨Nat.le_of_ble_eq_true rfl, Nat.le_of_ble_eq_true rfl⟩ (fun H locs hW hL => ?_)
          obtain ⟨x2_18, ex2_18, hF⟩ := gS_some hF
          refine lv_iinc (v := x2_18) (lv' := [(2, .int x2_18), (3, .int v_9), (0, .ref (gA X 8 0)), (1, .int x1)]) hx hb dX12_draw_83 hl (k := 3) rfl (by rw [ex2_18]; rfl) (by decide) rfl (fun ls hl => ?_)
          refine lv_goto (tgt := 32) hx hb dX12_draw_86 (by decide) ?_
          exact ih32 w_17 x1 x2_18 ls (lv_sub hl [2, 3, 0] rfl) hF H locs hW hL
  rw [F_X12_draw] at hF
  obtain ⟨locs, hlocs⟩ : ∃ locs : List Loc, locs = [] := ⟨_, rfl⟩
  rw [← hlocs] at hL ⊢
  refine lv_aload_n hx hb dX12_draw_0 rfl (lv_at hl 0 rfl) ?_
  refine rg_X12_s hx hb hts inX12 hown hK hW q7 dX12_draw_1 ?_
  refine lv_sipush (v := 310) hx hb dX12_draw_4 (by decide) ?_
  refine g_iald2 (k := 310) hx hb hK hW (gok_o (by decide)) (gad_lt (gok_o (by decide))) gE_O1 (gin (by decide)) (by decide) dX12_draw_7 ?_
  refine lv_if_ne (tgt := 18) hx hb dX12_draw_8 (by decide) (fun hc_19 => ?_) (fun hc_19 => ?_)
  · replace hF := gF hc_19 hF
    refine lv_ldc hx hb hown q76 dX12_draw_18 ?_
    exact g_ri hx hb hr hlocks (gW2 hF hW) hL (gI2 hF).1 dX12_draw_20
  · replace hF := gT hc_19 hF
    refine lv_aload_n hx hb dX12_draw_11 rfl (lv_at hl 0 rfl) ?_
    obtain ⟨v_21, hq_20, hF⟩ := gP_some hF
    refine g_Vi (As := []) (rest := []) ⟨hx, hb, hml, hown, hts⟩ hK hW hL hl.1 (gok_o (by decide)) gE_O rfl (c_X12_present l X w  v_21 hq_20) k66 rfl rfl (Nat.le_of_ble_eq_true rfl) dX12_draw_12 ⟨Nat.le_of_ble_eq_true rfl, Nat.le_of_ble_eq_true rfl⟩ (fun H locs hW hL => ?_)
    refine lv_if_ne (tgt := 21) hx hb dX12_draw_15 (by decide) (fun hc_22 => ?_) (fun hc_22 => ?_)
    · replace hF := gF hc_22 hF
      refine lv_aload_n hx hb dX12_draw_21 rfl (lv_at hl 0 rfl) ?_
      obtain ⟨w_24, hq_23, hF⟩ := gP_some hF
      refine g_Vv (As := []) (rest := []) ⟨hx, hb, hml, hown, hts⟩ hK hW hL hl.1 (gok_o (by decide)) gE_O rfl (c_X12_changes l X w  w_24 hq_23) k78 rfl rfl (Nat.le_of_ble_eq_true rfl) dX12_draw_22 ⟨Nat.le_of_ble_eq_true rfl, Nat.le_of_ble_eq_true rfl⟩ (fun H locs hW hL => ?_)
      refine lv_aload_n hx hb dX12_draw_25 rfl (lv_at hl 0 rfl) ?_
      obtain ⟨v_26, w_27, hq_25, hF⟩ := gC_some hF
      refine g_Vi (As := []) (rest := []) ⟨hx, hb, hml, hown, hts⟩ hK hW hL hl.1 (gok_o (by decide)) gE_O rfl (c_X12_plans l X w_24  v_26 w_27 hq_25) k95 rfl rfl (Nat.le_of_ble_eq_true rfl) dX12_draw_26 ⟨Nat.le_of_ble_eq_true rfl, Nat.le_of_ble_eq_true rfl⟩ (fun H locs hW hL => ?_)
      refine lv_istore_n (lv' := [(1, .int v_26), (0, .ref (gA X 8 0))]) hx hb dX12_draw_29 rfl hl (by decide) rfl (fun ls hl => ?_)
      refine lv_iconst (v := 0) hx hb dX12_draw_30 (by decide) ?_
      refine lv_istore_n (lv' := [(2, .int 0), (1, .int v_26), (0, .ref (gA X 8 0))]) hx hb dX12_draw_31 rfl hl (by decide) rfl (fun ls hl => ?_)
      exact L_32 gFU w_27 v_26 0 ls (lv_sub hl [2, 1, 0] rfl) hF H locs hW hL
    · replace hF := gT hc_22 hF
      refine lv_ldc hx hb hown q76 dX12_draw_18 ?_
      exact g_ri hx hb hr hlocks (gW2 hF hW) hL (gI2 hF).1 dX12_draw_20
abbrev rmX12_timeNow : Room := { frames := 0, cells := 0, slots := 0, locals := 0 }
abbrev wsX12_timeNow : List Cond := gws yX12_timeNow cX12_timeNow 1 (some .int)
set_option maxHeartbeats 4000000 in
set_option maxRecDepth 100000 in
theorem c_X12_timeNow (l : Launch) (X : gX) (w : gWd)  (r : Int32) (hF : F_X12_timeNow w = some r) : Met l yX12_timeNow wsX12_timeNow rmX12_timeNow (gPc X [.ref (gA X 8 0)] w) (gQi X r w) 0 0 (gFr X) := by
  refine g_ofW (cc := cX12_timeNow) (maxL := 1) (ret := (some .int)) (by decide) rfl (Nat.le_of_ble_eq_true rfl) (fun p e s m args below meth c ls H hx hb hr hts hown hlocks hml hK hl hW => ?_)
  have hl : lv_has ls 1 [(0, .ref (gA X 8 0))] := hl
  have hown : s.vm.findClass RX12 = some m.cls := hown
  have hL : gLo X [] := gLo_nil
  show W p l e rmX12_timeNow s m args below meth c H [] 0 0 _ _
  have inX12 : ∀ w ∈ wsX120, w ∈ wsX12_timeNow := fun w h => List.mem_cons_of_mem _ (inlX12 w h)
  have q7 := hts _ (List.mem_cons_of_mem _ wq_X12_7)
  rw [F_X12_timeNow] at hF
  obtain ⟨locs, hlocs⟩ : ∃ locs : List Loc, locs = [] := ⟨_, rfl⟩
  rw [← hlocs] at hL ⊢
  refine lv_aload_n hx hb dX12_timeNow_0 rfl (lv_at hl 0 rfl) ?_
  refine rg_X12_s hx hb hts inX12 hown hK hW q7 dX12_timeNow_1 ?_
  refine lv_sipush (v := 310) hx hb dX12_timeNow_4 (by decide) ?_
  refine g_iald2 (k := 310) hx hb hK hW (gok_o (by decide)) (gad_lt (gok_o (by decide))) gE_O1 (gin (by decide)) (by decide) dX12_timeNow_7 ?_
  refine lv_iconst (v := 1) hx hb dX12_timeNow_8 (by decide) ?_
  refine lv_icmp_ne (tgt := 16) hx hb dX12_timeNow_9 (by decide) (fun hc_1 => ?_) (fun hc_1 => ?_)
  · replace hF := gF hc_1 hF
    refine lv_bipush (v := 7) hx hb dX12_timeNow_16 (by decide) ?_
    exact g_ri hx hb hr hlocks hW hL (Option.some.inj hF) dX12_timeNow_18
  · replace hF := gT hc_1 hF
    refine lv_iconst (v := 5) hx hb dX12_timeNow_12 (by decide) ?_
    refine lv_goto (tgt := 18) hx hb dX12_timeNow_13 (by decide) ?_
    exact g_ri hx hb hr hlocks hW hL (Option.some.inj hF) dX12_timeNow_18
abbrev rmX12_isAsked : Room := { frames := 2, cells := 0, slots := 0, locals := 43 }
abbrev wsX12_isAsked : List Cond := gws yX12_isAsked cX12_isAsked 2 (some .boolean)
set_option maxHeartbeats 4000000 in
set_option maxRecDepth 100000 in
theorem c_X12_isAsked (l : Launch) (X : gX) (w : gWd) (x1 : Int32) (r : Int32) (hF : F_X12_isAsked w x1 = some r) : Met l yX12_isAsked wsX12_isAsked rmX12_isAsked (gPc X [.ref (gA X 8 0), .int x1] w) (gQi X r w) 0 0 (gFr X) := by
  refine g_ofW (cc := cX12_isAsked) (maxL := 2) (ret := (some .boolean)) (by decide) rfl (Nat.le_of_ble_eq_true rfl) (fun p e s m args below meth c ls H hx hb hr hts hown hlocks hml hK hl hW => ?_)
  have hl : lv_has ls 2 [(0, .ref (gA X 8 0)), (1, .int x1)] := hl
  have hown : s.vm.findClass RX12 = some m.cls := hown
  have hL : gLo X [] := gLo_nil
  show W p l e rmX12_isAsked s m args below meth c H [] 0 0 _ _
  have inX12 : ∀ w ∈ wsX120, w ∈ wsX12_isAsked := fun w h => List.mem_cons_of_mem _ (inlX12 w h)
  have q7 := hts _ (List.mem_cons_of_mem _ wq_X12_7)
  have k40 : CallW rmX12_isAsked s args RX12 RX12 40 yX12_of cX12_of 3 (some .int) wsX12_of rmX12_of 0 0 2 := cwV 2 hts (gGoodV (fun w h => List.mem_cons_of_mem _ h) wk_X12_40) rfl rfl rfl (by decide +kernel) ⟨Nat.le_of_ble_eq_true rfl, Nat.le_of_ble_eq_true rfl⟩
  have k44 : CallW rmX12_isAsked s args RX12 RX12 44 yX12_isGone cX12_isGone 2 (some .boolean) wsX12_isGone rmX12_isGone 0 0 1 := cwV 1 hts (gGoodV (fun w h => List.mem_cons_of_mem _ h) wk_X12_44) rfl rfl rfl (by decide +kernel) ⟨Nat.le_of_ble_eq_true rfl, Nat.le_of_ble_eq_true rfl⟩
  have B_51 : ∀   (ls : Array Slot) (hl : lv_has ls 2 []) (hF : F_X12_isAsked_51 w = some r) (H : Heap) (locs : List Loc) (hW : gWo X 251 (gE X w) H) (hL : gLo X locs), W p l e rmX12_isAsked s m args below meth c H locs 0 0 (MQ below (gQi X r w) args s 0 0 (gFr X)) (F0 m 51 ls []) := by
    intro ls hl hF H locs hW hL
    rw [F_X12_isAsked_51] at hF
    refine lv_iconst (v := 1) hx hb dX12_isAsked_51 (by decide) ?_
    refine lv_goto (tgt := 56) hx hb dX12_isAsked_52 (by decide) ?_
    exact g_rz hx hb hr hlocks hW hL (Or.inr rfl) (Option.some.inj hF) dX12_isAsked_56
  have B_55 : ∀   (ls : Array Slot) (hl : lv_has ls 2 []) (hF : F_X12_isAsked_55 w = some r) (H : Heap) (locs : List Loc) (hW : gWo X 251 (gE X w) H) (hL : gLo X locs), W p l e rmX12_isAsked s m args below meth c H locs 0 0 (MQ below (gQi X r w) args s 0 0 (gFr X)) (F0 m 55 ls []) := by
    intro ls hl hF H locs hW hL
    rw [F_X12_isAsked_55] at hF
    refine lv_iconst (v := 0) hx hb dX12_isAsked_55 (by decide) ?_
    exact g_rz hx hb hr hlocks hW hL (Or.inl rfl) (Option.some.inj hF) dX12_isAsked_56
  have B_29 : ∀ (x1 : Int32)  (ls : Array Slot) (hl : lv_has ls 2 [(0, .ref (gA X 8 0)), (1, .int x1)]) (hF : F_X12_isAsked_29 w x1 = some r) (H : Heap) (locs : List Loc) (hW : gWo X 251 (gE X w) H) (hL : gLo X locs), W p l e rmX12_isAsked s m args below meth c H locs 0 0 (MQ below (gQi X r w) args s 0 0 (gFr X)) (F0 m 29 ls []) := by
    intro x1 ls hl hF H locs hW hL
    rw [F_X12_isAsked_29] at hF
    refine lv_aload_n hx hb dX12_isAsked_29 rfl (lv_at hl 0 rfl) ?_
    refine rg_X12_s hx hb hts inX12 hown hK hW q7 dX12_isAsked_30 ?_
    refine lv_sipush (v := 310) hx hb dX12_isAsked_33 (by decide) ?_
    refine g_iald2 (k := 310) hx hb hK hW (gok_o (by decide)) (gad_lt (gok_o (by decide))) gE_O1 (gin (by decide)) (by decide) dX12_isAsked_36 ?_
    refine lv_iconst (v := 2) hx hb dX12_isAsked_37 (by decide) ?_
    refine lv_icmp_ne (tgt := 55) hx hb dX12_isAsked_38 (by decide) (fun hc_1 => ?_) (fun hc_1 => ?_)
    · replace hF := gF hc_1 hF
      exact B_55  ls (lv_sub hl [] rfl) hF H locs hW hL
    · replace hF := gT hc_1 hF
      refine lv_aload_n hx hb dX12_isAsked_41 rfl (lv_at hl 0 rfl) ?_
      refine lv_iload_n hx hb dX12_isAsked_42 rfl (lv_at hl 1 rfl) ?_
      refine lv_bipush (v := 6) hx hb dX12_isAsked_43 (by decide) ?_
      obtain ⟨v_3, hq_2, hF⟩ := gP_some hF
      refine g_Vi (As := [.int x1, .int 6]) (rest := []) ⟨hx, hb, hml, hown, hts⟩ hK hW hL hl.1 (gok_o (by decide)) gE_O rfl (c_X12_of l X w x1 6 v_3 hq_2) k40 rfl rfl (Nat.le_of_ble_eq_true rfl) dX12_isAsked_45 ⟨Nat.le_of_ble_eq_true rfl, Nat.le_of_ble_eq_true rfl⟩ (fun H locs hW hL => ?_)
      refine lv_if_le (tgt := 55) hx hb dX12_isAsked_48 (by decide) (fun hc_4 => ?_) (fun hc_4 => ?_)
      · replace hF := gT hc_4 hF
        exact B_55  ls (lv_sub hl [] rfl) hF H locs hW hL
      · replace hF := gF hc_4 hF
        exact B_51  ls (lv_sub hl [] rfl) hF H locs hW hL
  rw [F_X12_isAsked] at hF
  obtain ⟨locs, hlocs⟩ : ∃ locs : List Loc, locs = [] := ⟨_, rfl⟩
  rw [← hlocs] at hL ⊢
  refine lv_aload_n hx hb dX12_isAsked_0 rfl (lv_at hl 0 rfl) ?_
  refine lv_iload_n hx hb dX12_isAsked_1 rfl (lv_at hl 1 rfl) ?_
  obtain ⟨v_6, hq_5, hF⟩ := gP_some hF
  refine g_Vi (As := [.int x1]) (rest := []) ⟨hx, hb, hml, hown, hts⟩ hK hW hL hl.1 (gok_o (by decide)) gE_O rfl (c_X12_isGone l X w x1 v_6 hq_5) k44 rfl rfl (Nat.le_of_ble_eq_true rfl) dX12_isAsked_2 ⟨Nat.le_of_ble_eq_true rfl, Nat.le_of_ble_eq_true rfl⟩ (fun H locs hW hL => ?_)
  refine lv_if_ne (tgt := 55) hx hb dX12_isAsked_5 (by decide) (fun hc_7 => ?_) (fun hc_7 => ?_)
  · replace hF := gF hc_7 hF
    exact B_55  ls (lv_sub hl [] rfl) hF H locs hW hL
  · replace hF := gT hc_7 hF
    refine lv_aload_n hx hb dX12_isAsked_8 rfl (lv_at hl 0 rfl) ?_
    refine rg_X12_s hx hb hts inX12 hown hK hW q7 dX12_isAsked_9 ?_
    refine lv_sipush (v := 310) hx hb dX12_isAsked_12 (by decide) ?_
    refine g_iald2 (k := 310) hx hb hK hW (gok_o (by decide)) (gad_lt (gok_o (by decide))) gE_O1 (gin (by decide)) (by decide) dX12_isAsked_15 ?_
    refine lv_iconst (v := 1) hx hb dX12_isAsked_16 (by decide) ?_
    refine lv_icmp_ne (tgt := 29) hx hb dX12_isAsked_17 (by decide) (fun hc_8 => ?_) (fun hc_8 => ?_)
    · replace hF := gF hc_8 hF
      exact B_29 x1 ls (hl) hF H locs hW hL
    · replace hF := gT hc_8 hF
      refine lv_aload_n hx hb dX12_isAsked_20 rfl (lv_at hl 0 rfl) ?_
      refine lv_iload_n hx hb dX12_isAsked_21 rfl (lv_at hl 1 rfl) ?_
      refine lv_iconst (v := 3) hx hb dX12_isAsked_22 (by decide) ?_
      obtain ⟨v_10, hq_9, hF⟩ := gP_some hF
      refine g_Vi (As := [.int x1, .int 3]) (rest := []) ⟨hx, hb, hml, hown, hts⟩ hK hW hL hl.1 (gok_o (by decide)) gE_O rfl (c_X12_of l X w x1 3 v_10 hq_9) k40 rfl rfl (Nat.le_of_ble_eq_true rfl) dX12_isAsked_23 ⟨Nat.le_of_ble_eq_true rfl, Nat.le_of_ble_eq_true rfl⟩ (fun H locs hW hL => ?_)
      refine lv_if_gt (tgt := 51) hx hb dX12_isAsked_26 (by decide) (fun hc_11 => ?_) (fun hc_11 => ?_)
      · replace hF := gT hc_11 hF
        exact B_51  ls (lv_sub hl [] rfl) hF H locs hW hL
      · replace hF := gF hc_11 hF
        exact B_29 x1 ls (hl) hF H locs hW hL
abbrev rmX12_swim : Room := { frames := 3, cells := 0, slots := 0, locals := 64 }
abbrev wsX12_swim : List Cond := gws yX12_swim cX12_swim 6 (some .int)
set_option maxHeartbeats 4000000 in
set_option maxRecDepth 100000 in
theorem c_X12_swim (l : Launch) (X : gX) (w : gWd) (x1 : Int32) (x2 : Int32) (r : Int32) (w' : gWd) (hF : F_X12_swim w x1 x2 = some (r, w')) : Met l yX12_swim wsX12_swim rmX12_swim (gPc X [.ref (gA X 8 0), .int x1, .int x2] w) (gQi X r w') 0 0 (gFr X) := by
  refine g_ofW (cc := cX12_swim) (maxL := 6) (ret := (some .int)) (by decide) rfl (Nat.le_of_ble_eq_true rfl) (fun p e s m args below meth c ls H hx hb hr hts hown hlocks hml hK hl hW => ?_)
  have hl : lv_has ls 6 [(0, .ref (gA X 8 0)), (1, .int x1), (2, .int x2)] := hl
  have hown : s.vm.findClass RX12 = some m.cls := hown
  have hL : gLo X [] := gLo_nil
  show W p l e rmX12_swim s m args below meth c H [] 0 0 _ _
  have inX12 : ∀ w ∈ wsX120, w ∈ wsX12_swim := fun w h => List.mem_cons_of_mem _ (inlX12 w h)
  have q7 := hts _ (List.mem_cons_of_mem _ wq_X12_7)
  have q75 := hts _ (List.mem_cons_of_mem _ wq_X12_75)
  have q76 := hts _ (List.mem_cons_of_mem _ wq_X12_76)
  have k104 : CallW rmX12_swim s args RX12 RX12 104 yX12_isAsked cX12_isAsked 2 (some .boolean) wsX12_isAsked rmX12_isAsked 0 0 1 := cwV 1 hts (gGoodV (fun w h => List.mem_cons_of_mem _ h) wk_X12_104) rfl rfl rfl (by decide +kernel) ⟨Nat.le_of_ble_eq_true rfl, Nat.le_of_ble_eq_true rfl⟩
  have k107 : CallW rmX12_swim s args RX12 RX12 107 yX12_timeNow cX12_timeNow 1 (some .int) wsX12_timeNow rmX12_timeNow 0 0 0 := cwV 0 hts (gGoodV (fun w h => List.mem_cons_of_mem _ h) wk_X12_107) rfl rfl rfl (by decide +kernel) ⟨Nat.le_of_ble_eq_true rfl, Nat.le_of_ble_eq_true rfl⟩
  have k36 : CallB rmX12_swim s args RX12 36 yX12_in cX12_in 3 (some .boolean) wsX12_in rmX12_in 0 0 3 ∧ (Cond.static yX12_in).before args s = true := va_cwS 3 hts (gGoodS (fun w h => List.mem_cons_of_mem _ h) wk_X12_36) rfl rfl rfl (by decide +kernel) ⟨Nat.le_of_ble_eq_true rfl, Nat.le_of_ble_eq_true rfl⟩
  have k40 : CallW rmX12_swim s args RX12 RX12 40 yX12_of cX12_of 3 (some .int) wsX12_of rmX12_of 0 0 2 := cwV 2 hts (gGoodV (fun w h => List.mem_cons_of_mem _ h) wk_X12_40) rfl rfl rfl (by decide +kernel) ⟨Nat.le_of_ble_eq_true rfl, Nat.le_of_ble_eq_true rfl⟩
  have k78 : CallW rmX12_swim s args RX12 RX12 78 yX12_changes cX12_changes 2 none wsX12_changes rmX12_changes 0 0 0 := cwV 0 hts (gGoodV (fun w h => List.mem_cons_of_mem _ h) wk_X12_78) rfl rfl rfl (by decide +kernel) ⟨Nat.le_of_ble_eq_true rfl, Nat.le_of_ble_eq_true rfl⟩
  have k81 : CallW rmX12_swim s args RX12 RX12 81 yX12_lay cX12_lay 4 none wsX12_lay rmX12_lay 0 0 3 := cwV 3 hts (gGoodV (fun w h => List.mem_cons_of_mem _ h) wk_X12_81) rfl rfl rfl (by decide +kernel) ⟨Nat.le_of_ble_eq_true rfl, Nat.le_of_ble_eq_true rfl⟩
  have k89 : CallW rmX12_swim s args RX12 RX12 89 yX12_isSwimmer cX12_isSwimmer 2 (some .boolean) wsX12_isSwimmer rmX12_isSwimmer 0 0 1 := cwV 1 hts (gGoodV (fun w h => List.mem_cons_of_mem _ h) wk_X12_89) rfl rfl rfl (by decide +kernel) ⟨Nat.le_of_ble_eq_true rfl, Nat.le_of_ble_eq_true rfl⟩
  have L_104 : ∀ (fu : Nat) (w : gWd) (x2 : Int32) (x3 : Int32) (x4 : Int32)  (ls : Array Slot) (hl : lv_has ls 6 [(0, .ref (gA X 8 0)), (2, .int x2), (3, .int x3), (4, .int x4)]) (hF : F_X12_swim_104 fu w x2 x3 x4 = some (r, w')) (H : Heap) (locs : List Loc) (hW : gWo X 251 (gE X w) H) (hL : gLo X locs), W p l e rmX12_swim s m args below meth c H locs 0 0 (MQ below (gQi X r w') args s 0 0 (gFr X)) (F0 m 104 ls []) := by
    intro fu
    induction fu with
    | zero => intro w x2 x3 x4 ls hl hF H locs hW hL; rw [F_X12_swim_104_z] at hF; cases hF
    | succ fu104 ih104 =>
      have B_147 : ∀ (w : gWd) (x2 : Int32) (x4 : Int32) (xs0 : Int32)  (ls : Array Slot) (hl : lv_has ls 6 [(0, .ref (gA X 8 0)), (2, .int x2), (4, .int x4)]) (hF : F_X12_swim_147 (F_X12_swim_104 fu104) w x2 x4 xs0 = some (r, w')) (H : Heap) (locs : List Loc) (hW : gWo X 251 (gE X w) H) (hL : gLo X locs), W p l e rmX12_swim s m args below meth c H locs 0 0 (MQ below (gQi X r w') args s 0 0 (gFr X)) (F0 m 147 ls [.int xs0]) := by
        intro w x2 x4 xs0 ls hl hF H locs hW hL
        rw [F_X12_swim_147] at hF
        refine lv_iconst (v := 0) hx hb dX12_swim_147 (by decide) ?_
        refine lv_iadd hx hb dX12_swim_148 ?_
        obtain ⟨x3_26, ex3_26, hF⟩ := gS_some hF
        refine g_top ex3_26 ?_
        refine lv_istore_n (lv' := [(3, .int x3_26), (0, .ref (gA X 8 0)), (2, .int x2), (4, .int x4)]) hx hb dX12_swim_149 rfl hl (by decide) rfl (fun ls hl => ?_)
        obtain ⟨x4_27, ex4_27, hF⟩ := gS_some hF
        refine lv_iinc (v := x4_27) (lv' := [(4, .int x4_27), (3, .int x3_26), (0, .ref (gA X 8 0)), (2, .int x2)]) hx hb dX12_swim_150 hl (k := 3) rfl (by rw [ex4_27]; rfl) (by decide) rfl (fun ls hl => ?_)
        refine lv_goto (tgt := 104) hx hb dX12_swim_153 (by decide) ?_
        exact ih104 w x2 x3_26 x4_27 ls (lv_sub hl [2, 3, 1, 0] rfl) hF H locs hW hL
      intro w x2 x3 x4 ls hl hF H locs hW hL
      rw [F_X12_swim_104_s] at hF
      refine lv_iload hx hb dX12_swim_104 (lv_at hl 3 rfl) ?_
      refine lv_aload_n hx hb dX12_swim_106 rfl (lv_at hl 0 rfl) ?_
      refine rg_X12_s hx hb hts inX12 hown hK hW q7 dX12_swim_107 ?_
      refine lv_sipush (v := 311) hx hb dX12_swim_110 (by decide) ?_
      refine g_iald2 (k := 311) hx hb hK hW (gok_o (by decide)) (gad_lt (gok_o (by decide))) gE_O1 (gin (by decide)) (by decide) dX12_swim_113 ?_
      refine lv_icmp_ge (tgt := 156) hx hb dX12_swim_114 (by decide) (fun hc_15 => ?_) (fun hc_15 => ?_)
      · replace hF := gT hc_15 hF
        refine lv_iload_n hx hb dX12_swim_156 rfl (lv_at hl 1 rfl) ?_
        refine lv_if_ne (tgt := 165) hx hb dX12_swim_157 (by decide) (fun hc_16 => ?_) (fun hc_16 => ?_)
        · replace hF := gF hc_16 hF
          refine lv_iload_n hx hb dX12_swim_165 rfl (lv_at hl 2 rfl) ?_
          exact g_ri hx hb hr hlocks (gW2 hF hW) hL (gI2 hF).1 dX12_swim_166
        · replace hF := gT hc_16 hF
          refine lv_bipush (v := 100) hx hb dX12_swim_160 (by decide) ?_
          refine lv_goto (tgt := 166) hx hb dX12_swim_162 (by decide) ?_
          exact g_ri hx hb hr hlocks (gW2 hF hW) hL (gI2 hF).1 dX12_swim_166
      · replace hF := gF hc_15 hF
        refine lv_aload_n hx hb dX12_swim_117 rfl (lv_at hl 0 rfl) ?_
        refine lv_iload hx hb dX12_swim_118 (lv_at hl 3 rfl) ?_
        refine lv_aload_n hx hb dX12_swim_120 rfl (lv_at hl 0 rfl) ?_
        obtain ⟨v_18, hq_17, hF⟩ := gP_some hF
        refine g_Vi (As := []) (rest := [.int x4, .ref (gA X 8 0)]) ⟨hx, hb, hml, hown, hts⟩ hK hW hL hl.1 (gok_o (by decide)) gE_O rfl (c_X12_timeNow l X w  v_18 hq_17) k107 rfl rfl (Nat.le_of_ble_eq_true rfl) dX12_swim_121 ⟨Nat.le_of_ble_eq_true rfl, Nat.le_of_ble_eq_true rfl⟩ (fun H locs hW hL => ?_)
        obtain ⟨v_20, hq_19, hF⟩ := gP_some hF
        refine g_Vi (As := [.int x4, .int v_18]) (rest := []) ⟨hx, hb, hml, hown, hts⟩ hK hW hL hl.1 (gok_o (by decide)) gE_O rfl (c_X12_of l X w x4 v_18 v_20 hq_19) k40 rfl rfl (Nat.le_of_ble_eq_true rfl) dX12_swim_124 ⟨Nat.le_of_ble_eq_true rfl, Nat.le_of_ble_eq_true rfl⟩ (fun H locs hW hL => ?_)
        refine lv_iconst (v := 1) hx hb dX12_swim_127 (by decide) ?_
        refine lv_isub hx hb dX12_swim_128 ?_
        obtain ⟨x5_21, ex5_21, hF⟩ := gS_some hF
        refine g_top ex5_21 ?_
        refine lv_istore (lv' := [(5, .int x5_21), (0, .ref (gA X 8 0)), (2, .int x2), (3, .int x3), (4, .int x4)]) hx hb dX12_swim_129 hl (by decide) rfl (fun ls hl => ?_)
        refine lv_iload_n hx hb dX12_swim_131 rfl (lv_at hl 3 rfl) ?_
        refine lv_iload hx hb dX12_swim_132 (lv_at hl 0 rfl) ?_
        refine lv_if_le (tgt := 147) hx hb dX12_swim_134 (by decide) (fun hc_22 => ?_) (fun hc_22 => ?_)
        · replace hF := gT hc_22 hF
          exact B_147 w x2 x4 x3 ls (lv_sub hl [1, 2, 4] rfl) hF H locs hW hL
        · replace hF := gF hc_22 hF
          refine lv_iload hx hb dX12_swim_137 (lv_at hl 0 rfl) ?_
          refine lv_iload_n hx hb dX12_swim_139 rfl (lv_at hl 2 rfl) ?_
          refine lv_icmp_ge (tgt := 147) hx hb dX12_swim_140 (by decide) (fun hc_23 => ?_) (fun hc_23 => ?_)
          · replace hF := gT hc_23 hF
            exact B_147 w x2 x4 x3 ls (lv_sub hl [1, 2, 4] rfl) hF H locs hW hL
          · replace hF := gF hc_23 hF
            refine lv_iconst (v := 1) hx hb dX12_swim_143 (by decide) ?_
            refine lv_goto (tgt := 148) hx hb dX12_swim_144 (by decide) ?_
            refine lv_iadd hx hb dX12_swim_148 ?_
            obtain ⟨x3_24, ex3_24, hF⟩ := gS_some hF
            refine g_top ex3_24 ?_
            refine lv_istore_n (lv' := [(3, .int x3_24), (5, .int x5_21), (0, .ref (gA X 8 0)), (2, .int x2), (4, .int x4)]) hx hb dX12_swim_149 rfl hl (by decide) rfl (fun ls hl => ?_)
            obtain ⟨x4_25, ex4_25, hF⟩ := gS_some hF
            refine lv_iinc (v := x4_25) (lv' := [(4, .int x4_25), (3, .int x3_24), (5, .int x5_21), (0, .ref (gA X 8 0)), (2, .int x2)]) hx hb dX12_swim_150 hl (k := 4) rfl (by rw [ex4_25]; rfl) (by decide) rfl (fun ls hl => ?_)
            refine lv_goto (tgt := 104) hx hb dX12_swim_153 (by decide) ?_
            exact ih104 w x2 x3_24 x4_25 ls (lv_sub hl [3, 4, 1, 0] rfl) hF H locs hW hL
  have B_81 : ∀ (w : gWd) (x1 : Int32) (x2 : Int32)  (ls : Array Slot) (hl : lv_has ls 6 [(0, .ref (gA X 8 0)), (1, .int x1), (2, .int x2)]) (hF : F_X12_swim_81 w x1 x2 = some (r, w')) (H : Heap) (locs : List Loc) (hW : gWo X 251 (gE X w) H) (hL : gLo X locs), W p l e rmX12_swim s m args below meth c H locs 0 0 (MQ below (gQi X r w') args s 0 0 (gFr X)) (F0 m 81 ls []) := by
    intro w x1 x2 ls hl hF H locs hW hL
    rw [F_X12_swim_81] at hF
    refine lv_aload_n hx hb dX12_swim_81 rfl (lv_at hl 0 rfl) ?_
    refine rg_X12_s hx hb hts inX12 hown hK hW q7 dX12_swim_82 ?_
    refine lv_sipush (v := 314) hx hb dX12_swim_85 (by decide) ?_
    refine lv_iload_n hx hb dX12_swim_88 rfl (lv_at hl 2 rfl) ?_
    obtain ⟨w_13, ew_13, hF⟩ := gS_some hF
    refine g_iast2 (k := 314) hx hb hK hW hL (gok_o (by decide)) (fun w => gE_O1 (w := w)) (gin (by decide)) (by decide) dX12_swim_89 (fun H locs hW hL => ?_)
    rw [← ew_13] at hW
    refine lv_aload_n hx hb dX12_swim_90 rfl (lv_at hl 0 rfl) ?_
    refine rg_X12_s hx hb hts inX12 hown hK hW q7 dX12_swim_91 ?_
    refine lv_sipush (v := 315) hx hb dX12_swim_94 (by decide) ?_
    refine lv_iload_n hx hb dX12_swim_97 rfl (lv_at hl 1 rfl) ?_
    obtain ⟨w_14, ew_14, hF⟩ := gS_some hF
    refine g_iast2 (k := 315) hx hb hK hW hL (gok_o (by decide)) (fun w => gE_O1 (w := w)) (gin (by decide)) (by decide) dX12_swim_98 (fun H locs hW hL => ?_)
    rw [← ew_14] at hW
    refine lv_iconst (v := 0) hx hb dX12_swim_99 (by decide) ?_
    refine lv_istore_n (lv' := [(3, .int 0), (0, .ref (gA X 8 0)), (1, .int x1), (2, .int x2)]) hx hb dX12_swim_100 rfl hl (by decide) rfl (fun ls hl => ?_)
    refine lv_iconst (v := 0) hx hb dX12_swim_101 (by decide) ?_
    refine lv_istore (lv' := [(4, .int 0), (3, .int 0), (0, .ref (gA X 8 0)), (1, .int x1), (2, .int x2)]) hx hb dX12_swim_102 hl (by decide) rfl (fun ls hl => ?_)
    exact L_104 gFU w_14 x2 0 0 ls (lv_sub hl [2, 4, 1, 0] rfl) hF H locs hW hL
  have B_27 : ∀ (w : gWd) (x1 : Int32) (x2 : Int32)  (ls : Array Slot) (hl : lv_has ls 6 [(0, .ref (gA X 8 0)), (1, .int x1), (2, .int x2)]) (hF : F_X12_swim_27 w x1 x2 = some (r, w')) (H : Heap) (locs : List Loc) (hW : gWo X 251 (gE X w) H) (hL : gLo X locs), W p l e rmX12_swim s m args below meth c H locs 0 0 (MQ below (gQi X r w') args s 0 0 (gFr X)) (F0 m 27 ls []) := by
    intro w x1 x2 ls hl hF H locs hW hL
    rw [F_X12_swim_27] at hF
    refine lv_aload_n hx hb dX12_swim_27 rfl (lv_at hl 0 rfl) ?_
    refine lv_iload_n hx hb dX12_swim_28 rfl (lv_at hl 1 rfl) ?_
    obtain ⟨v_2, hq_1, hF⟩ := gP_some hF
    refine g_Vi (As := [.int x1]) (rest := []) ⟨hx, hb, hml, hown, hts⟩ hK hW hL hl.1 (gok_o (by decide)) gE_O rfl (c_X12_isAsked l X w x1 v_2 hq_1) k104 rfl rfl (Nat.le_of_ble_eq_true rfl) dX12_swim_29 ⟨Nat.le_of_ble_eq_true rfl, Nat.le_of_ble_eq_true rfl⟩ (fun H locs hW hL => ?_)
    refine lv_if_ne (tgt := 38) hx hb dX12_swim_32 (by decide) (fun hc_3 => ?_) (fun hc_3 => ?_)
    · replace hF := gF hc_3 hF
      refine lv_aload_n hx hb dX12_swim_38 rfl (lv_at hl 0 rfl) ?_
      obtain ⟨w_5, hq_4, hF⟩ := gP_some hF
      refine g_Vv (As := []) (rest := []) ⟨hx, hb, hml, hown, hts⟩ hK hW hL hl.1 (gok_o (by decide)) gE_O rfl (c_X12_changes l X w  w_5 hq_4) k78 rfl rfl (Nat.le_of_ble_eq_true rfl) dX12_swim_39 ⟨Nat.le_of_ble_eq_true rfl, Nat.le_of_ble_eq_true rfl⟩ (fun H locs hW hL => ?_)
      refine lv_aload_n hx hb dX12_swim_42 rfl (lv_at hl 0 rfl) ?_
      refine lv_iload_n hx hb dX12_swim_43 rfl (lv_at hl 1 rfl) ?_
      refine lv_aload_n hx hb dX12_swim_44 rfl (lv_at hl 0 rfl) ?_
      obtain ⟨v_7, hq_6, hF⟩ := gP_some hF
      refine g_Vi (As := []) (rest := [.int x1, .ref (gA X 8 0)]) ⟨hx, hb, hml, hown, hts⟩ hK hW hL hl.1 (gok_o (by decide)) gE_O rfl (c_X12_timeNow l X w_5  v_7 hq_6) k107 rfl rfl (Nat.le_of_ble_eq_true rfl) dX12_swim_45 ⟨Nat.le_of_ble_eq_true rfl, Nat.le_of_ble_eq_true rfl⟩ (fun H locs hW hL => ?_)
      refine lv_iload_n hx hb dX12_swim_48 rfl (lv_at hl 2 rfl) ?_
      refine lv_iconst (v := 1) hx hb dX12_swim_49 (by decide) ?_
      refine lv_iadd hx hb dX12_swim_50 ?_
      obtain ⟨w_9, hq_8, hF⟩ := gP_some hF
      refine g_Vv (As := [.int x1, .int v_7, .int (x2 + 1)]) (rest := []) ⟨hx, hb, hml, hown, hts⟩ hK hW hL hl.1 (gok_o (by decide)) gE_O rfl (c_X12_lay l X w_5 x1 v_7 ((x2 + 1)) w_9 hq_8) k81 rfl rfl (Nat.le_of_ble_eq_true rfl) dX12_swim_51 ⟨Nat.le_of_ble_eq_true rfl, Nat.le_of_ble_eq_true rfl⟩ (fun H locs hW hL => ?_)
      refine lv_iload_n hx hb dX12_swim_54 rfl (lv_at hl 2 rfl) ?_
      refine lv_if_le (tgt := 99) hx hb dX12_swim_55 (by decide) (fun hc_10 => ?_) (fun hc_10 => ?_)
      · replace hF := gT hc_10 hF
        refine lv_iconst (v := 0) hx hb dX12_swim_99 (by decide) ?_
        refine lv_istore_n (lv' := [(3, .int 0), (0, .ref (gA X 8 0)), (1, .int x1), (2, .int x2)]) hx hb dX12_swim_100 rfl hl (by decide) rfl (fun ls hl => ?_)
        refine lv_iconst (v := 0) hx hb dX12_swim_101 (by decide) ?_
        refine lv_istore (lv' := [(4, .int 0), (3, .int 0), (0, .ref (gA X 8 0)), (1, .int x1), (2, .int x2)]) hx hb dX12_swim_102 hl (by decide) rfl (fun ls hl => ?_)
        exact L_104 gFU w_9 x2 0 0 ls (lv_sub hl [2, 4, 1, 0] rfl) hF H locs hW hL
      · replace hF := gF hc_10 hF
        refine lv_aload_n hx hb dX12_swim_58 rfl (lv_at hl 0 rfl) ?_
        refine rg_X12_s hx hb hts inX12 hown hK hW q7 dX12_swim_59 ?_
        refine lv_sipush (v := 314) hx hb dX12_swim_62 (by decide) ?_
        refine g_iald2 (k := 314) hx hb hK hW (gok_o (by decide)) (gad_lt (gok_o (by decide))) gE_O1 (gin (by decide)) (by decide) dX12_swim_65 ?_
        refine lv_if_eq (tgt := 81) hx hb dX12_swim_66 (by decide) (fun hc_11 => ?_) (fun hc_11 => ?_)
        · replace hF := gT hc_11 hF
          exact B_81 w_9 x1 x2 ls (hl) hF H locs hW hL
        · replace hF := gF hc_11 hF
          refine lv_iload_n hx hb dX12_swim_69 rfl (lv_at hl 2 rfl) ?_
          refine lv_aload_n hx hb dX12_swim_70 rfl (lv_at hl 0 rfl) ?_
          refine rg_X12_s hx hb hts inX12 hown hK hW q7 dX12_swim_71 ?_
          refine lv_sipush (v := 314) hx hb dX12_swim_74 (by decide) ?_
          refine g_iald2 (k := 314) hx hb hK hW (gok_o (by decide)) (gad_lt (gok_o (by decide))) gE_O1 (gin (by decide)) (by decide) dX12_swim_77 ?_
          refine lv_icmp_ge (tgt := 99) hx hb dX12_swim_78 (by decide) (fun hc_12 => ?_) (fun hc_12 => ?_)
          · replace hF := gT hc_12 hF
            refine lv_iconst (v := 0) hx hb dX12_swim_99 (by decide) ?_
            refine lv_istore_n (lv' := [(3, .int 0), (0, .ref (gA X 8 0)), (1, .int x1), (2, .int x2)]) hx hb dX12_swim_100 rfl hl (by decide) rfl (fun ls hl => ?_)
            refine lv_iconst (v := 0) hx hb dX12_swim_101 (by decide) ?_
            refine lv_istore (lv' := [(4, .int 0), (3, .int 0), (0, .ref (gA X 8 0)), (1, .int x1), (2, .int x2)]) hx hb dX12_swim_102 hl (by decide) rfl (fun ls hl => ?_)
            exact L_104 gFU w_9 x2 0 0 ls (lv_sub hl [2, 4, 1, 0] rfl) hF H locs hW hL
          · replace hF := gF hc_12 hF
            exact B_81 w_9 x1 x2 ls (hl) hF H locs hW hL
    · replace hF := gT hc_3 hF
      refine lv_ldc hx hb hown q76 dX12_swim_35 ?_
      exact g_ri hx hb hr hlocks (gW2 hF hW) hL (gI2 hF).1 dX12_swim_37
  rw [F_X12_swim] at hF
  obtain ⟨locs, hlocs⟩ : ∃ locs : List Loc, locs = [] := ⟨_, rfl⟩
  rw [← hlocs] at hL ⊢
  refine lv_aload_n hx hb dX12_swim_0 rfl (lv_at hl 0 rfl) ?_
  refine lv_iload_n hx hb dX12_swim_1 rfl (lv_at hl 1 rfl) ?_
  obtain ⟨v_29, hq_28, hF⟩ := gP_some hF
  refine g_Vi (As := [.int x1]) (rest := []) ⟨hx, hb, hml, hown, hts⟩ hK hW hL hl.1 (gok_o (by decide)) gE_O rfl (c_X12_isSwimmer l X w x1 v_29 hq_28) k89 rfl rfl (Nat.le_of_ble_eq_true rfl) dX12_swim_2 ⟨Nat.le_of_ble_eq_true rfl, Nat.le_of_ble_eq_true rfl⟩ (fun H locs hW hL => ?_)
  refine lv_if_eq (tgt := 24) hx hb dX12_swim_5 (by decide) (fun hc_30 => ?_) (fun hc_30 => ?_)
  · replace hF := gT hc_30 hF
    refine lv_ldc hx hb hown q75 dX12_swim_24 ?_
    exact g_ri hx hb hr hlocks (gW2 hF hW) hL (gI2 hF).1 dX12_swim_26
  · replace hF := gF hc_30 hF
    refine lv_iload_n hx hb dX12_swim_8 rfl (lv_at hl 2 rfl) ?_
    refine lv_if_eq (tgt := 27) hx hb dX12_swim_9 (by decide) (fun hc_31 => ?_) (fun hc_31 => ?_)
    · replace hF := gT hc_31 hF
      exact B_27 w x1 x2 ls (hl) hF H locs hW hL
    · replace hF := gF hc_31 hF
      refine lv_iload_n hx hb dX12_swim_12 rfl (lv_at hl 2 rfl) ?_
      refine lv_bipush (v := 100) hx hb dX12_swim_13 (by decide) ?_
      refine lv_sipush (v := 999) hx hb dX12_swim_15 (by decide) ?_
      obtain ⟨v_33, hq_32, hF⟩ := gP_some hF
      refine g_Si (As := [.int x2, .int 100, .int 999]) (rest := []) ⟨hx, hb, hml, hown, hts⟩ hK hW hL hl.1 (c_X12_in l X w x2 100 999 v_33 hq_32) k36 rfl rfl (Nat.le_of_ble_eq_true rfl) dX12_swim_18 ⟨Nat.le_of_ble_eq_true rfl, Nat.le_of_ble_eq_true rfl⟩ (fun H locs hW hL => ?_)
      refine lv_if_ne (tgt := 27) hx hb dX12_swim_21 (by decide) (fun hc_34 => ?_) (fun hc_34 => ?_)
      · replace hF := gF hc_34 hF
        exact B_27 w x1 x2 ls (hl) hF H locs hW hL
      · replace hF := gT hc_34 hF
        refine lv_ldc hx hb hown q75 dX12_swim_24 ?_
        exact g_ri hx hb hr hlocks (gW2 hF hW) hL (gI2 hF).1 dX12_swim_26
abbrev rmX12_missingOnes : Room := { frames := 3, cells := 0, slots := 0, locals := 64 }
abbrev wsX12_missingOnes : List Cond := gws yX12_missingOnes cX12_missingOnes 3 (some .int)
set_option maxHeartbeats 4000000 in
set_option maxRecDepth 100000 in
theorem c_X12_missingOnes (l : Launch) (X : gX) (w : gWd)  (r : Int32) (hF : F_X12_missingOnes w = some r) : Met l yX12_missingOnes wsX12_missingOnes rmX12_missingOnes (gPc X [.ref (gA X 8 0)] w) (gQi X r w) 0 0 (gFr X) := by
  refine g_ofW (cc := cX12_missingOnes) (maxL := 3) (ret := (some .int)) (by decide) rfl (Nat.le_of_ble_eq_true rfl) (fun p e s m args below meth c ls H hx hb hr hts hown hlocks hml hK hl hW => ?_)
  have hl : lv_has ls 3 [(0, .ref (gA X 8 0))] := hl
  have hown : s.vm.findClass RX12 = some m.cls := hown
  have hL : gLo X [] := gLo_nil
  show W p l e rmX12_missingOnes s m args below meth c H [] 0 0 _ _
  have inX12 : ∀ w ∈ wsX120, w ∈ wsX12_missingOnes := fun w h => List.mem_cons_of_mem _ (inlX12 w h)
  have q7 := hts _ (List.mem_cons_of_mem _ wq_X12_7)
  have k104 : CallW rmX12_missingOnes s args RX12 RX12 104 yX12_isAsked cX12_isAsked 2 (some .boolean) wsX12_isAsked rmX12_isAsked 0 0 1 := cwV 1 hts (gGoodV (fun w h => List.mem_cons_of_mem _ h) wk_X12_104) rfl rfl rfl (by decide +kernel) ⟨Nat.le_of_ble_eq_true rfl, Nat.le_of_ble_eq_true rfl⟩
  have k107 : CallW rmX12_missingOnes s args RX12 RX12 107 yX12_timeNow cX12_timeNow 1 (some .int) wsX12_timeNow rmX12_timeNow 0 0 0 := cwV 0 hts (gGoodV (fun w h => List.mem_cons_of_mem _ h) wk_X12_107) rfl rfl rfl (by decide +kernel) ⟨Nat.le_of_ble_eq_true rfl, Nat.le_of_ble_eq_true rfl⟩
  have k40 : CallW rmX12_missingOnes s args RX12 RX12 40 yX12_of cX12_of 3 (some .int) wsX12_of rmX12_of 0 0 2 := cwV 2 hts (gGoodV (fun w h => List.mem_cons_of_mem _ h) wk_X12_40) rfl rfl rfl (by decide +kernel) ⟨Nat.le_of_ble_eq_true rfl, Nat.le_of_ble_eq_true rfl⟩
  have L_4 : ∀ (fu : Nat) (x1 : Int32) (x2 : Int32)  (ls : Array Slot) (hl : lv_has ls 3 [(0, .ref (gA X 8 0)), (1, .int x1), (2, .int x2)]) (hF : F_X12_missingOnes_4 fu w x1 x2 = some r) (H : Heap) (locs : List Loc) (hW : gWo X 251 (gE X w) H) (hL : gLo X locs), W p l e rmX12_missingOnes s m args below meth c H locs 0 0 (MQ below (gQi X r w) args s 0 0 (gFr X)) (F0 m 4 ls []) := by
    intro fu
    induction fu with
    | zero => intro x1 x2 ls hl hF H locs hW hL; rw [F_X12_missingOnes_4_z] at hF; cases hF
    | succ fu4 ih4 =>
      have B_41 : ∀ (x2 : Int32) (xs0 : Int32)  (ls : Array Slot) (hl : lv_has ls 3 [(0, .ref (gA X 8 0)), (2, .int x2)]) (hF : F_X12_missingOnes_41 (F_X12_missingOnes_4 fu4) w x2 xs0 = some r) (H : Heap) (locs : List Loc) (hW : gWo X 251 (gE X w) H) (hL : gLo X locs), W p l e rmX12_missingOnes s m args below meth c H locs 0 0 (MQ below (gQi X r w) args s 0 0 (gFr X)) (F0 m 41 ls [.int xs0]) := by
        intro x2 xs0 ls hl hF H locs hW hL
        rw [F_X12_missingOnes_41] at hF
        refine lv_iconst (v := 0) hx hb dX12_missingOnes_41 (by decide) ?_
        refine lv_iadd hx hb dX12_missingOnes_42 ?_
        obtain ⟨x1_12, ex1_12, hF⟩ := gS_some hF
        refine g_top ex1_12 ?_
        refine lv_istore_n (lv' := [(1, .int x1_12), (0, .ref (gA X 8 0)), (2, .int x2)]) hx hb dX12_missingOnes_43 rfl hl (by decide) rfl (fun ls hl => ?_)
        obtain ⟨x2_13, ex2_13, hF⟩ := gS_some hF
        refine lv_iinc (v := x2_13) (lv' := [(2, .int x2_13), (1, .int x1_12), (0, .ref (gA X 8 0))]) hx hb dX12_missingOnes_44 hl (k := 2) rfl (by rw [ex2_13]; rfl) (by decide) rfl (fun ls hl => ?_)
        refine lv_goto (tgt := 4) hx hb dX12_missingOnes_47 (by decide) ?_
        exact ih4 x1_12 x2_13 ls (lv_sub hl [2, 1, 0] rfl) hF H locs hW hL
      intro x1 x2 ls hl hF H locs hW hL
      rw [F_X12_missingOnes_4_s] at hF
      refine lv_iload_n hx hb dX12_missingOnes_4 rfl (lv_at hl 2 rfl) ?_
      refine lv_aload_n hx hb dX12_missingOnes_5 rfl (lv_at hl 0 rfl) ?_
      refine rg_X12_s hx hb hts inX12 hown hK hW q7 dX12_missingOnes_6 ?_
      refine lv_sipush (v := 311) hx hb dX12_missingOnes_9 (by decide) ?_
      refine g_iald2 (k := 311) hx hb hK hW (gok_o (by decide)) (gad_lt (gok_o (by decide))) gE_O1 (gin (by decide)) (by decide) dX12_missingOnes_12 ?_
      refine lv_icmp_ge (tgt := 50) hx hb dX12_missingOnes_13 (by decide) (fun hc_1 => ?_) (fun hc_1 => ?_)
      · replace hF := gT hc_1 hF
        refine lv_iload_n hx hb dX12_missingOnes_50 rfl (lv_at hl 1 rfl) ?_
        exact g_ri hx hb hr hlocks hW hL (Option.some.inj hF) dX12_missingOnes_51
      · replace hF := gF hc_1 hF
        refine lv_iload_n hx hb dX12_missingOnes_16 rfl (lv_at hl 1 rfl) ?_
        refine lv_aload_n hx hb dX12_missingOnes_17 rfl (lv_at hl 0 rfl) ?_
        refine lv_iload_n hx hb dX12_missingOnes_18 rfl (lv_at hl 2 rfl) ?_
        obtain ⟨v_3, hq_2, hF⟩ := gP_some hF
        refine g_Vi (As := [.int x2]) (rest := [.int x1]) ⟨hx, hb, hml, hown, hts⟩ hK hW hL hl.1 (gok_o (by decide)) gE_O rfl (c_X12_isAsked l X w x2 v_3 hq_2) k104 rfl rfl (Nat.le_of_ble_eq_true rfl) dX12_missingOnes_19 ⟨Nat.le_of_ble_eq_true rfl, Nat.le_of_ble_eq_true rfl⟩ (fun H locs hW hL => ?_)
        refine lv_if_eq (tgt := 41) hx hb dX12_missingOnes_22 (by decide) (fun hc_4 => ?_) (fun hc_4 => ?_)
        · replace hF := gT hc_4 hF
          exact B_41 x2 x1 ls (lv_sub hl [0, 2] rfl) hF H locs hW hL
        · replace hF := gF hc_4 hF
          refine lv_aload_n hx hb dX12_missingOnes_25 rfl (lv_at hl 0 rfl) ?_
          refine lv_iload_n hx hb dX12_missingOnes_26 rfl (lv_at hl 2 rfl) ?_
          refine lv_aload_n hx hb dX12_missingOnes_27 rfl (lv_at hl 0 rfl) ?_
          obtain ⟨v_6, hq_5, hF⟩ := gP_some hF
          refine g_Vi (As := []) (rest := [.int x2, .ref (gA X 8 0), .int x1]) ⟨hx, hb, hml, hown, hts⟩ hK hW hL hl.1 (gok_o (by decide)) gE_O rfl (c_X12_timeNow l X w  v_6 hq_5) k107 rfl rfl (Nat.le_of_ble_eq_true rfl) dX12_missingOnes_28 ⟨Nat.le_of_ble_eq_true rfl, Nat.le_of_ble_eq_true rfl⟩ (fun H locs hW hL => ?_)
          obtain ⟨v_8, hq_7, hF⟩ := gP_some hF
          refine g_Vi (As := [.int x2, .int v_6]) (rest := [.int x1]) ⟨hx, hb, hml, hown, hts⟩ hK hW hL hl.1 (gok_o (by decide)) gE_O rfl (c_X12_of l X w x2 v_6 v_8 hq_7) k40 rfl rfl (Nat.le_of_ble_eq_true rfl) dX12_missingOnes_31 ⟨Nat.le_of_ble_eq_true rfl, Nat.le_of_ble_eq_true rfl⟩ (fun H locs hW hL => ?_)
          refine lv_if_ne (tgt := 41) hx hb dX12_missingOnes_34 (by decide) (fun hc_9 => ?_) (fun hc_9 => ?_)
          · replace hF := gF hc_9 hF
            exact B_41 x2 x1 ls (lv_sub hl [0, 2] rfl) hF H locs hW hL
          · replace hF := gT hc_9 hF
            refine lv_iconst (v := 1) hx hb dX12_missingOnes_37 (by decide) ?_
            refine lv_goto (tgt := 42) hx hb dX12_missingOnes_38 (by decide) ?_
            refine lv_iadd hx hb dX12_missingOnes_42 ?_
            obtain ⟨x1_10, ex1_10, hF⟩ := gS_some hF
            refine g_top ex1_10 ?_
            refine lv_istore_n (lv' := [(1, .int x1_10), (0, .ref (gA X 8 0)), (2, .int x2)]) hx hb dX12_missingOnes_43 rfl hl (by decide) rfl (fun ls hl => ?_)
            obtain ⟨x2_11, ex2_11, hF⟩ := gS_some hF
            refine lv_iinc (v := x2_11) (lv' := [(2, .int x2_11), (1, .int x1_10), (0, .ref (gA X 8 0))]) hx hb dX12_missingOnes_44 hl (k := 2) rfl (by rw [ex2_11]; rfl) (by decide) rfl (fun ls hl => ?_)
            refine lv_goto (tgt := 4) hx hb dX12_missingOnes_47 (by decide) ?_
            exact ih4 x1_10 x2_11 ls (lv_sub hl [2, 1, 0] rfl) hF H locs hW hL
  rw [F_X12_missingOnes] at hF
  obtain ⟨locs, hlocs⟩ : ∃ locs : List Loc, locs = [] := ⟨_, rfl⟩
  rw [← hlocs] at hL ⊢
  refine lv_iconst (v := 0) hx hb dX12_missingOnes_0 (by decide) ?_
  refine lv_istore_n (lv' := [(1, .int 0), (0, .ref (gA X 8 0))]) hx hb dX12_missingOnes_1 rfl hl (by decide) rfl (fun ls hl => ?_)
  refine lv_iconst (v := 0) hx hb dX12_missingOnes_2 (by decide) ?_
  refine lv_istore_n (lv' := [(2, .int 0), (1, .int 0), (0, .ref (gA X 8 0))]) hx hb dX12_missingOnes_3 rfl hl (by decide) rfl (fun ls hl => ?_)
  exact L_4 gFU 0 0 ls (lv_sub hl [2, 1, 0] rfl) hF H locs hW hL
abbrev rmX12_timed : Room := { frames := 2, cells := 0, slots := 0, locals := 43 }
abbrev wsX12_timed : List Cond := gws yX12_timed cX12_timed 3 (some .int)
set_option maxHeartbeats 4000000 in
set_option maxRecDepth 100000 in
theorem c_X12_timed (l : Launch) (X : gX) (w : gWd)  (r : Int32) (hF : F_X12_timed w = some r) : Met l yX12_timed wsX12_timed rmX12_timed (gPc X [.ref (gA X 8 0)] w) (gQi X r w) 0 0 (gFr X) := by
  refine g_ofW (cc := cX12_timed) (maxL := 3) (ret := (some .int)) (by decide) rfl (Nat.le_of_ble_eq_true rfl) (fun p e s m args below meth c ls H hx hb hr hts hown hlocks hml hK hl hW => ?_)
  have hl : lv_has ls 3 [(0, .ref (gA X 8 0))] := hl
  have hown : s.vm.findClass RX12 = some m.cls := hown
  have hL : gLo X [] := gLo_nil
  show W p l e rmX12_timed s m args below meth c H [] 0 0 _ _
  have inX12 : ∀ w ∈ wsX120, w ∈ wsX12_timed := fun w h => List.mem_cons_of_mem _ (inlX12 w h)
  have q7 := hts _ (List.mem_cons_of_mem _ wq_X12_7)
  have k52 : CallW rmX12_timed s args RX12 RX12 52 yX12_hasTime cX12_hasTime 2 (some .boolean) wsX12_hasTime rmX12_hasTime 0 0 1 := cwV 1 hts (gGoodV (fun w h => List.mem_cons_of_mem _ h) wk_X12_52) rfl rfl rfl (by decide +kernel) ⟨Nat.le_of_ble_eq_true rfl, Nat.le_of_ble_eq_true rfl⟩
  have L_4 : ∀ (fu : Nat) (x1 : Int32) (x2 : Int32)  (ls : Array Slot) (hl : lv_has ls 3 [(0, .ref (gA X 8 0)), (1, .int x1), (2, .int x2)]) (hF : F_X12_timed_4 fu w x1 x2 = some r) (H : Heap) (locs : List Loc) (hW : gWo X 251 (gE X w) H) (hL : gLo X locs), W p l e rmX12_timed s m args below meth c H locs 0 0 (MQ below (gQi X r w) args s 0 0 (gFr X)) (F0 m 4 ls []) := by
    intro fu
    induction fu with
    | zero => intro x1 x2 ls hl hF H locs hW hL; rw [F_X12_timed_4_z] at hF; cases hF
    | succ fu4 ih4 =>
      intro x1 x2 ls hl hF H locs hW hL
      rw [F_X12_timed_4_s] at hF
      refine lv_iload_n hx hb dX12_timed_4 rfl (lv_at hl 2 rfl) ?_
      refine lv_aload_n hx hb dX12_timed_5 rfl (lv_at hl 0 rfl) ?_
      refine rg_X12_s hx hb hts inX12 hown hK hW q7 dX12_timed_6 ?_
      refine lv_sipush (v := 311) hx hb dX12_timed_9 (by decide) ?_
      refine g_iald2 (k := 311) hx hb hK hW (gok_o (by decide)) (gad_lt (gok_o (by decide))) gE_O1 (gin (by decide)) (by decide) dX12_timed_12 ?_
      refine lv_icmp_ge (tgt := 38) hx hb dX12_timed_13 (by decide) (fun hc_1 => ?_) (fun hc_1 => ?_)
      · replace hF := gT hc_1 hF
        refine lv_iload_n hx hb dX12_timed_38 rfl (lv_at hl 1 rfl) ?_
        exact g_ri hx hb hr hlocks hW hL (Option.some.inj hF) dX12_timed_39
      · replace hF := gF hc_1 hF
        refine lv_iload_n hx hb dX12_timed_16 rfl (lv_at hl 1 rfl) ?_
        refine lv_aload_n hx hb dX12_timed_17 rfl (lv_at hl 0 rfl) ?_
        refine lv_iload_n hx hb dX12_timed_18 rfl (lv_at hl 2 rfl) ?_
        obtain ⟨v_3, hq_2, hF⟩ := gP_some hF
        refine g_Vi (As := [.int x2]) (rest := [.int x1]) ⟨hx, hb, hml, hown, hts⟩ hK hW hL hl.1 (gok_o (by decide)) gE_O rfl (c_X12_hasTime l X w x2 v_3 hq_2) k52 rfl rfl (Nat.le_of_ble_eq_true rfl) dX12_timed_19 ⟨Nat.le_of_ble_eq_true rfl, Nat.le_of_ble_eq_true rfl⟩ (fun H locs hW hL => ?_)
        refine lv_if_eq (tgt := 29) hx hb dX12_timed_22 (by decide) (fun hc_4 => ?_) (fun hc_4 => ?_)
        · replace hF := gT hc_4 hF
          refine lv_iconst (v := 0) hx hb dX12_timed_29 (by decide) ?_
          refine lv_iadd hx hb dX12_timed_30 ?_
          obtain ⟨x1_5, ex1_5, hF⟩ := gS_some hF
          refine g_top ex1_5 ?_
          refine lv_istore_n (lv' := [(1, .int x1_5), (0, .ref (gA X 8 0)), (2, .int x2)]) hx hb dX12_timed_31 rfl hl (by decide) rfl (fun ls hl => ?_)
          obtain ⟨x2_6, ex2_6, hF⟩ := gS_some hF
          refine lv_iinc (v := x2_6) (lv' := [(2, .int x2_6), (1, .int x1_5), (0, .ref (gA X 8 0))]) hx hb dX12_timed_32 hl (k := 2) rfl (by rw [ex2_6]; rfl) (by decide) rfl (fun ls hl => ?_)
          refine lv_goto (tgt := 4) hx hb dX12_timed_35 (by decide) ?_
          exact ih4 x1_5 x2_6 ls (lv_sub hl [2, 1, 0] rfl) hF H locs hW hL
        · replace hF := gF hc_4 hF
          refine lv_iconst (v := 1) hx hb dX12_timed_25 (by decide) ?_
          refine lv_goto (tgt := 30) hx hb dX12_timed_26 (by decide) ?_
          refine lv_iadd hx hb dX12_timed_30 ?_
          obtain ⟨x1_7, ex1_7, hF⟩ := gS_some hF
          refine g_top ex1_7 ?_
          refine lv_istore_n (lv' := [(1, .int x1_7), (0, .ref (gA X 8 0)), (2, .int x2)]) hx hb dX12_timed_31 rfl hl (by decide) rfl (fun ls hl => ?_)
          obtain ⟨x2_8, ex2_8, hF⟩ := gS_some hF
          refine lv_iinc (v := x2_8) (lv' := [(2, .int x2_8), (1, .int x1_7), (0, .ref (gA X 8 0))]) hx hb dX12_timed_32 hl (k := 2) rfl (by rw [ex2_8]; rfl) (by decide) rfl (fun ls hl => ?_)
          refine lv_goto (tgt := 4) hx hb dX12_timed_35 (by decide) ?_
          exact ih4 x1_7 x2_8 ls (lv_sub hl [2, 1, 0] rfl) hF H locs hW hL
  rw [F_X12_timed] at hF
  obtain ⟨locs, hlocs⟩ : ∃ locs : List Loc, locs = [] := ⟨_, rfl⟩
  rw [← hlocs] at hL ⊢
  refine lv_iconst (v := 0) hx hb dX12_timed_0 (by decide) ?_
  refine lv_istore_n (lv' := [(1, .int 0), (0, .ref (gA X 8 0))]) hx hb dX12_timed_1 rfl hl (by decide) rfl (fun ls hl => ?_)
  refine lv_iconst (v := 0) hx hb dX12_timed_2 (by decide) ?_
  refine lv_istore_n (lv' := [(2, .int 0), (1, .int 0), (0, .ref (gA X 8 0))]) hx hb dX12_timed_3 rfl hl (by decide) rfl (fun ls hl => ?_)
  exact L_4 gFU 0 0 ls (lv_sub hl [2, 1, 0] rfl) hF H locs hW hL
abbrev rmX12_why : Room := { frames := 4, cells := 0, slots := 0, locals := 86 }
abbrev wsX12_why : List Cond := gws yX12_why cX12_why 1 (some .int)
set_option maxHeartbeats 4000000 in
set_option maxRecDepth 100000 in
theorem c_X12_why (l : Launch) (X : gX) (w : gWd)  (r : Int32) (hF : F_X12_why w = some r) : Met l yX12_why wsX12_why rmX12_why (gPc X [.ref (gA X 8 0)] w) (gQi X r w) 0 0 (gFr X) := by
  refine g_ofW (cc := cX12_why) (maxL := 1) (ret := (some .int)) (by decide) rfl (Nat.le_of_ble_eq_true rfl) (fun p e s m args below meth c ls H hx hb hr hts hown hlocks hml hK hl hW => ?_)
  have hl : lv_has ls 1 [(0, .ref (gA X 8 0))] := hl
  have hown : s.vm.findClass RX12 = some m.cls := hown
  have hL : gLo X [] := gLo_nil
  show W p l e rmX12_why s m args below meth c H [] 0 0 _ _
  have inX12 : ∀ w ∈ wsX120, w ∈ wsX12_why := fun w h => List.mem_cons_of_mem _ (inlX12 w h)
  have q7 := hts _ (List.mem_cons_of_mem _ wq_X12_7)
  have k110 : CallW rmX12_why s args RX12 RX12 110 yX12_missingOnes cX12_missingOnes 3 (some .int) wsX12_missingOnes rmX12_missingOnes 0 0 0 := cwV 0 hts (gGoodV (fun w h => List.mem_cons_of_mem _ h) wk_X12_110) rfl rfl rfl (by decide +kernel) ⟨Nat.le_of_ble_eq_true rfl, Nat.le_of_ble_eq_true rfl⟩
  have k113 : CallW rmX12_why s args RX12 RX12 113 yX12_timed cX12_timed 3 (some .int) wsX12_timed rmX12_timed 0 0 0 := cwV 0 hts (gGoodV (fun w h => List.mem_cons_of_mem _ h) wk_X12_113) rfl rfl rfl (by decide +kernel) ⟨Nat.le_of_ble_eq_true rfl, Nat.le_of_ble_eq_true rfl⟩
  have k66 : CallW rmX12_why s args RX12 RX12 66 yX12_present cX12_present 3 (some .int) wsX12_present rmX12_present 0 0 0 := cwV 0 hts (gGoodV (fun w h => List.mem_cons_of_mem _ h) wk_X12_66) rfl rfl rfl (by decide +kernel) ⟨Nat.le_of_ble_eq_true rfl, Nat.le_of_ble_eq_true rfl⟩
  rw [F_X12_why] at hF
  obtain ⟨locs, hlocs⟩ : ∃ locs : List Loc, locs = [] := ⟨_, rfl⟩
  rw [← hlocs] at hL ⊢
  refine lv_aload_n hx hb dX12_why_0 rfl (lv_at hl 0 rfl) ?_
  refine rg_X12_s hx hb hts inX12 hown hK hW q7 dX12_why_1 ?_
  refine lv_sipush (v := 310) hx hb dX12_why_4 (by decide) ?_
  refine g_iald2 (k := 310) hx hb hK hW (gok_o (by decide)) (gad_lt (gok_o (by decide))) gE_O1 (gin (by decide)) (by decide) dX12_why_7 ?_
  by_cases hc_1 : (w 8 1 310) = 0
  · replace hF := gT hc_1 hF
    refine lv_tableIn (off := 28) (tgt := 36) hx hb dX12_why_8 (by rw [hc_1]; decide) (by rw [hc_1]; decide) (by rw [hc_1]; rfl) (by decide) ?_
    refine lv_aload_n hx hb dX12_why_36 rfl (lv_at hl 0 rfl) ?_
    obtain ⟨v_3, hq_2, hF⟩ := gP_some hF
    refine g_Vi (As := []) (rest := []) ⟨hx, hb, hml, hown, hts⟩ hK hW hL hl.1 (gok_o (by decide)) gE_O rfl (c_X12_present l X w  v_3 hq_2) k66 rfl rfl (Nat.le_of_ble_eq_true rfl) dX12_why_37 ⟨Nat.le_of_ble_eq_true rfl, Nat.le_of_ble_eq_true rfl⟩ (fun H locs hW hL => ?_)
    refine lv_if_ne (tgt := 47) hx hb dX12_why_40 (by decide) (fun hc_4 => ?_) (fun hc_4 => ?_)
    · replace hF := gF hc_4 hF
      refine lv_iconst (v := 0) hx hb dX12_why_47 (by decide) ?_
      exact g_ri hx hb hr hlocks hW hL (Option.some.inj hF) dX12_why_48
    · replace hF := gT hc_4 hF
      refine lv_iconst (v := 1) hx hb dX12_why_43 (by decide) ?_
      refine lv_goto (tgt := 48) hx hb dX12_why_44 (by decide) ?_
      exact g_ri hx hb hr hlocks hW hL (Option.some.inj hF) dX12_why_48
  · replace hF := gF hc_1 hF
    by_cases hc_5 : (w 8 1 310) = 1
    · replace hF := gT hc_5 hF
      refine lv_tableIn (off := 41) (tgt := 49) hx hb dX12_why_8 (by rw [hc_5]; decide) (by rw [hc_5]; decide) (by rw [hc_5]; rfl) (by decide) ?_
      refine lv_aload_n hx hb dX12_why_49 rfl (lv_at hl 0 rfl) ?_
      obtain ⟨v_7, hq_6, hF⟩ := gP_some hF
      refine g_Vi (As := []) (rest := []) ⟨hx, hb, hml, hown, hts⟩ hK hW hL hl.1 (gok_o (by decide)) gE_O rfl (c_X12_missingOnes l X w  v_7 hq_6) k110 rfl rfl (Nat.le_of_ble_eq_true rfl) dX12_why_50 ⟨Nat.le_of_ble_eq_true rfl, Nat.le_of_ble_eq_true rfl⟩ (fun H locs hW hL => ?_)
      refine lv_if_le (tgt := 60) hx hb dX12_why_53 (by decide) (fun hc_8 => ?_) (fun hc_8 => ?_)
      · replace hF := gT hc_8 hF
        refine lv_aload_n hx hb dX12_why_60 rfl (lv_at hl 0 rfl) ?_
        obtain ⟨v_10, hq_9, hF⟩ := gP_some hF
        refine g_Vi (As := []) (rest := []) ⟨hx, hb, hml, hown, hts⟩ hK hW hL hl.1 (gok_o (by decide)) gE_O rfl (c_X12_timed l X w  v_10 hq_9) k113 rfl rfl (Nat.le_of_ble_eq_true rfl) dX12_why_61 ⟨Nat.le_of_ble_eq_true rfl, Nat.le_of_ble_eq_true rfl⟩ (fun H locs hW hL => ?_)
        refine lv_if_ne (tgt := 71) hx hb dX12_why_64 (by decide) (fun hc_11 => ?_) (fun hc_11 => ?_)
        · replace hF := gF hc_11 hF
          refine lv_iconst (v := 0) hx hb dX12_why_71 (by decide) ?_
          exact g_ri hx hb hr hlocks hW hL (Option.some.inj hF) dX12_why_72
        · replace hF := gT hc_11 hF
          refine lv_iconst (v := 1) hx hb dX12_why_67 (by decide) ?_
          refine lv_goto (tgt := 72) hx hb dX12_why_68 (by decide) ?_
          exact g_ri hx hb hr hlocks hW hL (Option.some.inj hF) dX12_why_72
      · replace hF := gF hc_8 hF
        refine lv_iconst (v := 2) hx hb dX12_why_56 (by decide) ?_
        refine lv_goto (tgt := 72) hx hb dX12_why_57 (by decide) ?_
        exact g_ri hx hb hr hlocks hW hL (Option.some.inj hF) dX12_why_72
    · replace hF := gF hc_5 hF
      by_cases hc_12 : (w 8 1 310) = 2
      · replace hF := gT hc_12 hF
        refine lv_tableIn (off := 65) (tgt := 73) hx hb dX12_why_8 (by rw [hc_12]; decide) (by rw [hc_12]; decide) (by rw [hc_12]; rfl) (by decide) ?_
        refine lv_aload_n hx hb dX12_why_73 rfl (lv_at hl 0 rfl) ?_
        obtain ⟨v_14, hq_13, hF⟩ := gP_some hF
        refine g_Vi (As := []) (rest := []) ⟨hx, hb, hml, hown, hts⟩ hK hW hL hl.1 (gok_o (by decide)) gE_O rfl (c_X12_missingOnes l X w  v_14 hq_13) k110 rfl rfl (Nat.le_of_ble_eq_true rfl) dX12_why_74 ⟨Nat.le_of_ble_eq_true rfl, Nat.le_of_ble_eq_true rfl⟩ (fun H locs hW hL => ?_)
        refine lv_if_le (tgt := 84) hx hb dX12_why_77 (by decide) (fun hc_15 => ?_) (fun hc_15 => ?_)
        · replace hF := gT hc_15 hF
          refine lv_iconst (v := 0) hx hb dX12_why_84 (by decide) ?_
          exact g_ri hx hb hr hlocks hW hL (Option.some.inj hF) dX12_why_85
        · replace hF := gF hc_15 hF
          refine lv_iconst (v := 2) hx hb dX12_why_80 (by decide) ?_
          refine lv_goto (tgt := 85) hx hb dX12_why_81 (by decide) ?_
          exact g_ri hx hb hr hlocks hW hL (Option.some.inj hF) dX12_why_85
      · replace hF := gF hc_12 hF
        refine lv_tableOut (tgt := 86) hx hb dX12_why_8 (g_tabOut (fun k h1 h2 h3 => ?_)) (by decide) ?_
        · have hk : k = 0 ∨ k = 1 ∨ k = 2 := by omega
          rcases hk with rfl | rfl | rfl
          · exact hc_1 (Int32.toInt_inj.mp (h3.trans (by decide)))
          · exact hc_5 (Int32.toInt_inj.mp (h3.trans (by decide)))
          · exact hc_12 (Int32.toInt_inj.mp (h3.trans (by decide)))
        · skip
          refine lv_iconst (v := 0) hx hb dX12_why_86 (by decide) ?_
          exact g_ri hx hb hr hlocks hW hL (Option.some.inj hF) dX12_why_87
