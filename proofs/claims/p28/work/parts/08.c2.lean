abbrev rmX1_giveTime : Room := { frames := 2, cells := 0, slots := 0, locals := 45 }
abbrev wsX1_giveTime : List Cond := gws yX1_giveTime cX1_giveTime 4 (some .int)
set_option maxHeartbeats 4000000 in
set_option maxRecDepth 100000 in
theorem c_X1_giveTime (l : Launch) (X : gX) (w : gWd) (i0 : Nat) (hi0 : i0 < 7) (x1 : Int32) (x2 : Int32) (r : Int32) (w' : gWd) (hF : F_X1_giveTime w i0 x1 x2 = some (r, w')) : Met l yX1_giveTime wsX1_giveTime rmX1_giveTime (gPc X [.ref (gA X i0 0), .int x1, .int x2] w) (gQi X r w') 0 0 (gFr X) := by
  refine g_ofW (cc := cX1_giveTime) (maxL := 4) (ret := (some .int)) (by decide) rfl (Nat.le_of_ble_eq_true rfl) (fun p e s m args below meth c ls H hx hb hr hts hown hlocks hml hK hl hW => ?_)
  have hl : lv_has ls 4 [(0, .ref (gA X i0 0)), (1, .int x1), (2, .int x2)] := hl
  have hown : s.vm.findClass RX1 = some m.cls := hown
  have hL : gLo X [] := gLo_nil
  show W p l e rmX1_giveTime s m args below meth c H [] 0 0 _ _
  have inX5 : ∀ w ∈ wsX50, w ∈ wsX1_giveTime := fun w h => List.mem_cons_of_mem _ (inlX5 w h)
  have inX10 : ∀ w ∈ wsX100, w ∈ wsX1_giveTime := fun w h => List.mem_cons_of_mem _ (inlX10 w h)
  have q104 := hts _ (List.mem_cons_of_mem _ wq_X1_104)
  have q107 := hts _ (List.mem_cons_of_mem _ wq_X1_107)
  have q15 := hts _ (List.mem_cons_of_mem _ wq_X1_15)
  have q16 := hts _ (List.mem_cons_of_mem _ wq_X1_16)
  have q22 := hts _ (List.mem_cons_of_mem _ wq_X1_22)
  have q27 := hts _ (List.mem_cons_of_mem _ wq_X1_27)
  have q40 := hts _ (List.mem_cons_of_mem _ wq_X1_40)
  have k100 : CallW rmX1_giveTime s args RX1 RX5 100 yX5_swimsNow cX5_swimsNow 2 (some .boolean) wsX5_swimsNow rmX5_swimsNow 0 0 1 := cwV 1 hts (gGoodV (fun w h => List.mem_cons_of_mem _ h) wk_X1_100) rfl rfl rfl (by decide +kernel) ⟨Nat.le_of_ble_eq_true rfl, Nat.le_of_ble_eq_true rfl⟩
  have k110 : CallB rmX1_giveTime s args RX1 110 yX1_noteRecord cX1_noteRecord 3 none wsX1_noteRecord rmX1_noteRecord 0 0 3 ∧ (Cond.static yX1_noteRecord).before args s = true := va_cwS 3 hts (gGoodS (fun w h => List.mem_cons_of_mem _ h) wk_X1_110) rfl rfl rfl (by decide +kernel) ⟨Nat.le_of_ble_eq_true rfl, Nat.le_of_ble_eq_true rfl⟩
  have k114 : CallW rmX1_giveTime s args RX1 RX5 114 yX5_fasterThan cX5_fasterThan 5 (some .int) wsX5_fasterThan rmX5_fasterThan 0 0 1 := cwV 1 hts (gGoodV (fun w h => List.mem_cons_of_mem _ h) wk_X1_114) rfl rfl rfl (by decide +kernel) ⟨Nat.le_of_ble_eq_true rfl, Nat.le_of_ble_eq_true rfl⟩
  have k37 : CallW rmX1_giveTime s args RX1 RX5 37 yX5_has cX5_has 2 (some .boolean) wsX5_has rmX5_has 0 0 1 := cwV 1 hts (gGoodV (fun w h => List.mem_cons_of_mem _ h) wk_X1_37) rfl rfl rfl (by decide +kernel) ⟨Nat.le_of_ble_eq_true rfl, Nat.le_of_ble_eq_true rfl⟩
  have k9 : CallB rmX1_giveTime s args RX1 9 yX1_isTimeOrZero cX1_isTimeOrZero 1 (some .boolean) wsX1_isTimeOrZero rmX1_isTimeOrZero 0 0 1 ∧ (Cond.static yX1_isTimeOrZero).before args s = true := va_cwS 1 hts (gGoodS (fun w h => List.mem_cons_of_mem _ h) wk_X1_9) rfl rfl rfl (by decide +kernel) ⟨Nat.le_of_ble_eq_true rfl, Nat.le_of_ble_eq_true rfl⟩
  have B_64 : ∀ (w : gWd) (i0 : Nat) (x1 : Int32) (x2 : Int32) (hi0 : i0 < 7) (ls : Array Slot) (hl : lv_has ls 4 [(0, .ref (gA X i0 0)), (1, .int x1), (2, .int x2)]) (hF : F_X1_giveTime_64 w i0 x1 x2 = some (r, w')) (H : Heap) (locs : List Loc) (hW : gWo X 252 (gE X w) H) (hL : gLo X locs), W p l e rmX1_giveTime s m args below meth c H locs 0 0 (MQ below (gQi X r w') args s 0 0 (gFr X)) (F0 m 64 ls []) := by
    intro w i0 x1 x2 hi0 ls hl hF H locs hW hL
    rw [F_X1_giveTime_64] at hF
    refine lv_iload_n hx hb dX1_giveTime_64 rfl (lv_at hl 2 rfl) ?_
    refine lv_if_ne (tgt := 71) hx hb dX1_giveTime_65 (by decide) (fun hc_1 => ?_) (fun hc_1 => ?_)
    · replace hF := gF hc_1 hF
      refine lv_aload_n hx hb dX1_giveTime_71 rfl (lv_at hl 0 rfl) ?_
      refine lv_iload_n hx hb dX1_giveTime_72 rfl (lv_at hl 1 rfl) ?_
      refine lv_iload_n hx hb dX1_giveTime_73 rfl (lv_at hl 2 rfl) ?_
      obtain ⟨w_3, hq_2, hF⟩ := gP_some hF
      refine g_Sv (As := [.ref (gA X i0 0), .int x1, .int x2]) (rest := []) ⟨hx, hb, hml, hown, hts⟩ hK hW hL hl.1 (c_X1_noteRecord l X w i0 hi0 x1 x2 w_3 hq_2) k110 rfl rfl (Nat.le_of_ble_eq_true rfl) dX1_giveTime_74 ⟨Nat.le_of_ble_eq_true rfl, Nat.le_of_ble_eq_true rfl⟩ (fun H locs hW hL => ?_)
      refine lv_aload_n hx hb dX1_giveTime_77 rfl (lv_at hl 0 rfl) ?_
      refine lv_iload_n hx hb dX1_giveTime_78 rfl (lv_at hl 2 rfl) ?_
      obtain ⟨v_5, hq_4, hF⟩ := gP_some hF
      refine g_Vi (As := [.int x2]) (rest := []) ⟨hx, hb, hml, hown, hts⟩ hK hW hL hl.1 (gok_m hi0 (by decide)) (gE_m0 hi0) rfl (c_X5_fasterThan l X w_3 i0 hi0 x2 v_5 hq_4) k114 rfl rfl (Nat.le_of_ble_eq_true rfl) dX1_giveTime_79 ⟨Nat.le_of_ble_eq_true rfl, Nat.le_of_ble_eq_true rfl⟩ (fun H locs hW hL => ?_)
      exact g_ri hx hb hr hlocks (gW2 hF hW) hL (gI2 hF).1 dX1_giveTime_82
    · replace hF := gT hc_1 hF
      refine lv_bipush (v := 100) hx hb dX1_giveTime_68 (by decide) ?_
      exact g_ri hx hb hr hlocks (gW2 hF hW) hL (gI2 hF).1 dX1_giveTime_70
  rw [F_X1_giveTime] at hF
  obtain ⟨locs, hlocs⟩ : ∃ locs : List Loc, locs = [] := ⟨_, rfl⟩
  rw [← hlocs] at hL ⊢
  refine lv_aload_n hx hb dX1_giveTime_0 rfl (lv_at hl 0 rfl) ?_
  refine lv_iload_n hx hb dX1_giveTime_1 rfl (lv_at hl 1 rfl) ?_
  obtain ⟨v_7, hq_6, hF⟩ := gP_some hF
  refine g_Vi (As := [.int x1]) (rest := []) ⟨hx, hb, hml, hown, hts⟩ hK hW hL hl.1 (gok_m hi0 (by decide)) (gE_m0 hi0) rfl (c_X5_has l X w i0 hi0 x1 v_7 hq_6) k37 rfl rfl (Nat.le_of_ble_eq_true rfl) dX1_giveTime_2 ⟨Nat.le_of_ble_eq_true rfl, Nat.le_of_ble_eq_true rfl⟩ (fun H locs hW hL => ?_)
  refine lv_if_eq (tgt := 15) hx hb dX1_giveTime_5 (by decide) (fun hc_8 => ?_) (fun hc_8 => ?_)
  · replace hF := gT hc_8 hF
    refine lv_ldc hx hb hown q15 dX1_giveTime_15 ?_
    exact g_ri hx hb hr hlocks (gW2 hF hW) hL (gI2 hF).1 dX1_giveTime_17
  · replace hF := gF hc_8 hF
    refine lv_iload_n hx hb dX1_giveTime_8 rfl (lv_at hl 2 rfl) ?_
    obtain ⟨v_10, hq_9, hF⟩ := gP_some hF
    refine g_Si (As := [.int x2]) (rest := []) ⟨hx, hb, hml, hown, hts⟩ hK hW hL hl.1 (c_X1_isTimeOrZero l X w x2 v_10 hq_9) k9 rfl rfl (Nat.le_of_ble_eq_true rfl) dX1_giveTime_9 ⟨Nat.le_of_ble_eq_true rfl, Nat.le_of_ble_eq_true rfl⟩ (fun H locs hW hL => ?_)
    refine lv_if_ne (tgt := 18) hx hb dX1_giveTime_12 (by decide) (fun hc_11 => ?_) (fun hc_11 => ?_)
    · replace hF := gF hc_11 hF
      refine lv_aload_n hx hb dX1_giveTime_18 rfl (lv_at hl 0 rfl) ?_
      refine rg_X5_all hx hb hts inX5 hown hK hW hi0 q27 dX1_giveTime_19 ?_
      refine lv_iload_n hx hb dX1_giveTime_22 rfl (lv_at hl 1 rfl) ?_
      obtain ⟨hin_12, hF⟩ := gB_some hF
      obtain ⟨k_13, ek_13⟩ : ∃ k, k = Int32.toNatClampNeg x1 := ⟨_, rfl⟩
      rw [← ek_13] at hF
      refine r_all (k := k_13) hx hb hK hW hi0 hin_12 ek_13.symm dX1_giveTime_23 ?_
      refine lv_astore_n (lv' := [(3, .ref (gA X i0 (4 + k_13))), (0, .ref (gA X i0 0)), (1, .int x1), (2, .int x2)]) hx hb dX1_giveTime_24 rfl hl (by decide) rfl (fun ls hl => ?_)
      refine lv_aload_n hx hb dX1_giveTime_25 rfl (lv_at hl 0 rfl) ?_
      refine rg_X10_scratched hx hb hts inX10 hown hK hW hi0 (vp_lt2 hin_12 ek_13.symm) q40 dX1_giveTime_26 ?_
      refine lv_if_ne (tgt := 40) hx hb dX1_giveTime_29 (by decide) (fun hc_14 => ?_) (fun hc_14 => ?_)
      · replace hF := gF hc_14 hF
        refine lv_ldc hx hb hown q22 dX1_giveTime_40 ?_
        exact g_ri hx hb hr hlocks (gW2 hF hW) hL (gI2 hF).1 dX1_giveTime_42
      · replace hF := gT hc_14 hF
        refine lv_aload_n hx hb dX1_giveTime_32 rfl (lv_at hl 1 rfl) ?_
        refine lv_aload_n hx hb dX1_giveTime_33 rfl (lv_at hl 0 rfl) ?_
        obtain ⟨v_16, hq_15, hF⟩ := gP_some hF
        refine g_Vi (As := [.ref (gA X i0 (4 + k_13))]) (rest := []) ⟨hx, hb, hml, hown, hts⟩ hK hW hL hl.1 (gok_m hi0 (by decide)) (gE_m0 hi0) rfl (c_X5_swimsNow l X w i0 hi0 i0 hi0 k_13 (vp_lt2 hin_12 ek_13.symm) v_16 hq_15) k100 rfl rfl (Nat.le_of_ble_eq_true rfl) dX1_giveTime_34 ⟨Nat.le_of_ble_eq_true rfl, Nat.le_of_ble_eq_true rfl⟩ (fun H locs hW hL => ?_)
        refine lv_if_ne (tgt := 43) hx hb dX1_giveTime_37 (by decide) (fun hc_17 => ?_) (fun hc_17 => ?_)
        · replace hF := gF hc_17 hF
          refine lv_aload_n hx hb dX1_giveTime_43 rfl (lv_at hl 1 rfl) ?_
          refine rg_X5_stage hx hb hts inX5 hown hK hW hi0 q16 dX1_giveTime_44 ?_
          refine lv_iconst (v := 1) hx hb dX1_giveTime_47 (by decide) ?_
          refine lv_icmp_ne (tgt := 59) hx hb dX1_giveTime_48 (by decide) (fun hc_18 => ?_) (fun hc_18 => ?_)
          · replace hF := gF hc_18 hF
            refine lv_aload_n hx hb dX1_giveTime_59 rfl (lv_at hl 0 rfl) ?_
            refine lv_iload_n hx hb dX1_giveTime_60 rfl (lv_at hl 3 rfl) ?_
            obtain ⟨w_19, ew_19, hF⟩ := gS_some hF
            refine rp_X10_finalTime hx hb hts inX10 hown hK hW hL hi0 (vp_lt2 hin_12 ek_13.symm) q107 dX1_giveTime_61 (fun H locs hW hL => ?_)
            rw [← ew_19] at hW
            exact B_64 w_19 i0 x1 x2 hi0 ls (lv_sub hl [1, 2, 3] rfl) hF H locs hW hL
          · replace hF := gT hc_18 hF
            refine lv_aload_n hx hb dX1_giveTime_51 rfl (lv_at hl 0 rfl) ?_
            refine lv_iload_n hx hb dX1_giveTime_52 rfl (lv_at hl 3 rfl) ?_
            obtain ⟨w_20, ew_20, hF⟩ := gS_some hF
            refine rp_X10_heatTime hx hb hts inX10 hown hK hW hL hi0 (vp_lt2 hin_12 ek_13.symm) q104 dX1_giveTime_53 (fun H locs hW hL => ?_)
            rw [← ew_20] at hW
            refine lv_goto (tgt := 64) hx hb dX1_giveTime_56 (by decide) ?_
            exact B_64 w_20 i0 x1 x2 hi0 ls (lv_sub hl [1, 2, 3] rfl) hF H locs hW hL
        · replace hF := gT hc_17 hF
          refine lv_ldc hx hb hown q22 dX1_giveTime_40 ?_
          exact g_ri hx hb hr hlocks (gW2 hF hW) hL (gI2 hF).1 dX1_giveTime_42
    · replace hF := gT hc_11 hF
      refine lv_ldc hx hb hown q15 dX1_giveTime_15 ?_
      exact g_ri hx hb hr hlocks (gW2 hF hW) hL (gI2 hF).1 dX1_giveTime_17
abbrev rmX11_swim : Room := { frames := 3, cells := 0, slots := 0, locals := 68 }
abbrev wsX11_swim : List Cond := gws yX11_swim cX11_swim 3 (some .int)
set_option maxHeartbeats 4000000 in
set_option maxRecDepth 100000 in
theorem c_X11_swim (l : Launch) (X : gX) (w : gWd) (x1 : Int32) (x2 : Int32) (r : Int32) (w' : gWd) (hF : F_X11_swim w x1 x2 = some (r, w')) : Met l yX11_swim wsX11_swim rmX11_swim (gPc X [.ref (gA X 7 0), .int x1, .int x2] w) (gQi X r w') 0 0 (gFr X) := by
  refine g_ofW (cc := cX11_swim) (maxL := 3) (ret := (some .int)) (by decide) rfl (Nat.le_of_ble_eq_true rfl) (fun p e s m args below meth c ls H hx hb hr hts hown hlocks hml hK hl hW => ?_)
  have hl : lv_has ls 3 [(0, .ref (gA X 7 0)), (1, .int x1), (2, .int x2)] := hl
  have hown : s.vm.findClass RX11 = some m.cls := hown
  have hL : gLo X [] := gLo_nil
  show W p l e rmX11_swim s m args below meth c H [] 0 0 _ _
  have inX11 : ∀ w ∈ wsX110, w ∈ wsX11_swim := fun w h => List.mem_cons_of_mem _ (inlX11 w h)
  have q10 := hts _ (List.mem_cons_of_mem _ wq_X11_10)
  have q22 := hts _ (List.mem_cons_of_mem _ wq_X11_22)
  have k40 : CallW rmX11_swim s args RX11 RX3 40 yX3_prepare cX3_prepare 2 none wsX3_prepare rmX3_prepare 0 0 1 := cwV 1 hts (gGoodV (fun w h => List.mem_cons_of_mem _ h) wk_X11_40) rfl rfl rfl (by decide +kernel) ⟨Nat.le_of_ble_eq_true rfl, Nat.le_of_ble_eq_true rfl⟩
  have k50 : CallW rmX11_swim s args RX11 RX3 50 yX3_keepUnlessError cX3_keepUnlessError 2 (some .int) wsX3_keepUnlessError rmX3_keepUnlessError 0 0 1 := cwV 1 hts (gGoodV (fun w h => List.mem_cons_of_mem _ h) wk_X11_50) rfl rfl rfl (by decide +kernel) ⟨Nat.le_of_ble_eq_true rfl, Nat.le_of_ble_eq_true rfl⟩
  have k65 : CallB rmX11_swim s args RX11 65 yX1_giveTime cX1_giveTime 4 (some .int) wsX1_giveTime rmX1_giveTime 0 0 3 ∧ (Cond.static yX1_giveTime).before args s = true := va_cwS 3 hts (gGoodS (fun w h => List.mem_cons_of_mem _ h) wk_X11_65) rfl rfl rfl (by decide +kernel) ⟨Nat.le_of_ble_eq_true rfl, Nat.le_of_ble_eq_true rfl⟩
  rw [F_X11_swim] at hF
  obtain ⟨locs, hlocs⟩ : ∃ locs : List Loc, locs = [] := ⟨_, rfl⟩
  rw [← hlocs] at hL ⊢
  refine lv_aload_n hx hb dX11_swim_0 rfl (lv_at hl 0 rfl) ?_
  refine rg_X11_history hx hb hts inX11 hown hK hW q22 dX11_swim_1 ?_
  refine lv_aload_n hx hb dX11_swim_4 rfl (lv_at hl 0 rfl) ?_
  refine rg_X11_meet hx hb hts inX11 hown hK hW q10 dX11_swim_5 ?_
  obtain ⟨w_2, hq_1, hF⟩ := gP_some hF
  refine g_Vv (As := [.ref (gA X 0 0)]) (rest := []) ⟨hx, hb, hml, hown, hts⟩ hK hW hL hl.1 (gok_c (by decide)) gE_H rfl (c_X3_prepare l X w 0 h07 w_2 hq_1) k40 rfl rfl (Nat.le_of_ble_eq_true rfl) dX11_swim_8 ⟨Nat.le_of_ble_eq_true rfl, Nat.le_of_ble_eq_true rfl⟩ (fun H locs hW hL => ?_)
  refine lv_aload_n hx hb dX11_swim_11 rfl (lv_at hl 0 rfl) ?_
  refine rg_X11_history hx hb hts inX11 hown hK hW q22 dX11_swim_12 ?_
  refine lv_aload_n hx hb dX11_swim_15 rfl (lv_at hl 0 rfl) ?_
  refine rg_X11_meet hx hb hts inX11 hown hK hW q10 dX11_swim_16 ?_
  refine lv_iload_n hx hb dX11_swim_19 rfl (lv_at hl 1 rfl) ?_
  refine lv_iload_n hx hb dX11_swim_20 rfl (lv_at hl 2 rfl) ?_
  obtain ⟨v_4, w_5, hq_3, hF⟩ := gC_some hF
  refine g_Si (As := [.ref (gA X 0 0), .int x1, .int x2]) (rest := [.ref (gA X 7 1)]) ⟨hx, hb, hml, hown, hts⟩ hK hW hL hl.1 (c_X1_giveTime l X w_2 0 h07 x1 x2 v_4 w_5 hq_3) k65 rfl rfl (Nat.le_of_ble_eq_true rfl) dX11_swim_21 ⟨Nat.le_of_ble_eq_true rfl, Nat.le_of_ble_eq_true rfl⟩ (fun H locs hW hL => ?_)
  obtain ⟨v_7, w_8, hq_6, hF⟩ := gC_some hF
  refine g_Vi (As := [.int v_4]) (rest := []) ⟨hx, hb, hml, hown, hts⟩ hK hW hL hl.1 (gok_c (by decide)) gE_H rfl (c_X3_keepUnlessError l X w_5 v_4 v_7 w_8 hq_6) k50 rfl rfl (Nat.le_of_ble_eq_true rfl) dX11_swim_24 ⟨Nat.le_of_ble_eq_true rfl, Nat.le_of_ble_eq_true rfl⟩ (fun H locs hW hL => ?_)
  exact g_ri hx hb hr hlocks (gW2 hF hW) hL (gI2 hF).1 dX11_swim_27
abbrev rmX10_aheadByHeatTime : Room := { frames := 1, cells := 0, slots := 0, locals := 21 }
abbrev wsX10_aheadByHeatTime : List Cond := gws yX10_aheadByHeatTime cX10_aheadByHeatTime 2 (some .boolean)
set_option maxHeartbeats 4000000 in
set_option maxRecDepth 100000 in
theorem c_X10_aheadByHeatTime (l : Launch) (X : gX) (w : gWd) (i0 : Nat) (hi0 : i0 < 7) (n0 : Nat) (hn0 : n0 < 30) (i1 : Nat) (hi1 : i1 < 7) (n1 : Nat) (hn1 : n1 < 30) (r : Int32) (hF : F_X10_aheadByHeatTime w i0 n0 i1 n1 = some r) : Met l yX10_aheadByHeatTime wsX10_aheadByHeatTime rmX10_aheadByHeatTime (gPc X [.ref (gA X i0 (4 + n0)), .ref (gA X i1 (4 + n1))] w) (gQi X r w) 0 0 (gFr X) := by
  refine g_ofW (cc := cX10_aheadByHeatTime) (maxL := 2) (ret := (some .boolean)) (by decide) rfl (Nat.le_of_ble_eq_true rfl) (fun p e s m args below meth c ls H hx hb hr hts hown hlocks hml hK hl hW => ?_)
  have hl : lv_has ls 2 [(0, .ref (gA X i0 (4 + n0))), (1, .ref (gA X i1 (4 + n1)))] := hl
  have hown : s.vm.findClass RX10 = some m.cls := hown
  have hL : gLo X [] := gLo_nil
  show W p l e rmX10_aheadByHeatTime s m args below meth c H [] 0 0 _ _
  have inX10 : ∀ w ∈ wsX100, w ∈ wsX10_aheadByHeatTime := fun w h => List.mem_cons_of_mem _ (inlX10 w h)
  have q46 := hts _ (List.mem_cons_of_mem _ wq_X10_46)
  have k55 : CallW rmX10_aheadByHeatTime s args RX10 RX10 55 yX10_aheadByEntry cX10_aheadByEntry 2 (some .boolean) wsX10_aheadByEntry rmX10_aheadByEntry 0 0 1 := cwV 1 hts (gGoodV (fun w h => List.mem_cons_of_mem _ h) wk_X10_55) rfl rfl rfl (by decide +kernel) ⟨Nat.le_of_ble_eq_true rfl, Nat.le_of_ble_eq_true rfl⟩
  rw [F_X10_aheadByHeatTime] at hF
  obtain ⟨locs, hlocs⟩ : ∃ locs : List Loc, locs = [] := ⟨_, rfl⟩
  rw [← hlocs] at hL ⊢
  refine lv_aload_n hx hb dX10_aheadByHeatTime_0 rfl (lv_at hl 0 rfl) ?_
  refine rg_X10_heatTime hx hb hts inX10 hown hK hW hi0 hn0 q46 dX10_aheadByHeatTime_1 ?_
  refine lv_aload_n hx hb dX10_aheadByHeatTime_4 rfl (lv_at hl 1 rfl) ?_
  refine rg_X10_heatTime hx hb hts inX10 hown hK hW hi1 hn1 q46 dX10_aheadByHeatTime_5 ?_
  refine lv_icmp_eq (tgt := 30) hx hb dX10_aheadByHeatTime_8 (by decide) (fun hc_1 => ?_) (fun hc_1 => ?_)
  · replace hF := gT hc_1 hF
    refine lv_aload_n hx hb dX10_aheadByHeatTime_30 rfl (lv_at hl 0 rfl) ?_
    refine lv_aload_n hx hb dX10_aheadByHeatTime_31 rfl (lv_at hl 1 rfl) ?_
    obtain ⟨v_3, hq_2, hF⟩ := gP_some hF
    refine g_Vi (As := [.ref (gA X i1 (4 + n1))]) (rest := []) ⟨hx, hb, hml, hown, hts⟩ hK hW hL hl.1 (gok_s hi0 hn0) (gE_ms hi0 n0) rfl (c_X10_aheadByEntry l X w i0 hi0 n0 hn0 i1 hi1 n1 hn1 v_3 hq_2) k55 rfl rfl (Nat.le_of_ble_eq_true rfl) dX10_aheadByHeatTime_32 ⟨Nat.le_of_ble_eq_true rfl, Nat.le_of_ble_eq_true rfl⟩ (fun H locs hW hL => ?_)
    obtain ⟨hz_4, hF⟩ := gZ_some hF
    exact g_rz hx hb hr hlocks hW hL hz_4 (Option.some.inj hF) dX10_aheadByHeatTime_35
  · replace hF := gF hc_1 hF
    refine lv_aload_n hx hb dX10_aheadByHeatTime_11 rfl (lv_at hl 0 rfl) ?_
    refine rg_X10_heatTime hx hb hts inX10 hown hK hW hi0 hn0 q46 dX10_aheadByHeatTime_12 ?_
    refine lv_aload_n hx hb dX10_aheadByHeatTime_15 rfl (lv_at hl 1 rfl) ?_
    refine rg_X10_heatTime hx hb hts inX10 hown hK hW hi1 hn1 q46 dX10_aheadByHeatTime_16 ?_
    refine lv_icmp_ge (tgt := 26) hx hb dX10_aheadByHeatTime_19 (by decide) (fun hc_5 => ?_) (fun hc_5 => ?_)
    · replace hF := gT hc_5 hF
      refine lv_iconst (v := 0) hx hb dX10_aheadByHeatTime_26 (by decide) ?_
      refine lv_goto (tgt := 35) hx hb dX10_aheadByHeatTime_27 (by decide) ?_
      exact g_rz hx hb hr hlocks hW hL (Or.inl rfl) (Option.some.inj hF) dX10_aheadByHeatTime_35
    · replace hF := gF hc_5 hF
      refine lv_iconst (v := 1) hx hb dX10_aheadByHeatTime_22 (by decide) ?_
      refine lv_goto (tgt := 35) hx hb dX10_aheadByHeatTime_23 (by decide) ?_
      exact g_rz hx hb hr hlocks hW hL (Or.inr rfl) (Option.some.inj hF) dX10_aheadByHeatTime_35
abbrev rmX5_rankByHeatTime : Room := { frames := 2, cells := 0, slots := 0, locals := 42 }
abbrev wsX5_rankByHeatTime : List Cond := gws yX5_rankByHeatTime cX5_rankByHeatTime 4 (some .int)
set_option maxHeartbeats 4000000 in
set_option maxRecDepth 100000 in
theorem c_X5_rankByHeatTime (l : Launch) (X : gX) (w : gWd) (i0 : Nat) (hi0 : i0 < 7) (i1 : Nat) (hi1 : i1 < 7) (n1 : Nat) (hn1 : n1 < 30) (r : Int32) (hF : F_X5_rankByHeatTime w i0 i1 n1 = some r) : Met l yX5_rankByHeatTime wsX5_rankByHeatTime rmX5_rankByHeatTime (gPc X [.ref (gA X i0 0), .ref (gA X i1 (4 + n1))] w) (gQi X r w) 0 0 (gFr X) := by
  refine g_ofW (cc := cX5_rankByHeatTime) (maxL := 4) (ret := (some .int)) (by decide) rfl (Nat.le_of_ble_eq_true rfl) (fun p e s m args below meth c ls H hx hb hr hts hown hlocks hml hK hl hW => ?_)
  have hl : lv_has ls 4 [(0, .ref (gA X i0 0)), (1, .ref (gA X i1 (4 + n1)))] := hl
  have hown : s.vm.findClass RX5 = some m.cls := hown
  have hL : gLo X [] := gLo_nil
  show W p l e rmX5_rankByHeatTime s m args below meth c H [] 0 0 _ _
  have inX5 : ∀ w ∈ wsX50, w ∈ wsX5_rankByHeatTime := fun w h => List.mem_cons_of_mem _ (inlX5 w h)
  have inX10 : ∀ w ∈ wsX100, w ∈ wsX5_rankByHeatTime := fun w h => List.mem_cons_of_mem _ (inlX10 w h)
  have q17 := hts _ (List.mem_cons_of_mem _ wq_X5_17)
  have q32 := hts _ (List.mem_cons_of_mem _ wq_X5_32)
  have q69 := hts _ (List.mem_cons_of_mem _ wq_X5_69)
  have k72 : CallW rmX5_rankByHeatTime s args RX5 RX10 72 yX10_aheadByHeatTime cX10_aheadByHeatTime 2 (some .boolean) wsX10_aheadByHeatTime rmX10_aheadByHeatTime 0 0 1 := cwV 1 hts (gGoodV (fun w h => List.mem_cons_of_mem _ h) wk_X5_72) rfl rfl rfl (by decide +kernel) ⟨Nat.le_of_ble_eq_true rfl, Nat.le_of_ble_eq_true rfl⟩
  have L_4 : ∀ (fu : Nat) (i0 : Nat) (i1 : Nat) (n1 : Nat) (x2 : Int32) (x3 : Int32) (hi0 : i0 < 7) (hi1 : i1 < 7) (hn1 : n1 < 30) (ls : Array Slot) (hl : lv_has ls 4 [(0, .ref (gA X i0 0)), (1, .ref (gA X i1 (4 + n1))), (2, .int x2), (3, .int x3)]) (hF : F_X5_rankByHeatTime_4 fu w i0 i1 n1 x2 x3 = some r) (H : Heap) (locs : List Loc) (hW : gWo X 252 (gE X w) H) (hL : gLo X locs), W p l e rmX5_rankByHeatTime s m args below meth c H locs 0 0 (MQ below (gQi X r w) args s 0 0 (gFr X)) (F0 m 4 ls []) := by
    intro fu
    induction fu with
    | zero => intro i0 i1 n1 x2 x3 hi0 hi1 hn1 ls hl hF H locs hW hL; rw [F_X5_rankByHeatTime_4_z] at hF; cases hF
    | succ fu4 ih4 =>
      intro i0 i1 n1 x2 x3 hi0 hi1 hn1 ls hl hF H locs hW hL
      rw [F_X5_rankByHeatTime_4_s] at hF
      refine lv_iload_n hx hb dX5_rankByHeatTime_4 rfl (lv_at hl 3 rfl) ?_
      refine lv_aload_n hx hb dX5_rankByHeatTime_5 rfl (lv_at hl 0 rfl) ?_
      refine rg_X5_size hx hb hts inX5 hown hK hW hi0 q32 dX5_rankByHeatTime_6 ?_
      refine lv_icmp_ge (tgt := 46) hx hb dX5_rankByHeatTime_9 (by decide) (fun hc_1 => ?_) (fun hc_1 => ?_)
      · replace hF := gT hc_1 hF
        refine lv_iload_n hx hb dX5_rankByHeatTime_46 rfl (lv_at hl 2 rfl) ?_
        exact g_ri hx hb hr hlocks hW hL (Option.some.inj hF) dX5_rankByHeatTime_47
      · replace hF := gF hc_1 hF
        refine lv_aload_n hx hb dX5_rankByHeatTime_12 rfl (lv_at hl 0 rfl) ?_
        refine rg_X5_all hx hb hts inX5 hown hK hW hi0 q17 dX5_rankByHeatTime_13 ?_
        refine lv_iload_n hx hb dX5_rankByHeatTime_16 rfl (lv_at hl 3 rfl) ?_
        obtain ⟨hin_2, hF⟩ := gB_some hF
        obtain ⟨k_3, ek_3⟩ : ∃ k, k = Int32.toNatClampNeg x3 := ⟨_, rfl⟩
        rw [← ek_3] at hF
        refine r_all (k := k_3) hx hb hK hW hi0 hin_2 ek_3.symm dX5_rankByHeatTime_17 ?_
        refine rg_X10_heatTime hx hb hts inX10 hown hK hW hi0 (vp_lt2 hin_2 ek_3.symm) q69 dX5_rankByHeatTime_18 ?_
        refine lv_if_le (tgt := 40) hx hb dX5_rankByHeatTime_21 (by decide) (fun hc_4 => ?_) (fun hc_4 => ?_)
        · replace hF := gT hc_4 hF
          obtain ⟨x3_5, ex3_5, hF⟩ := gS_some hF
          refine lv_iinc (v := x3_5) (lv' := [(3, .int x3_5), (0, .ref (gA X i0 0)), (1, .ref (gA X i1 (4 + n1))), (2, .int x2)]) hx hb dX5_rankByHeatTime_40 hl (k := 3) rfl (by rw [ex3_5]; rfl) (by decide) rfl (fun ls hl => ?_)
          refine lv_goto (tgt := 4) hx hb dX5_rankByHeatTime_43 (by decide) ?_
          exact ih4 i0 i1 n1 x2 x3_5 hi0 hi1 hn1 ls (lv_sub hl [1, 2, 3, 0] rfl) hF H locs hW hL
        · replace hF := gF hc_4 hF
          refine lv_aload_n hx hb dX5_rankByHeatTime_24 rfl (lv_at hl 0 rfl) ?_
          refine rg_X5_all hx hb hts inX5 hown hK hW hi0 q17 dX5_rankByHeatTime_25 ?_
          refine lv_iload_n hx hb dX5_rankByHeatTime_28 rfl (lv_at hl 3 rfl) ?_
          obtain ⟨hin_6, hF⟩ := gB_some hF
          obtain ⟨k_7, ek_7⟩ : ∃ k, k = Int32.toNatClampNeg x3 := ⟨_, rfl⟩
          rw [← ek_7] at hF
          refine r_all (k := k_7) hx hb hK hW hi0 hin_6 ek_7.symm dX5_rankByHeatTime_29 ?_
          refine lv_aload_n hx hb dX5_rankByHeatTime_30 rfl (lv_at hl 1 rfl) ?_
          obtain ⟨v_9, hq_8, hF⟩ := gP_some hF
          refine g_Vi (As := [.ref (gA X i1 (4 + n1))]) (rest := []) ⟨hx, hb, hml, hown, hts⟩ hK hW hL hl.1 (gok_s hi0 (vp_lt2 hin_6 ek_7.symm)) (gE_ms hi0 k_7) rfl (c_X10_aheadByHeatTime l X w i0 hi0 k_7 (vp_lt2 hin_6 ek_7.symm) i1 hi1 n1 hn1 v_9 hq_8) k72 rfl rfl (Nat.le_of_ble_eq_true rfl) dX5_rankByHeatTime_31 ⟨Nat.le_of_ble_eq_true rfl, Nat.le_of_ble_eq_true rfl⟩ (fun H locs hW hL => ?_)
          refine lv_if_eq (tgt := 40) hx hb dX5_rankByHeatTime_34 (by decide) (fun hc_10 => ?_) (fun hc_10 => ?_)
          · replace hF := gT hc_10 hF
            obtain ⟨x3_11, ex3_11, hF⟩ := gS_some hF
            refine lv_iinc (v := x3_11) (lv' := [(3, .int x3_11), (0, .ref (gA X i0 0)), (1, .ref (gA X i1 (4 + n1))), (2, .int x2)]) hx hb dX5_rankByHeatTime_40 hl (k := 3) rfl (by rw [ex3_11]; rfl) (by decide) rfl (fun ls hl => ?_)
            refine lv_goto (tgt := 4) hx hb dX5_rankByHeatTime_43 (by decide) ?_
            exact ih4 i0 i1 n1 x2 x3_11 hi0 hi1 hn1 ls (lv_sub hl [1, 2, 3, 0] rfl) hF H locs hW hL
          · replace hF := gF hc_10 hF
            obtain ⟨x2_12, ex2_12, hF⟩ := gS_some hF
            refine lv_iinc (v := x2_12) (lv' := [(2, .int x2_12), (0, .ref (gA X i0 0)), (1, .ref (gA X i1 (4 + n1))), (3, .int x3)]) hx hb dX5_rankByHeatTime_37 hl (k := 2) rfl (by rw [ex2_12]; rfl) (by decide) rfl (fun ls hl => ?_)
            obtain ⟨x3_13, ex3_13, hF⟩ := gS_some hF
            refine lv_iinc (v := x3_13) (lv' := [(3, .int x3_13), (2, .int x2_12), (0, .ref (gA X i0 0)), (1, .ref (gA X i1 (4 + n1)))]) hx hb dX5_rankByHeatTime_40 hl (k := 3) rfl (by rw [ex3_13]; rfl) (by decide) rfl (fun ls hl => ?_)
            refine lv_goto (tgt := 4) hx hb dX5_rankByHeatTime_43 (by decide) ?_
            exact ih4 i0 i1 n1 x2_12 x3_13 hi0 hi1 hn1 ls (lv_sub hl [2, 3, 1, 0] rfl) hF H locs hW hL
  rw [F_X5_rankByHeatTime] at hF
  obtain ⟨locs, hlocs⟩ : ∃ locs : List Loc, locs = [] := ⟨_, rfl⟩
  rw [← hlocs] at hL ⊢
  refine lv_iconst (v := 0) hx hb dX5_rankByHeatTime_0 (by decide) ?_
  refine lv_istore_n (lv' := [(2, .int 0), (0, .ref (gA X i0 0)), (1, .ref (gA X i1 (4 + n1)))]) hx hb dX5_rankByHeatTime_1 rfl hl (by decide) rfl (fun ls hl => ?_)
  refine lv_iconst (v := 0) hx hb dX5_rankByHeatTime_2 (by decide) ?_
  refine lv_istore_n (lv' := [(3, .int 0), (2, .int 0), (0, .ref (gA X i0 0)), (1, .ref (gA X i1 (4 + n1)))]) hx hb dX5_rankByHeatTime_3 rfl hl (by decide) rfl (fun ls hl => ?_)
  exact L_4 gFU i0 i1 n1 0 0 hi0 hi1 hn1 ls (lv_sub hl [2, 3, 1, 0] rfl) hF H locs hW hL
abbrev rmX1_seatByTime : Room := { frames := 3, cells := 0, slots := 0, locals := 65 }
abbrev wsX1_seatByTime : List Cond := gws yX1_seatByTime cX1_seatByTime 4 none
set_option maxHeartbeats 4000000 in
set_option maxRecDepth 100000 in
theorem c_X1_seatByTime (l : Launch) (X : gX) (w : gWd) (i0 : Nat) (hi0 : i0 < 7) (i1 : Nat) (hi1 : i1 < 7) (n1 : Nat) (hn1 : n1 < 30) (w' : gWd) (hF : F_X1_seatByTime w i0 i1 n1 = some w') : Met l yX1_seatByTime wsX1_seatByTime rmX1_seatByTime (gPc X [.ref (gA X i0 0), .ref (gA X i1 (4 + n1))] w) (gQv X w') 0 0 (gFr X) := by
  refine g_ofW (cc := cX1_seatByTime) (maxL := 4) (ret := none) (by decide) rfl (Nat.le_of_ble_eq_true rfl) (fun p e s m args below meth c ls H hx hb hr hts hown hlocks hml hK hl hW => ?_)
  have hl : lv_has ls 4 [(0, .ref (gA X i0 0)), (1, .ref (gA X i1 (4 + n1)))] := hl
  have hown : s.vm.findClass RX1 = some m.cls := hown
  have hL : gLo X [] := gLo_nil
  show W p l e rmX1_seatByTime s m args below meth c H [] 0 0 _ _
  have inX5 : ∀ w ∈ wsX50, w ∈ wsX1_seatByTime := fun w h => List.mem_cons_of_mem _ (inlX5 w h)
  have inX10 : ∀ w ∈ wsX100, w ∈ wsX1_seatByTime := fun w h => List.mem_cons_of_mem _ (inlX10 w h)
  have q142 := hts _ (List.mem_cons_of_mem _ wq_X1_142)
  have q145 := hts _ (List.mem_cons_of_mem _ wq_X1_145)
  have q148 := hts _ (List.mem_cons_of_mem _ wq_X1_148)
  have q47 := hts _ (List.mem_cons_of_mem _ wq_X1_47)
  have q70 := hts _ (List.mem_cons_of_mem _ wq_X1_70)
  have k133 : CallW rmX1_seatByTime s args RX1 RX5 133 yX5_rankByHeatTime cX5_rankByHeatTime 4 (some .int) wsX5_rankByHeatTime rmX5_rankByHeatTime 0 0 1 := cwV 1 hts (gGoodV (fun w h => List.mem_cons_of_mem _ h) wk_X1_133) rfl rfl rfl (by decide +kernel) ⟨Nat.le_of_ble_eq_true rfl, Nat.le_of_ble_eq_true rfl⟩
  have k137 : CallB rmX1_seatByTime s args RX1 137 yX4_ofRank cX4_ofRank 3 (some .int) wsX4_ofRank rmX4_ofRank 0 0 2 ∧ (Cond.static yX4_ofRank).before args s = true := va_cwS 2 hts (gGoodS (fun w h => List.mem_cons_of_mem _ h) wk_X1_137) rfl rfl rfl (by decide +kernel) ⟨Nat.le_of_ble_eq_true rfl, Nat.le_of_ble_eq_true rfl⟩
  have k78 : CallW rmX1_seatByTime s args RX1 RX5 78 yX5_lanes cX5_lanes 1 (some .int) wsX5_lanes rmX5_lanes 0 0 0 := cwV 0 hts (gGoodV (fun w h => List.mem_cons_of_mem _ h) wk_X1_78) rfl rfl rfl (by decide +kernel) ⟨Nat.le_of_ble_eq_true rfl, Nat.le_of_ble_eq_true rfl⟩
  rw [F_X1_seatByTime] at hF
  obtain ⟨locs, hlocs⟩ : ∃ locs : List Loc, locs = [] := ⟨_, rfl⟩
  rw [← hlocs] at hL ⊢
  refine lv_aload_n hx hb dX1_seatByTime_0 rfl (lv_at hl 0 rfl) ?_
  refine lv_aload_n hx hb dX1_seatByTime_1 rfl (lv_at hl 1 rfl) ?_
  obtain ⟨v_2, hq_1, hF⟩ := gP_some hF
  refine g_Vi (As := [.ref (gA X i1 (4 + n1))]) (rest := []) ⟨hx, hb, hml, hown, hts⟩ hK hW hL hl.1 (gok_m hi0 (by decide)) (gE_m0 hi0) rfl (c_X5_rankByHeatTime l X w i0 hi0 i1 hi1 n1 hn1 v_2 hq_1) k133 rfl rfl (Nat.le_of_ble_eq_true rfl) dX1_seatByTime_2 ⟨Nat.le_of_ble_eq_true rfl, Nat.le_of_ble_eq_true rfl⟩ (fun H locs hW hL => ?_)
  refine lv_istore_n (lv' := [(2, .int v_2), (0, .ref (gA X i0 0)), (1, .ref (gA X i1 (4 + n1)))]) hx hb dX1_seatByTime_5 rfl hl (by decide) rfl (fun ls hl => ?_)
  refine lv_iload_n hx hb dX1_seatByTime_6 rfl (lv_at hl 0 rfl) ?_
  refine lv_aload_n hx hb dX1_seatByTime_7 rfl (lv_at hl 1 rfl) ?_
  obtain ⟨v_4, hq_3, hF⟩ := gP_some hF
  refine g_Vi (As := []) (rest := [.int v_2]) ⟨hx, hb, hml, hown, hts⟩ hK hW hL hl.1 (gok_m hi0 (by decide)) (gE_m0 hi0) rfl (c_X5_lanes l X w i0 hi0 v_4 hq_3) k78 rfl rfl (Nat.le_of_ble_eq_true rfl) dX1_seatByTime_8 ⟨Nat.le_of_ble_eq_true rfl, Nat.le_of_ble_eq_true rfl⟩ (fun H locs hW hL => ?_)
  refine lv_icmp_ge (tgt := 27) hx hb dX1_seatByTime_11 (by decide) (fun hc_5 => ?_) (fun hc_5 => ?_)
  · replace hF := gT hc_5 hF
    refine lv_iload_n hx hb dX1_seatByTime_27 rfl (lv_at hl 0 rfl) ?_
    refine lv_aload_n hx hb dX1_seatByTime_28 rfl (lv_at hl 1 rfl) ?_
    obtain ⟨v_7, hq_6, hF⟩ := gP_some hF
    refine g_Vi (As := []) (rest := [.int v_2]) ⟨hx, hb, hml, hown, hts⟩ hK hW hL hl.1 (gok_m hi0 (by decide)) (gE_m0 hi0) rfl (c_X5_lanes l X w i0 hi0 v_7 hq_6) k78 rfl rfl (Nat.le_of_ble_eq_true rfl) dX1_seatByTime_29 ⟨Nat.le_of_ble_eq_true rfl, Nat.le_of_ble_eq_true rfl⟩ (fun H locs hW hL => ?_)
    refine lv_isub hx hb dX1_seatByTime_32 ?_
    obtain ⟨x3_8, ex3_8, hF⟩ := gS_some hF
    refine g_top ex3_8 ?_
    refine lv_istore_n (lv' := [(3, .int x3_8), (2, .int v_2), (0, .ref (gA X i0 0)), (1, .ref (gA X i1 (4 + n1)))]) hx hb dX1_seatByTime_33 rfl hl (by decide) rfl (fun ls hl => ?_)
    refine lv_iload_n hx hb dX1_seatByTime_34 rfl (lv_at hl 0 rfl) ?_
    refine lv_aload_n hx hb dX1_seatByTime_35 rfl (lv_at hl 2 rfl) ?_
    refine rg_X5_settings hx hb hts inX5 hown hK hW hi0 q70 dX1_seatByTime_36 ?_
    refine lv_iconst (v := 2) hx hb dX1_seatByTime_39 (by decide) ?_
    refine g_iald2 (k := 2) hx hb hK hW (gok_m hi0 (by decide)) (gad_lt (gok_m hi0 (by decide))) (gE_m1 hi0) (gin (by decide)) (by decide) dX1_seatByTime_40 ?_
    refine lv_icmp_ge (tgt := 69) hx hb dX1_seatByTime_41 (by decide) (fun hc_9 => ?_) (fun hc_9 => ?_)
    · replace hF := gT hc_9 hF
      exact g_rv hx hb hr hlocks (gW1 hF hW) hL dX1_seatByTime_69
    · replace hF := gF hc_9 hF
      refine lv_iload_n hx hb dX1_seatByTime_44 rfl (lv_at hl 0 rfl) ?_
      refine lv_iconst (v := 4) hx hb dX1_seatByTime_45 (by decide) ?_
      refine lv_icmp_ge (tgt := 69) hx hb dX1_seatByTime_46 (by decide) (fun hc_10 => ?_) (fun hc_10 => ?_)
      · replace hF := gT hc_10 hF
        exact g_rv hx hb hr hlocks (gW1 hF hW) hL dX1_seatByTime_69
      · replace hF := gF hc_10 hF
        refine lv_aload_n hx hb dX1_seatByTime_49 rfl (lv_at hl 2 rfl) ?_
        refine rg_X5_reserves hx hb hts inX5 hown hK hW hi0 q142 dX1_seatByTime_50 ?_
        refine lv_iload_n hx hb dX1_seatByTime_53 rfl (lv_at hl 0 rfl) ?_
        refine lv_aload_n hx hb dX1_seatByTime_54 rfl (lv_at hl 3 rfl) ?_
        refine rg_X10_number hx hb hts inX10 hown hK hW hi1 hn1 q145 dX1_seatByTime_55 ?_
        obtain ⟨hin_11, hF⟩ := gB_some hF
        obtain ⟨k_12, ek_12⟩ : ∃ k, k = Int32.toNatClampNeg x3_8 := ⟨_, rfl⟩
        rw [← ek_12] at hF
        obtain ⟨w_13, ew_13, hF⟩ := gS_some hF
        refine g_iast2 (k := k_12) hx hb hK hW hL (gok_m hi0 (by decide)) (fun w => gE_m3 (w := w) hi0) hin_11 ek_12.symm dX1_seatByTime_58 (fun H locs hW hL => ?_)
        rw [← ew_13] at hW
        refine lv_aload_n hx hb dX1_seatByTime_59 rfl (lv_at hl 2 rfl) ?_
        refine lv_dup hx hb dX1_seatByTime_60 rfl ?_
        refine rg_X5_reservesDrawn hx hb hts inX5 hown hK hW hi0 q148 dX1_seatByTime_61 ?_
        refine lv_iconst (v := 1) hx hb dX1_seatByTime_64 (by decide) ?_
        refine lv_iadd hx hb dX1_seatByTime_65 ?_
        obtain ⟨w_14, ew_14, hF⟩ := gS_some hF
        refine rp_X5_reservesDrawn hx hb hts inX5 hown hK hW hL hi0 q148 dX1_seatByTime_66 (fun H locs hW hL => ?_)
        rw [← ew_14] at hW
        exact g_rv hx hb hr hlocks (gW1 hF hW) hL dX1_seatByTime_69
  · replace hF := gF hc_5 hF
    refine lv_aload_n hx hb dX1_seatByTime_14 rfl (lv_at hl 2 rfl) ?_
    refine lv_iload_n hx hb dX1_seatByTime_15 rfl (lv_at hl 0 rfl) ?_
    refine lv_aload_n hx hb dX1_seatByTime_16 rfl (lv_at hl 1 rfl) ?_
    obtain ⟨v_16, hq_15, hF⟩ := gP_some hF
    refine g_Vi (As := []) (rest := [.int v_2, .ref (gA X i1 (4 + n1))]) ⟨hx, hb, hml, hown, hts⟩ hK hW hL hl.1 (gok_m hi0 (by decide)) (gE_m0 hi0) rfl (c_X5_lanes l X w i0 hi0 v_16 hq_15) k78 rfl rfl (Nat.le_of_ble_eq_true rfl) dX1_seatByTime_17 ⟨Nat.le_of_ble_eq_true rfl, Nat.le_of_ble_eq_true rfl⟩ (fun H locs hW hL => ?_)
    obtain ⟨v_18, hq_17, hF⟩ := gP_some hF
    refine g_Si (As := [.int v_2, .int v_16]) (rest := [.ref (gA X i1 (4 + n1))]) ⟨hx, hb, hml, hown, hts⟩ hK hW hL hl.1 (c_X4_ofRank l X w v_2 v_16 v_18 hq_17) k137 rfl rfl (Nat.le_of_ble_eq_true rfl) dX1_seatByTime_20 ⟨Nat.le_of_ble_eq_true rfl, Nat.le_of_ble_eq_true rfl⟩ (fun H locs hW hL => ?_)
    obtain ⟨w_19, ew_19, hF⟩ := gS_some hF
    refine rp_X10_finalLane hx hb hts inX10 hown hK hW hL hi1 hn1 q47 dX1_seatByTime_23 (fun H locs hW hL => ?_)
    rw [← ew_19] at hW
    exact g_rv hx hb hr hlocks (gW1 hF hW) hL dX1_seatByTime_26
abbrev rmX5_finalSet : Room := { frames := 0, cells := 0, slots := 0, locals := 0 }
abbrev wsX5_finalSet : List Cond := gws yX5_finalSet cX5_finalSet 3 (some .int)
set_option maxHeartbeats 4000000 in
set_option maxRecDepth 100000 in
theorem c_X5_finalSet (l : Launch) (X : gX) (w : gWd) (i0 : Nat) (hi0 : i0 < 7) (r : Int32) (hF : F_X5_finalSet w i0 = some r) : Met l yX5_finalSet wsX5_finalSet rmX5_finalSet (gPc X [.ref (gA X i0 0)] w) (gQi X r w) 0 0 (gFr X) := by
  refine g_ofW (cc := cX5_finalSet) (maxL := 3) (ret := (some .int)) (by decide) rfl (Nat.le_of_ble_eq_true rfl) (fun p e s m args below meth c ls H hx hb hr hts hown hlocks hml hK hl hW => ?_)
  have hl : lv_has ls 3 [(0, .ref (gA X i0 0))] := hl
  have hown : s.vm.findClass RX5 = some m.cls := hown
  have hL : gLo X [] := gLo_nil
  show W p l e rmX5_finalSet s m args below meth c H [] 0 0 _ _
  have inX5 : ∀ w ∈ wsX50, w ∈ wsX5_finalSet := fun w h => List.mem_cons_of_mem _ (inlX5 w h)
  have inX10 : ∀ w ∈ wsX100, w ∈ wsX5_finalSet := fun w h => List.mem_cons_of_mem _ (inlX10 w h)
  have q17 := hts _ (List.mem_cons_of_mem _ wq_X5_17)
  have q32 := hts _ (List.mem_cons_of_mem _ wq_X5_32)
  have q78 := hts _ (List.mem_cons_of_mem _ wq_X5_78)
  have L_4 : ∀ (fu : Nat) (i0 : Nat) (x1 : Int32) (x2 : Int32) (hi0 : i0 < 7) (ls : Array Slot) (hl : lv_has ls 3 [(0, .ref (gA X i0 0)), (1, .int x1), (2, .int x2)]) (hF : F_X5_finalSet_4 fu w i0 x1 x2 = some r) (H : Heap) (locs : List Loc) (hW : gWo X 252 (gE X w) H) (hL : gLo X locs), W p l e rmX5_finalSet s m args below meth c H locs 0 0 (MQ below (gQi X r w) args s 0 0 (gFr X)) (F0 m 4 ls []) := by
    intro fu
    induction fu with
    | zero => intro i0 x1 x2 hi0 ls hl hF H locs hW hL; rw [F_X5_finalSet_4_z] at hF; cases hF
    | succ fu4 ih4 =>
      intro i0 x1 x2 hi0 ls hl hF H locs hW hL
      rw [F_X5_finalSet_4_s] at hF
      refine lv_iload_n hx hb dX5_finalSet_4 rfl (lv_at hl 2 rfl) ?_
      refine lv_aload_n hx hb dX5_finalSet_5 rfl (lv_at hl 0 rfl) ?_
      refine rg_X5_size hx hb hts inX5 hown hK hW hi0 q32 dX5_finalSet_6 ?_
      refine lv_icmp_ge (tgt := 36) hx hb dX5_finalSet_9 (by decide) (fun hc_1 => ?_) (fun hc_1 => ?_)
      · replace hF := gT hc_1 hF
        refine lv_iload_n hx hb dX5_finalSet_36 rfl (lv_at hl 1 rfl) ?_
        exact g_ri hx hb hr hlocks hW hL (Option.some.inj hF) dX5_finalSet_37
      · replace hF := gF hc_1 hF
        refine lv_aload_n hx hb dX5_finalSet_12 rfl (lv_at hl 0 rfl) ?_
        refine rg_X5_all hx hb hts inX5 hown hK hW hi0 q17 dX5_finalSet_13 ?_
        refine lv_iload_n hx hb dX5_finalSet_16 rfl (lv_at hl 2 rfl) ?_
        obtain ⟨hin_2, hF⟩ := gB_some hF
        obtain ⟨k_3, ek_3⟩ : ∃ k, k = Int32.toNatClampNeg x2 := ⟨_, rfl⟩
        rw [← ek_3] at hF
        refine r_all (k := k_3) hx hb hK hW hi0 hin_2 ek_3.symm dX5_finalSet_17 ?_
        refine rg_X10_finalLane hx hb hts inX10 hown hK hW hi0 (vp_lt2 hin_2 ek_3.symm) q78 dX5_finalSet_18 ?_
        refine lv_if_eq (tgt := 30) hx hb dX5_finalSet_21 (by decide) (fun hc_4 => ?_) (fun hc_4 => ?_)
        · replace hF := gT hc_4 hF
          obtain ⟨x2_5, ex2_5, hF⟩ := gS_some hF
          refine lv_iinc (v := x2_5) (lv' := [(2, .int x2_5), (0, .ref (gA X i0 0)), (1, .int x1)]) hx hb dX5_finalSet_30 hl (k := 2) rfl (by rw [ex2_5]; rfl) (by decide) rfl (fun ls hl => ?_)
          refine lv_goto (tgt := 4) hx hb dX5_finalSet_33 (by decide) ?_
          exact ih4 i0 x1 x2_5 hi0 ls (lv_sub hl [1, 2, 0] rfl) hF H locs hW hL
        · replace hF := gF hc_4 hF
          refine lv_iload_n hx hb dX5_finalSet_24 rfl (lv_at hl 1 rfl) ?_
          refine lv_iconst (v := 1) hx hb dX5_finalSet_25 (by decide) ?_
          refine lv_iload_n hx hb dX5_finalSet_26 rfl (lv_at hl 2 rfl) ?_
          refine lv_ishl hx hb dX5_finalSet_27 ?_
          refine lv_ior hx hb dX5_finalSet_28 ?_
          obtain ⟨x1_6, ex1_6, hF⟩ := gS_some hF
          refine g_top ex1_6 ?_
          refine lv_istore_n (lv' := [(1, .int x1_6), (0, .ref (gA X i0 0)), (2, .int x2)]) hx hb dX5_finalSet_29 rfl hl (by decide) rfl (fun ls hl => ?_)
          obtain ⟨x2_7, ex2_7, hF⟩ := gS_some hF
          refine lv_iinc (v := x2_7) (lv' := [(2, .int x2_7), (1, .int x1_6), (0, .ref (gA X i0 0))]) hx hb dX5_finalSet_30 hl (k := 2) rfl (by rw [ex2_7]; rfl) (by decide) rfl (fun ls hl => ?_)
          refine lv_goto (tgt := 4) hx hb dX5_finalSet_33 (by decide) ?_
          exact ih4 i0 x1_6 x2_7 hi0 ls (lv_sub hl [2, 1, 0] rfl) hF H locs hW hL
  rw [F_X5_finalSet] at hF
  obtain ⟨locs, hlocs⟩ : ∃ locs : List Loc, locs = [] := ⟨_, rfl⟩
  rw [← hlocs] at hL ⊢
  refine lv_iconst (v := 0) hx hb dX5_finalSet_0 (by decide) ?_
  refine lv_istore_n (lv' := [(1, .int 0), (0, .ref (gA X i0 0))]) hx hb dX5_finalSet_1 rfl hl (by decide) rfl (fun ls hl => ?_)
  refine lv_iconst (v := 0) hx hb dX5_finalSet_2 (by decide) ?_
  refine lv_istore_n (lv' := [(2, .int 0), (1, .int 0), (0, .ref (gA X i0 0))]) hx hb dX5_finalSet_3 rfl hl (by decide) rfl (fun ls hl => ?_)
  exact L_4 gFU i0 0 0 hi0 ls (lv_sub hl [2, 1, 0] rfl) hF H locs hW hL
abbrev rmX5_stillToSwim : Room := { frames := 1, cells := 0, slots := 0, locals := 21 }
abbrev wsX5_stillToSwim : List Cond := gws yX5_stillToSwim cX5_stillToSwim 4 (some .int)
set_option maxHeartbeats 4000000 in
set_option maxRecDepth 100000 in
theorem c_X5_stillToSwim (l : Launch) (X : gX) (w : gWd) (i0 : Nat) (hi0 : i0 < 7) (x1 : Int32) (r : Int32) (hF : F_X5_stillToSwim w i0 x1 = some r) : Met l yX5_stillToSwim wsX5_stillToSwim rmX5_stillToSwim (gPc X [.ref (gA X i0 0), .int x1] w) (gQi X r w) 0 0 (gFr X) := by
  refine g_ofW (cc := cX5_stillToSwim) (maxL := 4) (ret := (some .int)) (by decide) rfl (Nat.le_of_ble_eq_true rfl) (fun p e s m args below meth c ls H hx hb hr hts hown hlocks hml hK hl hW => ?_)
  have hl : lv_has ls 4 [(0, .ref (gA X i0 0)), (1, .int x1)] := hl
  have hown : s.vm.findClass RX5 = some m.cls := hown
  have hL : gLo X [] := gLo_nil
  show W p l e rmX5_stillToSwim s m args below meth c H [] 0 0 _ _
  have inX5 : ∀ w ∈ wsX50, w ∈ wsX5_stillToSwim := fun w h => List.mem_cons_of_mem _ (inlX5 w h)
  have q17 := hts _ (List.mem_cons_of_mem _ wq_X5_17)
  have q32 := hts _ (List.mem_cons_of_mem _ wq_X5_32)
  have q95 := hts _ (List.mem_cons_of_mem _ wq_X5_95)
  have k84 : CallW rmX5_stillToSwim s args RX5 RX5 84 yX5_stageTime cX5_stageTime 2 (some .int) wsX5_stageTime rmX5_stageTime 0 0 1 := cwV 1 hts (gGoodV (fun w h => List.mem_cons_of_mem _ h) wk_X5_84) rfl rfl rfl (by decide +kernel) ⟨Nat.le_of_ble_eq_true rfl, Nat.le_of_ble_eq_true rfl⟩
  have k92 : CallW rmX5_stillToSwim s args RX5 RX5 92 yX5_swimsNow cX5_swimsNow 2 (some .boolean) wsX5_swimsNow rmX5_swimsNow 0 0 1 := cwV 1 hts (gGoodV (fun w h => List.mem_cons_of_mem _ h) wk_X5_92) rfl rfl rfl (by decide +kernel) ⟨Nat.le_of_ble_eq_true rfl, Nat.le_of_ble_eq_true rfl⟩
  have L_4 : ∀ (fu : Nat) (i0 : Nat) (x1 : Int32) (x2 : Int32) (x3 : Int32) (hi0 : i0 < 7) (ls : Array Slot) (hl : lv_has ls 4 [(0, .ref (gA X i0 0)), (1, .int x1), (2, .int x2), (3, .int x3)]) (hF : F_X5_stillToSwim_4 fu w i0 x1 x2 x3 = some r) (H : Heap) (locs : List Loc) (hW : gWo X 252 (gE X w) H) (hL : gLo X locs), W p l e rmX5_stillToSwim s m args below meth c H locs 0 0 (MQ below (gQi X r w) args s 0 0 (gFr X)) (F0 m 4 ls []) := by
    intro fu
    induction fu with
    | zero => intro i0 x1 x2 x3 hi0 ls hl hF H locs hW hL; rw [F_X5_stillToSwim_4_z] at hF; cases hF
    | succ fu4 ih4 =>
      intro i0 x1 x2 x3 hi0 ls hl hF H locs hW hL
      rw [F_X5_stillToSwim_4_s] at hF
      refine lv_iload_n hx hb dX5_stillToSwim_4 rfl (lv_at hl 3 rfl) ?_
      refine lv_aload_n hx hb dX5_stillToSwim_5 rfl (lv_at hl 0 rfl) ?_
      refine rg_X5_size hx hb hts inX5 hown hK hW hi0 q32 dX5_stillToSwim_6 ?_
      refine lv_icmp_ge (tgt := 55) hx hb dX5_stillToSwim_9 (by decide) (fun hc_1 => ?_) (fun hc_1 => ?_)
      · replace hF := gT hc_1 hF
        refine lv_ldc hx hb hown q95 dX5_stillToSwim_55 ?_
        exact g_ri hx hb hr hlocks hW hL (Option.some.inj hF) dX5_stillToSwim_57
      · replace hF := gF hc_1 hF
        refine lv_aload_n hx hb dX5_stillToSwim_12 rfl (lv_at hl 0 rfl) ?_
        refine lv_aload_n hx hb dX5_stillToSwim_13 rfl (lv_at hl 0 rfl) ?_
        refine rg_X5_all hx hb hts inX5 hown hK hW hi0 q17 dX5_stillToSwim_14 ?_
        refine lv_iload_n hx hb dX5_stillToSwim_17 rfl (lv_at hl 3 rfl) ?_
        obtain ⟨hin_2, hF⟩ := gB_some hF
        obtain ⟨k_3, ek_3⟩ : ∃ k, k = Int32.toNatClampNeg x3 := ⟨_, rfl⟩
        rw [← ek_3] at hF
        refine r_all (k := k_3) hx hb hK hW hi0 hin_2 ek_3.symm dX5_stillToSwim_18 ?_
        obtain ⟨v_5, hq_4, hF⟩ := gP_some hF
        refine g_Vi (As := [.ref (gA X i0 (4 + k_3))]) (rest := []) ⟨hx, hb, hml, hown, hts⟩ hK hW hL hl.1 (gok_m hi0 (by decide)) (gE_m0 hi0) rfl (c_X5_swimsNow l X w i0 hi0 i0 hi0 k_3 (vp_lt2 hin_2 ek_3.symm) v_5 hq_4) k92 rfl rfl (Nat.le_of_ble_eq_true rfl) dX5_stillToSwim_19 ⟨Nat.le_of_ble_eq_true rfl, Nat.le_of_ble_eq_true rfl⟩ (fun H locs hW hL => ?_)
        refine lv_if_eq (tgt := 49) hx hb dX5_stillToSwim_22 (by decide) (fun hc_6 => ?_) (fun hc_6 => ?_)
        · replace hF := gT hc_6 hF
          obtain ⟨x3_7, ex3_7, hF⟩ := gS_some hF
          refine lv_iinc (v := x3_7) (lv' := [(3, .int x3_7), (0, .ref (gA X i0 0)), (1, .int x1), (2, .int x2)]) hx hb dX5_stillToSwim_49 hl (k := 3) rfl (by rw [ex3_7]; rfl) (by decide) rfl (fun ls hl => ?_)
          refine lv_goto (tgt := 4) hx hb dX5_stillToSwim_52 (by decide) ?_
          exact ih4 i0 x1 x2 x3_7 hi0 ls (lv_sub hl [1, 2, 3, 0] rfl) hF H locs hW hL
        · replace hF := gF hc_6 hF
          refine lv_aload_n hx hb dX5_stillToSwim_25 rfl (lv_at hl 0 rfl) ?_
          refine lv_aload_n hx hb dX5_stillToSwim_26 rfl (lv_at hl 0 rfl) ?_
          refine rg_X5_all hx hb hts inX5 hown hK hW hi0 q17 dX5_stillToSwim_27 ?_
          refine lv_iload_n hx hb dX5_stillToSwim_30 rfl (lv_at hl 3 rfl) ?_
          obtain ⟨hin_8, hF⟩ := gB_some hF
          obtain ⟨k_9, ek_9⟩ : ∃ k, k = Int32.toNatClampNeg x3 := ⟨_, rfl⟩
          rw [← ek_9] at hF
          refine r_all (k := k_9) hx hb hK hW hi0 hin_8 ek_9.symm dX5_stillToSwim_31 ?_
          obtain ⟨v_11, hq_10, hF⟩ := gP_some hF
          refine g_Vi (As := [.ref (gA X i0 (4 + k_9))]) (rest := []) ⟨hx, hb, hml, hown, hts⟩ hK hW hL hl.1 (gok_m hi0 (by decide)) (gE_m0 hi0) rfl (c_X5_stageTime l X w i0 hi0 i0 hi0 k_9 (vp_lt2 hin_8 ek_9.symm) v_11 hq_10) k84 rfl rfl (Nat.le_of_ble_eq_true rfl) dX5_stillToSwim_32 ⟨Nat.le_of_ble_eq_true rfl, Nat.le_of_ble_eq_true rfl⟩ (fun H locs hW hL => ?_)
          refine lv_iconst (v := (-1)) hx hb dX5_stillToSwim_35 (by decide) ?_
          refine lv_icmp_ne (tgt := 49) hx hb dX5_stillToSwim_36 (by decide) (fun hc_12 => ?_) (fun hc_12 => ?_)
          · replace hF := gF hc_12 hF
            obtain ⟨x3_13, ex3_13, hF⟩ := gS_some hF
            refine lv_iinc (v := x3_13) (lv' := [(3, .int x3_13), (0, .ref (gA X i0 0)), (1, .int x1), (2, .int x2)]) hx hb dX5_stillToSwim_49 hl (k := 3) rfl (by rw [ex3_13]; rfl) (by decide) rfl (fun ls hl => ?_)
            refine lv_goto (tgt := 4) hx hb dX5_stillToSwim_52 (by decide) ?_
            exact ih4 i0 x1 x2 x3_13 hi0 ls (lv_sub hl [1, 2, 3, 0] rfl) hF H locs hW hL
          · replace hF := gT hc_12 hF
            refine lv_iload_n hx hb dX5_stillToSwim_39 rfl (lv_at hl 2 rfl) ?_
            refine lv_iload_n hx hb dX5_stillToSwim_40 rfl (lv_at hl 1 rfl) ?_
            refine lv_icmp_ne (tgt := 46) hx hb dX5_stillToSwim_41 (by decide) (fun hc_14 => ?_) (fun hc_14 => ?_)
            · replace hF := gF hc_14 hF
              obtain ⟨x2_15, ex2_15, hF⟩ := gS_some hF
              refine lv_iinc (v := x2_15) (lv' := [(2, .int x2_15), (0, .ref (gA X i0 0)), (1, .int x1), (3, .int x3)]) hx hb dX5_stillToSwim_46 hl (k := 2) rfl (by rw [ex2_15]; rfl) (by decide) rfl (fun ls hl => ?_)
              obtain ⟨x3_16, ex3_16, hF⟩ := gS_some hF
              refine lv_iinc (v := x3_16) (lv' := [(3, .int x3_16), (2, .int x2_15), (0, .ref (gA X i0 0)), (1, .int x1)]) hx hb dX5_stillToSwim_49 hl (k := 3) rfl (by rw [ex3_16]; rfl) (by decide) rfl (fun ls hl => ?_)
              refine lv_goto (tgt := 4) hx hb dX5_stillToSwim_52 (by decide) ?_
              exact ih4 i0 x1 x2_15 x3_16 hi0 ls (lv_sub hl [2, 3, 1, 0] rfl) hF H locs hW hL
            · replace hF := gT hc_14 hF
              refine lv_iload_n hx hb dX5_stillToSwim_44 rfl (lv_at hl 3 rfl) ?_
              exact g_ri hx hb hr hlocks hW hL (Option.some.inj hF) dX5_stillToSwim_45
  rw [F_X5_stillToSwim] at hF
  obtain ⟨locs, hlocs⟩ : ∃ locs : List Loc, locs = [] := ⟨_, rfl⟩
  rw [← hlocs] at hL ⊢
  refine lv_iconst (v := 0) hx hb dX5_stillToSwim_0 (by decide) ?_
  refine lv_istore_n (lv' := [(2, .int 0), (0, .ref (gA X i0 0)), (1, .int x1)]) hx hb dX5_stillToSwim_1 rfl hl (by decide) rfl (fun ls hl => ?_)
  refine lv_iconst (v := 0) hx hb dX5_stillToSwim_2 (by decide) ?_
  refine lv_istore_n (lv' := [(3, .int 0), (2, .int 0), (0, .ref (gA X i0 0)), (1, .int x1)]) hx hb dX5_stillToSwim_3 rfl hl (by decide) rfl (fun ls hl => ?_)
  exact L_4 gFU i0 x1 0 0 hi0 ls (lv_sub hl [2, 3, 1, 0] rfl) hF H locs hW hL
abbrev rmX5_timesAboveZero : Room := { frames := 2, cells := 0, slots := 0, locals := 45 }
abbrev wsX5_timesAboveZero : List Cond := gws yX5_timesAboveZero cX5_timesAboveZero 1 (some .int)
set_option maxHeartbeats 4000000 in
set_option maxRecDepth 100000 in
theorem c_X5_timesAboveZero (l : Launch) (X : gX) (w : gWd) (i0 : Nat) (hi0 : i0 < 7) (r : Int32) (hF : F_X5_timesAboveZero w i0 = some r) : Met l yX5_timesAboveZero wsX5_timesAboveZero rmX5_timesAboveZero (gPc X [.ref (gA X i0 0)] w) (gQi X r w) 0 0 (gFr X) := by
  refine g_ofW (cc := cX5_timesAboveZero) (maxL := 1) (ret := (some .int)) (by decide) rfl (Nat.le_of_ble_eq_true rfl) (fun p e s m args below meth c ls H hx hb hr hts hown hlocks hml hK hl hW => ?_)
  have hl : lv_has ls 1 [(0, .ref (gA X i0 0))] := hl
  have hown : s.vm.findClass RX5 = some m.cls := hown
  have hL : gLo X [] := gLo_nil
  show W p l e rmX5_timesAboveZero s m args below meth c H [] 0 0 _ _
  have k88 : CallW rmX5_timesAboveZero s args RX5 RX5 88 yX5_fasterThan cX5_fasterThan 5 (some .int) wsX5_fasterThan rmX5_fasterThan 0 0 1 := cwV 1 hts (gGoodV (fun w h => List.mem_cons_of_mem _ h) wk_X5_88) rfl rfl rfl (by decide +kernel) ⟨Nat.le_of_ble_eq_true rfl, Nat.le_of_ble_eq_true rfl⟩
  rw [F_X5_timesAboveZero] at hF
  obtain ⟨locs, hlocs⟩ : ∃ locs : List Loc, locs = [] := ⟨_, rfl⟩
  rw [← hlocs] at hL ⊢
  refine lv_aload_n hx hb dX5_timesAboveZero_0 rfl (lv_at hl 0 rfl) ?_
  refine lv_sipush (v := 1000) hx hb dX5_timesAboveZero_1 (by decide) ?_
  obtain ⟨v_2, hq_1, hF⟩ := gP_some hF
  refine g_Vi (As := [.int 1000]) (rest := []) ⟨hx, hb, hml, hown, hts⟩ hK hW hL hl.1 (gok_m hi0 (by decide)) (gE_m0 hi0) rfl (c_X5_fasterThan l X w i0 hi0 1000 v_2 hq_1) k88 rfl rfl (Nat.le_of_ble_eq_true rfl) dX5_timesAboveZero_4 ⟨Nat.le_of_ble_eq_true rfl, Nat.le_of_ble_eq_true rfl⟩ (fun H locs hW hL => ?_)
  exact g_ri hx hb hr hlocks hW hL (Option.some.inj hF) dX5_timesAboveZero_7
abbrev rmX5_reasonToWait : Room := { frames := 3, cells := 0, slots := 0, locals := 65 }
abbrev wsX5_reasonToWait : List Cond := gws yX5_reasonToWait cX5_reasonToWait 1 (some .int)
set_option maxHeartbeats 4000000 in
set_option maxRecDepth 100000 in
theorem c_X5_reasonToWait (l : Launch) (X : gX) (w : gWd) (i0 : Nat) (hi0 : i0 < 7) (r : Int32) (hF : F_X5_reasonToWait w i0 = some r) : Met l yX5_reasonToWait wsX5_reasonToWait rmX5_reasonToWait (gPc X [.ref (gA X i0 0)] w) (gQi X r w) 0 0 (gFr X) := by
  refine g_ofW (cc := cX5_reasonToWait) (maxL := 1) (ret := (some .int)) (by decide) rfl (Nat.le_of_ble_eq_true rfl) (fun p e s m args below meth c ls H hx hb hr hts hown hlocks hml hK hl hW => ?_)
  have hl : lv_has ls 1 [(0, .ref (gA X i0 0))] := hl
  have hown : s.vm.findClass RX5 = some m.cls := hown
  have hL : gLo X [] := gLo_nil
  show W p l e rmX5_reasonToWait s m args below meth c H [] 0 0 _ _
  have inX5 : ∀ w ∈ wsX50, w ∈ wsX5_reasonToWait := fun w h => List.mem_cons_of_mem _ (inlX5 w h)
  have q36 := hts _ (List.mem_cons_of_mem _ wq_X5_36)
  have q95 := hts _ (List.mem_cons_of_mem _ wq_X5_95)
  have k100 : CallW rmX5_reasonToWait s args RX5 RX5 100 yX5_stillToSwim cX5_stillToSwim 4 (some .int) wsX5_stillToSwim rmX5_stillToSwim 0 0 1 := cwV 1 hts (gGoodV (fun w h => List.mem_cons_of_mem _ h) wk_X5_100) rfl rfl rfl (by decide +kernel) ⟨Nat.le_of_ble_eq_true rfl, Nat.le_of_ble_eq_true rfl⟩
  have k103 : CallW rmX5_reasonToWait s args RX5 RX5 103 yX5_timesAboveZero cX5_timesAboveZero 1 (some .int) wsX5_timesAboveZero rmX5_timesAboveZero 0 0 0 := cwV 0 hts (gGoodV (fun w h => List.mem_cons_of_mem _ h) wk_X5_103) rfl rfl rfl (by decide +kernel) ⟨Nat.le_of_ble_eq_true rfl, Nat.le_of_ble_eq_true rfl⟩
  have k96 : CallW rmX5_reasonToWait s args RX5 RX5 96 yX5_notScratched cX5_notScratched 3 (some .int) wsX5_notScratched rmX5_notScratched 0 0 0 := cwV 0 hts (gGoodV (fun w h => List.mem_cons_of_mem _ h) wk_X5_96) rfl rfl rfl (by decide +kernel) ⟨Nat.le_of_ble_eq_true rfl, Nat.le_of_ble_eq_true rfl⟩
  have B_51 : ∀   (ls : Array Slot) (hl : lv_has ls 1 []) (hF : F_X5_reasonToWait_51 w = some r) (H : Heap) (locs : List Loc) (hW : gWo X 252 (gE X w) H) (hL : gLo X locs), W p l e rmX5_reasonToWait s m args below meth c H locs 0 0 (MQ below (gQi X r w) args s 0 0 (gFr X)) (F0 m 51 ls []) := by
    intro ls hl hF H locs hW hL
    rw [F_X5_reasonToWait_51] at hF
    refine lv_iconst (v := 0) hx hb dX5_reasonToWait_51 (by decide) ?_
    exact g_ri hx hb hr hlocks hW hL (Option.some.inj hF) dX5_reasonToWait_52
  rw [F_X5_reasonToWait] at hF
  obtain ⟨locs, hlocs⟩ : ∃ locs : List Loc, locs = [] := ⟨_, rfl⟩
  rw [← hlocs] at hL ⊢
  refine lv_aload_n hx hb dX5_reasonToWait_0 rfl (lv_at hl 0 rfl) ?_
  refine rg_X5_stage hx hb hts inX5 hown hK hW hi0 q36 dX5_reasonToWait_1 ?_
  refine lv_if_ne (tgt := 20) hx hb dX5_reasonToWait_4 (by decide) (fun hc_1 => ?_) (fun hc_1 => ?_)
  · replace hF := gF hc_1 hF
    refine lv_aload_n hx hb dX5_reasonToWait_20 rfl (lv_at hl 0 rfl) ?_
    refine lv_iconst (v := 0) hx hb dX5_reasonToWait_21 (by decide) ?_
    obtain ⟨v_3, hq_2, hF⟩ := gP_some hF
    refine g_Vi (As := [.int 0]) (rest := []) ⟨hx, hb, hml, hown, hts⟩ hK hW hL hl.1 (gok_m hi0 (by decide)) (gE_m0 hi0) rfl (c_X5_stillToSwim l X w i0 hi0 0 v_3 hq_2) k100 rfl rfl (Nat.le_of_ble_eq_true rfl) dX5_reasonToWait_22 ⟨Nat.le_of_ble_eq_true rfl, Nat.le_of_ble_eq_true rfl⟩ (fun H locs hW hL => ?_)
    refine lv_ldc hx hb hown q95 dX5_reasonToWait_25 ?_
    refine lv_icmp_eq (tgt := 32) hx hb dX5_reasonToWait_27 (by decide) (fun hc_4 => ?_) (fun hc_4 => ?_)
    · replace hF := gT hc_4 hF
      refine lv_aload_n hx hb dX5_reasonToWait_32 rfl (lv_at hl 0 rfl) ?_
      refine rg_X5_stage hx hb hts inX5 hown hK hW hi0 q36 dX5_reasonToWait_33 ?_
      refine lv_iconst (v := 1) hx hb dX5_reasonToWait_36 (by decide) ?_
      refine lv_icmp_ne (tgt := 51) hx hb dX5_reasonToWait_37 (by decide) (fun hc_5 => ?_) (fun hc_5 => ?_)
      · replace hF := gF hc_5 hF
        exact B_51  ls (lv_sub hl [] rfl) hF H locs hW hL
      · replace hF := gT hc_5 hF
        refine lv_aload_n hx hb dX5_reasonToWait_40 rfl (lv_at hl 0 rfl) ?_
        obtain ⟨v_7, hq_6, hF⟩ := gP_some hF
        refine g_Vi (As := []) (rest := []) ⟨hx, hb, hml, hown, hts⟩ hK hW hL hl.1 (gok_m hi0 (by decide)) (gE_m0 hi0) rfl (c_X5_timesAboveZero l X w i0 hi0 v_7 hq_6) k103 rfl rfl (Nat.le_of_ble_eq_true rfl) dX5_reasonToWait_41 ⟨Nat.le_of_ble_eq_true rfl, Nat.le_of_ble_eq_true rfl⟩ (fun H locs hW hL => ?_)
        refine lv_if_ne (tgt := 51) hx hb dX5_reasonToWait_44 (by decide) (fun hc_8 => ?_) (fun hc_8 => ?_)
        · replace hF := gF hc_8 hF
          exact B_51  ls (lv_sub hl [] rfl) hF H locs hW hL
        · replace hF := gT hc_8 hF
          refine lv_iconst (v := 1) hx hb dX5_reasonToWait_47 (by decide) ?_
          refine lv_goto (tgt := 52) hx hb dX5_reasonToWait_48 (by decide) ?_
          exact g_ri hx hb hr hlocks hW hL (Option.some.inj hF) dX5_reasonToWait_52
    · replace hF := gF hc_4 hF
      refine lv_iconst (v := 2) hx hb dX5_reasonToWait_30 (by decide) ?_
      exact g_ri hx hb hr hlocks hW hL (Option.some.inj hF) dX5_reasonToWait_31
  · replace hF := gT hc_1 hF
    refine lv_aload_n hx hb dX5_reasonToWait_7 rfl (lv_at hl 0 rfl) ?_
    obtain ⟨v_10, hq_9, hF⟩ := gP_some hF
    refine g_Vi (As := []) (rest := []) ⟨hx, hb, hml, hown, hts⟩ hK hW hL hl.1 (gok_m hi0 (by decide)) (gE_m0 hi0) rfl (c_X5_notScratched l X w i0 hi0 v_10 hq_9) k96 rfl rfl (Nat.le_of_ble_eq_true rfl) dX5_reasonToWait_8 ⟨Nat.le_of_ble_eq_true rfl, Nat.le_of_ble_eq_true rfl⟩ (fun H locs hW hL => ?_)
    refine lv_if_ne (tgt := 18) hx hb dX5_reasonToWait_11 (by decide) (fun hc_11 => ?_) (fun hc_11 => ?_)
    · replace hF := gF hc_11 hF
      refine lv_iconst (v := 0) hx hb dX5_reasonToWait_18 (by decide) ?_
      exact g_ri hx hb hr hlocks hW hL (Option.some.inj hF) dX5_reasonToWait_19
    · replace hF := gT hc_11 hF
      refine lv_iconst (v := 1) hx hb dX5_reasonToWait_14 (by decide) ?_
      refine lv_goto (tgt := 19) hx hb dX5_reasonToWait_15 (by decide) ?_
      exact g_ri hx hb hr hlocks hW hL (Option.some.inj hF) dX5_reasonToWait_19
abbrev rmX1_drawFinal : Room := { frames := 4, cells := 0, slots := 0, locals := 88 }
abbrev wsX1_drawFinal : List Cond := gws yX1_drawFinal cX1_drawFinal 2 (some .int)
set_option maxHeartbeats 4000000 in
set_option maxRecDepth 100000 in
theorem c_X1_drawFinal (l : Launch) (X : gX) (w : gWd) (i0 : Nat) (hi0 : i0 < 7) (r : Int32) (w' : gWd) (hF : F_X1_drawFinal w i0 = some (r, w')) : Met l yX1_drawFinal wsX1_drawFinal rmX1_drawFinal (gPc X [.ref (gA X i0 0)] w) (gQi X r w') 0 0 (gFr X) := by
  refine g_ofW (cc := cX1_drawFinal) (maxL := 2) (ret := (some .int)) (by decide) rfl (Nat.le_of_ble_eq_true rfl) (fun p e s m args below meth c ls H hx hb hr hts hown hlocks hml hK hl hW => ?_)
  have hl : lv_has ls 2 [(0, .ref (gA X i0 0))] := hl
  have hown : s.vm.findClass RX1 = some m.cls := hown
  have hL : gLo X [] := gLo_nil
  show W p l e rmX1_drawFinal s m args below meth c H [] 0 0 _ _
  have inX5 : ∀ w ∈ wsX50, w ∈ wsX1_drawFinal := fun w h => List.mem_cons_of_mem _ (inlX5 w h)
  have inX10 : ∀ w ∈ wsX100, w ∈ wsX1_drawFinal := fun w h => List.mem_cons_of_mem _ (inlX10 w h)
  have q104 := hts _ (List.mem_cons_of_mem _ wq_X1_104)
  have q16 := hts _ (List.mem_cons_of_mem _ wq_X1_16)
  have q22 := hts _ (List.mem_cons_of_mem _ wq_X1_22)
  have q23 := hts _ (List.mem_cons_of_mem _ wq_X1_23)
  have q27 := hts _ (List.mem_cons_of_mem _ wq_X1_27)
  have k123 : CallW rmX1_drawFinal s args RX1 RX5 123 yX5_reasonToWait cX5_reasonToWait 1 (some .int) wsX5_reasonToWait rmX5_reasonToWait 0 0 0 := cwV 0 hts (gGoodV (fun w h => List.mem_cons_of_mem _ h) wk_X1_123) rfl rfl rfl (by decide +kernel) ⟨Nat.le_of_ble_eq_true rfl, Nat.le_of_ble_eq_true rfl⟩
  have k126 : CallB rmX1_drawFinal s args RX1 126 yX1_seatByTime cX1_seatByTime 4 none wsX1_seatByTime rmX1_seatByTime 0 0 2 ∧ (Cond.static yX1_seatByTime).before args s = true := va_cwS 2 hts (gGoodS (fun w h => List.mem_cons_of_mem _ h) wk_X1_126) rfl rfl rfl (by decide +kernel) ⟨Nat.le_of_ble_eq_true rfl, Nat.le_of_ble_eq_true rfl⟩
  have k130 : CallW rmX1_drawFinal s args RX1 RX5 130 yX5_finalSet cX5_finalSet 3 (some .int) wsX5_finalSet rmX5_finalSet 0 0 0 := cwV 0 hts (gGoodV (fun w h => List.mem_cons_of_mem _ h) wk_X1_130) rfl rfl rfl (by decide +kernel) ⟨Nat.le_of_ble_eq_true rfl, Nat.le_of_ble_eq_true rfl⟩
  have L_20 : ∀ (fu : Nat) (w : gWd) (i0 : Nat) (x1 : Int32) (hi0 : i0 < 7) (ls : Array Slot) (hl : lv_has ls 2 [(0, .ref (gA X i0 0)), (1, .int x1)]) (hF : F_X1_drawFinal_20 fu w i0 x1 = some (r, w')) (H : Heap) (locs : List Loc) (hW : gWo X 252 (gE X w) H) (hL : gLo X locs), W p l e rmX1_drawFinal s m args below meth c H locs 0 0 (MQ below (gQi X r w') args s 0 0 (gFr X)) (F0 m 20 ls []) := by
    intro fu
    induction fu with
    | zero => intro w i0 x1 hi0 ls hl hF H locs hW hL; rw [F_X1_drawFinal_20_z] at hF; cases hF
    | succ fu20 ih20 =>
      intro w i0 x1 hi0 ls hl hF H locs hW hL
      rw [F_X1_drawFinal_20_s] at hF
      refine lv_iload_n hx hb dX1_drawFinal_20 rfl (lv_at hl 1 rfl) ?_
      refine lv_aload_n hx hb dX1_drawFinal_21 rfl (lv_at hl 0 rfl) ?_
      refine rg_X5_size hx hb hts inX5 hown hK hW hi0 q23 dX1_drawFinal_22 ?_
      refine lv_icmp_ge (tgt := 56) hx hb dX1_drawFinal_25 (by decide) (fun hc_1 => ?_) (fun hc_1 => ?_)
      · replace hF := gT hc_1 hF
        refine lv_aload_n hx hb dX1_drawFinal_56 rfl (lv_at hl 0 rfl) ?_
        refine lv_iconst (v := 2) hx hb dX1_drawFinal_57 (by decide) ?_
        obtain ⟨w_2, ew_2, hF⟩ := gS_some hF
        refine rp_X5_stage hx hb hts inX5 hown hK hW hL hi0 q16 dX1_drawFinal_58 (fun H locs hW hL => ?_)
        rw [← ew_2] at hW
        refine lv_aload_n hx hb dX1_drawFinal_61 rfl (lv_at hl 0 rfl) ?_
        obtain ⟨v_4, hq_3, hF⟩ := gP_some hF
        refine g_Vi (As := []) (rest := []) ⟨hx, hb, hml, hown, hts⟩ hK hW hL hl.1 (gok_m hi0 (by decide)) (gE_m0 hi0) rfl (c_X5_finalSet l X w_2 i0 hi0 v_4 hq_3) k130 rfl rfl (Nat.le_of_ble_eq_true rfl) dX1_drawFinal_62 ⟨Nat.le_of_ble_eq_true rfl, Nat.le_of_ble_eq_true rfl⟩ (fun H locs hW hL => ?_)
        exact g_ri hx hb hr hlocks (gW2 hF hW) hL (gI2 hF).1 dX1_drawFinal_65
      · replace hF := gF hc_1 hF
        refine lv_aload_n hx hb dX1_drawFinal_28 rfl (lv_at hl 0 rfl) ?_
        refine rg_X5_all hx hb hts inX5 hown hK hW hi0 q27 dX1_drawFinal_29 ?_
        refine lv_iload_n hx hb dX1_drawFinal_32 rfl (lv_at hl 1 rfl) ?_
        obtain ⟨hin_5, hF⟩ := gB_some hF
        obtain ⟨k_6, ek_6⟩ : ∃ k, k = Int32.toNatClampNeg x1 := ⟨_, rfl⟩
        rw [← ek_6] at hF
        refine r_all (k := k_6) hx hb hK hW hi0 hin_5 ek_6.symm dX1_drawFinal_33 ?_
        refine rg_X10_heatTime hx hb hts inX10 hown hK hW hi0 (vp_lt2 hin_5 ek_6.symm) q104 dX1_drawFinal_34 ?_
        refine lv_if_le (tgt := 50) hx hb dX1_drawFinal_37 (by decide) (fun hc_7 => ?_) (fun hc_7 => ?_)
        · replace hF := gT hc_7 hF
          obtain ⟨x1_8, ex1_8, hF⟩ := gS_some hF
          refine lv_iinc (v := x1_8) (lv' := [(1, .int x1_8), (0, .ref (gA X i0 0))]) hx hb dX1_drawFinal_50 hl (k := 1) rfl (by rw [ex1_8]; rfl) (by decide) rfl (fun ls hl => ?_)
          refine lv_goto (tgt := 20) hx hb dX1_drawFinal_53 (by decide) ?_
          exact ih20 w i0 x1_8 hi0 ls (lv_sub hl [1, 0] rfl) hF H locs hW hL
        · replace hF := gF hc_7 hF
          refine lv_aload_n hx hb dX1_drawFinal_40 rfl (lv_at hl 0 rfl) ?_
          refine lv_aload_n hx hb dX1_drawFinal_41 rfl (lv_at hl 0 rfl) ?_
          refine rg_X5_all hx hb hts inX5 hown hK hW hi0 q27 dX1_drawFinal_42 ?_
          refine lv_iload_n hx hb dX1_drawFinal_45 rfl (lv_at hl 1 rfl) ?_
          obtain ⟨hin_9, hF⟩ := gB_some hF
          obtain ⟨k_10, ek_10⟩ : ∃ k, k = Int32.toNatClampNeg x1 := ⟨_, rfl⟩
          rw [← ek_10] at hF
          refine r_all (k := k_10) hx hb hK hW hi0 hin_9 ek_10.symm dX1_drawFinal_46 ?_
          obtain ⟨w_12, hq_11, hF⟩ := gP_some hF
          refine g_Sv (As := [.ref (gA X i0 0), .ref (gA X i0 (4 + k_10))]) (rest := []) ⟨hx, hb, hml, hown, hts⟩ hK hW hL hl.1 (c_X1_seatByTime l X w i0 hi0 i0 hi0 k_10 (vp_lt2 hin_9 ek_10.symm) w_12 hq_11) k126 rfl rfl (Nat.le_of_ble_eq_true rfl) dX1_drawFinal_47 ⟨Nat.le_of_ble_eq_true rfl, Nat.le_of_ble_eq_true rfl⟩ (fun H locs hW hL => ?_)
          obtain ⟨x1_13, ex1_13, hF⟩ := gS_some hF
          refine lv_iinc (v := x1_13) (lv' := [(1, .int x1_13), (0, .ref (gA X i0 0))]) hx hb dX1_drawFinal_50 hl (k := 1) rfl (by rw [ex1_13]; rfl) (by decide) rfl (fun ls hl => ?_)
          refine lv_goto (tgt := 20) hx hb dX1_drawFinal_53 (by decide) ?_
          exact ih20 w_12 i0 x1_13 hi0 ls (lv_sub hl [1, 0] rfl) hF H locs hW hL
  rw [F_X1_drawFinal] at hF
  obtain ⟨locs, hlocs⟩ : ∃ locs : List Loc, locs = [] := ⟨_, rfl⟩
  rw [← hlocs] at hL ⊢
  refine lv_aload_n hx hb dX1_drawFinal_0 rfl (lv_at hl 0 rfl) ?_
  refine rg_X5_stage hx hb hts inX5 hown hK hW hi0 q16 dX1_drawFinal_1 ?_
  refine lv_iconst (v := 1) hx hb dX1_drawFinal_4 (by decide) ?_
  refine lv_icmp_ne (tgt := 15) hx hb dX1_drawFinal_5 (by decide) (fun hc_14 => ?_) (fun hc_14 => ?_)
  · replace hF := gF hc_14 hF
    refine lv_ldc hx hb hown q22 dX1_drawFinal_15 ?_
    exact g_ri hx hb hr hlocks (gW2 hF hW) hL (gI2 hF).1 dX1_drawFinal_17
  · replace hF := gT hc_14 hF
    refine lv_aload_n hx hb dX1_drawFinal_8 rfl (lv_at hl 0 rfl) ?_
    obtain ⟨v_16, hq_15, hF⟩ := gP_some hF
    refine g_Vi (As := []) (rest := []) ⟨hx, hb, hml, hown, hts⟩ hK hW hL hl.1 (gok_m hi0 (by decide)) (gE_m0 hi0) rfl (c_X5_reasonToWait l X w i0 hi0 v_16 hq_15) k123 rfl rfl (Nat.le_of_ble_eq_true rfl) dX1_drawFinal_9 ⟨Nat.le_of_ble_eq_true rfl, Nat.le_of_ble_eq_true rfl⟩ (fun H locs hW hL => ?_)
    refine lv_if_eq (tgt := 18) hx hb dX1_drawFinal_12 (by decide) (fun hc_17 => ?_) (fun hc_17 => ?_)
    · replace hF := gT hc_17 hF
      refine lv_iconst (v := 0) hx hb dX1_drawFinal_18 (by decide) ?_
      refine lv_istore_n (lv' := [(1, .int 0), (0, .ref (gA X i0 0))]) hx hb dX1_drawFinal_19 rfl hl (by decide) rfl (fun ls hl => ?_)
      exact L_20 gFU w i0 0 hi0 ls (lv_sub hl [1, 0] rfl) hF H locs hW hL
    · replace hF := gF hc_17 hF
      refine lv_ldc hx hb hown q22 dX1_drawFinal_15 ?_
      exact g_ri hx hb hr hlocks (gW2 hF hW) hL (gI2 hF).1 dX1_drawFinal_17
abbrev rmX11_finals : Room := { frames := 5, cells := 0, slots := 0, locals := 109 }
abbrev wsX11_finals : List Cond := gws yX11_finals cX11_finals 1 (some .int)
set_option maxHeartbeats 4000000 in
set_option maxRecDepth 100000 in
theorem c_X11_finals (l : Launch) (X : gX) (w : gWd)  (r : Int32) (w' : gWd) (hF : F_X11_finals w = some (r, w')) : Met l yX11_finals wsX11_finals rmX11_finals (gPc X [.ref (gA X 7 0)] w) (gQi X r w') 0 0 (gFr X) := by
  refine g_ofW (cc := cX11_finals) (maxL := 1) (ret := (some .int)) (by decide) rfl (Nat.le_of_ble_eq_true rfl) (fun p e s m args below meth c ls H hx hb hr hts hown hlocks hml hK hl hW => ?_)
  have hl : lv_has ls 1 [(0, .ref (gA X 7 0))] := hl
  have hown : s.vm.findClass RX11 = some m.cls := hown
  have hL : gLo X [] := gLo_nil
  show W p l e rmX11_finals s m args below meth c H [] 0 0 _ _
  have inX11 : ∀ w ∈ wsX110, w ∈ wsX11_finals := fun w h => List.mem_cons_of_mem _ (inlX11 w h)
  have q10 := hts _ (List.mem_cons_of_mem _ wq_X11_10)
  have q22 := hts _ (List.mem_cons_of_mem _ wq_X11_22)
  have k40 : CallW rmX11_finals s args RX11 RX3 40 yX3_prepare cX3_prepare 2 none wsX3_prepare rmX3_prepare 0 0 1 := cwV 1 hts (gGoodV (fun w h => List.mem_cons_of_mem _ h) wk_X11_40) rfl rfl rfl (by decide +kernel) ⟨Nat.le_of_ble_eq_true rfl, Nat.le_of_ble_eq_true rfl⟩
  have k50 : CallW rmX11_finals s args RX11 RX3 50 yX3_keepUnlessError cX3_keepUnlessError 2 (some .int) wsX3_keepUnlessError rmX3_keepUnlessError 0 0 1 := cwV 1 hts (gGoodV (fun w h => List.mem_cons_of_mem _ h) wk_X11_50) rfl rfl rfl (by decide +kernel) ⟨Nat.le_of_ble_eq_true rfl, Nat.le_of_ble_eq_true rfl⟩
  have k68 : CallB rmX11_finals s args RX11 68 yX1_drawFinal cX1_drawFinal 2 (some .int) wsX1_drawFinal rmX1_drawFinal 0 0 1 ∧ (Cond.static yX1_drawFinal).before args s = true := va_cwS 1 hts (gGoodS (fun w h => List.mem_cons_of_mem _ h) wk_X11_68) rfl rfl rfl (by decide +kernel) ⟨Nat.le_of_ble_eq_true rfl, Nat.le_of_ble_eq_true rfl⟩
  rw [F_X11_finals] at hF
  obtain ⟨locs, hlocs⟩ : ∃ locs : List Loc, locs = [] := ⟨_, rfl⟩
  rw [← hlocs] at hL ⊢
  refine lv_aload_n hx hb dX11_finals_0 rfl (lv_at hl 0 rfl) ?_
  refine rg_X11_history hx hb hts inX11 hown hK hW q22 dX11_finals_1 ?_
  refine lv_aload_n hx hb dX11_finals_4 rfl (lv_at hl 0 rfl) ?_
  refine rg_X11_meet hx hb hts inX11 hown hK hW q10 dX11_finals_5 ?_
  obtain ⟨w_2, hq_1, hF⟩ := gP_some hF
  refine g_Vv (As := [.ref (gA X 0 0)]) (rest := []) ⟨hx, hb, hml, hown, hts⟩ hK hW hL hl.1 (gok_c (by decide)) gE_H rfl (c_X3_prepare l X w 0 h07 w_2 hq_1) k40 rfl rfl (Nat.le_of_ble_eq_true rfl) dX11_finals_8 ⟨Nat.le_of_ble_eq_true rfl, Nat.le_of_ble_eq_true rfl⟩ (fun H locs hW hL => ?_)
  refine lv_aload_n hx hb dX11_finals_11 rfl (lv_at hl 0 rfl) ?_
  refine rg_X11_history hx hb hts inX11 hown hK hW q22 dX11_finals_12 ?_
  refine lv_aload_n hx hb dX11_finals_15 rfl (lv_at hl 0 rfl) ?_
  refine rg_X11_meet hx hb hts inX11 hown hK hW q10 dX11_finals_16 ?_
  obtain ⟨v_4, w_5, hq_3, hF⟩ := gC_some hF
  refine g_Si (As := [.ref (gA X 0 0)]) (rest := [.ref (gA X 7 1)]) ⟨hx, hb, hml, hown, hts⟩ hK hW hL hl.1 (c_X1_drawFinal l X w_2 0 h07 v_4 w_5 hq_3) k68 rfl rfl (Nat.le_of_ble_eq_true rfl) dX11_finals_19 ⟨Nat.le_of_ble_eq_true rfl, Nat.le_of_ble_eq_true rfl⟩ (fun H locs hW hL => ?_)
  obtain ⟨v_7, w_8, hq_6, hF⟩ := gC_some hF
  refine g_Vi (As := [.int v_4]) (rest := []) ⟨hx, hb, hml, hown, hts⟩ hK hW hL hl.1 (gok_c (by decide)) gE_H rfl (c_X3_keepUnlessError l X w_5 v_4 v_7 w_8 hq_6) k50 rfl rfl (Nat.le_of_ble_eq_true rfl) dX11_finals_22 ⟨Nat.le_of_ble_eq_true rfl, Nat.le_of_ble_eq_true rfl⟩ (fun H locs hW hL => ?_)
  exact g_ri hx hb hr hlocks (gW2 hF hW) hL (gI2 hF).1 dX11_finals_25
abbrev rmX8_shared : Room := { frames := 0, cells := 0, slots := 0, locals := 0 }
abbrev wsX8_shared : List Cond := gws yX8_shared cX8_shared 5 (some .int)
set_option maxHeartbeats 4000000 in
set_option maxRecDepth 100000 in
theorem c_X8_shared (l : Launch) (X : gX) (w : gWd) (x0 : Int32) (x1 : Int32) (x2 : Int32) (r : Int32) (hF : F_X8_shared w x0 x1 x2 = some r) : Met l yX8_shared wsX8_shared rmX8_shared (gPc X [.int x0, .int x1, .int x2] w) (gQi X r w) 0 0 (gFr X) := by
  refine g_ofW (cc := cX8_shared) (maxL := 5) (ret := (some .int)) (by decide) rfl (Nat.le_of_ble_eq_true rfl) (fun p e s m args below meth c ls H hx hb hr hts hown hlocks hml hK hl hW => ?_)
  have hl : lv_has ls 5 [(0, .int x0), (1, .int x1), (2, .int x2)] := hl
  have hown : s.vm.findClass RX8 = some m.cls := hown
  have hL : gLo X [] := gLo_nil
  show W p l e rmX8_shared s m args below meth c H [] 0 0 _ _
  have L_5 : ∀ (fu : Nat) (x0 : Int32) (x1 : Int32) (x2 : Int32) (x3 : Int32) (x4 : Int32)  (ls : Array Slot) (hl : lv_has ls 5 [(0, .int x0), (1, .int x1), (2, .int x2), (3, .int x3), (4, .int x4)]) (hF : F_X8_shared_5 fu w x0 x1 x2 x3 x4 = some r) (H : Heap) (locs : List Loc) (hW : gWo X 252 (gE X w) H) (hL : gLo X locs), W p l e rmX8_shared s m args below meth c H locs 0 0 (MQ below (gQi X r w) args s 0 0 (gFr X)) (F0 m 5 ls []) := by
    intro fu
    induction fu with
    | zero => intro x0 x1 x2 x3 x4 ls hl hF H locs hW hL; rw [F_X8_shared_5_z] at hF; cases hF
    | succ fu5 ih5 =>
      intro x0 x1 x2 x3 x4 ls hl hF H locs hW hL
      rw [F_X8_shared_5_s] at hF
      refine lv_iload hx hb dX8_shared_5 (lv_at hl 4 rfl) ?_
      refine lv_iload_n hx hb dX8_shared_7 rfl (lv_at hl 0 rfl) ?_
      refine lv_iload_n hx hb dX8_shared_8 rfl (lv_at hl 1 rfl) ?_
      refine lv_iadd hx hb dX8_shared_9 ?_
      refine lv_icmp_ge (tgt := 40) hx hb dX8_shared_10 (by decide) (fun hc_1 => ?_) (fun hc_1 => ?_)
      · replace hF := gT hc_1 hF
        refine lv_iload_n hx hb dX8_shared_40 rfl (lv_at hl 1 rfl) ?_
        refine lv_iconst (v := 1) hx hb dX8_shared_41 (by decide) ?_
        refine lv_icmp_ge (tgt := 49) hx hb dX8_shared_42 (by decide) (fun hc_2 => ?_) (fun hc_2 => ?_)
        · replace hF := gT hc_2 hF
          refine lv_iconst (v := 2) hx hb dX8_shared_49 (by decide) ?_
          refine lv_iload_n hx hb dX8_shared_50 rfl (lv_at hl 3 rfl) ?_
          refine lv_imul hx hb dX8_shared_51 ?_
          refine lv_iload_n hx hb dX8_shared_52 rfl (lv_at hl 1 rfl) ?_
          obtain ⟨hd_3, hF⟩ := gD_some hF
          refine lv_idiv hx hb dX8_shared_53 hd_3 ?_
          exact g_ri hx hb hr hlocks hW hL (Option.some.inj hF) dX8_shared_54
        · replace hF := gF hc_2 hF
          refine lv_iconst (v := 0) hx hb dX8_shared_45 (by decide) ?_
          refine lv_goto (tgt := 54) hx hb dX8_shared_46 (by decide) ?_
          exact g_ri hx hb hr hlocks hW hL (Option.some.inj hF) dX8_shared_54
      · replace hF := gF hc_1 hF
        refine lv_iload_n hx hb dX8_shared_13 rfl (lv_at hl 3 rfl) ?_
        refine lv_iload_n hx hb dX8_shared_14 rfl (lv_at hl 2 rfl) ?_
        refine lv_iload hx hb dX8_shared_15 (lv_at hl 4 rfl) ?_
        refine lv_isub hx hb dX8_shared_17 ?_
        refine lv_iconst (v := 1) hx hb dX8_shared_18 (by decide) ?_
        refine lv_iadd hx hb dX8_shared_19 ?_
        refine lv_iload hx hb dX8_shared_20 (lv_at hl 4 rfl) ?_
        refine lv_iconst (v := 1) hx hb dX8_shared_22 (by decide) ?_
        refine lv_icmp_ne (tgt := 30) hx hb dX8_shared_23 (by decide) (fun hc_4 => ?_) (fun hc_4 => ?_)
        · replace hF := gF hc_4 hF
          refine lv_iconst (v := 0) hx hb dX8_shared_30 (by decide) ?_
          refine lv_iadd hx hb dX8_shared_31 ?_
          refine lv_iadd hx hb dX8_shared_32 ?_
          obtain ⟨x3_5, ex3_5, hF⟩ := gS_some hF
          refine g_top ex3_5 ?_
          refine lv_istore_n (lv' := [(3, .int x3_5), (0, .int x0), (1, .int x1), (2, .int x2), (4, .int x4)]) hx hb dX8_shared_33 rfl hl (by decide) rfl (fun ls hl => ?_)
          obtain ⟨x4_6, ex4_6, hF⟩ := gS_some hF
          refine lv_iinc (v := x4_6) (lv' := [(4, .int x4_6), (3, .int x3_5), (0, .int x0), (1, .int x1), (2, .int x2)]) hx hb dX8_shared_34 hl (k := 4) rfl (by rw [ex4_6]; rfl) (by decide) rfl (fun ls hl => ?_)
          refine lv_goto (tgt := 5) hx hb dX8_shared_37 (by decide) ?_
          exact ih5 x0 x1 x2 x3_5 x4_6 ls (lv_sub hl [2, 3, 4, 1, 0] rfl) hF H locs hW hL
        · replace hF := gT hc_4 hF
          refine lv_iconst (v := 1) hx hb dX8_shared_26 (by decide) ?_
          refine lv_goto (tgt := 31) hx hb dX8_shared_27 (by decide) ?_
          refine lv_iadd hx hb dX8_shared_31 ?_
          refine lv_iadd hx hb dX8_shared_32 ?_
          obtain ⟨x3_7, ex3_7, hF⟩ := gS_some hF
          refine g_top ex3_7 ?_
          refine lv_istore_n (lv' := [(3, .int x3_7), (0, .int x0), (1, .int x1), (2, .int x2), (4, .int x4)]) hx hb dX8_shared_33 rfl hl (by decide) rfl (fun ls hl => ?_)
          obtain ⟨x4_8, ex4_8, hF⟩ := gS_some hF
          refine lv_iinc (v := x4_8) (lv' := [(4, .int x4_8), (3, .int x3_7), (0, .int x0), (1, .int x1), (2, .int x2)]) hx hb dX8_shared_34 hl (k := 4) rfl (by rw [ex4_8]; rfl) (by decide) rfl (fun ls hl => ?_)
          refine lv_goto (tgt := 5) hx hb dX8_shared_37 (by decide) ?_
          exact ih5 x0 x1 x2 x3_7 x4_8 ls (lv_sub hl [2, 3, 4, 1, 0] rfl) hF H locs hW hL
  rw [F_X8_shared] at hF
  obtain ⟨locs, hlocs⟩ : ∃ locs : List Loc, locs = [] := ⟨_, rfl⟩
  rw [← hlocs] at hL ⊢
  refine lv_iconst (v := 0) hx hb dX8_shared_0 (by decide) ?_
  refine lv_istore_n (lv' := [(3, .int 0), (0, .int x0), (1, .int x1), (2, .int x2)]) hx hb dX8_shared_1 rfl hl (by decide) rfl (fun ls hl => ?_)
  refine lv_iload_n hx hb dX8_shared_2 rfl (lv_at hl 1 rfl) ?_
  refine lv_istore (lv' := [(4, .int x0), (3, .int 0), (0, .int x0), (1, .int x1), (2, .int x2)]) hx hb dX8_shared_3 hl (by decide) rfl (fun ls hl => ?_)
  exact L_5 gFU x0 x1 x2 0 x0 ls (lv_sub hl [2, 3, 4, 1, 0] rfl) hF H locs hW hL
abbrev rmX8_place : Room := { frames := 2, cells := 0, slots := 0, locals := 45 }
abbrev wsX8_place : List Cond := gws yX8_place cX8_place 3 none
set_option maxHeartbeats 4000000 in
set_option maxRecDepth 100000 in
theorem c_X8_place (l : Launch) (X : gX) (w : gWd) (i0 : Nat) (hi0 : i0 < 7) (i1 : Nat) (hi1 : i1 < 7) (n1 : Nat) (hn1 : n1 < 30) (w' : gWd) (hF : F_X8_place w i0 i1 n1 = some w') : Met l yX8_place wsX8_place rmX8_place (gPc X [.ref (gA X i0 0), .ref (gA X i1 (4 + n1))] w) (gQv X w') 0 0 (gFr X) := by
  refine g_ofW (cc := cX8_place) (maxL := 3) (ret := none) (by decide) rfl (Nat.le_of_ble_eq_true rfl) (fun p e s m args below meth c ls H hx hb hr hts hown hlocks hml hK hl hW => ?_)
  have hl : lv_has ls 3 [(0, .ref (gA X i0 0)), (1, .ref (gA X i1 (4 + n1)))] := hl
  have hown : s.vm.findClass RX8 = some m.cls := hown
  have hL : gLo X [] := gLo_nil
  show W p l e rmX8_place s m args below meth c H [] 0 0 _ _
  have inX10 : ∀ w ∈ wsX100, w ∈ wsX8_place := fun w h => List.mem_cons_of_mem _ (inlX10 w h)
  have q21 := hts _ (List.mem_cons_of_mem _ wq_X8_21)
  have q24 := hts _ (List.mem_cons_of_mem _ wq_X8_24)
  have q9 := hts _ (List.mem_cons_of_mem _ wq_X8_9)
  have k15 : CallW rmX8_place s args RX8 RX5 15 yX5_fasterThan cX5_fasterThan 5 (some .int) wsX5_fasterThan rmX5_fasterThan 0 0 1 := cwV 1 hts (gGoodV (fun w h => List.mem_cons_of_mem _ h) wk_X8_15) rfl rfl rfl (by decide +kernel) ⟨Nat.le_of_ble_eq_true rfl, Nat.le_of_ble_eq_true rfl⟩
  have k27 : CallW rmX8_place s args RX8 RX5 27 yX5_lanes cX5_lanes 1 (some .int) wsX5_lanes rmX5_lanes 0 0 0 := cwV 0 hts (gGoodV (fun w h => List.mem_cons_of_mem _ h) wk_X8_27) rfl rfl rfl (by decide +kernel) ⟨Nat.le_of_ble_eq_true rfl, Nat.le_of_ble_eq_true rfl⟩
  have k31 : CallB rmX8_place s args RX8 31 yX8_shared cX8_shared 5 (some .int) wsX8_shared rmX8_shared 0 0 3 ∧ (Cond.static yX8_shared).before args s = true := va_cwS 3 hts (gGoodS (fun w h => List.mem_cons_of_mem _ h) wk_X8_31) rfl rfl rfl (by decide +kernel) ⟨Nat.le_of_ble_eq_true rfl, Nat.le_of_ble_eq_true rfl⟩
  rw [F_X8_place] at hF
  obtain ⟨locs, hlocs⟩ : ∃ locs : List Loc, locs = [] := ⟨_, rfl⟩
  rw [← hlocs] at hL ⊢
  refine lv_aload_n hx hb dX8_place_0 rfl (lv_at hl 1 rfl) ?_
  refine rg_X10_finalTime hx hb hts inX10 hown hK hW hi1 hn1 q9 dX8_place_1 ?_
  refine lv_if_gt (tgt := 8) hx hb dX8_place_4 (by decide) (fun hc_1 => ?_) (fun hc_1 => ?_)
  · replace hF := gT hc_1 hF
    refine lv_aload_n hx hb dX8_place_8 rfl (lv_at hl 1 rfl) ?_
    refine lv_aload_n hx hb dX8_place_9 rfl (lv_at hl 0 rfl) ?_
    refine lv_aload_n hx hb dX8_place_10 rfl (lv_at hl 1 rfl) ?_
    refine rg_X10_finalTime hx hb hts inX10 hown hK hW hi1 hn1 q9 dX8_place_11 ?_
    obtain ⟨v_3, hq_2, hF⟩ := gP_some hF
    refine g_Vi (As := [.int (w i1 (4 + n1) 8)]) (rest := [.ref (gA X i1 (4 + n1))]) ⟨hx, hb, hml, hown, hts⟩ hK hW hL hl.1 (gok_m hi0 (by decide)) (gE_m0 hi0) rfl (c_X5_fasterThan l X w i0 hi0 ((w i1 (4 + n1) 8)) v_3 hq_2) k15 rfl rfl (Nat.le_of_ble_eq_true rfl) dX8_place_14 ⟨Nat.le_of_ble_eq_true rfl, Nat.le_of_ble_eq_true rfl⟩ (fun H locs hW hL => ?_)
    refine lv_iconst (v := 1) hx hb dX8_place_17 (by decide) ?_
    refine lv_iadd hx hb dX8_place_18 ?_
    obtain ⟨w_4, ew_4, hF⟩ := gS_some hF
    refine rp_X10_place hx hb hts inX10 hown hK hW hL hi1 hn1 q21 dX8_place_19 (fun H locs hW hL => ?_)
    rw [← ew_4] at hW
    refine lv_aload_n hx hb dX8_place_22 rfl (lv_at hl 0 rfl) ?_
    refine lv_aload_n hx hb dX8_place_23 rfl (lv_at hl 1 rfl) ?_
    refine rg_X10_finalTime hx hb hts inX10 hown hK hW hi1 hn1 q9 dX8_place_24 ?_
    refine lv_iconst (v := 1) hx hb dX8_place_27 (by decide) ?_
    refine lv_iadd hx hb dX8_place_28 ?_
    obtain ⟨v_6, hq_5, hF⟩ := gP_some hF
    refine g_Vi (As := [.int ((w_4 i1 (4 + n1) 8) + 1)]) (rest := []) ⟨hx, hb, hml, hown, hts⟩ hK hW hL hl.1 (gok_m hi0 (by decide)) (gE_m0 hi0) rfl (c_X5_fasterThan l X w_4 i0 hi0 (((w_4 i1 (4 + n1) 8) + 1)) v_6 hq_5) k15 rfl rfl (Nat.le_of_ble_eq_true rfl) dX8_place_29 ⟨Nat.le_of_ble_eq_true rfl, Nat.le_of_ble_eq_true rfl⟩ (fun H locs hW hL => ?_)
    refine lv_aload_n hx hb dX8_place_32 rfl (lv_at hl 0 rfl) ?_
    refine lv_aload_n hx hb dX8_place_33 rfl (lv_at hl 1 rfl) ?_
    refine rg_X10_finalTime hx hb hts inX10 hown hK hW hi1 hn1 q9 dX8_place_34 ?_
    obtain ⟨v_8, hq_7, hF⟩ := gP_some hF
    refine g_Vi (As := [.int (w_4 i1 (4 + n1) 8)]) (rest := [.int v_6]) ⟨hx, hb, hml, hown, hts⟩ hK hW hL hl.1 (gok_m hi0 (by decide)) (gE_m0 hi0) rfl (c_X5_fasterThan l X w_4 i0 hi0 ((w_4 i1 (4 + n1) 8)) v_8 hq_7) k15 rfl rfl (Nat.le_of_ble_eq_true rfl) dX8_place_37 ⟨Nat.le_of_ble_eq_true rfl, Nat.le_of_ble_eq_true rfl⟩ (fun H locs hW hL => ?_)
    refine lv_isub hx hb dX8_place_40 ?_
    obtain ⟨x2_9, ex2_9, hF⟩ := gS_some hF
    refine g_top ex2_9 ?_
    refine lv_istore_n (lv' := [(2, .int x2_9), (0, .ref (gA X i0 0)), (1, .ref (gA X i1 (4 + n1)))]) hx hb dX8_place_41 rfl hl (by decide) rfl (fun ls hl => ?_)
    refine lv_aload_n hx hb dX8_place_42 rfl (lv_at hl 2 rfl) ?_
    refine lv_dup hx hb dX8_place_43 rfl ?_
    refine rg_X10_brought hx hb hts inX10 hown hK hW hi1 hn1 q24 dX8_place_44 ?_
    refine lv_aload_n hx hb dX8_place_47 rfl (lv_at hl 2 rfl) ?_
    refine rg_X10_place hx hb hts inX10 hown hK hW hi1 hn1 q21 dX8_place_48 ?_
    refine lv_iload_n hx hb dX8_place_51 rfl (lv_at hl 0 rfl) ?_
    refine lv_aload_n hx hb dX8_place_52 rfl (lv_at hl 1 rfl) ?_
    obtain ⟨v_11, hq_10, hF⟩ := gP_some hF
    refine g_Vi (As := []) (rest := [.int x2_9, .int (w_4 i1 (4 + n1) 9), .int (w_4 i1 (4 + n1) 10), .ref (gA X i1 (4 + n1))]) ⟨hx, hb, hml, hown, hts⟩ hK hW hL hl.1 (gok_m hi0 (by decide)) (gE_m0 hi0) rfl (c_X5_lanes l X w_4 i0 hi0 v_11 hq_10) k27 rfl rfl (Nat.le_of_ble_eq_true rfl) dX8_place_53 ⟨Nat.le_of_ble_eq_true rfl, Nat.le_of_ble_eq_true rfl⟩ (fun H locs hW hL => ?_)
    obtain ⟨v_13, hq_12, hF⟩ := gP_some hF
    refine g_Si (As := [.int (w_4 i1 (4 + n1) 9), .int x2_9, .int v_11]) (rest := [.int (w_4 i1 (4 + n1) 10), .ref (gA X i1 (4 + n1))]) ⟨hx, hb, hml, hown, hts⟩ hK hW hL hl.1 (c_X8_shared l X w_4 ((w_4 i1 (4 + n1) 9)) x2_9 v_11 v_13 hq_12) k31 rfl rfl (Nat.le_of_ble_eq_true rfl) dX8_place_56 ⟨Nat.le_of_ble_eq_true rfl, Nat.le_of_ble_eq_true rfl⟩ (fun H locs hW hL => ?_)
    refine lv_iadd hx hb dX8_place_59 ?_
    obtain ⟨w_14, ew_14, hF⟩ := gS_some hF
    refine rp_X10_brought hx hb hts inX10 hown hK hW hL hi1 hn1 q24 dX8_place_60 (fun H locs hW hL => ?_)
    rw [← ew_14] at hW
    exact g_rv hx hb hr hlocks (gW1 hF hW) hL dX8_place_63
  · replace hF := gF hc_1 hF
    exact g_rv hx hb hr hlocks (gW1 hF hW) hL dX8_place_7
abbrev rmX1_endEvent : Room := { frames := 4, cells := 0, slots := 0, locals := 85 }
abbrev wsX1_endEvent : List Cond := gws yX1_endEvent cX1_endEvent 3 (some .int)
set_option maxHeartbeats 4000000 in
set_option maxRecDepth 100000 in
theorem c_X1_endEvent (l : Launch) (X : gX) (w : gWd) (i0 : Nat) (hi0 : i0 < 7) (r : Int32) (w' : gWd) (hF : F_X1_endEvent w i0 = some (r, w')) : Met l yX1_endEvent wsX1_endEvent rmX1_endEvent (gPc X [.ref (gA X i0 0)] w) (gQi X r w') 0 0 (gFr X) := by
  refine g_ofW (cc := cX1_endEvent) (maxL := 3) (ret := (some .int)) (by decide) rfl (Nat.le_of_ble_eq_true rfl) (fun p e s m args below meth c ls H hx hb hr hts hown hlocks hml hK hl hW => ?_)
  have hl : lv_has ls 3 [(0, .ref (gA X i0 0))] := hl
  have hown : s.vm.findClass RX1 = some m.cls := hown
  have hL : gLo X [] := gLo_nil
  show W p l e rmX1_endEvent s m args below meth c H [] 0 0 _ _
  have inX5 : ∀ w ∈ wsX50, w ∈ wsX1_endEvent := fun w h => List.mem_cons_of_mem _ (inlX5 w h)
  have inX10 : ∀ w ∈ wsX100, w ∈ wsX1_endEvent := fun w h => List.mem_cons_of_mem _ (inlX10 w h)
  have q156 := hts _ (List.mem_cons_of_mem _ wq_X1_156)
  have q158 := hts _ (List.mem_cons_of_mem _ wq_X1_158)
  have q16 := hts _ (List.mem_cons_of_mem _ wq_X1_16)
  have q22 := hts _ (List.mem_cons_of_mem _ wq_X1_22)
  have q23 := hts _ (List.mem_cons_of_mem _ wq_X1_23)
  have q27 := hts _ (List.mem_cons_of_mem _ wq_X1_27)
  have k123 : CallW rmX1_endEvent s args RX1 RX5 123 yX5_reasonToWait cX5_reasonToWait 1 (some .int) wsX5_reasonToWait rmX5_reasonToWait 0 0 0 := cwV 0 hts (gGoodV (fun w h => List.mem_cons_of_mem _ h) wk_X1_123) rfl rfl rfl (by decide +kernel) ⟨Nat.le_of_ble_eq_true rfl, Nat.le_of_ble_eq_true rfl⟩
  have k151 : CallB rmX1_endEvent s args RX1 151 yX8_place cX8_place 3 none wsX8_place rmX8_place 0 0 2 ∧ (Cond.static yX8_place).before args s = true := va_cwS 2 hts (gGoodS (fun w h => List.mem_cons_of_mem _ h) wk_X1_151) rfl rfl rfl (by decide +kernel) ⟨Nat.le_of_ble_eq_true rfl, Nat.le_of_ble_eq_true rfl⟩
  have L_22 : ∀ (fu : Nat) (w : gWd) (i0 : Nat) (x1 : Int32) (x2 : Int32) (hi0 : i0 < 7) (ls : Array Slot) (hl : lv_has ls 3 [(0, .ref (gA X i0 0)), (1, .int x1), (2, .int x2)]) (hF : F_X1_endEvent_22 fu w i0 x1 x2 = some (r, w')) (H : Heap) (locs : List Loc) (hW : gWo X 252 (gE X w) H) (hL : gLo X locs), W p l e rmX1_endEvent s m args below meth c H locs 0 0 (MQ below (gQi X r w') args s 0 0 (gFr X)) (F0 m 22 ls []) := by
    intro fu
    induction fu with
    | zero => intro w i0 x1 x2 hi0 ls hl hF H locs hW hL; rw [F_X1_endEvent_22_z] at hF; cases hF
    | succ fu22 ih22 =>
      intro w i0 x1 x2 hi0 ls hl hF H locs hW hL
      rw [F_X1_endEvent_22_s] at hF
      refine lv_iload_n hx hb dX1_endEvent_22 rfl (lv_at hl 2 rfl) ?_
      refine lv_aload_n hx hb dX1_endEvent_23 rfl (lv_at hl 0 rfl) ?_
      refine rg_X5_size hx hb hts inX5 hown hK hW hi0 q23 dX1_endEvent_24 ?_
      refine lv_icmp_ge (tgt := 65) hx hb dX1_endEvent_27 (by decide) (fun hc_1 => ?_) (fun hc_1 => ?_)
      · replace hF := gT hc_1 hF
        refine lv_aload_n hx hb dX1_endEvent_65 rfl (lv_at hl 0 rfl) ?_
        refine lv_iconst (v := 3) hx hb dX1_endEvent_66 (by decide) ?_
        obtain ⟨w_2, ew_2, hF⟩ := gS_some hF
        refine rp_X5_stage hx hb hts inX5 hown hK hW hL hi0 q16 dX1_endEvent_67 (fun H locs hW hL => ?_)
        rw [← ew_2] at hW
        refine lv_aload_n hx hb dX1_endEvent_70 rfl (lv_at hl 0 rfl) ?_
        refine lv_dup hx hb dX1_endEvent_71 rfl ?_
        refine rg_X5_eventsEnded hx hb hts inX5 hown hK hW hi0 q158 dX1_endEvent_72 ?_
        refine lv_iconst (v := 1) hx hb dX1_endEvent_75 (by decide) ?_
        refine lv_iadd hx hb dX1_endEvent_76 ?_
        obtain ⟨w_3, ew_3, hF⟩ := gS_some hF
        refine rp_X5_eventsEnded hx hb hts inX5 hown hK hW hL hi0 q158 dX1_endEvent_77 (fun H locs hW hL => ?_)
        rw [← ew_3] at hW
        refine lv_iload_n hx hb dX1_endEvent_80 rfl (lv_at hl 1 rfl) ?_
        exact g_ri hx hb hr hlocks (gW2 hF hW) hL (gI2 hF).1 dX1_endEvent_81
      · replace hF := gF hc_1 hF
        refine lv_aload_n hx hb dX1_endEvent_30 rfl (lv_at hl 0 rfl) ?_
        refine lv_aload_n hx hb dX1_endEvent_31 rfl (lv_at hl 0 rfl) ?_
        refine rg_X5_all hx hb hts inX5 hown hK hW hi0 q27 dX1_endEvent_32 ?_
        refine lv_iload_n hx hb dX1_endEvent_35 rfl (lv_at hl 2 rfl) ?_
        obtain ⟨hin_4, hF⟩ := gB_some hF
        obtain ⟨k_5, ek_5⟩ : ∃ k, k = Int32.toNatClampNeg x2 := ⟨_, rfl⟩
        rw [← ek_5] at hF
        refine r_all (k := k_5) hx hb hK hW hi0 hin_4 ek_5.symm dX1_endEvent_36 ?_
        obtain ⟨w_7, hq_6, hF⟩ := gP_some hF
        refine g_Sv (As := [.ref (gA X i0 0), .ref (gA X i0 (4 + k_5))]) (rest := []) ⟨hx, hb, hml, hown, hts⟩ hK hW hL hl.1 (c_X8_place l X w i0 hi0 i0 hi0 k_5 (vp_lt2 hin_4 ek_5.symm) w_7 hq_6) k151 rfl rfl (Nat.le_of_ble_eq_true rfl) dX1_endEvent_37 ⟨Nat.le_of_ble_eq_true rfl, Nat.le_of_ble_eq_true rfl⟩ (fun H locs hW hL => ?_)
        refine lv_aload_n hx hb dX1_endEvent_40 rfl (lv_at hl 0 rfl) ?_
        refine rg_X5_all hx hb hts inX5 hown hK hW hi0 q27 dX1_endEvent_41 ?_
        refine lv_iload_n hx hb dX1_endEvent_44 rfl (lv_at hl 2 rfl) ?_
        obtain ⟨hin_8, hF⟩ := gB_some hF
        obtain ⟨k_9, ek_9⟩ : ∃ k, k = Int32.toNatClampNeg x2 := ⟨_, rfl⟩
        rw [← ek_9] at hF
        refine r_all (k := k_9) hx hb hK hW hi0 hin_8 ek_9.symm dX1_endEvent_45 ?_
        refine rg_X10_place hx hb hts inX10 hown hK hW hi0 (vp_lt2 hin_8 ek_9.symm) q156 dX1_endEvent_46 ?_
        refine lv_iconst (v := 1) hx hb dX1_endEvent_49 (by decide) ?_
        refine lv_icmp_ne (tgt := 59) hx hb dX1_endEvent_50 (by decide) (fun hc_10 => ?_) (fun hc_10 => ?_)
        · replace hF := gF hc_10 hF
          obtain ⟨x2_11, ex2_11, hF⟩ := gS_some hF
          refine lv_iinc (v := x2_11) (lv' := [(2, .int x2_11), (0, .ref (gA X i0 0)), (1, .int x1)]) hx hb dX1_endEvent_59 hl (k := 2) rfl (by rw [ex2_11]; rfl) (by decide) rfl (fun ls hl => ?_)
          refine lv_goto (tgt := 22) hx hb dX1_endEvent_62 (by decide) ?_
          exact ih22 w_7 i0 x1 x2_11 hi0 ls (lv_sub hl [1, 2, 0] rfl) hF H locs hW hL
        · replace hF := gT hc_10 hF
          refine lv_iload_n hx hb dX1_endEvent_53 rfl (lv_at hl 1 rfl) ?_
          refine lv_iconst (v := 1) hx hb dX1_endEvent_54 (by decide) ?_
          refine lv_iload_n hx hb dX1_endEvent_55 rfl (lv_at hl 2 rfl) ?_
          refine lv_ishl hx hb dX1_endEvent_56 ?_
          refine lv_ior hx hb dX1_endEvent_57 ?_
          obtain ⟨x1_12, ex1_12, hF⟩ := gS_some hF
          refine g_top ex1_12 ?_
          refine lv_istore_n (lv' := [(1, .int x1_12), (0, .ref (gA X i0 0)), (2, .int x2)]) hx hb dX1_endEvent_58 rfl hl (by decide) rfl (fun ls hl => ?_)
          obtain ⟨x2_13, ex2_13, hF⟩ := gS_some hF
          refine lv_iinc (v := x2_13) (lv' := [(2, .int x2_13), (1, .int x1_12), (0, .ref (gA X i0 0))]) hx hb dX1_endEvent_59 hl (k := 2) rfl (by rw [ex2_13]; rfl) (by decide) rfl (fun ls hl => ?_)
          refine lv_goto (tgt := 22) hx hb dX1_endEvent_62 (by decide) ?_
          exact ih22 w_7 i0 x1_12 x2_13 hi0 ls (lv_sub hl [2, 1, 0] rfl) hF H locs hW hL
  rw [F_X1_endEvent] at hF
  obtain ⟨locs, hlocs⟩ : ∃ locs : List Loc, locs = [] := ⟨_, rfl⟩
  rw [← hlocs] at hL ⊢
  refine lv_aload_n hx hb dX1_endEvent_0 rfl (lv_at hl 0 rfl) ?_
  refine rg_X5_stage hx hb hts inX5 hown hK hW hi0 q16 dX1_endEvent_1 ?_
  refine lv_iconst (v := 2) hx hb dX1_endEvent_4 (by decide) ?_
  refine lv_icmp_ne (tgt := 15) hx hb dX1_endEvent_5 (by decide) (fun hc_14 => ?_) (fun hc_14 => ?_)
  · replace hF := gF hc_14 hF
    refine lv_ldc hx hb hown q22 dX1_endEvent_15 ?_
    exact g_ri hx hb hr hlocks (gW2 hF hW) hL (gI2 hF).1 dX1_endEvent_17
  · replace hF := gT hc_14 hF
    refine lv_aload_n hx hb dX1_endEvent_8 rfl (lv_at hl 0 rfl) ?_
    obtain ⟨v_16, hq_15, hF⟩ := gP_some hF
    refine g_Vi (As := []) (rest := []) ⟨hx, hb, hml, hown, hts⟩ hK hW hL hl.1 (gok_m hi0 (by decide)) (gE_m0 hi0) rfl (c_X5_reasonToWait l X w i0 hi0 v_16 hq_15) k123 rfl rfl (Nat.le_of_ble_eq_true rfl) dX1_endEvent_9 ⟨Nat.le_of_ble_eq_true rfl, Nat.le_of_ble_eq_true rfl⟩ (fun H locs hW hL => ?_)
    refine lv_if_eq (tgt := 18) hx hb dX1_endEvent_12 (by decide) (fun hc_17 => ?_) (fun hc_17 => ?_)
    · replace hF := gT hc_17 hF
      refine lv_iconst (v := 0) hx hb dX1_endEvent_18 (by decide) ?_
      refine lv_istore_n (lv' := [(1, .int 0), (0, .ref (gA X i0 0))]) hx hb dX1_endEvent_19 rfl hl (by decide) rfl (fun ls hl => ?_)
      refine lv_iconst (v := 0) hx hb dX1_endEvent_20 (by decide) ?_
      refine lv_istore_n (lv' := [(2, .int 0), (1, .int 0), (0, .ref (gA X i0 0))]) hx hb dX1_endEvent_21 rfl hl (by decide) rfl (fun ls hl => ?_)
      exact L_22 gFU w i0 0 0 hi0 ls (lv_sub hl [2, 1, 0] rfl) hF H locs hW hL
    · replace hF := gF hc_17 hF
      refine lv_ldc hx hb hown q22 dX1_endEvent_15 ?_
      exact g_ri hx hb hr hlocks (gW2 hF hW) hL (gI2 hF).1 dX1_endEvent_17
abbrev rmX11_end : Room := { frames := 5, cells := 0, slots := 0, locals := 107 }
abbrev wsX11_end : List Cond := gws yX11_end cX11_end 1 (some .int)
set_option maxHeartbeats 4000000 in
set_option maxRecDepth 100000 in
theorem c_X11_end (l : Launch) (X : gX) (w : gWd)  (r : Int32) (w' : gWd) (hF : F_X11_end w = some (r, w')) : Met l yX11_end wsX11_end rmX11_end (gPc X [.ref (gA X 7 0)] w) (gQi X r w') 0 0 (gFr X) := by
  refine g_ofW (cc := cX11_end) (maxL := 1) (ret := (some .int)) (by decide) rfl (Nat.le_of_ble_eq_true rfl) (fun p e s m args below meth c ls H hx hb hr hts hown hlocks hml hK hl hW => ?_)
  have hl : lv_has ls 1 [(0, .ref (gA X 7 0))] := hl
  have hown : s.vm.findClass RX11 = some m.cls := hown
  have hL : gLo X [] := gLo_nil
  show W p l e rmX11_end s m args below meth c H [] 0 0 _ _
  have inX11 : ∀ w ∈ wsX110, w ∈ wsX11_end := fun w h => List.mem_cons_of_mem _ (inlX11 w h)
  have q10 := hts _ (List.mem_cons_of_mem _ wq_X11_10)
  have q22 := hts _ (List.mem_cons_of_mem _ wq_X11_22)
  have k40 : CallW rmX11_end s args RX11 RX3 40 yX3_prepare cX3_prepare 2 none wsX3_prepare rmX3_prepare 0 0 1 := cwV 1 hts (gGoodV (fun w h => List.mem_cons_of_mem _ h) wk_X11_40) rfl rfl rfl (by decide +kernel) ⟨Nat.le_of_ble_eq_true rfl, Nat.le_of_ble_eq_true rfl⟩
  have k50 : CallW rmX11_end s args RX11 RX3 50 yX3_keepUnlessError cX3_keepUnlessError 2 (some .int) wsX3_keepUnlessError rmX3_keepUnlessError 0 0 1 := cwV 1 hts (gGoodV (fun w h => List.mem_cons_of_mem _ h) wk_X11_50) rfl rfl rfl (by decide +kernel) ⟨Nat.le_of_ble_eq_true rfl, Nat.le_of_ble_eq_true rfl⟩
  have k71 : CallB rmX11_end s args RX11 71 yX1_endEvent cX1_endEvent 3 (some .int) wsX1_endEvent rmX1_endEvent 0 0 1 ∧ (Cond.static yX1_endEvent).before args s = true := va_cwS 1 hts (gGoodS (fun w h => List.mem_cons_of_mem _ h) wk_X11_71) rfl rfl rfl (by decide +kernel) ⟨Nat.le_of_ble_eq_true rfl, Nat.le_of_ble_eq_true rfl⟩
  rw [F_X11_end] at hF
  obtain ⟨locs, hlocs⟩ : ∃ locs : List Loc, locs = [] := ⟨_, rfl⟩
  rw [← hlocs] at hL ⊢
  refine lv_aload_n hx hb dX11_end_0 rfl (lv_at hl 0 rfl) ?_
  refine rg_X11_history hx hb hts inX11 hown hK hW q22 dX11_end_1 ?_
  refine lv_aload_n hx hb dX11_end_4 rfl (lv_at hl 0 rfl) ?_
  refine rg_X11_meet hx hb hts inX11 hown hK hW q10 dX11_end_5 ?_
  obtain ⟨w_2, hq_1, hF⟩ := gP_some hF
  refine g_Vv (As := [.ref (gA X 0 0)]) (rest := []) ⟨hx, hb, hml, hown, hts⟩ hK hW hL hl.1 (gok_c (by decide)) gE_H rfl (c_X3_prepare l X w 0 h07 w_2 hq_1) k40 rfl rfl (Nat.le_of_ble_eq_true rfl) dX11_end_8 ⟨Nat.le_of_ble_eq_true rfl, Nat.le_of_ble_eq_true rfl⟩ (fun H locs hW hL => ?_)
  refine lv_aload_n hx hb dX11_end_11 rfl (lv_at hl 0 rfl) ?_
  refine rg_X11_history hx hb hts inX11 hown hK hW q22 dX11_end_12 ?_
  refine lv_aload_n hx hb dX11_end_15 rfl (lv_at hl 0 rfl) ?_
  refine rg_X11_meet hx hb hts inX11 hown hK hW q10 dX11_end_16 ?_
  obtain ⟨v_4, w_5, hq_3, hF⟩ := gC_some hF
  refine g_Si (As := [.ref (gA X 0 0)]) (rest := [.ref (gA X 7 1)]) ⟨hx, hb, hml, hown, hts⟩ hK hW hL hl.1 (c_X1_endEvent l X w_2 0 h07 v_4 w_5 hq_3) k71 rfl rfl (Nat.le_of_ble_eq_true rfl) dX11_end_19 ⟨Nat.le_of_ble_eq_true rfl, Nat.le_of_ble_eq_true rfl⟩ (fun H locs hW hL => ?_)
  obtain ⟨v_7, w_8, hq_6, hF⟩ := gC_some hF
  refine g_Vi (As := [.int v_4]) (rest := []) ⟨hx, hb, hml, hown, hts⟩ hK hW hL hl.1 (gok_c (by decide)) gE_H rfl (c_X3_keepUnlessError l X w_5 v_4 v_7 w_8 hq_6) k50 rfl rfl (Nat.le_of_ble_eq_true rfl) dX11_end_22 ⟨Nat.le_of_ble_eq_true rfl, Nat.le_of_ble_eq_true rfl⟩ (fun H locs hW hL => ?_)
  exact g_ri hx hb hr hlocks (gW2 hF hW) hL (gI2 hF).1 dX11_end_25
abbrev rmX10_bestTime : Room := { frames := 0, cells := 0, slots := 0, locals := 0 }
abbrev wsX10_bestTime : List Cond := gws yX10_bestTime cX10_bestTime 2 (some .int)
set_option maxHeartbeats 4000000 in
set_option maxRecDepth 100000 in
theorem c_X10_bestTime (l : Launch) (X : gX) (w : gWd) (i0 : Nat) (hi0 : i0 < 7) (n0 : Nat) (hn0 : n0 < 30) (r : Int32) (hF : F_X10_bestTime w i0 n0 = some r) : Met l yX10_bestTime wsX10_bestTime rmX10_bestTime (gPc X [.ref (gA X i0 (4 + n0))] w) (gQi X r w) 0 0 (gFr X) := by
  refine g_ofW (cc := cX10_bestTime) (maxL := 2) (ret := (some .int)) (by decide) rfl (Nat.le_of_ble_eq_true rfl) (fun p e s m args below meth c ls H hx hb hr hts hown hlocks hml hK hl hW => ?_)
  have hl : lv_has ls 2 [(0, .ref (gA X i0 (4 + n0)))] := hl
  have hown : s.vm.findClass RX10 = some m.cls := hown
  have hL : gLo X [] := gLo_nil
  show W p l e rmX10_bestTime s m args below meth c H [] 0 0 _ _
  have inX10 : ∀ w ∈ wsX100, w ∈ wsX10_bestTime := fun w h => List.mem_cons_of_mem _ (inlX10 w h)
  have q18 := hts _ (List.mem_cons_of_mem _ wq_X10_18)
  have q46 := hts _ (List.mem_cons_of_mem _ wq_X10_46)
  have q52 := hts _ (List.mem_cons_of_mem _ wq_X10_52)
  have B_48 : ∀ (i0 : Nat) (n0 : Nat) (hi0 : i0 < 7) (hn0 : n0 < 30) (ls : Array Slot) (hl : lv_has ls 2 [(0, .ref (gA X i0 (4 + n0)))]) (hF : F_X10_bestTime_48 w i0 n0 = some r) (H : Heap) (locs : List Loc) (hW : gWo X 252 (gE X w) H) (hL : gLo X locs), W p l e rmX10_bestTime s m args below meth c H locs 0 0 (MQ below (gQi X r w) args s 0 0 (gFr X)) (F0 m 48 ls []) := by
    intro i0 n0 hi0 hn0 ls hl hF H locs hW hL
    rw [F_X10_bestTime_48] at hF
    refine lv_aload_n hx hb dX10_bestTime_48 rfl (lv_at hl 0 rfl) ?_
    refine rg_X10_finalTime hx hb hts inX10 hown hK hW hi0 hn0 q52 dX10_bestTime_49 ?_
    obtain ⟨x1_5, ex1_5, hF⟩ := gS_some hF
    refine g_top ex1_5 ?_
    refine lv_istore_n (lv' := [(1, .int x1_5), (0, .ref (gA X i0 (4 + n0)))]) hx hb dX10_bestTime_52 rfl hl (by decide) rfl (fun ls hl => ?_)
    refine lv_iload_n hx hb dX10_bestTime_53 rfl (lv_at hl 0 rfl) ?_
    exact g_ri hx hb hr hlocks hW hL (Option.some.inj hF) dX10_bestTime_54
  have B_29 : ∀ (i0 : Nat) (n0 : Nat) (x1 : Int32) (hi0 : i0 < 7) (hn0 : n0 < 30) (ls : Array Slot) (hl : lv_has ls 2 [(0, .ref (gA X i0 (4 + n0))), (1, .int x1)]) (hF : F_X10_bestTime_29 w i0 n0 x1 = some r) (H : Heap) (locs : List Loc) (hW : gWo X 252 (gE X w) H) (hL : gLo X locs), W p l e rmX10_bestTime s m args below meth c H locs 0 0 (MQ below (gQi X r w) args s 0 0 (gFr X)) (F0 m 29 ls []) := by
    intro i0 n0 x1 hi0 hn0 ls hl hF H locs hW hL
    rw [F_X10_bestTime_29] at hF
    refine lv_aload_n hx hb dX10_bestTime_29 rfl (lv_at hl 0 rfl) ?_
    refine rg_X10_finalTime hx hb hts inX10 hown hK hW hi0 hn0 q52 dX10_bestTime_30 ?_
    refine lv_if_le (tgt := 53) hx hb dX10_bestTime_33 (by decide) (fun hc_2 => ?_) (fun hc_2 => ?_)
    · replace hF := gT hc_2 hF
      refine lv_iload_n hx hb dX10_bestTime_53 rfl (lv_at hl 1 rfl) ?_
      exact g_ri hx hb hr hlocks hW hL (Option.some.inj hF) dX10_bestTime_54
    · replace hF := gF hc_2 hF
      refine lv_iload_n hx hb dX10_bestTime_36 rfl (lv_at hl 1 rfl) ?_
      refine lv_if_eq (tgt := 48) hx hb dX10_bestTime_37 (by decide) (fun hc_3 => ?_) (fun hc_3 => ?_)
      · replace hF := gT hc_3 hF
        exact B_48 i0 n0 hi0 hn0 ls (lv_sub hl [0] rfl) hF H locs hW hL
      · replace hF := gF hc_3 hF
        refine lv_aload_n hx hb dX10_bestTime_40 rfl (lv_at hl 0 rfl) ?_
        refine rg_X10_finalTime hx hb hts inX10 hown hK hW hi0 hn0 q52 dX10_bestTime_41 ?_
        refine lv_iload_n hx hb dX10_bestTime_44 rfl (lv_at hl 1 rfl) ?_
        refine lv_icmp_ge (tgt := 53) hx hb dX10_bestTime_45 (by decide) (fun hc_4 => ?_) (fun hc_4 => ?_)
        · replace hF := gT hc_4 hF
          refine lv_iload_n hx hb dX10_bestTime_53 rfl (lv_at hl 1 rfl) ?_
          exact g_ri hx hb hr hlocks hW hL (Option.some.inj hF) dX10_bestTime_54
        · replace hF := gF hc_4 hF
          exact B_48 i0 n0 hi0 hn0 ls (lv_sub hl [0] rfl) hF H locs hW hL
  have B_24 : ∀ (i0 : Nat) (n0 : Nat) (hi0 : i0 < 7) (hn0 : n0 < 30) (ls : Array Slot) (hl : lv_has ls 2 [(0, .ref (gA X i0 (4 + n0)))]) (hF : F_X10_bestTime_24 w i0 n0 = some r) (H : Heap) (locs : List Loc) (hW : gWo X 252 (gE X w) H) (hL : gLo X locs), W p l e rmX10_bestTime s m args below meth c H locs 0 0 (MQ below (gQi X r w) args s 0 0 (gFr X)) (F0 m 24 ls []) := by
    intro i0 n0 hi0 hn0 ls hl hF H locs hW hL
    rw [F_X10_bestTime_24] at hF
    refine lv_aload_n hx hb dX10_bestTime_24 rfl (lv_at hl 0 rfl) ?_
    refine rg_X10_heatTime hx hb hts inX10 hown hK hW hi0 hn0 q46 dX10_bestTime_25 ?_
    obtain ⟨x1_1, ex1_1, hF⟩ := gS_some hF
    refine g_top ex1_1 ?_
    refine lv_istore_n (lv' := [(1, .int x1_1), (0, .ref (gA X i0 (4 + n0)))]) hx hb dX10_bestTime_28 rfl hl (by decide) rfl (fun ls hl => ?_)
    exact B_29 i0 n0 x1_1 hi0 hn0 ls (lv_sub hl [1, 0] rfl) hF H locs hW hL
  rw [F_X10_bestTime] at hF
  obtain ⟨locs, hlocs⟩ : ∃ locs : List Loc, locs = [] := ⟨_, rfl⟩
  rw [← hlocs] at hL ⊢
  refine lv_aload_n hx hb dX10_bestTime_0 rfl (lv_at hl 0 rfl) ?_
  refine rg_X10_entry hx hb hts inX10 hown hK hW hi0 hn0 q18 dX10_bestTime_1 ?_
  obtain ⟨x1_6, ex1_6, hF⟩ := gS_some hF
  refine g_top ex1_6 ?_
  refine lv_istore_n (lv' := [(1, .int x1_6), (0, .ref (gA X i0 (4 + n0)))]) hx hb dX10_bestTime_4 rfl hl (by decide) rfl (fun ls hl => ?_)
  refine lv_aload_n hx hb dX10_bestTime_5 rfl (lv_at hl 1 rfl) ?_
  refine rg_X10_heatTime hx hb hts inX10 hown hK hW hi0 hn0 q46 dX10_bestTime_6 ?_
  refine lv_if_le (tgt := 29) hx hb dX10_bestTime_9 (by decide) (fun hc_7 => ?_) (fun hc_7 => ?_)
  · replace hF := gT hc_7 hF
    exact B_29 i0 n0 x1_6 hi0 hn0 ls (lv_sub hl [1, 0] rfl) hF H locs hW hL
  · replace hF := gF hc_7 hF
    refine lv_iload_n hx hb dX10_bestTime_12 rfl (lv_at hl 0 rfl) ?_
    refine lv_if_eq (tgt := 24) hx hb dX10_bestTime_13 (by decide) (fun hc_8 => ?_) (fun hc_8 => ?_)
    · replace hF := gT hc_8 hF
      exact B_24 i0 n0 hi0 hn0 ls (lv_sub hl [1] rfl) hF H locs hW hL
    · replace hF := gF hc_8 hF
      refine lv_aload_n hx hb dX10_bestTime_16 rfl (lv_at hl 1 rfl) ?_
      refine rg_X10_heatTime hx hb hts inX10 hown hK hW hi0 hn0 q46 dX10_bestTime_17 ?_
      refine lv_iload_n hx hb dX10_bestTime_20 rfl (lv_at hl 0 rfl) ?_
      refine lv_icmp_ge (tgt := 29) hx hb dX10_bestTime_21 (by decide) (fun hc_9 => ?_) (fun hc_9 => ?_)
      · replace hF := gT hc_9 hF
        exact B_29 i0 n0 x1_6 hi0 hn0 ls (lv_sub hl [1, 0] rfl) hF H locs hW hL
      · replace hF := gF hc_9 hF
        exact B_24 i0 n0 hi0 hn0 ls (lv_sub hl [1] rfl) hF H locs hW hL
abbrev rmX1_beginNextEvent : Room := { frames := 2, cells := 0, slots := 0, locals := 40 }
abbrev wsX1_beginNextEvent : List Cond := gws yX1_beginNextEvent cX1_beginNextEvent 5 (some .int)
set_option maxHeartbeats 4000000 in
set_option maxRecDepth 100000 in
theorem c_X1_beginNextEvent (l : Launch) (X : gX) (w : gWd) (i0 : Nat) (hi0 : i0 < 7) (r : Int32) (w' : gWd) (hF : F_X1_beginNextEvent w i0 = some (r, w')) : Met l yX1_beginNextEvent wsX1_beginNextEvent rmX1_beginNextEvent (gPc X [.ref (gA X i0 0)] w) (gQi X r w') 0 0 (gFr X) := by
  refine g_ofW (cc := cX1_beginNextEvent) (maxL := 5) (ret := (some .int)) (by decide) rfl (Nat.le_of_ble_eq_true rfl) (fun p e s m args below meth c ls H hx hb hr hts hown hlocks hml hK hl hW => ?_)
  have hl : lv_has ls 5 [(0, .ref (gA X i0 0))] := hl
  have hown : s.vm.findClass RX1 = some m.cls := hown
  have hL : gLo X [] := gLo_nil
  show W p l e rmX1_beginNextEvent s m args below meth c H [] 0 0 _ _
  have inX5 : ∀ w ∈ wsX50, w ∈ wsX1_beginNextEvent := fun w h => List.mem_cons_of_mem _ (inlX5 w h)
  have inX10 : ∀ w ∈ wsX100, w ∈ wsX1_beginNextEvent := fun w h => List.mem_cons_of_mem _ (inlX10 w h)
  have q148 := hts _ (List.mem_cons_of_mem _ wq_X1_148)
  have q16 := hts _ (List.mem_cons_of_mem _ wq_X1_16)
  have q164 := hts _ (List.mem_cons_of_mem _ wq_X1_164)
  have q22 := hts _ (List.mem_cons_of_mem _ wq_X1_22)
  have q23 := hts _ (List.mem_cons_of_mem _ wq_X1_23)
  have q27 := hts _ (List.mem_cons_of_mem _ wq_X1_27)
  have q87 := hts _ (List.mem_cons_of_mem _ wq_X1_87)
  have k161 : CallW rmX1_beginNextEvent s args RX1 RX10 161 yX10_bestTime cX10_bestTime 2 (some .int) wsX10_bestTime rmX10_bestTime 0 0 0 := cwV 0 hts (gGoodV (fun w h => List.mem_cons_of_mem _ h) wk_X1_161) rfl rfl rfl (by decide +kernel) ⟨Nat.le_of_ble_eq_true rfl, Nat.le_of_ble_eq_true rfl⟩
  have k167 : CallW rmX1_beginNextEvent s args RX1 RX10 167 yX10_forgetEvent cX10_forgetEvent 1 none wsX10_forgetEvent rmX10_forgetEvent 0 0 0 := cwV 0 hts (gGoodV (fun w h => List.mem_cons_of_mem _ h) wk_X1_167) rfl rfl rfl (by decide +kernel) ⟨Nat.le_of_ble_eq_true rfl, Nat.le_of_ble_eq_true rfl⟩
  have L_15 : ∀ (fu : Nat) (w : gWd) (i0 : Nat) (x1 : Int32) (x2 : Int32) (hi0 : i0 < 7) (ls : Array Slot) (hl : lv_has ls 5 [(0, .ref (gA X i0 0)), (1, .int x1), (2, .int x2)]) (hF : F_X1_beginNextEvent_15 fu w i0 x1 x2 = some (r, w')) (H : Heap) (locs : List Loc) (hW : gWo X 252 (gE X w) H) (hL : gLo X locs), W p l e rmX1_beginNextEvent s m args below meth c H locs 0 0 (MQ below (gQi X r w') args s 0 0 (gFr X)) (F0 m 15 ls []) := by
    intro fu
    induction fu with
    | zero => intro w i0 x1 x2 hi0 ls hl hF H locs hW hL; rw [F_X1_beginNextEvent_15_z] at hF; cases hF
    | succ fu15 ih15 =>
      have B_54 : ∀ (w : gWd) (i0 : Nat) (x1 : Int32) (x2 : Int32) (i3 : Nat) (n3 : Nat) (hi0 : i0 < 7) (hi3 : i3 < 7) (hn3 : n3 < 30) (ls : Array Slot) (hl : lv_has ls 5 [(0, .ref (gA X i0 0)), (1, .int x1), (2, .int x2), (3, .ref (gA X i3 (4 + n3)))]) (hF : F_X1_beginNextEvent_54 (F_X1_beginNextEvent_15 fu15) w i0 x1 x2 i3 n3 = some (r, w')) (H : Heap) (locs : List Loc) (hW : gWo X 252 (gE X w) H) (hL : gLo X locs), W p l e rmX1_beginNextEvent s m args below meth c H locs 0 0 (MQ below (gQi X r w') args s 0 0 (gFr X)) (F0 m 54 ls []) := by
        intro w i0 x1 x2 i3 n3 hi0 hi3 hn3 ls hl hF H locs hW hL
        rw [F_X1_beginNextEvent_54] at hF
        refine lv_aload_n hx hb dX1_beginNextEvent_54 rfl (lv_at hl 3 rfl) ?_
        obtain ⟨w_13, hq_12, hF⟩ := gP_some hF
        refine g_Vv (As := []) (rest := []) ⟨hx, hb, hml, hown, hts⟩ hK hW hL hl.1 (gok_s hi3 hn3) (gE_ms hi3 n3) rfl (c_X10_forgetEvent l X w i3 hi3 n3 hn3 w_13 hq_12) k167 rfl rfl (Nat.le_of_ble_eq_true rfl) dX1_beginNextEvent_55 ⟨Nat.le_of_ble_eq_true rfl, Nat.le_of_ble_eq_true rfl⟩ (fun H locs hW hL => ?_)
        obtain ⟨x2_14, ex2_14, hF⟩ := gS_some hF
        refine lv_iinc (v := x2_14) (lv' := [(2, .int x2_14), (0, .ref (gA X i0 0)), (1, .int x1), (3, .ref (gA X i3 (4 + n3)))]) hx hb dX1_beginNextEvent_58 hl (k := 2) rfl (by rw [ex2_14]; rfl) (by decide) rfl (fun ls hl => ?_)
        refine lv_goto (tgt := 15) hx hb dX1_beginNextEvent_61 (by decide) ?_
        exact ih15 w_13 i0 x1 x2_14 hi0 ls (lv_sub hl [1, 2, 0] rfl) hF H locs hW hL
      intro w i0 x1 x2 hi0 ls hl hF H locs hW hL
      rw [F_X1_beginNextEvent_15_s] at hF
      refine lv_iload_n hx hb dX1_beginNextEvent_15 rfl (lv_at hl 2 rfl) ?_
      refine lv_aload_n hx hb dX1_beginNextEvent_16 rfl (lv_at hl 0 rfl) ?_
      refine rg_X5_size hx hb hts inX5 hown hK hW hi0 q23 dX1_beginNextEvent_17 ?_
      refine lv_icmp_ge (tgt := 64) hx hb dX1_beginNextEvent_20 (by decide) (fun hc_1 => ?_) (fun hc_1 => ?_)
      · replace hF := gT hc_1 hF
        refine lv_aload_n hx hb dX1_beginNextEvent_64 rfl (lv_at hl 0 rfl) ?_
        refine lv_iconst (v := 0) hx hb dX1_beginNextEvent_65 (by decide) ?_
        obtain ⟨w_2, ew_2, hF⟩ := gS_some hF
        refine rp_X5_heats hx hb hts inX5 hown hK hW hL hi0 q87 dX1_beginNextEvent_66 (fun H locs hW hL => ?_)
        rw [← ew_2] at hW
        refine lv_aload_n hx hb dX1_beginNextEvent_69 rfl (lv_at hl 0 rfl) ?_
        refine lv_iconst (v := 0) hx hb dX1_beginNextEvent_70 (by decide) ?_
        obtain ⟨w_3, ew_3, hF⟩ := gS_some hF
        refine rp_X5_reservesDrawn hx hb hts inX5 hown hK hW hL hi0 q148 dX1_beginNextEvent_71 (fun H locs hW hL => ?_)
        rw [← ew_3] at hW
        refine lv_aload_n hx hb dX1_beginNextEvent_74 rfl (lv_at hl 0 rfl) ?_
        refine lv_iconst (v := 0) hx hb dX1_beginNextEvent_75 (by decide) ?_
        obtain ⟨w_4, ew_4, hF⟩ := gS_some hF
        refine rp_X5_stage hx hb hts inX5 hown hK hW hL hi0 q16 dX1_beginNextEvent_76 (fun H locs hW hL => ?_)
        rw [← ew_4] at hW
        refine lv_iload_n hx hb dX1_beginNextEvent_79 rfl (lv_at hl 1 rfl) ?_
        exact g_ri hx hb hr hlocks (gW2 hF hW) hL (gI2 hF).1 dX1_beginNextEvent_80
      · replace hF := gF hc_1 hF
        refine lv_aload_n hx hb dX1_beginNextEvent_23 rfl (lv_at hl 0 rfl) ?_
        refine rg_X5_all hx hb hts inX5 hown hK hW hi0 q27 dX1_beginNextEvent_24 ?_
        refine lv_iload_n hx hb dX1_beginNextEvent_27 rfl (lv_at hl 2 rfl) ?_
        obtain ⟨hin_5, hF⟩ := gB_some hF
        obtain ⟨k_6, ek_6⟩ : ∃ k, k = Int32.toNatClampNeg x2 := ⟨_, rfl⟩
        rw [← ek_6] at hF
        refine r_all (k := k_6) hx hb hK hW hi0 hin_5 ek_6.symm dX1_beginNextEvent_28 ?_
        refine lv_astore_n (lv' := [(3, .ref (gA X i0 (4 + k_6))), (0, .ref (gA X i0 0)), (1, .int x1), (2, .int x2)]) hx hb dX1_beginNextEvent_29 rfl hl (by decide) rfl (fun ls hl => ?_)
        refine lv_aload_n hx hb dX1_beginNextEvent_30 rfl (lv_at hl 0 rfl) ?_
        obtain ⟨v_8, hq_7, hF⟩ := gP_some hF
        refine g_Vi (As := []) (rest := []) ⟨hx, hb, hml, hown, hts⟩ hK hW hL hl.1 (gok_s hi0 (vp_lt2 hin_5 ek_6.symm)) (gE_ms hi0 k_6) rfl (c_X10_bestTime l X w i0 hi0 k_6 (vp_lt2 hin_5 ek_6.symm) v_8 hq_7) k161 rfl rfl (Nat.le_of_ble_eq_true rfl) dX1_beginNextEvent_31 ⟨Nat.le_of_ble_eq_true rfl, Nat.le_of_ble_eq_true rfl⟩ (fun H locs hW hL => ?_)
        refine lv_istore (lv' := [(4, .int v_8), (3, .ref (gA X i0 (4 + k_6))), (0, .ref (gA X i0 0)), (1, .int x1), (2, .int x2)]) hx hb dX1_beginNextEvent_34 hl (by decide) rfl (fun ls hl => ?_)
        refine lv_iload hx hb dX1_beginNextEvent_36 (lv_at hl 0 rfl) ?_
        refine lv_aload_n hx hb dX1_beginNextEvent_38 rfl (lv_at hl 1 rfl) ?_
        refine rg_X10_entry hx hb hts inX10 hown hK hW hi0 (vp_lt2 hin_5 ek_6.symm) q164 dX1_beginNextEvent_39 ?_
        refine lv_icmp_eq (tgt := 54) hx hb dX1_beginNextEvent_42 (by decide) (fun hc_9 => ?_) (fun hc_9 => ?_)
        · replace hF := gT hc_9 hF
          exact B_54 w i0 x1 x2 i0 k_6 hi0 hi0 ((vp_lt2 hin_5 ek_6.symm)) ls (lv_sub hl [2, 3, 4, 1] rfl) hF H locs hW hL
        · replace hF := gF hc_9 hF
          refine lv_aload_n hx hb dX1_beginNextEvent_45 rfl (lv_at hl 1 rfl) ?_
          refine lv_iload hx hb dX1_beginNextEvent_46 (lv_at hl 0 rfl) ?_
          obtain ⟨w_10, ew_10, hF⟩ := gS_some hF
          refine rp_X10_entry hx hb hts inX10 hown hK hW hL hi0 (vp_lt2 hin_5 ek_6.symm) q164 dX1_beginNextEvent_48 (fun H locs hW hL => ?_)
          rw [← ew_10] at hW
          obtain ⟨x1_11, ex1_11, hF⟩ := gS_some hF
          refine lv_iinc (v := x1_11) (lv' := [(1, .int x1_11), (4, .int v_8), (3, .ref (gA X i0 (4 + k_6))), (0, .ref (gA X i0 0)), (2, .int x2)]) hx hb dX1_beginNextEvent_51 hl (k := 3) rfl (by rw [ex1_11]; rfl) (by decide) rfl (fun ls hl => ?_)
          exact B_54 w_10 i0 x1_11 x2 i0 k_6 hi0 hi0 ((vp_lt2 hin_5 ek_6.symm)) ls (lv_sub hl [3, 0, 4, 2] rfl) hF H locs hW hL
  rw [F_X1_beginNextEvent] at hF
  obtain ⟨locs, hlocs⟩ : ∃ locs : List Loc, locs = [] := ⟨_, rfl⟩
  rw [← hlocs] at hL ⊢
  refine lv_aload_n hx hb dX1_beginNextEvent_0 rfl (lv_at hl 0 rfl) ?_
  refine rg_X5_stage hx hb hts inX5 hown hK hW hi0 q16 dX1_beginNextEvent_1 ?_
  refine lv_iconst (v := 3) hx hb dX1_beginNextEvent_4 (by decide) ?_
  refine lv_icmp_eq (tgt := 11) hx hb dX1_beginNextEvent_5 (by decide) (fun hc_15 => ?_) (fun hc_15 => ?_)
  · replace hF := gT hc_15 hF
    refine lv_iconst (v := 0) hx hb dX1_beginNextEvent_11 (by decide) ?_
    refine lv_istore_n (lv' := [(1, .int 0), (0, .ref (gA X i0 0))]) hx hb dX1_beginNextEvent_12 rfl hl (by decide) rfl (fun ls hl => ?_)
    refine lv_iconst (v := 0) hx hb dX1_beginNextEvent_13 (by decide) ?_
    refine lv_istore_n (lv' := [(2, .int 0), (1, .int 0), (0, .ref (gA X i0 0))]) hx hb dX1_beginNextEvent_14 rfl hl (by decide) rfl (fun ls hl => ?_)
    exact L_15 gFU w i0 0 0 hi0 ls (lv_sub hl [2, 1, 0] rfl) hF H locs hW hL
  · replace hF := gF hc_15 hF
    refine lv_ldc hx hb hown q22 dX1_beginNextEvent_8 ?_
    exact g_ri hx hb hr hlocks (gW2 hF hW) hL (gI2 hF).1 dX1_beginNextEvent_10
