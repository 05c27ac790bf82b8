abbrev rmX11_ifDrawn : Room := { frames := 4, cells := 0, slots := 0, locals := 88 }
abbrev wsX11_ifDrawn : List Cond := gws yX11_ifDrawn cX11_ifDrawn 4 (some .int)
set_option maxHeartbeats 4000000 in
set_option maxRecDepth 100000 in
theorem c_X11_ifDrawn (l : Launch) (X : gX) (w : gWd) (x1 : Int32) (x2 : Int32) (r : Int32) (w' : gWd) (hF : F_X11_ifDrawn w x1 x2 = some (r, w')) : Met l yX11_ifDrawn wsX11_ifDrawn rmX11_ifDrawn (gPc X [.ref (gA X 7 0), .int x1, .int x2] w) (gQi X r w') 0 0 (gFr X) := by
  refine g_ofW (cc := cX11_ifDrawn) (maxL := 4) (ret := (some .int)) (by decide) rfl (Nat.le_of_ble_eq_true rfl) (fun p e s m args below meth c ls H hx hb hr hts hown hlocks hml hK hl hW => ?_)
  have hl : lv_has ls 4 [(0, .ref (gA X 7 0)), (1, .int x1), (2, .int x2)] := hl
  have hown : s.vm.findClass RX11 = some m.cls := hown
  have hL : gLo X [] := gLo_nil
  show W p l e rmX11_ifDrawn s m args below meth c H [] 0 0 _ _
  have inX11 : ∀ w ∈ wsX110, w ∈ wsX11_ifDrawn := fun w h => List.mem_cons_of_mem _ (inlX11 w h)
  have inX5 : ∀ w ∈ wsX50, w ∈ wsX11_ifDrawn := fun w h => List.mem_cons_of_mem _ (inlX5 w h)
  have inX10 : ∀ w ∈ wsX100, w ∈ wsX11_ifDrawn := fun w h => List.mem_cons_of_mem _ (inlX10 w h)
  have q10 := hts _ (List.mem_cons_of_mem _ wq_X11_10)
  have q113 := hts _ (List.mem_cons_of_mem _ wq_X11_113)
  have q117 := hts _ (List.mem_cons_of_mem _ wq_X11_117)
  have q123 := hts _ (List.mem_cons_of_mem _ wq_X11_123)
  have q127 := hts _ (List.mem_cons_of_mem _ wq_X11_127)
  have q130 := hts _ (List.mem_cons_of_mem _ wq_X11_130)
  have q16 := hts _ (List.mem_cons_of_mem _ wq_X11_16)
  have q81 := hts _ (List.mem_cons_of_mem _ wq_X11_81)
  have q82 := hts _ (List.mem_cons_of_mem _ wq_X11_82)
  have k124 : CallW rmX11_ifDrawn s args RX11 RX5 124 yX5_copyFrom cX5_copyFrom 3 none wsX5_copyFrom rmX5_copyFrom 0 0 1 := cwV 1 hts (gGoodV (fun w h => List.mem_cons_of_mem _ h) wk_X11_124) rfl rfl rfl (by decide +kernel) ⟨Nat.le_of_ble_eq_true rfl, Nat.le_of_ble_eq_true rfl⟩
  have k61 : CallB rmX11_ifDrawn s args RX11 61 yX1_drawHeats cX1_drawHeats 2 (some .int) wsX1_drawHeats rmX1_drawHeats 0 0 1 ∧ (Cond.static yX1_drawHeats).before args s = true := va_cwS 1 hts (gGoodS (fun w h => List.mem_cons_of_mem _ h) wk_X11_61) rfl rfl rfl (by decide +kernel) ⟨Nat.le_of_ble_eq_true rfl, Nat.le_of_ble_eq_true rfl⟩
  have k77 : CallW rmX11_ifDrawn s args RX11 RX5 77 yX5_has cX5_has 2 (some .boolean) wsX5_has rmX5_has 0 0 1 := cwV 1 hts (gGoodV (fun w h => List.mem_cons_of_mem _ h) wk_X11_77) rfl rfl rfl (by decide +kernel) ⟨Nat.le_of_ble_eq_true rfl, Nat.le_of_ble_eq_true rfl⟩
  rw [F_X11_ifDrawn] at hF
  obtain ⟨locs, hlocs⟩ : ∃ locs : List Loc, locs = [] := ⟨_, rfl⟩
  rw [← hlocs] at hL ⊢
  refine lv_aload_n hx hb dX11_ifDrawn_0 rfl (lv_at hl 0 rfl) ?_
  refine rg_X11_meet hx hb hts inX11 hown hK hW q10 dX11_ifDrawn_1 ?_
  refine lv_iload_n hx hb dX11_ifDrawn_4 rfl (lv_at hl 1 rfl) ?_
  obtain ⟨v_2, hq_1, hF⟩ := gP_some hF
  refine g_Vi (As := [.int x1]) (rest := []) ⟨hx, hb, hml, hown, hts⟩ hK hW hL hl.1 (gok_m h07 (by decide)) (gE_m0 h07) rfl (c_X5_has l X w 0 h07 x1 v_2 hq_1) k77 rfl rfl (Nat.le_of_ble_eq_true rfl) dX11_ifDrawn_5 ⟨Nat.le_of_ble_eq_true rfl, Nat.le_of_ble_eq_true rfl⟩ (fun H locs hW hL => ?_)
  refine lv_if_eq (tgt := 20) hx hb dX11_ifDrawn_8 (by decide) (fun hc_3 => ?_) (fun hc_3 => ?_)
  · replace hF := gT hc_3 hF
    refine lv_ldc hx hb hown q81 dX11_ifDrawn_20 ?_
    exact g_ri hx hb hr hlocks (gW2 hF hW) hL (gI2 hF).1 dX11_ifDrawn_22
  · replace hF := gF hc_3 hF
    refine lv_iload_n hx hb dX11_ifDrawn_11 rfl (lv_at hl 2 rfl) ?_
    refine lv_if_lt (tgt := 20) hx hb dX11_ifDrawn_12 (by decide) (fun hc_4 => ?_) (fun hc_4 => ?_)
    · replace hF := gT hc_4 hF
      refine lv_ldc hx hb hown q81 dX11_ifDrawn_20 ?_
      exact g_ri hx hb hr hlocks (gW2 hF hW) hL (gI2 hF).1 dX11_ifDrawn_22
    · replace hF := gF hc_4 hF
      refine lv_iload_n hx hb dX11_ifDrawn_15 rfl (lv_at hl 2 rfl) ?_
      refine lv_iconst (v := 2) hx hb dX11_ifDrawn_16 (by decide) ?_
      refine lv_icmp_le (tgt := 23) hx hb dX11_ifDrawn_17 (by decide) (fun hc_5 => ?_) (fun hc_5 => ?_)
      · replace hF := gT hc_5 hF
        refine lv_aload_n hx hb dX11_ifDrawn_23 rfl (lv_at hl 0 rfl) ?_
        refine rg_X11_meet hx hb hts inX11 hown hK hW q10 dX11_ifDrawn_24 ?_
        refine rg_X5_stage hx hb hts inX5 hown hK hW h07 q113 dX11_ifDrawn_27 ?_
        refine lv_if_ne (tgt := 48) hx hb dX11_ifDrawn_30 (by decide) (fun hc_6 => ?_) (fun hc_6 => ?_)
        · replace hF := gF hc_6 hF
          refine lv_ldc hx hb hown q123 dX11_ifDrawn_48 ?_
          exact g_ri hx hb hr hlocks (gW2 hF hW) hL (gI2 hF).1 dX11_ifDrawn_50
        · replace hF := gT hc_6 hF
          refine lv_aload_n hx hb dX11_ifDrawn_33 rfl (lv_at hl 0 rfl) ?_
          refine rg_X11_meet hx hb hts inX11 hown hK hW q10 dX11_ifDrawn_34 ?_
          refine rg_X5_all hx hb hts inX5 hown hK hW h07 q82 dX11_ifDrawn_37 ?_
          refine lv_iload_n hx hb dX11_ifDrawn_40 rfl (lv_at hl 1 rfl) ?_
          obtain ⟨hin_7, hF⟩ := gB_some hF
          obtain ⟨k_8, ek_8⟩ : ∃ k, k = Int32.toNatClampNeg x1 := ⟨_, rfl⟩
          rw [← ek_8] at hF
          refine r_all (k := k_8) hx hb hK hW h07 hin_7 ek_8.symm dX11_ifDrawn_41 ?_
          refine rg_X10_scratched hx hb hts inX10 hown hK hW h07 (vp_lt2 hin_7 ek_8.symm) q117 dX11_ifDrawn_42 ?_
          refine lv_if_eq (tgt := 51) hx hb dX11_ifDrawn_45 (by decide) (fun hc_9 => ?_) (fun hc_9 => ?_)
          · replace hF := gT hc_9 hF
            refine lv_aload_n hx hb dX11_ifDrawn_51 rfl (lv_at hl 0 rfl) ?_
            refine rg_X11_trial hx hb hts inX11 hown hK hW q16 dX11_ifDrawn_52 ?_
            refine lv_aload_n hx hb dX11_ifDrawn_55 rfl (lv_at hl 0 rfl) ?_
            refine rg_X11_meet hx hb hts inX11 hown hK hW q10 dX11_ifDrawn_56 ?_
            obtain ⟨w_11, hq_10, hF⟩ := gP_some hF
            refine g_Vv (As := [.ref (gA X 0 0)]) (rest := []) ⟨hx, hb, hml, hown, hts⟩ hK hW hL hl.1 (gok_m h17 (by decide)) (gE_m0 h17) rfl (c_X5_copyFrom l X w 1 h17 0 h07 w_11 hq_10) k124 rfl rfl (Nat.le_of_ble_eq_true rfl) dX11_ifDrawn_59 ⟨Nat.le_of_ble_eq_true rfl, Nat.le_of_ble_eq_true rfl⟩ (fun H locs hW hL => ?_)
            refine lv_aload_n hx hb dX11_ifDrawn_62 rfl (lv_at hl 0 rfl) ?_
            refine rg_X11_trial hx hb hts inX11 hown hK hW q16 dX11_ifDrawn_63 ?_
            obtain ⟨v_13, w_14, hq_12, hF⟩ := gC_some hF
            refine g_Si (As := [.ref (gA X 1 0)]) (rest := []) ⟨hx, hb, hml, hown, hts⟩ hK hW hL hl.1 (c_X1_drawHeats l X w_11 1 h17 v_13 w_14 hq_12) k61 rfl rfl (Nat.le_of_ble_eq_true rfl) dX11_ifDrawn_66 ⟨Nat.le_of_ble_eq_true rfl, Nat.le_of_ble_eq_true rfl⟩ (fun H locs hW hL => ?_)
            refine lv_istore_n (lv' := [(3, .int v_13), (0, .ref (gA X 7 0)), (1, .int x1), (2, .int x2)]) hx hb dX11_ifDrawn_69 rfl hl (by decide) rfl (fun ls hl => ?_)
            refine lv_iload_n hx hb dX11_ifDrawn_70 rfl (lv_at hl 3 rfl) ?_
            refine lv_iconst (v := 2) hx hb dX11_ifDrawn_71 (by decide) ?_
            refine lv_icmp_ne (tgt := 77) hx hb dX11_ifDrawn_72 (by decide) (fun hc_15 => ?_) (fun hc_15 => ?_)
            · replace hF := gF hc_15 hF
              refine lv_iload_n hx hb dX11_ifDrawn_77 rfl (lv_at hl 3 rfl) ?_
              refine lv_if_ne (tgt := 96) hx hb dX11_ifDrawn_78 (by decide) (fun hc_16 => ?_) (fun hc_16 => ?_)
              · replace hF := gF hc_16 hF
                refine lv_aload_n hx hb dX11_ifDrawn_96 rfl (lv_at hl 1 rfl) ?_
                refine rg_X11_trial hx hb hts inX11 hown hK hW q16 dX11_ifDrawn_97 ?_
                refine rg_X5_all hx hb hts inX5 hown hK hW h17 q82 dX11_ifDrawn_100 ?_
                refine lv_iload_n hx hb dX11_ifDrawn_103 rfl (lv_at hl 2 rfl) ?_
                obtain ⟨hin_17, hF⟩ := gB_some hF
                obtain ⟨k_18, ek_18⟩ : ∃ k, k = Int32.toNatClampNeg x1 := ⟨_, rfl⟩
                rw [← ek_18] at hF
                refine r_all (k := k_18) hx hb hK hW h17 hin_17 ek_18.symm dX11_ifDrawn_104 ?_
                refine rg_X10_heatLane hx hb hts inX10 hown hK hW h17 (vp_lt2 hin_17 ek_18.symm) q130 dX11_ifDrawn_105 ?_
                exact g_ri hx hb hr hlocks (gW2 hF hW) hL (gI2 hF).1 dX11_ifDrawn_108
              · replace hF := gT hc_16 hF
                refine lv_aload_n hx hb dX11_ifDrawn_81 rfl (lv_at hl 1 rfl) ?_
                refine rg_X11_trial hx hb hts inX11 hown hK hW q16 dX11_ifDrawn_82 ?_
                refine rg_X5_all hx hb hts inX5 hown hK hW h17 q82 dX11_ifDrawn_85 ?_
                refine lv_iload_n hx hb dX11_ifDrawn_88 rfl (lv_at hl 2 rfl) ?_
                obtain ⟨hin_19, hF⟩ := gB_some hF
                obtain ⟨k_20, ek_20⟩ : ∃ k, k = Int32.toNatClampNeg x1 := ⟨_, rfl⟩
                rw [← ek_20] at hF
                refine r_all (k := k_20) hx hb hK hW h17 hin_19 ek_20.symm dX11_ifDrawn_89 ?_
                refine rg_X10_heat hx hb hts inX10 hown hK hW h17 (vp_lt2 hin_19 ek_20.symm) q127 dX11_ifDrawn_90 ?_
                refine lv_goto (tgt := 108) hx hb dX11_ifDrawn_93 (by decide) ?_
                exact g_ri hx hb hr hlocks (gW2 hF hW) hL (gI2 hF).1 dX11_ifDrawn_108
            · replace hF := gT hc_15 hF
              refine lv_iload_n hx hb dX11_ifDrawn_75 rfl (lv_at hl 0 rfl) ?_
              exact g_ri hx hb hr hlocks (gW2 hF hW) hL (gI2 hF).1 dX11_ifDrawn_76
          · replace hF := gF hc_9 hF
            refine lv_ldc hx hb hown q123 dX11_ifDrawn_48 ?_
            exact g_ri hx hb hr hlocks (gW2 hF hW) hL (gI2 hF).1 dX11_ifDrawn_50
      · replace hF := gF hc_5 hF
        refine lv_ldc hx hb hown q81 dX11_ifDrawn_20 ?_
        exact g_ri hx hb hr hlocks (gW2 hF hW) hL (gI2 hF).1 dX11_ifDrawn_22
abbrev rmX4_rankOf : Room := { frames := 0, cells := 0, slots := 0, locals := 0 }
abbrev wsX4_rankOf : List Cond := gws yX4_rankOf cX4_rankOf 3 (some .int)
set_option maxHeartbeats 4000000 in
set_option maxRecDepth 100000 in
theorem c_X4_rankOf (l : Launch) (X : gX) (w : gWd) (x0 : Int32) (x1 : Int32) (r : Int32) (hF : F_X4_rankOf w x0 x1 = some r) : Met l yX4_rankOf wsX4_rankOf rmX4_rankOf (gPc X [.int x0, .int x1] w) (gQi X r w) 0 0 (gFr X) := by
  refine g_ofW (cc := cX4_rankOf) (maxL := 3) (ret := (some .int)) (by decide) rfl (Nat.le_of_ble_eq_true rfl) (fun p e s m args below meth c ls H hx hb hr hts hown hlocks hml hK hl hW => ?_)
  have hl : lv_has ls 3 [(0, .int x0), (1, .int x1)] := hl
  have hown : s.vm.findClass RX4 = some m.cls := hown
  have hL : gLo X [] := gLo_nil
  show W p l e rmX4_rankOf s m args below meth c H [] 0 0 _ _
  rw [F_X4_rankOf] at hF
  obtain ⟨locs, hlocs⟩ : ∃ locs : List Loc, locs = [] := ⟨_, rfl⟩
  rw [← hlocs] at hL ⊢
  refine lv_iload_n hx hb dX4_rankOf_0 rfl (lv_at hl 1 rfl) ?_
  refine lv_iconst (v := 1) hx hb dX4_rankOf_1 (by decide) ?_
  refine lv_iadd hx hb dX4_rankOf_2 ?_
  refine lv_iconst (v := 2) hx hb dX4_rankOf_3 (by decide) ?_
  refine lv_idiv hx hb dX4_rankOf_4 (by decide) ?_
  obtain ⟨x2_1, ex2_1, hF⟩ := gS_some hF
  refine g_top ex2_1 ?_
  refine lv_istore_n (lv' := [(2, .int x2_1), (0, .int x0), (1, .int x1)]) hx hb dX4_rankOf_5 rfl hl (by decide) rfl (fun ls hl => ?_)
  refine lv_iload_n hx hb dX4_rankOf_6 rfl (lv_at hl 1 rfl) ?_
  refine lv_iload_n hx hb dX4_rankOf_7 rfl (lv_at hl 0 rfl) ?_
  refine lv_icmp_le (tgt := 21) hx hb dX4_rankOf_8 (by decide) (fun hc_2 => ?_) (fun hc_2 => ?_)
  · replace hF := gT hc_2 hF
    refine lv_iconst (v := 2) hx hb dX4_rankOf_21 (by decide) ?_
    refine lv_iload_n hx hb dX4_rankOf_22 rfl (lv_at hl 0 rfl) ?_
    refine lv_iload_n hx hb dX4_rankOf_23 rfl (lv_at hl 1 rfl) ?_
    refine lv_isub hx hb dX4_rankOf_24 ?_
    refine lv_imul hx hb dX4_rankOf_25 ?_
    exact g_ri hx hb hr hlocks hW hL (Option.some.inj hF) dX4_rankOf_26
  · replace hF := gF hc_2 hF
    refine lv_iconst (v := 2) hx hb dX4_rankOf_11 (by decide) ?_
    refine lv_iload_n hx hb dX4_rankOf_12 rfl (lv_at hl 1 rfl) ?_
    refine lv_iload_n hx hb dX4_rankOf_13 rfl (lv_at hl 0 rfl) ?_
    refine lv_isub hx hb dX4_rankOf_14 ?_
    refine lv_imul hx hb dX4_rankOf_15 ?_
    refine lv_iconst (v := 1) hx hb dX4_rankOf_16 (by decide) ?_
    refine lv_isub hx hb dX4_rankOf_17 ?_
    refine lv_goto (tgt := 26) hx hb dX4_rankOf_18 (by decide) ?_
    exact g_ri hx hb hr hlocks hW hL (Option.some.inj hF) dX4_rankOf_26
abbrev rmX11_lane : Room := { frames := 1, cells := 0, slots := 0, locals := 22 }
abbrev wsX11_lane : List Cond := gws yX11_lane cX11_lane 3 (some .int)
set_option maxHeartbeats 4000000 in
set_option maxRecDepth 100000 in
theorem c_X11_lane (l : Launch) (X : gX) (w : gWd) (x1 : Int32) (x2 : Int32) (r : Int32) (hF : F_X11_lane w x1 x2 = some r) : Met l yX11_lane wsX11_lane rmX11_lane (gPc X [.ref (gA X 7 0), .int x1, .int x2] w) (gQi X r w) 0 0 (gFr X) := by
  refine g_ofW (cc := cX11_lane) (maxL := 3) (ret := (some .int)) (by decide) rfl (Nat.le_of_ble_eq_true rfl) (fun p e s m args below meth c ls H hx hb hr hts hown hlocks hml hK hl hW => ?_)
  have hl : lv_has ls 3 [(0, .ref (gA X 7 0)), (1, .int x1), (2, .int x2)] := hl
  have hown : s.vm.findClass RX11 = some m.cls := hown
  have hL : gLo X [] := gLo_nil
  show W p l e rmX11_lane s m args below meth c H [] 0 0 _ _
  have inX11 : ∀ w ∈ wsX110, w ∈ wsX11_lane := fun w h => List.mem_cons_of_mem _ (inlX11 w h)
  have q10 := hts _ (List.mem_cons_of_mem _ wq_X11_10)
  have q81 := hts _ (List.mem_cons_of_mem _ wq_X11_81)
  have k133 : CallB rmX11_lane s args RX11 133 yX4_ofRank cX4_ofRank 3 (some .int) wsX4_ofRank rmX4_ofRank 0 0 2 ∧ (Cond.static yX4_ofRank).before args s = true := va_cwS 2 hts (gGoodS (fun w h => List.mem_cons_of_mem _ h) wk_X11_133) rfl rfl rfl (by decide +kernel) ⟨Nat.le_of_ble_eq_true rfl, Nat.le_of_ble_eq_true rfl⟩
  have k139 : CallB rmX11_lane s args RX11 139 yX4_rankOf cX4_rankOf 3 (some .int) wsX4_rankOf rmX4_rankOf 0 0 2 ∧ (Cond.static yX4_rankOf).before args s = true := va_cwS 2 hts (gGoodS (fun w h => List.mem_cons_of_mem _ h) wk_X11_139) rfl rfl rfl (by decide +kernel) ⟨Nat.le_of_ble_eq_true rfl, Nat.le_of_ble_eq_true rfl⟩
  have k95 : CallW rmX11_lane s args RX11 RX5 95 yX5_lanes cX5_lanes 1 (some .int) wsX5_lanes rmX5_lanes 0 0 0 := cwV 0 hts (gGoodV (fun w h => List.mem_cons_of_mem _ h) wk_X11_95) rfl rfl rfl (by decide +kernel) ⟨Nat.le_of_ble_eq_true rfl, Nat.le_of_ble_eq_true rfl⟩
  rw [F_X11_lane] at hF
  obtain ⟨locs, hlocs⟩ : ∃ locs : List Loc, locs = [] := ⟨_, rfl⟩
  rw [← hlocs] at hL ⊢
  refine lv_iload_n hx hb dX11_lane_0 rfl (lv_at hl 1 rfl) ?_
  refine lv_if_lt (tgt := 24) hx hb dX11_lane_1 (by decide) (fun hc_1 => ?_) (fun hc_1 => ?_)
  · replace hF := gT hc_1 hF
    refine lv_ldc hx hb hown q81 dX11_lane_24 ?_
    exact g_ri hx hb hr hlocks hW hL (Option.some.inj hF) dX11_lane_26
  · replace hF := gF hc_1 hF
    refine lv_iload_n hx hb dX11_lane_4 rfl (lv_at hl 1 rfl) ?_
    refine lv_aload_n hx hb dX11_lane_5 rfl (lv_at hl 0 rfl) ?_
    refine rg_X11_meet hx hb hts inX11 hown hK hW q10 dX11_lane_6 ?_
    obtain ⟨v_3, hq_2, hF⟩ := gP_some hF
    refine g_Vi (As := []) (rest := [.int x1]) ⟨hx, hb, hml, hown, hts⟩ hK hW hL hl.1 (gok_m h07 (by decide)) (gE_m0 h07) rfl (c_X5_lanes l X w 0 h07 v_3 hq_2) k95 rfl rfl (Nat.le_of_ble_eq_true rfl) dX11_lane_9 ⟨Nat.le_of_ble_eq_true rfl, Nat.le_of_ble_eq_true rfl⟩ (fun H locs hW hL => ?_)
    refine lv_icmp_ge (tgt := 24) hx hb dX11_lane_12 (by decide) (fun hc_4 => ?_) (fun hc_4 => ?_)
    · replace hF := gT hc_4 hF
      refine lv_ldc hx hb hown q81 dX11_lane_24 ?_
      exact g_ri hx hb hr hlocks hW hL (Option.some.inj hF) dX11_lane_26
    · replace hF := gF hc_4 hF
      refine lv_iload_n hx hb dX11_lane_15 rfl (lv_at hl 2 rfl) ?_
      refine lv_if_lt (tgt := 24) hx hb dX11_lane_16 (by decide) (fun hc_5 => ?_) (fun hc_5 => ?_)
      · replace hF := gT hc_5 hF
        refine lv_ldc hx hb hown q81 dX11_lane_24 ?_
        exact g_ri hx hb hr hlocks hW hL (Option.some.inj hF) dX11_lane_26
      · replace hF := gF hc_5 hF
        refine lv_iload_n hx hb dX11_lane_19 rfl (lv_at hl 2 rfl) ?_
        refine lv_iconst (v := 1) hx hb dX11_lane_20 (by decide) ?_
        refine lv_icmp_le (tgt := 27) hx hb dX11_lane_21 (by decide) (fun hc_6 => ?_) (fun hc_6 => ?_)
        · replace hF := gT hc_6 hF
          refine lv_iload_n hx hb dX11_lane_27 rfl (lv_at hl 2 rfl) ?_
          refine lv_if_ne (tgt := 45) hx hb dX11_lane_28 (by decide) (fun hc_7 => ?_) (fun hc_7 => ?_)
          · replace hF := gF hc_7 hF
            refine lv_iload_n hx hb dX11_lane_45 rfl (lv_at hl 1 rfl) ?_
            refine lv_iconst (v := 1) hx hb dX11_lane_46 (by decide) ?_
            refine lv_iadd hx hb dX11_lane_47 ?_
            refine lv_aload_n hx hb dX11_lane_48 rfl (lv_at hl 0 rfl) ?_
            refine rg_X11_meet hx hb hts inX11 hown hK hW q10 dX11_lane_49 ?_
            obtain ⟨v_9, hq_8, hF⟩ := gP_some hF
            refine g_Vi (As := []) (rest := [.int (x1 + 1)]) ⟨hx, hb, hml, hown, hts⟩ hK hW hL hl.1 (gok_m h07 (by decide)) (gE_m0 h07) rfl (c_X5_lanes l X w 0 h07 v_9 hq_8) k95 rfl rfl (Nat.le_of_ble_eq_true rfl) dX11_lane_52 ⟨Nat.le_of_ble_eq_true rfl, Nat.le_of_ble_eq_true rfl⟩ (fun H locs hW hL => ?_)
            obtain ⟨v_11, hq_10, hF⟩ := gP_some hF
            refine g_Si (As := [.int (x1 + 1), .int v_9]) (rest := []) ⟨hx, hb, hml, hown, hts⟩ hK hW hL hl.1 (c_X4_rankOf l X w ((x1 + 1)) v_9 v_11 hq_10) k139 rfl rfl (Nat.le_of_ble_eq_true rfl) dX11_lane_55 ⟨Nat.le_of_ble_eq_true rfl, Nat.le_of_ble_eq_true rfl⟩ (fun H locs hW hL => ?_)
            exact g_ri hx hb hr hlocks hW hL (Option.some.inj hF) dX11_lane_58
          · replace hF := gT hc_7 hF
            refine lv_iload_n hx hb dX11_lane_31 rfl (lv_at hl 1 rfl) ?_
            refine lv_aload_n hx hb dX11_lane_32 rfl (lv_at hl 0 rfl) ?_
            refine rg_X11_meet hx hb hts inX11 hown hK hW q10 dX11_lane_33 ?_
            obtain ⟨v_13, hq_12, hF⟩ := gP_some hF
            refine g_Vi (As := []) (rest := [.int x1]) ⟨hx, hb, hml, hown, hts⟩ hK hW hL hl.1 (gok_m h07 (by decide)) (gE_m0 h07) rfl (c_X5_lanes l X w 0 h07 v_13 hq_12) k95 rfl rfl (Nat.le_of_ble_eq_true rfl) dX11_lane_36 ⟨Nat.le_of_ble_eq_true rfl, Nat.le_of_ble_eq_true rfl⟩ (fun H locs hW hL => ?_)
            obtain ⟨v_15, hq_14, hF⟩ := gP_some hF
            refine g_Si (As := [.int x1, .int v_13]) (rest := []) ⟨hx, hb, hml, hown, hts⟩ hK hW hL hl.1 (c_X4_ofRank l X w x1 v_13 v_15 hq_14) k133 rfl rfl (Nat.le_of_ble_eq_true rfl) dX11_lane_39 ⟨Nat.le_of_ble_eq_true rfl, Nat.le_of_ble_eq_true rfl⟩ (fun H locs hW hL => ?_)
            refine lv_goto (tgt := 58) hx hb dX11_lane_42 (by decide) ?_
            exact g_ri hx hb hr hlocks hW hL (Option.some.inj hF) dX11_lane_58
        · replace hF := gF hc_6 hF
          refine lv_ldc hx hb hown q81 dX11_lane_24 ?_
          exact g_ri hx hb hr hlocks hW hL (Option.some.inj hF) dX11_lane_26
abbrev rmX11_why : Room := { frames := 4, cells := 0, slots := 0, locals := 85 }
abbrev wsX11_why : List Cond := gws yX11_why cX11_why 1 (some .int)
set_option maxHeartbeats 4000000 in
set_option maxRecDepth 100000 in
theorem c_X11_why (l : Launch) (X : gX) (w : gWd)  (r : Int32) (hF : F_X11_why w = some r) : Met l yX11_why wsX11_why rmX11_why (gPc X [.ref (gA X 7 0)] w) (gQi X r w) 0 0 (gFr X) := by
  refine g_ofW (cc := cX11_why) (maxL := 1) (ret := (some .int)) (by decide) rfl (Nat.le_of_ble_eq_true rfl) (fun p e s m args below meth c ls H hx hb hr hts hown hlocks hml hK hl hW => ?_)
  have hl : lv_has ls 1 [(0, .ref (gA X 7 0))] := hl
  have hown : s.vm.findClass RX11 = some m.cls := hown
  have hL : gLo X [] := gLo_nil
  show W p l e rmX11_why s m args below meth c H [] 0 0 _ _
  have inX11 : ∀ w ∈ wsX110, w ∈ wsX11_why := fun w h => List.mem_cons_of_mem _ (inlX11 w h)
  have q10 := hts _ (List.mem_cons_of_mem _ wq_X11_10)
  have k142 : CallW rmX11_why s args RX11 RX5 142 yX5_reasonToWait cX5_reasonToWait 1 (some .int) wsX5_reasonToWait rmX5_reasonToWait 0 0 0 := cwV 0 hts (gGoodV (fun w h => List.mem_cons_of_mem _ h) wk_X11_142) rfl rfl rfl (by decide +kernel) ⟨Nat.le_of_ble_eq_true rfl, Nat.le_of_ble_eq_true rfl⟩
  rw [F_X11_why] at hF
  obtain ⟨locs, hlocs⟩ : ∃ locs : List Loc, locs = [] := ⟨_, rfl⟩
  rw [← hlocs] at hL ⊢
  refine lv_aload_n hx hb dX11_why_0 rfl (lv_at hl 0 rfl) ?_
  refine rg_X11_meet hx hb hts inX11 hown hK hW q10 dX11_why_1 ?_
  obtain ⟨v_2, hq_1, hF⟩ := gP_some hF
  refine g_Vi (As := []) (rest := []) ⟨hx, hb, hml, hown, hts⟩ hK hW hL hl.1 (gok_m h07 (by decide)) (gE_m0 h07) rfl (c_X5_reasonToWait l X w 0 h07 v_2 hq_1) k142 rfl rfl (Nat.le_of_ble_eq_true rfl) dX11_why_4 ⟨Nat.le_of_ble_eq_true rfl, Nat.le_of_ble_eq_true rfl⟩ (fun H locs hW hL => ?_)
  exact g_ri hx hb hr hlocks hW hL (Option.some.inj hF) dX11_why_7
abbrev rmX11_missing : Room := { frames := 2, cells := 0, slots := 0, locals := 44 }
abbrev wsX11_missing : List Cond := gws yX11_missing cX11_missing 2 (some .int)
set_option maxHeartbeats 4000000 in
set_option maxRecDepth 100000 in
theorem c_X11_missing (l : Launch) (X : gX) (w : gWd) (x1 : Int32) (r : Int32) (hF : F_X11_missing w x1 = some r) : Met l yX11_missing wsX11_missing rmX11_missing (gPc X [.ref (gA X 7 0), .int x1] w) (gQi X r w) 0 0 (gFr X) := by
  refine g_ofW (cc := cX11_missing) (maxL := 2) (ret := (some .int)) (by decide) rfl (Nat.le_of_ble_eq_true rfl) (fun p e s m args below meth c ls H hx hb hr hts hown hlocks hml hK hl hW => ?_)
  have hl : lv_has ls 2 [(0, .ref (gA X 7 0)), (1, .int x1)] := hl
  have hown : s.vm.findClass RX11 = some m.cls := hown
  have hL : gLo X [] := gLo_nil
  show W p l e rmX11_missing s m args below meth c H [] 0 0 _ _
  have inX11 : ∀ w ∈ wsX110, w ∈ wsX11_missing := fun w h => List.mem_cons_of_mem _ (inlX11 w h)
  have q10 := hts _ (List.mem_cons_of_mem _ wq_X11_10)
  have q81 := hts _ (List.mem_cons_of_mem _ wq_X11_81)
  have k145 : CallW rmX11_missing s args RX11 RX5 145 yX5_stillToSwim cX5_stillToSwim 4 (some .int) wsX5_stillToSwim rmX5_stillToSwim 0 0 1 := cwV 1 hts (gGoodV (fun w h => List.mem_cons_of_mem _ h) wk_X11_145) rfl rfl rfl (by decide +kernel) ⟨Nat.le_of_ble_eq_true rfl, Nat.le_of_ble_eq_true rfl⟩
  rw [F_X11_missing] at hF
  obtain ⟨locs, hlocs⟩ : ∃ locs : List Loc, locs = [] := ⟨_, rfl⟩
  rw [← hlocs] at hL ⊢
  refine lv_iload_n hx hb dX11_missing_0 rfl (lv_at hl 1 rfl) ?_
  refine lv_if_ge (tgt := 9) hx hb dX11_missing_1 (by decide) (fun hc_1 => ?_) (fun hc_1 => ?_)
  · replace hF := gT hc_1 hF
    refine lv_aload_n hx hb dX11_missing_9 rfl (lv_at hl 0 rfl) ?_
    refine rg_X11_meet hx hb hts inX11 hown hK hW q10 dX11_missing_10 ?_
    refine lv_iload_n hx hb dX11_missing_13 rfl (lv_at hl 1 rfl) ?_
    obtain ⟨v_3, hq_2, hF⟩ := gP_some hF
    refine g_Vi (As := [.int x1]) (rest := []) ⟨hx, hb, hml, hown, hts⟩ hK hW hL hl.1 (gok_m h07 (by decide)) (gE_m0 h07) rfl (c_X5_stillToSwim l X w 0 h07 x1 v_3 hq_2) k145 rfl rfl (Nat.le_of_ble_eq_true rfl) dX11_missing_14 ⟨Nat.le_of_ble_eq_true rfl, Nat.le_of_ble_eq_true rfl⟩ (fun H locs hW hL => ?_)
    exact g_ri hx hb hr hlocks hW hL (Option.some.inj hF) dX11_missing_17
  · replace hF := gF hc_1 hF
    refine lv_ldc hx hb hown q81 dX11_missing_4 ?_
    refine lv_goto (tgt := 17) hx hb dX11_missing_6 (by decide) ?_
    exact g_ri hx hb hr hlocks hW hL (Option.some.inj hF) dX11_missing_17
abbrev rmX8_clubsAhead : Room := { frames := 1, cells := 0, slots := 0, locals := 23 }
abbrev wsX8_clubsAhead : List Cond := gws yX8_clubsAhead cX8_clubsAhead 6 (some .int)
set_option maxHeartbeats 4000000 in
set_option maxRecDepth 100000 in
theorem c_X8_clubsAhead (l : Launch) (X : gX) (w : gWd) (i0 : Nat) (hi0 : i0 < 7) (x1 : Int32) (r : Int32) (hF : F_X8_clubsAhead w i0 x1 = some r) : Met l yX8_clubsAhead wsX8_clubsAhead rmX8_clubsAhead (gPc X [.ref (gA X i0 0), .int x1] w) (gQi X r w) 0 0 (gFr X) := by
  refine g_ofW (cc := cX8_clubsAhead) (maxL := 6) (ret := (some .int)) (by decide) rfl (Nat.le_of_ble_eq_true rfl) (fun p e s m args below meth c ls H hx hb hr hts hown hlocks hml hK hl hW => ?_)
  have hl : lv_has ls 6 [(0, .ref (gA X i0 0)), (1, .int x1)] := hl
  have hown : s.vm.findClass RX8 = some m.cls := hown
  have hL : gLo X [] := gLo_nil
  show W p l e rmX8_clubsAhead s m args below meth c H [] 0 0 _ _
  have k52 : CallB rmX8_clubsAhead s args RX8 52 yX8_ofClub cX8_ofClub 4 (some .int) wsX8_ofClub rmX8_ofClub 0 0 2 ∧ (Cond.static yX8_ofClub).before args s = true := va_cwS 2 hts (gGoodS (fun w h => List.mem_cons_of_mem _ h) wk_X8_52) rfl rfl rfl (by decide +kernel) ⟨Nat.le_of_ble_eq_true rfl, Nat.le_of_ble_eq_true rfl⟩
  have L_11 : ∀ (fu : Nat) (i0 : Nat) (x1 : Int32) (x2 : Int32) (x3 : Int32) (x4 : Int32) (hi0 : i0 < 7) (ls : Array Slot) (hl : lv_has ls 6 [(0, .ref (gA X i0 0)), (1, .int x1), (2, .int x2), (3, .int x3), (4, .int x4)]) (hF : F_X8_clubsAhead_11 fu w i0 x1 x2 x3 x4 = some r) (H : Heap) (locs : List Loc) (hW : gWo X 251 (gE X w) H) (hL : gLo X locs), W p l e rmX8_clubsAhead s m args below meth c H locs 0 0 (MQ below (gQi X r w) args s 0 0 (gFr X)) (F0 m 11 ls []) := by
    intro fu
    induction fu with
    | zero => intro i0 x1 x2 x3 x4 hi0 ls hl hF H locs hW hL; rw [F_X8_clubsAhead_11_z] at hF; cases hF
    | succ fu11 ih11 =>
      have B_44 : ∀ (i0 : Nat) (x1 : Int32) (x2 : Int32) (x3 : Int32) (x4 : Int32) (hi0 : i0 < 7) (ls : Array Slot) (hl : lv_has ls 6 [(0, .ref (gA X i0 0)), (1, .int x1), (2, .int x2), (3, .int x3), (4, .int x4)]) (hF : F_X8_clubsAhead_44 (F_X8_clubsAhead_11 fu11) w i0 x1 x2 x3 x4 = some r) (H : Heap) (locs : List Loc) (hW : gWo X 251 (gE X w) H) (hL : gLo X locs), W p l e rmX8_clubsAhead s m args below meth c H locs 0 0 (MQ below (gQi X r w) args s 0 0 (gFr X)) (F0 m 44 ls []) := by
        intro i0 x1 x2 x3 x4 hi0 ls hl hF H locs hW hL
        rw [F_X8_clubsAhead_44] at hF
        obtain ⟨x3_9, ex3_9, hF⟩ := gS_some hF
        refine lv_iinc (v := x3_9) (lv' := [(3, .int x3_9), (0, .ref (gA X i0 0)), (1, .int x1), (2, .int x2), (4, .int x4)]) hx hb dX8_clubsAhead_44 hl (k := 3) rfl (by rw [ex3_9]; rfl) (by decide) rfl (fun ls hl => ?_)
        obtain ⟨x4_10, ex4_10, hF⟩ := gS_some hF
        refine lv_iinc (v := x4_10) (lv' := [(4, .int x4_10), (3, .int x3_9), (0, .ref (gA X i0 0)), (1, .int x1), (2, .int x2)]) hx hb dX8_clubsAhead_47 hl (k := 4) rfl (by rw [ex4_10]; rfl) (by decide) rfl (fun ls hl => ?_)
        refine lv_goto (tgt := 11) hx hb dX8_clubsAhead_50 (by decide) ?_
        exact ih11 i0 x1 x2 x3_9 x4_10 hi0 ls (lv_sub hl [2, 3, 4, 1, 0] rfl) hF H locs hW hL
      intro i0 x1 x2 x3 x4 hi0 ls hl hF H locs hW hL
      rw [F_X8_clubsAhead_11_s] at hF
      refine lv_iload hx hb dX8_clubsAhead_11 (lv_at hl 4 rfl) ?_
      refine lv_bipush (v := 6) hx hb dX8_clubsAhead_13 (by decide) ?_
      refine lv_icmp_ge (tgt := 53) hx hb dX8_clubsAhead_15 (by decide) (fun hc_1 => ?_) (fun hc_1 => ?_)
      · replace hF := gT hc_1 hF
        refine lv_iload_n hx hb dX8_clubsAhead_53 rfl (lv_at hl 3 rfl) ?_
        exact g_ri hx hb hr hlocks hW hL (Option.some.inj hF) dX8_clubsAhead_54
      · replace hF := gF hc_1 hF
        refine lv_aload_n hx hb dX8_clubsAhead_18 rfl (lv_at hl 0 rfl) ?_
        refine lv_iload hx hb dX8_clubsAhead_19 (lv_at hl 4 rfl) ?_
        obtain ⟨v_3, hq_2, hF⟩ := gP_some hF
        refine g_Si (As := [.ref (gA X i0 0), .int x4]) (rest := []) ⟨hx, hb, hml, hown, hts⟩ hK hW hL hl.1 (c_X8_ofClub l X w i0 hi0 x4 v_3 hq_2) k52 rfl rfl (Nat.le_of_ble_eq_true rfl) dX8_clubsAhead_21 ⟨Nat.le_of_ble_eq_true rfl, Nat.le_of_ble_eq_true rfl⟩ (fun H locs hW hL => ?_)
        refine lv_istore (lv' := [(5, .int v_3), (0, .ref (gA X i0 0)), (1, .int x1), (2, .int x2), (3, .int x3), (4, .int x4)]) hx hb dX8_clubsAhead_24 hl (by decide) rfl (fun ls hl => ?_)
        refine lv_iload hx hb dX8_clubsAhead_26 (lv_at hl 0 rfl) ?_
        refine lv_iload_n hx hb dX8_clubsAhead_28 rfl (lv_at hl 3 rfl) ?_
        refine lv_icmp_gt (tgt := 44) hx hb dX8_clubsAhead_29 (by decide) (fun hc_4 => ?_) (fun hc_4 => ?_)
        · replace hF := gT hc_4 hF
          exact B_44 i0 x1 x2 x3 x4 hi0 ls (lv_sub hl [1, 2, 3, 4, 5] rfl) hF H locs hW hL
        · replace hF := gF hc_4 hF
          refine lv_iload hx hb dX8_clubsAhead_32 (lv_at hl 0 rfl) ?_
          refine lv_iload_n hx hb dX8_clubsAhead_34 rfl (lv_at hl 3 rfl) ?_
          refine lv_icmp_ne (tgt := 47) hx hb dX8_clubsAhead_35 (by decide) (fun hc_5 => ?_) (fun hc_5 => ?_)
          · replace hF := gF hc_5 hF
            obtain ⟨x4_6, ex4_6, hF⟩ := gS_some hF
            refine lv_iinc (v := x4_6) (lv' := [(4, .int x4_6), (5, .int v_3), (0, .ref (gA X i0 0)), (1, .int x1), (2, .int x2), (3, .int x3)]) hx hb dX8_clubsAhead_47 hl (k := 5) rfl (by rw [ex4_6]; rfl) (by decide) rfl (fun ls hl => ?_)
            refine lv_goto (tgt := 11) hx hb dX8_clubsAhead_50 (by decide) ?_
            exact ih11 i0 x1 x2 x3 x4_6 hi0 ls (lv_sub hl [2, 3, 4, 5, 0] rfl) hF H locs hW hL
          · replace hF := gT hc_5 hF
            refine lv_iload hx hb dX8_clubsAhead_38 (lv_at hl 5 rfl) ?_
            refine lv_iload_n hx hb dX8_clubsAhead_40 rfl (lv_at hl 2 rfl) ?_
            refine lv_icmp_ge (tgt := 47) hx hb dX8_clubsAhead_41 (by decide) (fun hc_7 => ?_) (fun hc_7 => ?_)
            · replace hF := gT hc_7 hF
              obtain ⟨x4_8, ex4_8, hF⟩ := gS_some hF
              refine lv_iinc (v := x4_8) (lv' := [(4, .int x4_8), (5, .int v_3), (0, .ref (gA X i0 0)), (1, .int x1), (2, .int x2), (3, .int x3)]) hx hb dX8_clubsAhead_47 hl (k := 5) rfl (by rw [ex4_8]; rfl) (by decide) rfl (fun ls hl => ?_)
              refine lv_goto (tgt := 11) hx hb dX8_clubsAhead_50 (by decide) ?_
              exact ih11 i0 x1 x2 x3 x4_8 hi0 ls (lv_sub hl [2, 3, 4, 5, 0] rfl) hF H locs hW hL
            · replace hF := gF hc_7 hF
              exact B_44 i0 x1 x2 x3 x4 hi0 ls (lv_sub hl [1, 2, 3, 4, 5] rfl) hF H locs hW hL
  rw [F_X8_clubsAhead] at hF
  obtain ⟨locs, hlocs⟩ : ∃ locs : List Loc, locs = [] := ⟨_, rfl⟩
  rw [← hlocs] at hL ⊢
  refine lv_aload_n hx hb dX8_clubsAhead_0 rfl (lv_at hl 0 rfl) ?_
  refine lv_iload_n hx hb dX8_clubsAhead_1 rfl (lv_at hl 1 rfl) ?_
  obtain ⟨v_12, hq_11, hF⟩ := gP_some hF
  refine g_Si (As := [.ref (gA X i0 0), .int x1]) (rest := []) ⟨hx, hb, hml, hown, hts⟩ hK hW hL hl.1 (c_X8_ofClub l X w i0 hi0 x1 v_12 hq_11) k52 rfl rfl (Nat.le_of_ble_eq_true rfl) dX8_clubsAhead_2 ⟨Nat.le_of_ble_eq_true rfl, Nat.le_of_ble_eq_true rfl⟩ (fun H locs hW hL => ?_)
  refine lv_istore_n (lv' := [(2, .int v_12), (0, .ref (gA X i0 0)), (1, .int x1)]) hx hb dX8_clubsAhead_5 rfl hl (by decide) rfl (fun ls hl => ?_)
  refine lv_iconst (v := 0) hx hb dX8_clubsAhead_6 (by decide) ?_
  refine lv_istore_n (lv' := [(3, .int 0), (2, .int v_12), (0, .ref (gA X i0 0)), (1, .int x1)]) hx hb dX8_clubsAhead_7 rfl hl (by decide) rfl (fun ls hl => ?_)
  refine lv_iconst (v := 0) hx hb dX8_clubsAhead_8 (by decide) ?_
  refine lv_istore (lv' := [(4, .int 0), (3, .int 0), (2, .int v_12), (0, .ref (gA X i0 0)), (1, .int x1)]) hx hb dX8_clubsAhead_9 hl (by decide) rfl (fun ls hl => ?_)
  exact L_11 gFU i0 x1 v_12 0 0 hi0 ls (lv_sub hl [3, 4, 2, 1, 0] rfl) hF H locs hW hL
abbrev rmX8_clubAtRank : Room := { frames := 2, cells := 0, slots := 0, locals := 48 }
abbrev wsX8_clubAtRank : List Cond := gws yX8_clubAtRank cX8_clubAtRank 3 (some .int)
set_option maxHeartbeats 4000000 in
set_option maxRecDepth 100000 in
theorem c_X8_clubAtRank (l : Launch) (X : gX) (w : gWd) (i0 : Nat) (hi0 : i0 < 7) (x1 : Int32) (r : Int32) (hF : F_X8_clubAtRank w i0 x1 = some r) : Met l yX8_clubAtRank wsX8_clubAtRank rmX8_clubAtRank (gPc X [.ref (gA X i0 0), .int x1] w) (gQi X r w) 0 0 (gFr X) := by
  refine g_ofW (cc := cX8_clubAtRank) (maxL := 3) (ret := (some .int)) (by decide) rfl (Nat.le_of_ble_eq_true rfl) (fun p e s m args below meth c ls H hx hb hr hts hown hlocks hml hK hl hW => ?_)
  have hl : lv_has ls 3 [(0, .ref (gA X i0 0)), (1, .int x1)] := hl
  have hown : s.vm.findClass RX8 = some m.cls := hown
  have hL : gLo X [] := gLo_nil
  show W p l e rmX8_clubAtRank s m args below meth c H [] 0 0 _ _
  have q51 := hts _ (List.mem_cons_of_mem _ wq_X8_51)
  have k47 : CallB rmX8_clubAtRank s args RX8 47 yX8_clubsAhead cX8_clubsAhead 6 (some .int) wsX8_clubsAhead rmX8_clubsAhead 0 0 2 ∧ (Cond.static yX8_clubsAhead).before args s = true := va_cwS 2 hts (gGoodS (fun w h => List.mem_cons_of_mem _ h) wk_X8_47) rfl rfl rfl (by decide +kernel) ⟨Nat.le_of_ble_eq_true rfl, Nat.le_of_ble_eq_true rfl⟩
  have L_2 : ∀ (fu : Nat) (i0 : Nat) (x1 : Int32) (x2 : Int32) (hi0 : i0 < 7) (ls : Array Slot) (hl : lv_has ls 3 [(0, .ref (gA X i0 0)), (1, .int x1), (2, .int x2)]) (hF : F_X8_clubAtRank_2 fu w i0 x1 x2 = some r) (H : Heap) (locs : List Loc) (hW : gWo X 251 (gE X w) H) (hL : gLo X locs), W p l e rmX8_clubAtRank s m args below meth c H locs 0 0 (MQ below (gQi X r w) args s 0 0 (gFr X)) (F0 m 2 ls []) := by
    intro fu
    induction fu with
    | zero => intro i0 x1 x2 hi0 ls hl hF H locs hW hL; rw [F_X8_clubAtRank_2_z] at hF; cases hF
    | succ fu2 ih2 =>
      intro i0 x1 x2 hi0 ls hl hF H locs hW hL
      rw [F_X8_clubAtRank_2_s] at hF
      refine lv_iload_n hx hb dX8_clubAtRank_2 rfl (lv_at hl 2 rfl) ?_
      refine lv_bipush (v := 6) hx hb dX8_clubAtRank_3 (by decide) ?_
      refine lv_icmp_ge (tgt := 25) hx hb dX8_clubAtRank_5 (by decide) (fun hc_1 => ?_) (fun hc_1 => ?_)
      · replace hF := gT hc_1 hF
        refine lv_ldc hx hb hown q51 dX8_clubAtRank_25 ?_
        exact g_ri hx hb hr hlocks hW hL (Option.some.inj hF) dX8_clubAtRank_27
      · replace hF := gF hc_1 hF
        refine lv_aload_n hx hb dX8_clubAtRank_8 rfl (lv_at hl 0 rfl) ?_
        refine lv_iload_n hx hb dX8_clubAtRank_9 rfl (lv_at hl 2 rfl) ?_
        obtain ⟨v_3, hq_2, hF⟩ := gP_some hF
        refine g_Si (As := [.ref (gA X i0 0), .int x2]) (rest := []) ⟨hx, hb, hml, hown, hts⟩ hK hW hL hl.1 (c_X8_clubsAhead l X w i0 hi0 x2 v_3 hq_2) k47 rfl rfl (Nat.le_of_ble_eq_true rfl) dX8_clubAtRank_10 ⟨Nat.le_of_ble_eq_true rfl, Nat.le_of_ble_eq_true rfl⟩ (fun H locs hW hL => ?_)
        refine lv_iload_n hx hb dX8_clubAtRank_13 rfl (lv_at hl 1 rfl) ?_
        refine lv_icmp_ne (tgt := 19) hx hb dX8_clubAtRank_14 (by decide) (fun hc_4 => ?_) (fun hc_4 => ?_)
        · replace hF := gF hc_4 hF
          obtain ⟨x2_5, ex2_5, hF⟩ := gS_some hF
          refine lv_iinc (v := x2_5) (lv' := [(2, .int x2_5), (0, .ref (gA X i0 0)), (1, .int x1)]) hx hb dX8_clubAtRank_19 hl (k := 2) rfl (by rw [ex2_5]; rfl) (by decide) rfl (fun ls hl => ?_)
          refine lv_goto (tgt := 2) hx hb dX8_clubAtRank_22 (by decide) ?_
          exact ih2 i0 x1 x2_5 hi0 ls (lv_sub hl [1, 2, 0] rfl) hF H locs hW hL
        · replace hF := gT hc_4 hF
          refine lv_iload_n hx hb dX8_clubAtRank_17 rfl (lv_at hl 2 rfl) ?_
          exact g_ri hx hb hr hlocks hW hL (Option.some.inj hF) dX8_clubAtRank_18
  rw [F_X8_clubAtRank] at hF
  obtain ⟨locs, hlocs⟩ : ∃ locs : List Loc, locs = [] := ⟨_, rfl⟩
  rw [← hlocs] at hL ⊢
  refine lv_iconst (v := 0) hx hb dX8_clubAtRank_0 (by decide) ?_
  refine lv_istore_n (lv' := [(2, .int 0), (0, .ref (gA X i0 0)), (1, .int x1)]) hx hb dX8_clubAtRank_1 rfl hl (by decide) rfl (fun ls hl => ?_)
  exact L_2 gFU i0 x1 0 hi0 ls (lv_sub hl [1, 2, 0] rfl) hF H locs hW hL
abbrev rmX11_leader : Room := { frames := 3, cells := 0, slots := 0, locals := 70 }
abbrev wsX11_leader : List Cond := gws yX11_leader cX11_leader 2 (some .int)
set_option maxHeartbeats 4000000 in
set_option maxRecDepth 100000 in
theorem c_X11_leader (l : Launch) (X : gX) (w : gWd) (x1 : Int32) (r : Int32) (hF : F_X11_leader w x1 = some r) : Met l yX11_leader wsX11_leader rmX11_leader (gPc X [.ref (gA X 7 0), .int x1] w) (gQi X r w) 0 0 (gFr X) := by
  refine g_ofW (cc := cX11_leader) (maxL := 2) (ret := (some .int)) (by decide) rfl (Nat.le_of_ble_eq_true rfl) (fun p e s m args below meth c ls H hx hb hr hts hown hlocks hml hK hl hW => ?_)
  have hl : lv_has ls 2 [(0, .ref (gA X 7 0)), (1, .int x1)] := hl
  have hown : s.vm.findClass RX11 = some m.cls := hown
  have hL : gLo X [] := gLo_nil
  show W p l e rmX11_leader s m args below meth c H [] 0 0 _ _
  have inX11 : ∀ w ∈ wsX110, w ∈ wsX11_leader := fun w h => List.mem_cons_of_mem _ (inlX11 w h)
  have q10 := hts _ (List.mem_cons_of_mem _ wq_X11_10)
  have q81 := hts _ (List.mem_cons_of_mem _ wq_X11_81)
  have k148 : CallB rmX11_leader s args RX11 148 yX8_clubAtRank cX8_clubAtRank 3 (some .int) wsX8_clubAtRank rmX8_clubAtRank 0 0 2 ∧ (Cond.static yX8_clubAtRank).before args s = true := va_cwS 2 hts (gGoodS (fun w h => List.mem_cons_of_mem _ h) wk_X11_148) rfl rfl rfl (by decide +kernel) ⟨Nat.le_of_ble_eq_true rfl, Nat.le_of_ble_eq_true rfl⟩
  have B_10 : ∀   (ls : Array Slot) (hl : lv_has ls 2 []) (hF : F_X11_leader_10 w = some r) (H : Heap) (locs : List Loc) (hW : gWo X 251 (gE X w) H) (hL : gLo X locs), W p l e rmX11_leader s m args below meth c H locs 0 0 (MQ below (gQi X r w) args s 0 0 (gFr X)) (F0 m 10 ls []) := by
    intro ls hl hF H locs hW hL
    rw [F_X11_leader_10] at hF
    refine lv_ldc hx hb hown q81 dX11_leader_10 ?_
    refine lv_goto (tgt := 23) hx hb dX11_leader_12 (by decide) ?_
    exact g_ri hx hb hr hlocks hW hL (Option.some.inj hF) dX11_leader_23
  rw [F_X11_leader] at hF
  obtain ⟨locs, hlocs⟩ : ∃ locs : List Loc, locs = [] := ⟨_, rfl⟩
  rw [← hlocs] at hL ⊢
  refine lv_iload_n hx hb dX11_leader_0 rfl (lv_at hl 1 rfl) ?_
  refine lv_if_lt (tgt := 10) hx hb dX11_leader_1 (by decide) (fun hc_1 => ?_) (fun hc_1 => ?_)
  · replace hF := gT hc_1 hF
    exact B_10  ls (lv_sub hl [] rfl) hF H locs hW hL
  · replace hF := gF hc_1 hF
    refine lv_iload_n hx hb dX11_leader_4 rfl (lv_at hl 1 rfl) ?_
    refine lv_bipush (v := 6) hx hb dX11_leader_5 (by decide) ?_
    refine lv_icmp_lt (tgt := 15) hx hb dX11_leader_7 (by decide) (fun hc_2 => ?_) (fun hc_2 => ?_)
    · replace hF := gT hc_2 hF
      refine lv_aload_n hx hb dX11_leader_15 rfl (lv_at hl 0 rfl) ?_
      refine rg_X11_meet hx hb hts inX11 hown hK hW q10 dX11_leader_16 ?_
      refine lv_iload_n hx hb dX11_leader_19 rfl (lv_at hl 1 rfl) ?_
      obtain ⟨v_4, hq_3, hF⟩ := gP_some hF
      refine g_Si (As := [.ref (gA X 0 0), .int x1]) (rest := []) ⟨hx, hb, hml, hown, hts⟩ hK hW hL hl.1 (c_X8_clubAtRank l X w 0 h07 x1 v_4 hq_3) k148 rfl rfl (Nat.le_of_ble_eq_true rfl) dX11_leader_20 ⟨Nat.le_of_ble_eq_true rfl, Nat.le_of_ble_eq_true rfl⟩ (fun H locs hW hL => ?_)
      exact g_ri hx hb hr hlocks hW hL (Option.some.inj hF) dX11_leader_23
    · replace hF := gF hc_2 hF
      exact B_10  ls (lv_sub hl [] rfl) hF H locs hW hL
abbrev rmX0_bitsOf : Room := { frames := 0, cells := 0, slots := 0, locals := 0 }
abbrev wsX0_bitsOf : List Cond := gws yX0_bitsOf cX0_bitsOf 3 (some .int)
set_option maxHeartbeats 4000000 in
set_option maxRecDepth 100000 in
theorem c_X0_bitsOf (l : Launch) (X : gX) (w : gWd) (f0 : UInt32) (r : Int32) (hF : F_X0_bitsOf w f0 = some r) : Met l yX0_bitsOf wsX0_bitsOf rmX0_bitsOf (gPc X [.float f0] w) (gQi X r w) 0 0 (gFr X) := by
  refine g_ofW (cc := cX0_bitsOf) (maxL := 3) (ret := (some .int)) (by decide) rfl (Nat.le_of_ble_eq_true rfl) (fun p e s m args below meth c ls H hx hb hr hts hown hlocks hml hK hl hW => ?_)
  have hl : lv_has ls 3 [(0, .float f0)] := hl
  have hown : s.vm.findClass RX0 = some m.cls := hown
  have hL : gLo X [] := gLo_nil
  show W p l e rmX0_bitsOf s m args below meth c H [] 0 0 _ _
  have q98 := hts _ (List.mem_cons_of_mem _ wq_X0_98)
  have B_26 : ∀ (f1 : UInt32) (x2 : Int32)  (ls : Array Slot) (hl : lv_has ls 3 [(1, .float f1), (2, .int x2)]) (hF : F_X0_bitsOf_26 w f1 x2 = some r) (H : Heap) (locs : List Loc) (hW : gWo X 251 (gE X w) H) (hL : gLo X locs), W p l e rmX0_bitsOf s m args below meth c H locs 0 0 (MQ below (gQi X r w) args s 0 0 (gFr X)) (F0 m 26 ls []) := by
    intro f1 x2 ls hl hF H locs hW hL
    rw [F_X0_bitsOf_26] at hF
    refine lv_iload_n hx hb dX0_bitsOf_26 rfl (lv_at hl 1 rfl) ?_
    refine lv_bipush (v := 127) hx hb dX0_bitsOf_27 (by decide) ?_
    refine lv_iadd hx hb dX0_bitsOf_29 ?_
    refine lv_bipush (v := 23) hx hb dX0_bitsOf_30 (by decide) ?_
    refine lv_ishl hx hb dX0_bitsOf_32 ?_
    refine lv_fload_n hx hb dX0_bitsOf_33 rfl (lv_at hl 0 rfl) ?_
    refine lv_fconst1 hx hb dX0_bitsOf_34 ?_
    obtain ⟨hn_6, hF⟩ := gN_some hF
    refine lv_fsub hx hb dX0_bitsOf_35 hn_6 ?_
    refine lv_ldcf hx hb hown q98 dX0_bitsOf_36 ?_
    obtain ⟨hn_7, hF⟩ := gN_some hF
    refine lv_fmul hx hb dX0_bitsOf_38 hn_7 ?_
    refine lv_f2i hx hb dX0_bitsOf_39 ?_
    refine lv_ior hx hb dX0_bitsOf_40 ?_
    exact g_ri hx hb hr hlocks hW hL (Option.some.inj hF) dX0_bitsOf_41
  have L_4 : ∀ (fu : Nat) (f1 : UInt32) (x2 : Int32)  (ls : Array Slot) (hl : lv_has ls 3 [(1, .float f1), (2, .int x2)]) (hF : F_X0_bitsOf_4 fu w f1 x2 = some r) (H : Heap) (locs : List Loc) (hW : gWo X 251 (gE X w) H) (hL : gLo X locs), W p l e rmX0_bitsOf s m args below meth c H locs 0 0 (MQ below (gQi X r w) args s 0 0 (gFr X)) (F0 m 4 ls []) := by
    intro fu
    induction fu with
    | zero => intro f1 x2 ls hl hF H locs hW hL; rw [F_X0_bitsOf_4_z] at hF; cases hF
    | succ fu4 ih4 =>
      intro f1 x2 ls hl hF H locs hW hL
      rw [F_X0_bitsOf_4_s] at hF
      refine lv_fload_n hx hb dX0_bitsOf_4 rfl (lv_at hl 0 rfl) ?_
      refine lv_fconst2 hx hb dX0_bitsOf_5 ?_
      refine lv_fcmp hx hb dX0_bitsOf_6 ?_
      refine lv_if_lt (tgt := 26) hx hb dX0_bitsOf_7 (by decide) (fun hc_1 => ?_) (fun hc_1 => ?_)
      · replace hF := gT hc_1 hF
        exact B_26 f1 x2 ls (hl) hF H locs hW hL
      · replace hF := gF hc_1 hF
        refine lv_iload_n hx hb dX0_bitsOf_10 rfl (lv_at hl 1 rfl) ?_
        refine lv_bipush (v := 30) hx hb dX0_bitsOf_11 (by decide) ?_
        refine lv_icmp_ge (tgt := 26) hx hb dX0_bitsOf_13 (by decide) (fun hc_2 => ?_) (fun hc_2 => ?_)
        · replace hF := gT hc_2 hF
          exact B_26 f1 x2 ls (hl) hF H locs hW hL
        · replace hF := gF hc_2 hF
          refine lv_fload_n hx hb dX0_bitsOf_16 rfl (lv_at hl 0 rfl) ?_
          refine lv_fconst2 hx hb dX0_bitsOf_17 ?_
          obtain ⟨hn_3, hF⟩ := gN_some hF
          refine lv_fdiv hx hb dX0_bitsOf_18 hn_3 ?_
          obtain ⟨f1_4, ef1_4, hF⟩ := gS_some hF
          refine g_topf ef1_4 ?_
          refine lv_fstore_n (lv' := [(1, .float f1_4), (2, .int x2)]) hx hb dX0_bitsOf_19 rfl hl (by decide) rfl (fun ls hl => ?_)
          obtain ⟨x2_5, ex2_5, hF⟩ := gS_some hF
          refine lv_iinc (v := x2_5) (lv' := [(2, .int x2_5), (1, .float f1_4)]) hx hb dX0_bitsOf_20 hl (k := 1) rfl (by rw [ex2_5]; rfl) (by decide) rfl (fun ls hl => ?_)
          refine lv_goto (tgt := 4) hx hb dX0_bitsOf_23 (by decide) ?_
          exact ih4 f1_4 x2_5 ls (lv_sub hl [1, 0] rfl) hF H locs hW hL
  rw [F_X0_bitsOf] at hF
  obtain ⟨locs, hlocs⟩ : ∃ locs : List Loc, locs = [] := ⟨_, rfl⟩
  rw [← hlocs] at hL ⊢
  refine lv_fload_n hx hb dX0_bitsOf_0 rfl (lv_at hl 0 rfl) ?_
  refine lv_fstore_n (lv' := [(1, .float f0), (0, .float f0)]) hx hb dX0_bitsOf_1 rfl hl (by decide) rfl (fun ls hl => ?_)
  refine lv_iconst (v := 0) hx hb dX0_bitsOf_2 (by decide) ?_
  refine lv_istore_n (lv' := [(2, .int 0), (1, .float f0), (0, .float f0)]) hx hb dX0_bitsOf_3 rfl hl (by decide) rfl (fun ls hl => ?_)
  exact L_4 gFU f0 0 ls (lv_sub hl [1, 0] rfl) hF H locs hW hL
abbrev rmX0_meanBits : Room := { frames := 3, cells := 0, slots := 0, locals := 65 }
abbrev wsX0_meanBits : List Cond := gws yX0_meanBits cX0_meanBits 5 (some .int)
set_option maxHeartbeats 4000000 in
set_option maxRecDepth 100000 in
theorem c_X0_meanBits (l : Launch) (X : gX) (w : gWd) (i0 : Nat) (hi0 : i0 < 7) (r : Int32) (hF : F_X0_meanBits w i0 = some r) : Met l yX0_meanBits wsX0_meanBits rmX0_meanBits (gPc X [.ref (gA X i0 0)] w) (gQi X r w) 0 0 (gFr X) := by
  refine g_ofW (cc := cX0_meanBits) (maxL := 5) (ret := (some .int)) (by decide) rfl (Nat.le_of_ble_eq_true rfl) (fun p e s m args below meth c ls H hx hb hr hts hown hlocks hml hK hl hW => ?_)
  have hl : lv_has ls 5 [(0, .ref (gA X i0 0))] := hl
  have hown : s.vm.findClass RX0 = some m.cls := hown
  have hL : gLo X [] := gLo_nil
  show W p l e rmX0_meanBits s m args below meth c H [] 0 0 _ _
  have inX5 : ∀ w ∈ wsX50, w ∈ wsX0_meanBits := fun w h => List.mem_cons_of_mem _ (inlX5 w h)
  have q22 := hts _ (List.mem_cons_of_mem _ wq_X0_22)
  have q59 := hts _ (List.mem_cons_of_mem _ wq_X0_59)
  have q62 := hts _ (List.mem_cons_of_mem _ wq_X0_62)
  have k87 : CallW rmX0_meanBits s args RX0 RX5 87 yX5_timesAboveZero cX5_timesAboveZero 1 (some .int) wsX5_timesAboveZero rmX5_timesAboveZero 0 0 0 := cwV 0 hts (gGoodV (fun w h => List.mem_cons_of_mem _ h) wk_X0_87) rfl rfl rfl (by decide +kernel) ⟨Nat.le_of_ble_eq_true rfl, Nat.le_of_ble_eq_true rfl⟩
  have k91 : CallW rmX0_meanBits s args RX0 RX5 91 yX5_stageTime cX5_stageTime 2 (some .int) wsX5_stageTime rmX5_stageTime 0 0 1 := cwV 1 hts (gGoodV (fun w h => List.mem_cons_of_mem _ h) wk_X0_91) rfl rfl rfl (by decide +kernel) ⟨Nat.le_of_ble_eq_true rfl, Nat.le_of_ble_eq_true rfl⟩
  have k94 : CallB rmX0_meanBits s args RX0 94 yX0_bitsOf cX0_bitsOf 3 (some .int) wsX0_bitsOf rmX0_bitsOf 0 0 1 ∧ (Cond.static yX0_bitsOf).before args s = true := va_cwS 1 hts (gGoodS (fun w h => List.mem_cons_of_mem _ h) wk_X0_94) rfl rfl rfl (by decide +kernel) ⟨Nat.le_of_ble_eq_true rfl, Nat.le_of_ble_eq_true rfl⟩
  have L_16 : ∀ (fu : Nat) (i0 : Nat) (x1 : Int32) (x2 : Int32) (x3 : Int32) (hi0 : i0 < 7) (ls : Array Slot) (hl : lv_has ls 5 [(0, .ref (gA X i0 0)), (1, .int x1), (2, .int x2), (3, .int x3)]) (hF : F_X0_meanBits_16 fu w i0 x1 x2 x3 = some r) (H : Heap) (locs : List Loc) (hW : gWo X 251 (gE X w) H) (hL : gLo X locs), W p l e rmX0_meanBits s m args below meth c H locs 0 0 (MQ below (gQi X r w) args s 0 0 (gFr X)) (F0 m 16 ls []) := by
    intro fu
    induction fu with
    | zero => intro i0 x1 x2 x3 hi0 ls hl hF H locs hW hL; rw [F_X0_meanBits_16_z] at hF; cases hF
    | succ fu16 ih16 =>
      intro i0 x1 x2 x3 hi0 ls hl hF H locs hW hL
      rw [F_X0_meanBits_16_s] at hF
      refine lv_iload_n hx hb dX0_meanBits_16 rfl (lv_at hl 3 rfl) ?_
      refine lv_aload_n hx hb dX0_meanBits_17 rfl (lv_at hl 0 rfl) ?_
      refine rg_X5_size hx hb hts inX5 hown hK hW hi0 q59 dX0_meanBits_18 ?_
      refine lv_icmp_ge (tgt := 52) hx hb dX0_meanBits_21 (by decide) (fun hc_1 => ?_) (fun hc_1 => ?_)
      · replace hF := gT hc_1 hF
        refine lv_iload_n hx hb dX0_meanBits_52 rfl (lv_at hl 2 rfl) ?_
        refine lv_i2f hx hb dX0_meanBits_53 ?_
        refine lv_iload_n hx hb dX0_meanBits_54 rfl (lv_at hl 1 rfl) ?_
        refine lv_i2f hx hb dX0_meanBits_55 ?_
        obtain ⟨hn_2, hF⟩ := gN_some hF
        refine lv_fdiv hx hb dX0_meanBits_56 hn_2 ?_
        obtain ⟨v_4, hq_3, hF⟩ := gP_some hF
        refine g_Si (As := [.float (FP.fdiv (FP.i2f x2) (FP.i2f x1))]) (rest := []) ⟨hx, hb, hml, hown, hts⟩ hK hW hL hl.1 (c_X0_bitsOf l X w ((FP.fdiv (FP.i2f x2) (FP.i2f x1))) v_4 hq_3) k94 rfl rfl (Nat.le_of_ble_eq_true rfl) dX0_meanBits_57 ⟨Nat.le_of_ble_eq_true rfl, Nat.le_of_ble_eq_true rfl⟩ (fun H locs hW hL => ?_)
        exact g_ri hx hb hr hlocks hW hL (Option.some.inj hF) dX0_meanBits_60
      · replace hF := gF hc_1 hF
        refine lv_aload_n hx hb dX0_meanBits_24 rfl (lv_at hl 0 rfl) ?_
        refine lv_aload_n hx hb dX0_meanBits_25 rfl (lv_at hl 0 rfl) ?_
        refine rg_X5_all hx hb hts inX5 hown hK hW hi0 q62 dX0_meanBits_26 ?_
        refine lv_iload_n hx hb dX0_meanBits_29 rfl (lv_at hl 3 rfl) ?_
        obtain ⟨hin_5, hF⟩ := gB_some hF
        obtain ⟨k_6, ek_6⟩ : ∃ k, k = Int32.toNatClampNeg x3 := ⟨_, rfl⟩
        rw [← ek_6] at hF
        refine r_all (k := k_6) hx hb hK hW hi0 hin_5 ek_6.symm dX0_meanBits_30 ?_
        obtain ⟨v_8, hq_7, hF⟩ := gP_some hF
        refine g_Vi (As := [.ref (gA X i0 (4 + k_6))]) (rest := []) ⟨hx, hb, hml, hown, hts⟩ hK hW hL hl.1 (gok_m hi0 (by decide)) (gE_m0 hi0) rfl (c_X5_stageTime l X w i0 hi0 i0 hi0 k_6 (vp_lt2 hin_5 ek_6.symm) v_8 hq_7) k91 rfl rfl (Nat.le_of_ble_eq_true rfl) dX0_meanBits_31 ⟨Nat.le_of_ble_eq_true rfl, Nat.le_of_ble_eq_true rfl⟩ (fun H locs hW hL => ?_)
        refine lv_istore (lv' := [(4, .int v_8), (0, .ref (gA X i0 0)), (1, .int x1), (2, .int x2), (3, .int x3)]) hx hb dX0_meanBits_34 hl (by decide) rfl (fun ls hl => ?_)
        refine lv_iload hx hb dX0_meanBits_36 (lv_at hl 0 rfl) ?_
        refine lv_if_le (tgt := 46) hx hb dX0_meanBits_38 (by decide) (fun hc_9 => ?_) (fun hc_9 => ?_)
        · replace hF := gT hc_9 hF
          obtain ⟨x3_10, ex3_10, hF⟩ := gS_some hF
          refine lv_iinc (v := x3_10) (lv' := [(3, .int x3_10), (4, .int v_8), (0, .ref (gA X i0 0)), (1, .int x1), (2, .int x2)]) hx hb dX0_meanBits_46 hl (k := 4) rfl (by rw [ex3_10]; rfl) (by decide) rfl (fun ls hl => ?_)
          refine lv_goto (tgt := 16) hx hb dX0_meanBits_49 (by decide) ?_
          exact ih16 i0 x1 x2 x3_10 hi0 ls (lv_sub hl [2, 3, 4, 0] rfl) hF H locs hW hL
        · replace hF := gF hc_9 hF
          refine lv_iload_n hx hb dX0_meanBits_41 rfl (lv_at hl 3 rfl) ?_
          refine lv_iload hx hb dX0_meanBits_42 (lv_at hl 0 rfl) ?_
          refine lv_iadd hx hb dX0_meanBits_44 ?_
          obtain ⟨x2_11, ex2_11, hF⟩ := gS_some hF
          refine g_top ex2_11 ?_
          refine lv_istore_n (lv' := [(2, .int x2_11), (4, .int v_8), (0, .ref (gA X i0 0)), (1, .int x1), (3, .int x3)]) hx hb dX0_meanBits_45 rfl hl (by decide) rfl (fun ls hl => ?_)
          obtain ⟨x3_12, ex3_12, hF⟩ := gS_some hF
          refine lv_iinc (v := x3_12) (lv' := [(3, .int x3_12), (2, .int x2_11), (4, .int v_8), (0, .ref (gA X i0 0)), (1, .int x1)]) hx hb dX0_meanBits_46 hl (k := 4) rfl (by rw [ex3_12]; rfl) (by decide) rfl (fun ls hl => ?_)
          refine lv_goto (tgt := 16) hx hb dX0_meanBits_49 (by decide) ?_
          exact ih16 i0 x1 x2_11 x3_12 hi0 ls (lv_sub hl [3, 4, 1, 0] rfl) hF H locs hW hL
  rw [F_X0_meanBits] at hF
  obtain ⟨locs, hlocs⟩ : ∃ locs : List Loc, locs = [] := ⟨_, rfl⟩
  rw [← hlocs] at hL ⊢
  refine lv_aload_n hx hb dX0_meanBits_0 rfl (lv_at hl 0 rfl) ?_
  obtain ⟨v_14, hq_13, hF⟩ := gP_some hF
  refine g_Vi (As := []) (rest := []) ⟨hx, hb, hml, hown, hts⟩ hK hW hL hl.1 (gok_m hi0 (by decide)) (gE_m0 hi0) rfl (c_X5_timesAboveZero l X w i0 hi0 v_14 hq_13) k87 rfl rfl (Nat.le_of_ble_eq_true rfl) dX0_meanBits_1 ⟨Nat.le_of_ble_eq_true rfl, Nat.le_of_ble_eq_true rfl⟩ (fun H locs hW hL => ?_)
  refine lv_istore_n (lv' := [(1, .int v_14), (0, .ref (gA X i0 0))]) hx hb dX0_meanBits_4 rfl hl (by decide) rfl (fun ls hl => ?_)
  refine lv_iload_n hx hb dX0_meanBits_5 rfl (lv_at hl 0 rfl) ?_
  refine lv_if_ne (tgt := 12) hx hb dX0_meanBits_6 (by decide) (fun hc_15 => ?_) (fun hc_15 => ?_)
  · replace hF := gF hc_15 hF
    refine lv_iconst (v := 0) hx hb dX0_meanBits_12 (by decide) ?_
    refine lv_istore_n (lv' := [(2, .int 0), (1, .int v_14), (0, .ref (gA X i0 0))]) hx hb dX0_meanBits_13 rfl hl (by decide) rfl (fun ls hl => ?_)
    refine lv_iconst (v := 0) hx hb dX0_meanBits_14 (by decide) ?_
    refine lv_istore_n (lv' := [(3, .int 0), (2, .int 0), (1, .int v_14), (0, .ref (gA X i0 0))]) hx hb dX0_meanBits_15 rfl hl (by decide) rfl (fun ls hl => ?_)
    exact L_16 gFU i0 v_14 0 0 hi0 ls (lv_sub hl [3, 2, 1, 0] rfl) hF H locs hW hL
  · replace hF := gT hc_15 hF
    refine lv_ldc hx hb hown q22 dX0_meanBits_9 ?_
    exact g_ri hx hb hr hlocks hW hL (Option.some.inj hF) dX0_meanBits_11
abbrev rmX11_mean : Room := { frames := 4, cells := 0, slots := 0, locals := 89 }
abbrev wsX11_mean : List Cond := gws yX11_mean cX11_mean 1 (some .int)
set_option maxHeartbeats 4000000 in
set_option maxRecDepth 100000 in
theorem c_X11_mean (l : Launch) (X : gX) (w : gWd)  (r : Int32) (hF : F_X11_mean w = some r) : Met l yX11_mean wsX11_mean rmX11_mean (gPc X [.ref (gA X 7 0)] w) (gQi X r w) 0 0 (gFr X) := by
  refine g_ofW (cc := cX11_mean) (maxL := 1) (ret := (some .int)) (by decide) rfl (Nat.le_of_ble_eq_true rfl) (fun p e s m args below meth c ls H hx hb hr hts hown hlocks hml hK hl hW => ?_)
  have hl : lv_has ls 1 [(0, .ref (gA X 7 0))] := hl
  have hown : s.vm.findClass RX11 = some m.cls := hown
  have hL : gLo X [] := gLo_nil
  show W p l e rmX11_mean s m args below meth c H [] 0 0 _ _
  have inX11 : ∀ w ∈ wsX110, w ∈ wsX11_mean := fun w h => List.mem_cons_of_mem _ (inlX11 w h)
  have q10 := hts _ (List.mem_cons_of_mem _ wq_X11_10)
  have k151 : CallB rmX11_mean s args RX11 151 yX0_meanBits cX0_meanBits 5 (some .int) wsX0_meanBits rmX0_meanBits 0 0 1 ∧ (Cond.static yX0_meanBits).before args s = true := va_cwS 1 hts (gGoodS (fun w h => List.mem_cons_of_mem _ h) wk_X11_151) rfl rfl rfl (by decide +kernel) ⟨Nat.le_of_ble_eq_true rfl, Nat.le_of_ble_eq_true rfl⟩
  rw [F_X11_mean] at hF
  obtain ⟨locs, hlocs⟩ : ∃ locs : List Loc, locs = [] := ⟨_, rfl⟩
  rw [← hlocs] at hL ⊢
  refine lv_aload_n hx hb dX11_mean_0 rfl (lv_at hl 0 rfl) ?_
  refine rg_X11_meet hx hb hts inX11 hown hK hW q10 dX11_mean_1 ?_
  obtain ⟨v_2, hq_1, hF⟩ := gP_some hF
  refine g_Si (As := [.ref (gA X 0 0)]) (rest := []) ⟨hx, hb, hml, hown, hts⟩ hK hW hL hl.1 (c_X0_meanBits l X w 0 h07 v_2 hq_1) k151 rfl rfl (Nat.le_of_ble_eq_true rfl) dX11_mean_4 ⟨Nat.le_of_ble_eq_true rfl, Nat.le_of_ble_eq_true rfl⟩ (fun H locs hW hL => ?_)
  exact g_ri hx hb hr hlocks hW hL (Option.some.inj hF) dX11_mean_7
abbrev rmX0_freeReserves : Room := { frames := 3, cells := 0, slots := 0, locals := 65 }
abbrev wsX0_freeReserves : List Cond := gws yX0_freeReserves cX0_freeReserves 2 (some .int)
set_option maxHeartbeats 4000000 in
set_option maxRecDepth 100000 in
theorem c_X0_freeReserves (l : Launch) (X : gX) (w : gWd) (i0 : Nat) (hi0 : i0 < 7) (r : Int32) (hF : F_X0_freeReserves w i0 = some r) : Met l yX0_freeReserves wsX0_freeReserves rmX0_freeReserves (gPc X [.ref (gA X i0 0)] w) (gQi X r w) 0 0 (gFr X) := by
  refine g_ofW (cc := cX0_freeReserves) (maxL := 2) (ret := (some .int)) (by decide) rfl (Nat.le_of_ble_eq_true rfl) (fun p e s m args below meth c ls H hx hb hr hts hown hlocks hml hK hl hW => ?_)
  have hl : lv_has ls 2 [(0, .ref (gA X i0 0))] := hl
  have hown : s.vm.findClass RX0 = some m.cls := hown
  have hL : gLo X [] := gLo_nil
  show W p l e rmX0_freeReserves s m args below meth c H [] 0 0 _ _
  have q22 := hts _ (List.mem_cons_of_mem _ wq_X0_22)
  have k136 : CallW rmX0_freeReserves s args RX0 RX5 136 yX5_freeReserve cX5_freeReserve 4 (some .int) wsX5_freeReserve rmX5_freeReserve 0 0 1 := cwV 1 hts (gGoodV (fun w h => List.mem_cons_of_mem _ h) wk_X0_136) rfl rfl rfl (by decide +kernel) ⟨Nat.le_of_ble_eq_true rfl, Nat.le_of_ble_eq_true rfl⟩
  have L_2 : ∀ (fu : Nat) (i0 : Nat) (x1 : Int32) (hi0 : i0 < 7) (ls : Array Slot) (hl : lv_has ls 2 [(0, .ref (gA X i0 0)), (1, .int x1)]) (hF : F_X0_freeReserves_2 fu w i0 x1 = some r) (H : Heap) (locs : List Loc) (hW : gWo X 251 (gE X w) H) (hL : gLo X locs), W p l e rmX0_freeReserves s m args below meth c H locs 0 0 (MQ below (gQi X r w) args s 0 0 (gFr X)) (F0 m 2 ls []) := by
    intro fu
    induction fu with
    | zero => intro i0 x1 hi0 ls hl hF H locs hW hL; rw [F_X0_freeReserves_2_z] at hF; cases hF
    | succ fu2 ih2 =>
      intro i0 x1 hi0 ls hl hF H locs hW hL
      rw [F_X0_freeReserves_2_s] at hF
      refine lv_iload_n hx hb dX0_freeReserves_2 rfl (lv_at hl 1 rfl) ?_
      refine lv_iconst (v := 4) hx hb dX0_freeReserves_3 (by decide) ?_
      refine lv_icmp_ge (tgt := 23) hx hb dX0_freeReserves_4 (by decide) (fun hc_1 => ?_) (fun hc_1 => ?_)
      · replace hF := gT hc_1 hF
        refine lv_iload_n hx hb dX0_freeReserves_23 rfl (lv_at hl 1 rfl) ?_
        exact g_ri hx hb hr hlocks hW hL (Option.some.inj hF) dX0_freeReserves_24
      · replace hF := gF hc_1 hF
        refine lv_aload_n hx hb dX0_freeReserves_7 rfl (lv_at hl 0 rfl) ?_
        refine lv_iload_n hx hb dX0_freeReserves_8 rfl (lv_at hl 1 rfl) ?_
        obtain ⟨v_3, hq_2, hF⟩ := gP_some hF
        refine g_Vi (As := [.int x1]) (rest := []) ⟨hx, hb, hml, hown, hts⟩ hK hW hL hl.1 (gok_m hi0 (by decide)) (gE_m0 hi0) rfl (c_X5_freeReserve l X w i0 hi0 x1 v_3 hq_2) k136 rfl rfl (Nat.le_of_ble_eq_true rfl) dX0_freeReserves_9 ⟨Nat.le_of_ble_eq_true rfl, Nat.le_of_ble_eq_true rfl⟩ (fun H locs hW hL => ?_)
        refine lv_ldc hx hb hown q22 dX0_freeReserves_12 ?_
        refine lv_icmp_eq (tgt := 23) hx hb dX0_freeReserves_14 (by decide) (fun hc_4 => ?_) (fun hc_4 => ?_)
        · replace hF := gT hc_4 hF
          refine lv_iload_n hx hb dX0_freeReserves_23 rfl (lv_at hl 1 rfl) ?_
          exact g_ri hx hb hr hlocks hW hL (Option.some.inj hF) dX0_freeReserves_24
        · replace hF := gF hc_4 hF
          obtain ⟨x1_5, ex1_5, hF⟩ := gS_some hF
          refine lv_iinc (v := x1_5) (lv' := [(1, .int x1_5), (0, .ref (gA X i0 0))]) hx hb dX0_freeReserves_17 hl (k := 1) rfl (by rw [ex1_5]; rfl) (by decide) rfl (fun ls hl => ?_)
          refine lv_goto (tgt := 2) hx hb dX0_freeReserves_20 (by decide) ?_
          exact ih2 i0 x1_5 hi0 ls (lv_sub hl [1, 0] rfl) hF H locs hW hL
  rw [F_X0_freeReserves] at hF
  obtain ⟨locs, hlocs⟩ : ∃ locs : List Loc, locs = [] := ⟨_, rfl⟩
  rw [← hlocs] at hL ⊢
  refine lv_iconst (v := 0) hx hb dX0_freeReserves_0 (by decide) ?_
  refine lv_istore_n (lv' := [(1, .int 0), (0, .ref (gA X i0 0))]) hx hb dX0_freeReserves_1 rfl hl (by decide) rfl (fun ls hl => ?_)
  exact L_2 gFU i0 0 hi0 ls (lv_sub hl [1, 0] rfl) hF H locs hW hL
abbrev rmX0_scratchedSet : Room := { frames := 0, cells := 0, slots := 0, locals := 0 }
abbrev wsX0_scratchedSet : List Cond := gws yX0_scratchedSet cX0_scratchedSet 3 (some .int)
set_option maxHeartbeats 4000000 in
set_option maxRecDepth 100000 in
theorem c_X0_scratchedSet (l : Launch) (X : gX) (w : gWd) (i0 : Nat) (hi0 : i0 < 7) (r : Int32) (hF : F_X0_scratchedSet w i0 = some r) : Met l yX0_scratchedSet wsX0_scratchedSet rmX0_scratchedSet (gPc X [.ref (gA X i0 0)] w) (gQi X r w) 0 0 (gFr X) := by
  refine g_ofW (cc := cX0_scratchedSet) (maxL := 3) (ret := (some .int)) (by decide) rfl (Nat.le_of_ble_eq_true rfl) (fun p e s m args below meth c ls H hx hb hr hts hown hlocks hml hK hl hW => ?_)
  have hl : lv_has ls 3 [(0, .ref (gA X i0 0))] := hl
  have hown : s.vm.findClass RX0 = some m.cls := hown
  have hL : gLo X [] := gLo_nil
  show W p l e rmX0_scratchedSet s m args below meth c H [] 0 0 _ _
  have inX5 : ∀ w ∈ wsX50, w ∈ wsX0_scratchedSet := fun w h => List.mem_cons_of_mem _ (inlX5 w h)
  have inX10 : ∀ w ∈ wsX100, w ∈ wsX0_scratchedSet := fun w h => List.mem_cons_of_mem _ (inlX10 w h)
  have q18 := hts _ (List.mem_cons_of_mem _ wq_X0_18)
  have q59 := hts _ (List.mem_cons_of_mem _ wq_X0_59)
  have q62 := hts _ (List.mem_cons_of_mem _ wq_X0_62)
  have L_4 : ∀ (fu : Nat) (i0 : Nat) (x1 : Int32) (x2 : Int32) (hi0 : i0 < 7) (ls : Array Slot) (hl : lv_has ls 3 [(0, .ref (gA X i0 0)), (1, .int x1), (2, .int x2)]) (hF : F_X0_scratchedSet_4 fu w i0 x1 x2 = some r) (H : Heap) (locs : List Loc) (hW : gWo X 251 (gE X w) H) (hL : gLo X locs), W p l e rmX0_scratchedSet s m args below meth c H locs 0 0 (MQ below (gQi X r w) args s 0 0 (gFr X)) (F0 m 4 ls []) := by
    intro fu
    induction fu with
    | zero => intro i0 x1 x2 hi0 ls hl hF H locs hW hL; rw [F_X0_scratchedSet_4_z] at hF; cases hF
    | succ fu4 ih4 =>
      intro i0 x1 x2 hi0 ls hl hF H locs hW hL
      rw [F_X0_scratchedSet_4_s] at hF
      refine lv_iload_n hx hb dX0_scratchedSet_4 rfl (lv_at hl 2 rfl) ?_
      refine lv_aload_n hx hb dX0_scratchedSet_5 rfl (lv_at hl 0 rfl) ?_
      refine rg_X5_size hx hb hts inX5 hown hK hW hi0 q59 dX0_scratchedSet_6 ?_
      refine lv_icmp_ge (tgt := 36) hx hb dX0_scratchedSet_9 (by decide) (fun hc_1 => ?_) (fun hc_1 => ?_)
      · replace hF := gT hc_1 hF
        refine lv_iload_n hx hb dX0_scratchedSet_36 rfl (lv_at hl 1 rfl) ?_
        exact g_ri hx hb hr hlocks hW hL (Option.some.inj hF) dX0_scratchedSet_37
      · replace hF := gF hc_1 hF
        refine lv_aload_n hx hb dX0_scratchedSet_12 rfl (lv_at hl 0 rfl) ?_
        refine rg_X5_all hx hb hts inX5 hown hK hW hi0 q62 dX0_scratchedSet_13 ?_
        refine lv_iload_n hx hb dX0_scratchedSet_16 rfl (lv_at hl 2 rfl) ?_
        obtain ⟨hin_2, hF⟩ := gB_some hF
        obtain ⟨k_3, ek_3⟩ : ∃ k, k = Int32.toNatClampNeg x2 := ⟨_, rfl⟩
        rw [← ek_3] at hF
        refine r_all (k := k_3) hx hb hK hW hi0 hin_2 ek_3.symm dX0_scratchedSet_17 ?_
        refine rg_X10_scratched hx hb hts inX10 hown hK hW hi0 (vp_lt2 hin_2 ek_3.symm) q18 dX0_scratchedSet_18 ?_
        refine lv_if_eq (tgt := 30) hx hb dX0_scratchedSet_21 (by decide) (fun hc_4 => ?_) (fun hc_4 => ?_)
        · replace hF := gT hc_4 hF
          obtain ⟨x2_5, ex2_5, hF⟩ := gS_some hF
          refine lv_iinc (v := x2_5) (lv' := [(2, .int x2_5), (0, .ref (gA X i0 0)), (1, .int x1)]) hx hb dX0_scratchedSet_30 hl (k := 2) rfl (by rw [ex2_5]; rfl) (by decide) rfl (fun ls hl => ?_)
          refine lv_goto (tgt := 4) hx hb dX0_scratchedSet_33 (by decide) ?_
          exact ih4 i0 x1 x2_5 hi0 ls (lv_sub hl [1, 2, 0] rfl) hF H locs hW hL
        · replace hF := gF hc_4 hF
          refine lv_iload_n hx hb dX0_scratchedSet_24 rfl (lv_at hl 1 rfl) ?_
          refine lv_iconst (v := 1) hx hb dX0_scratchedSet_25 (by decide) ?_
          refine lv_iload_n hx hb dX0_scratchedSet_26 rfl (lv_at hl 2 rfl) ?_
          refine lv_ishl hx hb dX0_scratchedSet_27 ?_
          refine lv_ior hx hb dX0_scratchedSet_28 ?_
          obtain ⟨x1_6, ex1_6, hF⟩ := gS_some hF
          refine g_top ex1_6 ?_
          refine lv_istore_n (lv' := [(1, .int x1_6), (0, .ref (gA X i0 0)), (2, .int x2)]) hx hb dX0_scratchedSet_29 rfl hl (by decide) rfl (fun ls hl => ?_)
          obtain ⟨x2_7, ex2_7, hF⟩ := gS_some hF
          refine lv_iinc (v := x2_7) (lv' := [(2, .int x2_7), (1, .int x1_6), (0, .ref (gA X i0 0))]) hx hb dX0_scratchedSet_30 hl (k := 2) rfl (by rw [ex2_7]; rfl) (by decide) rfl (fun ls hl => ?_)
          refine lv_goto (tgt := 4) hx hb dX0_scratchedSet_33 (by decide) ?_
          exact ih4 i0 x1_6 x2_7 hi0 ls (lv_sub hl [2, 1, 0] rfl) hF H locs hW hL
  rw [F_X0_scratchedSet] at hF
  obtain ⟨locs, hlocs⟩ : ∃ locs : List Loc, locs = [] := ⟨_, rfl⟩
  rw [← hlocs] at hL ⊢
  refine lv_iconst (v := 0) hx hb dX0_scratchedSet_0 (by decide) ?_
  refine lv_istore_n (lv' := [(1, .int 0), (0, .ref (gA X i0 0))]) hx hb dX0_scratchedSet_1 rfl hl (by decide) rfl (fun ls hl => ?_)
  refine lv_iconst (v := 0) hx hb dX0_scratchedSet_2 (by decide) ?_
  refine lv_istore_n (lv' := [(2, .int 0), (1, .int 0), (0, .ref (gA X i0 0))]) hx hb dX0_scratchedSet_3 rfl hl (by decide) rfl (fun ls hl => ?_)
  exact L_4 gFU i0 0 0 hi0 ls (lv_sub hl [2, 1, 0] rfl) hF H locs hW hL
abbrev rmX0_timesOfEvent : Room := { frames := 0, cells := 0, slots := 0, locals := 0 }
abbrev wsX0_timesOfEvent : List Cond := gws yX0_timesOfEvent cX0_timesOfEvent 3 (some .int)
set_option maxHeartbeats 4000000 in
set_option maxRecDepth 100000 in
theorem c_X0_timesOfEvent (l : Launch) (X : gX) (w : gWd) (i0 : Nat) (hi0 : i0 < 7) (r : Int32) (hF : F_X0_timesOfEvent w i0 = some r) : Met l yX0_timesOfEvent wsX0_timesOfEvent rmX0_timesOfEvent (gPc X [.ref (gA X i0 0)] w) (gQi X r w) 0 0 (gFr X) := by
  refine g_ofW (cc := cX0_timesOfEvent) (maxL := 3) (ret := (some .int)) (by decide) rfl (Nat.le_of_ble_eq_true rfl) (fun p e s m args below meth c ls H hx hb hr hts hown hlocks hml hK hl hW => ?_)
  have hl : lv_has ls 3 [(0, .ref (gA X i0 0))] := hl
  have hown : s.vm.findClass RX0 = some m.cls := hown
  have hL : gLo X [] := gLo_nil
  show W p l e rmX0_timesOfEvent s m args below meth c H [] 0 0 _ _
  have inX5 : ∀ w ∈ wsX50, w ∈ wsX0_timesOfEvent := fun w h => List.mem_cons_of_mem _ (inlX5 w h)
  have inX10 : ∀ w ∈ wsX100, w ∈ wsX0_timesOfEvent := fun w h => List.mem_cons_of_mem _ (inlX10 w h)
  have q41 := hts _ (List.mem_cons_of_mem _ wq_X0_41)
  have q50 := hts _ (List.mem_cons_of_mem _ wq_X0_50)
  have q59 := hts _ (List.mem_cons_of_mem _ wq_X0_59)
  have q62 := hts _ (List.mem_cons_of_mem _ wq_X0_62)
  have L_4 : ∀ (fu : Nat) (i0 : Nat) (x1 : Int32) (x2 : Int32) (hi0 : i0 < 7) (ls : Array Slot) (hl : lv_has ls 3 [(0, .ref (gA X i0 0)), (1, .int x1), (2, .int x2)]) (hF : F_X0_timesOfEvent_4 fu w i0 x1 x2 = some r) (H : Heap) (locs : List Loc) (hW : gWo X 251 (gE X w) H) (hL : gLo X locs), W p l e rmX0_timesOfEvent s m args below meth c H locs 0 0 (MQ below (gQi X r w) args s 0 0 (gFr X)) (F0 m 4 ls []) := by
    intro fu
    induction fu with
    | zero => intro i0 x1 x2 hi0 ls hl hF H locs hW hL; rw [F_X0_timesOfEvent_4_z] at hF; cases hF
    | succ fu4 ih4 =>
      have B_28 : ∀ (i0 : Nat) (x1 : Int32) (x2 : Int32) (hi0 : i0 < 7) (ls : Array Slot) (hl : lv_has ls 3 [(0, .ref (gA X i0 0)), (1, .int x1), (2, .int x2)]) (hF : F_X0_timesOfEvent_28 (F_X0_timesOfEvent_4 fu4) w i0 x1 x2 = some r) (H : Heap) (locs : List Loc) (hW : gWo X 251 (gE X w) H) (hL : gLo X locs), W p l e rmX0_timesOfEvent s m args below meth c H locs 0 0 (MQ below (gQi X r w) args s 0 0 (gFr X)) (F0 m 28 ls []) := by
        intro i0 x1 x2 hi0 ls hl hF H locs hW hL
        rw [F_X0_timesOfEvent_28] at hF
        refine lv_aload_n hx hb dX0_timesOfEvent_28 rfl (lv_at hl 0 rfl) ?_
        refine rg_X5_all hx hb hts inX5 hown hK hW hi0 q62 dX0_timesOfEvent_29 ?_
        refine lv_iload_n hx hb dX0_timesOfEvent_32 rfl (lv_at hl 2 rfl) ?_
        obtain ⟨hin_6, hF⟩ := gB_some hF
        obtain ⟨k_7, ek_7⟩ : ∃ k, k = Int32.toNatClampNeg x2 := ⟨_, rfl⟩
        rw [← ek_7] at hF
        refine r_all (k := k_7) hx hb hK hW hi0 hin_6 ek_7.symm dX0_timesOfEvent_33 ?_
        refine rg_X10_finalTime hx hb hts inX10 hown hK hW hi0 (vp_lt2 hin_6 ek_7.symm) q50 dX0_timesOfEvent_34 ?_
        refine lv_iconst (v := (-1)) hx hb dX0_timesOfEvent_37 (by decide) ?_
        refine lv_icmp_eq (tgt := 44) hx hb dX0_timesOfEvent_38 (by decide) (fun hc_8 => ?_) (fun hc_8 => ?_)
        · replace hF := gT hc_8 hF
          obtain ⟨x2_9, ex2_9, hF⟩ := gS_some hF
          refine lv_iinc (v := x2_9) (lv' := [(2, .int x2_9), (0, .ref (gA X i0 0)), (1, .int x1)]) hx hb dX0_timesOfEvent_44 hl (k := 2) rfl (by rw [ex2_9]; rfl) (by decide) rfl (fun ls hl => ?_)
          refine lv_goto (tgt := 4) hx hb dX0_timesOfEvent_47 (by decide) ?_
          exact ih4 i0 x1 x2_9 hi0 ls (lv_sub hl [1, 2, 0] rfl) hF H locs hW hL
        · replace hF := gF hc_8 hF
          obtain ⟨x1_10, ex1_10, hF⟩ := gS_some hF
          refine lv_iinc (v := x1_10) (lv' := [(1, .int x1_10), (0, .ref (gA X i0 0)), (2, .int x2)]) hx hb dX0_timesOfEvent_41 hl (k := 1) rfl (by rw [ex1_10]; rfl) (by decide) rfl (fun ls hl => ?_)
          obtain ⟨x2_11, ex2_11, hF⟩ := gS_some hF
          refine lv_iinc (v := x2_11) (lv' := [(2, .int x2_11), (1, .int x1_10), (0, .ref (gA X i0 0))]) hx hb dX0_timesOfEvent_44 hl (k := 2) rfl (by rw [ex2_11]; rfl) (by decide) rfl (fun ls hl => ?_)
          refine lv_goto (tgt := 4) hx hb dX0_timesOfEvent_47 (by decide) ?_
          exact ih4 i0 x1_10 x2_11 hi0 ls (lv_sub hl [2, 1, 0] rfl) hF H locs hW hL
      intro i0 x1 x2 hi0 ls hl hF H locs hW hL
      rw [F_X0_timesOfEvent_4_s] at hF
      refine lv_iload_n hx hb dX0_timesOfEvent_4 rfl (lv_at hl 2 rfl) ?_
      refine lv_aload_n hx hb dX0_timesOfEvent_5 rfl (lv_at hl 0 rfl) ?_
      refine rg_X5_size hx hb hts inX5 hown hK hW hi0 q59 dX0_timesOfEvent_6 ?_
      refine lv_icmp_ge (tgt := 50) hx hb dX0_timesOfEvent_9 (by decide) (fun hc_1 => ?_) (fun hc_1 => ?_)
      · replace hF := gT hc_1 hF
        refine lv_iload_n hx hb dX0_timesOfEvent_50 rfl (lv_at hl 1 rfl) ?_
        exact g_ri hx hb hr hlocks hW hL (Option.some.inj hF) dX0_timesOfEvent_51
      · replace hF := gF hc_1 hF
        refine lv_aload_n hx hb dX0_timesOfEvent_12 rfl (lv_at hl 0 rfl) ?_
        refine rg_X5_all hx hb hts inX5 hown hK hW hi0 q62 dX0_timesOfEvent_13 ?_
        refine lv_iload_n hx hb dX0_timesOfEvent_16 rfl (lv_at hl 2 rfl) ?_
        obtain ⟨hin_2, hF⟩ := gB_some hF
        obtain ⟨k_3, ek_3⟩ : ∃ k, k = Int32.toNatClampNeg x2 := ⟨_, rfl⟩
        rw [← ek_3] at hF
        refine r_all (k := k_3) hx hb hK hW hi0 hin_2 ek_3.symm dX0_timesOfEvent_17 ?_
        refine rg_X10_heatTime hx hb hts inX10 hown hK hW hi0 (vp_lt2 hin_2 ek_3.symm) q41 dX0_timesOfEvent_18 ?_
        refine lv_iconst (v := (-1)) hx hb dX0_timesOfEvent_21 (by decide) ?_
        refine lv_icmp_eq (tgt := 28) hx hb dX0_timesOfEvent_22 (by decide) (fun hc_4 => ?_) (fun hc_4 => ?_)
        · replace hF := gT hc_4 hF
          exact B_28 i0 x1 x2 hi0 ls (hl) hF H locs hW hL
        · replace hF := gF hc_4 hF
          obtain ⟨x1_5, ex1_5, hF⟩ := gS_some hF
          refine lv_iinc (v := x1_5) (lv' := [(1, .int x1_5), (0, .ref (gA X i0 0)), (2, .int x2)]) hx hb dX0_timesOfEvent_25 hl (k := 1) rfl (by rw [ex1_5]; rfl) (by decide) rfl (fun ls hl => ?_)
          exact B_28 i0 x1_5 x2 hi0 ls (lv_sub hl [1, 0, 2] rfl) hF H locs hW hL
  rw [F_X0_timesOfEvent] at hF
  obtain ⟨locs, hlocs⟩ : ∃ locs : List Loc, locs = [] := ⟨_, rfl⟩
  rw [← hlocs] at hL ⊢
  refine lv_iconst (v := 0) hx hb dX0_timesOfEvent_0 (by decide) ?_
  refine lv_istore_n (lv' := [(1, .int 0), (0, .ref (gA X i0 0))]) hx hb dX0_timesOfEvent_1 rfl hl (by decide) rfl (fun ls hl => ?_)
  refine lv_iconst (v := 0) hx hb dX0_timesOfEvent_2 (by decide) ?_
  refine lv_istore_n (lv' := [(2, .int 0), (1, .int 0), (0, .ref (gA X i0 0))]) hx hb dX0_timesOfEvent_3 rfl hl (by decide) rfl (fun ls hl => ?_)
  exact L_4 gFU i0 0 0 hi0 ls (lv_sub hl [2, 1, 0] rfl) hF H locs hW hL
abbrev rmX8_ofAllClubs : Room := { frames := 0, cells := 0, slots := 0, locals := 0 }
abbrev wsX8_ofAllClubs : List Cond := gws yX8_ofAllClubs cX8_ofAllClubs 3 (some .int)
set_option maxHeartbeats 4000000 in
set_option maxRecDepth 100000 in
theorem c_X8_ofAllClubs (l : Launch) (X : gX) (w : gWd) (i0 : Nat) (hi0 : i0 < 7) (r : Int32) (hF : F_X8_ofAllClubs w i0 = some r) : Met l yX8_ofAllClubs wsX8_ofAllClubs rmX8_ofAllClubs (gPc X [.ref (gA X i0 0)] w) (gQi X r w) 0 0 (gFr X) := by
  refine g_ofW (cc := cX8_ofAllClubs) (maxL := 3) (ret := (some .int)) (by decide) rfl (Nat.le_of_ble_eq_true rfl) (fun p e s m args below meth c ls H hx hb hr hts hown hlocks hml hK hl hW => ?_)
  have hl : lv_has ls 3 [(0, .ref (gA X i0 0))] := hl
  have hown : s.vm.findClass RX8 = some m.cls := hown
  have hL : gLo X [] := gLo_nil
  show W p l e rmX8_ofAllClubs s m args below meth c H [] 0 0 _ _
  have inX5 : ∀ w ∈ wsX50, w ∈ wsX8_ofAllClubs := fun w h => List.mem_cons_of_mem _ (inlX5 w h)
  have inX10 : ∀ w ∈ wsX100, w ∈ wsX8_ofAllClubs := fun w h => List.mem_cons_of_mem _ (inlX10 w h)
  have q24 := hts _ (List.mem_cons_of_mem _ wq_X8_24)
  have q37 := hts _ (List.mem_cons_of_mem _ wq_X8_37)
  have q40 := hts _ (List.mem_cons_of_mem _ wq_X8_40)
  have L_4 : ∀ (fu : Nat) (i0 : Nat) (x1 : Int32) (x2 : Int32) (hi0 : i0 < 7) (ls : Array Slot) (hl : lv_has ls 3 [(0, .ref (gA X i0 0)), (1, .int x1), (2, .int x2)]) (hF : F_X8_ofAllClubs_4 fu w i0 x1 x2 = some r) (H : Heap) (locs : List Loc) (hW : gWo X 251 (gE X w) H) (hL : gLo X locs), W p l e rmX8_ofAllClubs s m args below meth c H locs 0 0 (MQ below (gQi X r w) args s 0 0 (gFr X)) (F0 m 4 ls []) := by
    intro fu
    induction fu with
    | zero => intro i0 x1 x2 hi0 ls hl hF H locs hW hL; rw [F_X8_ofAllClubs_4_z] at hF; cases hF
    | succ fu4 ih4 =>
      intro i0 x1 x2 hi0 ls hl hF H locs hW hL
      rw [F_X8_ofAllClubs_4_s] at hF
      refine lv_iload_n hx hb dX8_ofAllClubs_4 rfl (lv_at hl 2 rfl) ?_
      refine lv_aload_n hx hb dX8_ofAllClubs_5 rfl (lv_at hl 0 rfl) ?_
      refine rg_X5_size hx hb hts inX5 hown hK hW hi0 q37 dX8_ofAllClubs_6 ?_
      refine lv_icmp_ge (tgt := 30) hx hb dX8_ofAllClubs_9 (by decide) (fun hc_1 => ?_) (fun hc_1 => ?_)
      · replace hF := gT hc_1 hF
        refine lv_iload_n hx hb dX8_ofAllClubs_30 rfl (lv_at hl 1 rfl) ?_
        exact g_ri hx hb hr hlocks hW hL (Option.some.inj hF) dX8_ofAllClubs_31
      · replace hF := gF hc_1 hF
        refine lv_iload_n hx hb dX8_ofAllClubs_12 rfl (lv_at hl 1 rfl) ?_
        refine lv_aload_n hx hb dX8_ofAllClubs_13 rfl (lv_at hl 0 rfl) ?_
        refine rg_X5_all hx hb hts inX5 hown hK hW hi0 q40 dX8_ofAllClubs_14 ?_
        refine lv_iload_n hx hb dX8_ofAllClubs_17 rfl (lv_at hl 2 rfl) ?_
        obtain ⟨hin_2, hF⟩ := gB_some hF
        obtain ⟨k_3, ek_3⟩ : ∃ k, k = Int32.toNatClampNeg x2 := ⟨_, rfl⟩
        rw [← ek_3] at hF
        refine r_all (k := k_3) hx hb hK hW hi0 hin_2 ek_3.symm dX8_ofAllClubs_18 ?_
        refine rg_X10_brought hx hb hts inX10 hown hK hW hi0 (vp_lt2 hin_2 ek_3.symm) q24 dX8_ofAllClubs_19 ?_
        refine lv_iadd hx hb dX8_ofAllClubs_22 ?_
        obtain ⟨x1_4, ex1_4, hF⟩ := gS_some hF
        refine g_top ex1_4 ?_
        refine lv_istore_n (lv' := [(1, .int x1_4), (0, .ref (gA X i0 0)), (2, .int x2)]) hx hb dX8_ofAllClubs_23 rfl hl (by decide) rfl (fun ls hl => ?_)
        obtain ⟨x2_5, ex2_5, hF⟩ := gS_some hF
        refine lv_iinc (v := x2_5) (lv' := [(2, .int x2_5), (1, .int x1_4), (0, .ref (gA X i0 0))]) hx hb dX8_ofAllClubs_24 hl (k := 2) rfl (by rw [ex2_5]; rfl) (by decide) rfl (fun ls hl => ?_)
        refine lv_goto (tgt := 4) hx hb dX8_ofAllClubs_27 (by decide) ?_
        exact ih4 i0 x1_4 x2_5 hi0 ls (lv_sub hl [2, 1, 0] rfl) hF H locs hW hL
  rw [F_X8_ofAllClubs] at hF
  obtain ⟨locs, hlocs⟩ : ∃ locs : List Loc, locs = [] := ⟨_, rfl⟩
  rw [← hlocs] at hL ⊢
  refine lv_iconst (v := 0) hx hb dX8_ofAllClubs_0 (by decide) ?_
  refine lv_istore_n (lv' := [(1, .int 0), (0, .ref (gA X i0 0))]) hx hb dX8_ofAllClubs_1 rfl hl (by decide) rfl (fun ls hl => ?_)
  refine lv_iconst (v := 0) hx hb dX8_ofAllClubs_2 (by decide) ?_
  refine lv_istore_n (lv' := [(2, .int 0), (1, .int 0), (0, .ref (gA X i0 0))]) hx hb dX8_ofAllClubs_3 rfl hl (by decide) rfl (fun ls hl => ?_)
  exact L_4 gFU i0 0 0 hi0 ls (lv_sub hl [2, 1, 0] rfl) hF H locs hW hL
abbrev rmX0_ofMeet : Room := { frames := 4, cells := 0, slots := 0, locals := 86 }
abbrev wsX0_ofMeet : List Cond := gws yX0_ofMeet cX0_ofMeet 2 (some .int)
set_option maxHeartbeats 4000000 in
set_option maxRecDepth 100000 in
theorem c_X0_ofMeet (l : Launch) (X : gX) (w : gWd) (i0 : Nat) (hi0 : i0 < 7) (x1 : Int32) (r : Int32) (hF : F_X0_ofMeet w i0 x1 = some r) : Met l yX0_ofMeet wsX0_ofMeet rmX0_ofMeet (gPc X [.ref (gA X i0 0), .int x1] w) (gQi X r w) 0 0 (gFr X) := by
  refine g_ofW (cc := cX0_ofMeet) (maxL := 2) (ret := (some .int)) (by decide) rfl (Nat.le_of_ble_eq_true rfl) (fun p e s m args below meth c ls H hx hb hr hts hown hlocks hml hK hl hW => ?_)
  have hl : lv_has ls 2 [(0, .ref (gA X i0 0)), (1, .int x1)] := hl
  have hown : s.vm.findClass RX0 = some m.cls := hown
  have hL : gLo X [] := gLo_nil
  show W p l e rmX0_ofMeet s m args below meth c H [] 0 0 _ _
  have inX5 : ∀ w ∈ wsX50, w ∈ wsX0_ofMeet := fun w h => List.mem_cons_of_mem _ (inlX5 w h)
  have q106 := hts _ (List.mem_cons_of_mem _ wq_X0_106)
  have q118 := hts _ (List.mem_cons_of_mem _ wq_X0_118)
  have q121 := hts _ (List.mem_cons_of_mem _ wq_X0_121)
  have q124 := hts _ (List.mem_cons_of_mem _ wq_X0_124)
  have q127 := hts _ (List.mem_cons_of_mem _ wq_X0_127)
  have q135 := hts _ (List.mem_cons_of_mem _ wq_X0_135)
  have q22 := hts _ (List.mem_cons_of_mem _ wq_X0_22)
  have q59 := hts _ (List.mem_cons_of_mem _ wq_X0_59)
  have q99 := hts _ (List.mem_cons_of_mem _ wq_X0_99)
  have k102 : CallB rmX0_ofMeet s args RX0 102 yX0_scratchedSet cX0_scratchedSet 3 (some .int) wsX0_scratchedSet rmX0_scratchedSet 0 0 1 ∧ (Cond.static yX0_scratchedSet).before args s = true := va_cwS 1 hts (gGoodS (fun w h => List.mem_cons_of_mem _ h) wk_X0_102) rfl rfl rfl (by decide +kernel) ⟨Nat.le_of_ble_eq_true rfl, Nat.le_of_ble_eq_true rfl⟩
  have k109 : CallW rmX0_ofMeet s args RX0 RX5 109 yX5_finalSet cX5_finalSet 3 (some .int) wsX5_finalSet rmX5_finalSet 0 0 0 := cwV 0 hts (gGoodV (fun w h => List.mem_cons_of_mem _ h) wk_X0_109) rfl rfl rfl (by decide +kernel) ⟨Nat.le_of_ble_eq_true rfl, Nat.le_of_ble_eq_true rfl⟩
  have k112 : CallB rmX0_ofMeet s args RX0 112 yX0_freeReserves cX0_freeReserves 2 (some .int) wsX0_freeReserves rmX0_freeReserves 0 0 1 ∧ (Cond.static yX0_freeReserves).before args s = true := va_cwS 1 hts (gGoodS (fun w h => List.mem_cons_of_mem _ h) wk_X0_112) rfl rfl rfl (by decide +kernel) ⟨Nat.le_of_ble_eq_true rfl, Nat.le_of_ble_eq_true rfl⟩
  have k115 : CallB rmX0_ofMeet s args RX0 115 yX0_timesOfEvent cX0_timesOfEvent 3 (some .int) wsX0_timesOfEvent rmX0_timesOfEvent 0 0 1 ∧ (Cond.static yX0_timesOfEvent).before args s = true := va_cwS 1 hts (gGoodS (fun w h => List.mem_cons_of_mem _ h) wk_X0_115) rfl rfl rfl (by decide +kernel) ⟨Nat.le_of_ble_eq_true rfl, Nat.le_of_ble_eq_true rfl⟩
  have k130 : CallB rmX0_ofMeet s args RX0 130 yX8_ofAllClubs cX8_ofAllClubs 3 (some .int) wsX8_ofAllClubs rmX8_ofAllClubs 0 0 1 ∧ (Cond.static yX8_ofAllClubs).before args s = true := va_cwS 1 hts (gGoodS (fun w h => List.mem_cons_of_mem _ h) wk_X0_130) rfl rfl rfl (by decide +kernel) ⟨Nat.le_of_ble_eq_true rfl, Nat.le_of_ble_eq_true rfl⟩
  have k35 : CallB rmX0_ofMeet s args RX0 35 yX0_aboveZero cX0_aboveZero 1 (some .int) wsX0_aboveZero rmX0_aboveZero 0 0 1 ∧ (Cond.static yX0_aboveZero).before args s = true := va_cwS 1 hts (gGoodS (fun w h => List.mem_cons_of_mem _ h) wk_X0_35) rfl rfl rfl (by decide +kernel) ⟨Nat.le_of_ble_eq_true rfl, Nat.le_of_ble_eq_true rfl⟩
  rw [F_X0_ofMeet] at hF
  obtain ⟨locs, hlocs⟩ : ∃ locs : List Loc, locs = [] := ⟨_, rfl⟩
  rw [← hlocs] at hL ⊢
  refine lv_iload_n hx hb dX0_ofMeet_0 rfl (lv_at hl 1 rfl) ?_
  by_cases hc_1 : x1 = 0
  · replace hF := gT hc_1 hF
    refine lv_tableIn (off := 63) (tgt := 64) hx hb dX0_ofMeet_1 (by rw [hc_1]; decide) (by rw [hc_1]; decide) (by rw [hc_1]; rfl) (by decide) ?_
    refine lv_aload_n hx hb dX0_ofMeet_64 rfl (lv_at hl 0 rfl) ?_
    refine rg_X5_stage hx hb hts inX5 hown hK hW hi0 q99 dX0_ofMeet_65 ?_
    exact g_ri hx hb hr hlocks hW hL (Option.some.inj hF) dX0_ofMeet_68
  · replace hF := gF hc_1 hF
    by_cases hc_2 : x1 = 1
    · replace hF := gT hc_2 hF
      refine lv_tableIn (off := 68) (tgt := 69) hx hb dX0_ofMeet_1 (by rw [hc_2]; decide) (by rw [hc_2]; decide) (by rw [hc_2]; rfl) (by decide) ?_
      refine lv_aload_n hx hb dX0_ofMeet_69 rfl (lv_at hl 0 rfl) ?_
      refine rg_X5_size hx hb hts inX5 hown hK hW hi0 q59 dX0_ofMeet_70 ?_
      exact g_ri hx hb hr hlocks hW hL (Option.some.inj hF) dX0_ofMeet_73
    · replace hF := gF hc_2 hF
      by_cases hc_3 : x1 = 2
      · replace hF := gT hc_3 hF
        refine lv_tableIn (off := 73) (tgt := 74) hx hb dX0_ofMeet_1 (by rw [hc_3]; decide) (by rw [hc_3]; decide) (by rw [hc_3]; rfl) (by decide) ?_
        refine lv_aload_n hx hb dX0_ofMeet_74 rfl (lv_at hl 0 rfl) ?_
        obtain ⟨v_5, hq_4, hF⟩ := gP_some hF
        refine g_Si (As := [.ref (gA X i0 0)]) (rest := []) ⟨hx, hb, hml, hown, hts⟩ hK hW hL hl.1 (c_X0_scratchedSet l X w i0 hi0 v_5 hq_4) k102 rfl rfl (Nat.le_of_ble_eq_true rfl) dX0_ofMeet_75 ⟨Nat.le_of_ble_eq_true rfl, Nat.le_of_ble_eq_true rfl⟩ (fun H locs hW hL => ?_)
        exact g_ri hx hb hr hlocks hW hL (Option.some.inj hF) dX0_ofMeet_78
      · replace hF := gF hc_3 hF
        by_cases hc_6 : x1 = 3
        · replace hF := gT hc_6 hF
          refine lv_tableIn (off := 78) (tgt := 79) hx hb dX0_ofMeet_1 (by rw [hc_6]; decide) (by rw [hc_6]; decide) (by rw [hc_6]; rfl) (by decide) ?_
          refine lv_aload_n hx hb dX0_ofMeet_79 rfl (lv_at hl 0 rfl) ?_
          refine rg_X5_heats hx hb hts inX5 hown hK hW hi0 q106 dX0_ofMeet_80 ?_
          exact g_ri hx hb hr hlocks hW hL (Option.some.inj hF) dX0_ofMeet_83
        · replace hF := gF hc_6 hF
          by_cases hc_7 : x1 = 4
          · replace hF := gT hc_7 hF
            refine lv_tableIn (off := 83) (tgt := 84) hx hb dX0_ofMeet_1 (by rw [hc_7]; decide) (by rw [hc_7]; decide) (by rw [hc_7]; rfl) (by decide) ?_
            refine lv_aload_n hx hb dX0_ofMeet_84 rfl (lv_at hl 0 rfl) ?_
            obtain ⟨v_9, hq_8, hF⟩ := gP_some hF
            refine g_Vi (As := []) (rest := []) ⟨hx, hb, hml, hown, hts⟩ hK hW hL hl.1 (gok_m hi0 (by decide)) (gE_m0 hi0) rfl (c_X5_finalSet l X w i0 hi0 v_9 hq_8) k109 rfl rfl (Nat.le_of_ble_eq_true rfl) dX0_ofMeet_85 ⟨Nat.le_of_ble_eq_true rfl, Nat.le_of_ble_eq_true rfl⟩ (fun H locs hW hL => ?_)
            exact g_ri hx hb hr hlocks hW hL (Option.some.inj hF) dX0_ofMeet_88
          · replace hF := gF hc_7 hF
            by_cases hc_10 : x1 = 5
            · replace hF := gT hc_10 hF
              refine lv_tableIn (off := 88) (tgt := 89) hx hb dX0_ofMeet_1 (by rw [hc_10]; decide) (by rw [hc_10]; decide) (by rw [hc_10]; rfl) (by decide) ?_
              refine lv_aload_n hx hb dX0_ofMeet_89 rfl (lv_at hl 0 rfl) ?_
              obtain ⟨v_12, hq_11, hF⟩ := gP_some hF
              refine g_Si (As := [.ref (gA X i0 0)]) (rest := []) ⟨hx, hb, hml, hown, hts⟩ hK hW hL hl.1 (c_X0_freeReserves l X w i0 hi0 v_12 hq_11) k112 rfl rfl (Nat.le_of_ble_eq_true rfl) dX0_ofMeet_90 ⟨Nat.le_of_ble_eq_true rfl, Nat.le_of_ble_eq_true rfl⟩ (fun H locs hW hL => ?_)
              exact g_ri hx hb hr hlocks hW hL (Option.some.inj hF) dX0_ofMeet_93
            · replace hF := gF hc_10 hF
              by_cases hc_13 : x1 = 6
              · replace hF := gT hc_13 hF
                refine lv_tableIn (off := 93) (tgt := 94) hx hb dX0_ofMeet_1 (by rw [hc_13]; decide) (by rw [hc_13]; decide) (by rw [hc_13]; rfl) (by decide) ?_
                refine lv_aload_n hx hb dX0_ofMeet_94 rfl (lv_at hl 0 rfl) ?_
                obtain ⟨v_15, hq_14, hF⟩ := gP_some hF
                refine g_Si (As := [.ref (gA X i0 0)]) (rest := []) ⟨hx, hb, hml, hown, hts⟩ hK hW hL hl.1 (c_X0_timesOfEvent l X w i0 hi0 v_15 hq_14) k115 rfl rfl (Nat.le_of_ble_eq_true rfl) dX0_ofMeet_95 ⟨Nat.le_of_ble_eq_true rfl, Nat.le_of_ble_eq_true rfl⟩ (fun H locs hW hL => ?_)
                exact g_ri hx hb hr hlocks hW hL (Option.some.inj hF) dX0_ofMeet_98
              · replace hF := gF hc_13 hF
                by_cases hc_16 : x1 = 7
                · replace hF := gT hc_16 hF
                  refine lv_tableIn (off := 98) (tgt := 99) hx hb dX0_ofMeet_1 (by rw [hc_16]; decide) (by rw [hc_16]; decide) (by rw [hc_16]; rfl) (by decide) ?_
                  refine lv_aload_n hx hb dX0_ofMeet_99 rfl (lv_at hl 0 rfl) ?_
                  refine rg_X5_eventsEnded hx hb hts inX5 hown hK hW hi0 q118 dX0_ofMeet_100 ?_
                  exact g_ri hx hb hr hlocks hW hL (Option.some.inj hF) dX0_ofMeet_103
                · replace hF := gF hc_16 hF
                  by_cases hc_17 : x1 = 8
                  · replace hF := gT hc_17 hF
                    refine lv_tableIn (off := 103) (tgt := 104) hx hb dX0_ofMeet_1 (by rw [hc_17]; decide) (by rw [hc_17]; decide) (by rw [hc_17]; rfl) (by decide) ?_
                    refine lv_aload_n hx hb dX0_ofMeet_104 rfl (lv_at hl 0 rfl) ?_
                    refine rg_X5_record hx hb hts inX5 hown hK hW hi0 q121 dX0_ofMeet_105 ?_
                    obtain ⟨v_19, hq_18, hF⟩ := gP_some hF
                    refine g_Si (As := [.int (w i0 0 9)]) (rest := []) ⟨hx, hb, hml, hown, hts⟩ hK hW hL hl.1 (c_X0_aboveZero l X w ((w i0 0 9)) v_19 hq_18) k35 rfl rfl (Nat.le_of_ble_eq_true rfl) dX0_ofMeet_108 ⟨Nat.le_of_ble_eq_true rfl, Nat.le_of_ble_eq_true rfl⟩ (fun H locs hW hL => ?_)
                    exact g_ri hx hb hr hlocks hW hL (Option.some.inj hF) dX0_ofMeet_111
                  · replace hF := gF hc_17 hF
                    by_cases hc_20 : x1 = 9
                    · replace hF := gT hc_20 hF
                      refine lv_tableIn (off := 111) (tgt := 112) hx hb dX0_ofMeet_1 (by rw [hc_20]; decide) (by rw [hc_20]; decide) (by rw [hc_20]; rfl) (by decide) ?_
                      refine lv_aload_n hx hb dX0_ofMeet_112 rfl (lv_at hl 0 rfl) ?_
                      refine rg_X5_record hx hb hts inX5 hown hK hW hi0 q121 dX0_ofMeet_113 ?_
                      refine lv_if_le (tgt := 126) hx hb dX0_ofMeet_116 (by decide) (fun hc_21 => ?_) (fun hc_21 => ?_)
                      · replace hF := gT hc_21 hF
                        refine lv_ldc hx hb hown q22 dX0_ofMeet_126 ?_
                        exact g_ri hx hb hr hlocks hW hL (Option.some.inj hF) dX0_ofMeet_128
                      · replace hF := gF hc_21 hF
                        refine lv_aload_n hx hb dX0_ofMeet_119 rfl (lv_at hl 0 rfl) ?_
                        refine rg_X5_recordSwimmer hx hb hts inX5 hown hK hW hi0 q124 dX0_ofMeet_120 ?_
                        refine lv_goto (tgt := 128) hx hb dX0_ofMeet_123 (by decide) ?_
                        exact g_ri hx hb hr hlocks hW hL (Option.some.inj hF) dX0_ofMeet_128
                    · replace hF := gF hc_20 hF
                      by_cases hc_22 : x1 = 10
                      · replace hF := gT hc_22 hF
                        refine lv_tableIn (off := 128) (tgt := 129) hx hb dX0_ofMeet_1 (by rw [hc_22]; decide) (by rw [hc_22]; decide) (by rw [hc_22]; rfl) (by decide) ?_
                        refine lv_aload_n hx hb dX0_ofMeet_129 rfl (lv_at hl 0 rfl) ?_
                        refine rg_X5_reservesCalled hx hb hts inX5 hown hK hW hi0 q127 dX0_ofMeet_130 ?_
                        exact g_ri hx hb hr hlocks hW hL (Option.some.inj hF) dX0_ofMeet_133
                      · replace hF := gF hc_22 hF
                        by_cases hc_23 : x1 = 11
                        · replace hF := gT hc_23 hF
                          refine lv_tableIn (off := 133) (tgt := 134) hx hb dX0_ofMeet_1 (by rw [hc_23]; decide) (by rw [hc_23]; decide) (by rw [hc_23]; rfl) (by decide) ?_
                          refine lv_aload_n hx hb dX0_ofMeet_134 rfl (lv_at hl 0 rfl) ?_
                          obtain ⟨v_25, hq_24, hF⟩ := gP_some hF
                          refine g_Si (As := [.ref (gA X i0 0)]) (rest := []) ⟨hx, hb, hml, hown, hts⟩ hK hW hL hl.1 (c_X8_ofAllClubs l X w i0 hi0 v_25 hq_24) k130 rfl rfl (Nat.le_of_ble_eq_true rfl) dX0_ofMeet_135 ⟨Nat.le_of_ble_eq_true rfl, Nat.le_of_ble_eq_true rfl⟩ (fun H locs hW hL => ?_)
                          exact g_ri hx hb hr hlocks hW hL (Option.some.inj hF) dX0_ofMeet_138
                        · replace hF := gF hc_23 hF
                          refine lv_tableOut (tgt := 139) hx hb dX0_ofMeet_1 (g_tabOut (fun k h1 h2 h3 => ?_)) (by decide) ?_
                          · have hk : k = 0 ∨ k = 1 ∨ k = 2 ∨ k = 3 ∨ k = 4 ∨ k = 5 ∨ k = 6 ∨ k = 7 ∨ k = 8 ∨ k = 9 ∨ k = 10 ∨ k = 11 := by omega
                            rcases hk with rfl | rfl | rfl | rfl | rfl | rfl | rfl | rfl | rfl | rfl | rfl | rfl
                            · exact hc_1 (Int32.toInt_inj.mp (h3.trans (by decide)))
                            · exact hc_2 (Int32.toInt_inj.mp (h3.trans (by decide)))
                            · exact hc_3 (Int32.toInt_inj.mp (h3.trans (by decide)))
                            · exact hc_6 (Int32.toInt_inj.mp (h3.trans (by decide)))
                            · exact hc_7 (Int32.toInt_inj.mp (h3.trans (by decide)))
                            · exact hc_10 (Int32.toInt_inj.mp (h3.trans (by decide)))
                            · exact hc_13 (Int32.toInt_inj.mp (h3.trans (by decide)))
                            · exact hc_16 (Int32.toInt_inj.mp (h3.trans (by decide)))
                            · exact hc_17 (Int32.toInt_inj.mp (h3.trans (by decide)))
                            · exact hc_20 (Int32.toInt_inj.mp (h3.trans (by decide)))
                            · exact hc_22 (Int32.toInt_inj.mp (h3.trans (by decide)))
                            · exact hc_23 (Int32.toInt_inj.mp (h3.trans (by decide)))
                          · skip
                            refine lv_ldc hx hb hown q135 dX0_ofMeet_139 ?_
                            exact g_ri hx hb hr hlocks hW hL (Option.some.inj hF) dX0_ofMeet_141
abbrev rmX11_count : Room := { frames := 5, cells := 0, slots := 0, locals := 107 }
abbrev wsX11_count : List Cond := gws yX11_count cX11_count 2 (some .int)
set_option maxHeartbeats 4000000 in
set_option maxRecDepth 100000 in
theorem c_X11_count (l : Launch) (X : gX) (w : gWd) (x1 : Int32) (r : Int32) (hF : F_X11_count w x1 = some r) : Met l yX11_count wsX11_count rmX11_count (gPc X [.ref (gA X 7 0), .int x1] w) (gQi X r w) 0 0 (gFr X) := by
  refine g_ofW (cc := cX11_count) (maxL := 2) (ret := (some .int)) (by decide) rfl (Nat.le_of_ble_eq_true rfl) (fun p e s m args below meth c ls H hx hb hr hts hown hlocks hml hK hl hW => ?_)
  have hl : lv_has ls 2 [(0, .ref (gA X 7 0)), (1, .int x1)] := hl
  have hown : s.vm.findClass RX11 = some m.cls := hown
  have hL : gLo X [] := gLo_nil
  show W p l e rmX11_count s m args below meth c H [] 0 0 _ _
  have inX11 : ∀ w ∈ wsX110, w ∈ wsX11_count := fun w h => List.mem_cons_of_mem _ (inlX11 w h)
  have inX3 : ∀ w ∈ wsX30, w ∈ wsX11_count := fun w h => List.mem_cons_of_mem _ (inlX3 w h)
  have inX5 : ∀ w ∈ wsX50, w ∈ wsX11_count := fun w h => List.mem_cons_of_mem _ (inlX5 w h)
  have inX6 : ∀ w ∈ wsX60, w ∈ wsX11_count := fun w h => List.mem_cons_of_mem _ (inlX6 w h)
  have q10 := hts _ (List.mem_cons_of_mem _ wq_X11_10)
  have q154 := hts _ (List.mem_cons_of_mem _ wq_X11_154)
  have q157 := hts _ (List.mem_cons_of_mem _ wq_X11_157)
  have q160 := hts _ (List.mem_cons_of_mem _ wq_X11_160)
  have q22 := hts _ (List.mem_cons_of_mem _ wq_X11_22)
  have q29 := hts _ (List.mem_cons_of_mem _ wq_X11_29)
  have k164 : CallB rmX11_count s args RX11 164 yX0_ofMeet cX0_ofMeet 2 (some .int) wsX0_ofMeet rmX0_ofMeet 0 0 2 ∧ (Cond.static yX0_ofMeet).before args s = true := va_cwS 2 hts (gGoodS (fun w h => List.mem_cons_of_mem _ h) wk_X11_164) rfl rfl rfl (by decide +kernel) ⟨Nat.le_of_ble_eq_true rfl, Nat.le_of_ble_eq_true rfl⟩
  have B_53 : ∀ (x1 : Int32)  (ls : Array Slot) (hl : lv_has ls 2 [(0, .ref (gA X 7 0)), (1, .int x1)]) (hF : F_X11_count_53 w x1 = some r) (H : Heap) (locs : List Loc) (hW : gWo X 251 (gE X w) H) (hL : gLo X locs), W p l e rmX11_count s m args below meth c H locs 0 0 (MQ below (gQi X r w) args s 0 0 (gFr X)) (F0 m 53 ls []) := by
    intro x1 ls hl hF H locs hW hL
    rw [F_X11_count_53] at hF
    refine lv_aload_n hx hb dX11_count_53 rfl (lv_at hl 0 rfl) ?_
    refine rg_X11_meet hx hb hts inX11 hown hK hW q10 dX11_count_54 ?_
    refine lv_iload_n hx hb dX11_count_57 rfl (lv_at hl 1 rfl) ?_
    obtain ⟨v_2, hq_1, hF⟩ := gP_some hF
    refine g_Si (As := [.ref (gA X 0 0), .int x1]) (rest := []) ⟨hx, hb, hml, hown, hts⟩ hK hW hL hl.1 (c_X0_ofMeet l X w 0 h07 x1 v_2 hq_1) k164 rfl rfl (Nat.le_of_ble_eq_true rfl) dX11_count_58 ⟨Nat.le_of_ble_eq_true rfl, Nat.le_of_ble_eq_true rfl⟩ (fun H locs hW hL => ?_)
    exact g_ri hx hb hr hlocks hW hL (Option.some.inj hF) dX11_count_61
  rw [F_X11_count] at hF
  obtain ⟨locs, hlocs⟩ : ∃ locs : List Loc, locs = [] := ⟨_, rfl⟩
  rw [← hlocs] at hL ⊢
  refine lv_iload_n hx hb dX11_count_0 rfl (lv_at hl 1 rfl) ?_
  refine lv_bipush (v := 12) hx hb dX11_count_1 (by decide) ?_
  refine lv_icmp_ne (tgt := 14) hx hb dX11_count_3 (by decide) (fun hc_3 => ?_) (fun hc_3 => ?_)
  · replace hF := gF hc_3 hF
    refine lv_iload_n hx hb dX11_count_14 rfl (lv_at hl 1 rfl) ?_
    refine lv_bipush (v := 13) hx hb dX11_count_15 (by decide) ?_
    refine lv_icmp_ne (tgt := 28) hx hb dX11_count_17 (by decide) (fun hc_4 => ?_) (fun hc_4 => ?_)
    · replace hF := gF hc_4 hF
      refine lv_iload_n hx hb dX11_count_28 rfl (lv_at hl 1 rfl) ?_
      refine lv_bipush (v := 20) hx hb dX11_count_29 (by decide) ?_
      refine lv_icmp_lt (tgt := 53) hx hb dX11_count_31 (by decide) (fun hc_5 => ?_) (fun hc_5 => ?_)
      · replace hF := gT hc_5 hF
        exact B_53 x1 ls (hl) hF H locs hW hL
      · replace hF := gF hc_5 hF
        refine lv_iload_n hx hb dX11_count_34 rfl (lv_at hl 1 rfl) ?_
        refine lv_bipush (v := 23) hx hb dX11_count_35 (by decide) ?_
        refine lv_icmp_ge (tgt := 53) hx hb dX11_count_37 (by decide) (fun hc_6 => ?_) (fun hc_6 => ?_)
        · replace hF := gT hc_6 hF
          exact B_53 x1 ls (hl) hF H locs hW hL
        · replace hF := gF hc_6 hF
          refine lv_aload_n hx hb dX11_count_40 rfl (lv_at hl 0 rfl) ?_
          refine rg_X11_meet hx hb hts inX11 hown hK hW q10 dX11_count_41 ?_
          refine rg_X5_settings hx hb hts inX5 hown hK hW h07 q160 dX11_count_44 ?_
          refine lv_iload_n hx hb dX11_count_47 rfl (lv_at hl 1 rfl) ?_
          refine lv_bipush (v := 20) hx hb dX11_count_48 (by decide) ?_
          refine lv_isub hx hb dX11_count_50 ?_
          obtain ⟨hin_7, hF⟩ := gB_some hF
          obtain ⟨k_8, ek_8⟩ : ∃ k, k = Int32.toNatClampNeg ((x1 - 20)) := ⟨_, rfl⟩
          rw [← ek_8] at hF
          refine g_iald2 (k := k_8) hx hb hK hW (gok_m h07 (by decide)) (gad_lt (gok_m h07 (by decide))) (gE_m1 h07) hin_7 ek_8.symm dX11_count_51 ?_
          exact g_ri hx hb hr hlocks hW hL (Option.some.inj hF) dX11_count_52
    · replace hF := gT hc_4 hF
      refine lv_aload_n hx hb dX11_count_20 rfl (lv_at hl 0 rfl) ?_
      refine rg_X11_text hx hb hts inX11 hown hK hW q29 dX11_count_21 ?_
      refine rg_X6_length hx hb hts inX6 hown hK hW q157 dX11_count_24 ?_
      exact g_ri hx hb hr hlocks hW hL (Option.some.inj hF) dX11_count_27
  · replace hF := gT hc_3 hF
    refine lv_aload_n hx hb dX11_count_6 rfl (lv_at hl 0 rfl) ?_
    refine rg_X11_history hx hb hts inX11 hown hK hW q22 dX11_count_7 ?_
    refine rg_X3_kept hx hb hts inX3 hown hK hW q154 dX11_count_10 ?_
    exact g_ri hx hb hr hlocks hW hL (Option.some.inj hF) dX11_count_13
abbrev rmX3_restoreInto : Room := { frames := 2, cells := 0, slots := 0, locals := 43 }
abbrev wsX3_restoreInto : List Cond := gws yX3_restoreInto cX3_restoreInto 2 (some .int)
set_option maxHeartbeats 4000000 in
set_option maxRecDepth 100000 in
theorem c_X3_restoreInto (l : Launch) (X : gX) (w : gWd) (i1 : Nat) (hi1 : i1 < 7) (r : Int32) (w' : gWd) (hF : F_X3_restoreInto w i1 = some (r, w')) : Met l yX3_restoreInto wsX3_restoreInto rmX3_restoreInto (gPc X [.ref (gA X 7 1), .ref (gA X i1 0)] w) (gQi X r w') 0 0 (gFr X) := by
  refine g_ofW (cc := cX3_restoreInto) (maxL := 2) (ret := (some .int)) (by decide) rfl (Nat.le_of_ble_eq_true rfl) (fun p e s m args below meth c ls H hx hb hr hts hown hlocks hml hK hl hW => ?_)
  have hl : lv_has ls 2 [(0, .ref (gA X 7 1)), (1, .ref (gA X i1 0))] := hl
  have hown : s.vm.findClass RX3 = some m.cls := hown
  have hL : gLo X [] := gLo_nil
  show W p l e rmX3_restoreInto s m args below meth c H [] 0 0 _ _
  have inX3 : ∀ w ∈ wsX30, w ∈ wsX3_restoreInto := fun w h => List.mem_cons_of_mem _ (inlX3 w h)
  have q11 := hts _ (List.mem_cons_of_mem _ wq_X3_11)
  have q18 := hts _ (List.mem_cons_of_mem _ wq_X3_18)
  have q29 := hts _ (List.mem_cons_of_mem _ wq_X3_29)
  have k22 : CallW rmX3_restoreInto s args RX3 RX5 22 yX5_copyFrom cX5_copyFrom 3 none wsX5_copyFrom rmX5_copyFrom 0 0 1 := cwV 1 hts (gGoodV (fun w h => List.mem_cons_of_mem _ h) wk_X3_22) rfl rfl rfl (by decide +kernel) ⟨Nat.le_of_ble_eq_true rfl, Nat.le_of_ble_eq_true rfl⟩
  rw [F_X3_restoreInto] at hF
  obtain ⟨locs, hlocs⟩ : ∃ locs : List Loc, locs = [] := ⟨_, rfl⟩
  rw [← hlocs] at hL ⊢
  refine lv_aload_n hx hb dX3_restoreInto_0 rfl (lv_at hl 0 rfl) ?_
  refine rg_X3_kept hx hb hts inX3 hown hK hW q18 dX3_restoreInto_1 ?_
  refine lv_iconst (v := 1) hx hb dX3_restoreInto_4 (by decide) ?_
  refine lv_icmp_lt (tgt := 16) hx hb dX3_restoreInto_5 (by decide) (fun hc_1 => ?_) (fun hc_1 => ?_)
  · replace hF := gT hc_1 hF
    refine lv_ldc hx hb hown q29 dX3_restoreInto_16 ?_
    exact g_ri hx hb hr hlocks (gW2 hF hW) hL (gI2 hF).1 dX3_restoreInto_18
  · replace hF := gF hc_1 hF
    refine lv_aload_n hx hb dX3_restoreInto_8 rfl (lv_at hl 0 rfl) ?_
    refine rg_X3_kept hx hb hts inX3 hown hK hW q18 dX3_restoreInto_9 ?_
    refine lv_iconst (v := 4) hx hb dX3_restoreInto_12 (by decide) ?_
    refine lv_icmp_le (tgt := 19) hx hb dX3_restoreInto_13 (by decide) (fun hc_2 => ?_) (fun hc_2 => ?_)
    · replace hF := gT hc_2 hF
      refine lv_aload_n hx hb dX3_restoreInto_19 rfl (lv_at hl 0 rfl) ?_
      refine lv_dup hx hb dX3_restoreInto_20 rfl ?_
      refine rg_X3_kept hx hb hts inX3 hown hK hW q18 dX3_restoreInto_21 ?_
      refine lv_iconst (v := 1) hx hb dX3_restoreInto_24 (by decide) ?_
      refine lv_isub hx hb dX3_restoreInto_25 ?_
      obtain ⟨w_3, ew_3, hF⟩ := gS_some hF
      refine rp_X3_kept hx hb hts inX3 hown hK hW hL q18 dX3_restoreInto_26 (fun H locs hW hL => ?_)
      rw [← ew_3] at hW
      refine lv_aload_n hx hb dX3_restoreInto_29 rfl (lv_at hl 1 rfl) ?_
      refine lv_aload_n hx hb dX3_restoreInto_30 rfl (lv_at hl 0 rfl) ?_
      refine rg_X3_rows hx hb hts inX3 hown hK hW q11 dX3_restoreInto_31 ?_
      refine lv_aload_n hx hb dX3_restoreInto_34 rfl (lv_at hl 0 rfl) ?_
      refine rg_X3_kept hx hb hts inX3 hown hK hW q18 dX3_restoreInto_35 ?_
      obtain ⟨hin_4, hF⟩ := gB_some hF
      obtain ⟨k_5, ek_5⟩ : ∃ k, k = Int32.toNatClampNeg ((w_3 7 1 1)) := ⟨_, rfl⟩
      rw [← ek_5] at hF
      obtain ⟨hm_6, hF⟩ := gM_some hF
      refine r_rows (k := k_5) hx hb hK hW hin_4 ek_5.symm dX3_restoreInto_38 ?_
      obtain ⟨w_8, hq_7, hF⟩ := gP_some hF
      refine g_Vv (As := [.ref (gA X ((w_3 7 2 k_5).toNatClampNeg) 0)]) (rest := []) ⟨hx, hb, hml, hown, hts⟩ hK hW hL hl.1 (gok_m hi1 (by decide)) (gE_m0 hi1) rfl (c_X5_copyFrom l X w_3 i1 hi1 (((w_3 7 2 k_5).toNatClampNeg)) hm_6 w_8 hq_7) k22 rfl rfl (Nat.le_of_ble_eq_true rfl) dX3_restoreInto_39 ⟨Nat.le_of_ble_eq_true rfl, Nat.le_of_ble_eq_true rfl⟩ (fun H locs hW hL => ?_)
      refine lv_aload_n hx hb dX3_restoreInto_42 rfl (lv_at hl 0 rfl) ?_
      refine rg_X3_kept hx hb hts inX3 hown hK hW q18 dX3_restoreInto_43 ?_
      exact g_ri hx hb hr hlocks (gW2 hF hW) hL (gI2 hF).1 dX3_restoreInto_46
    · replace hF := gF hc_2 hF
      refine lv_ldc hx hb hown q29 dX3_restoreInto_16 ?_
      exact g_ri hx hb hr hlocks (gW2 hF hW) hL (gI2 hF).1 dX3_restoreInto_18
abbrev rmX11_undo : Room := { frames := 3, cells := 0, slots := 0, locals := 64 }
abbrev wsX11_undo : List Cond := gws yX11_undo cX11_undo 1 (some .int)
set_option maxHeartbeats 4000000 in
set_option maxRecDepth 100000 in
theorem c_X11_undo (l : Launch) (X : gX) (w : gWd)  (r : Int32) (w' : gWd) (hF : F_X11_undo w = some (r, w')) : Met l yX11_undo wsX11_undo rmX11_undo (gPc X [.ref (gA X 7 0)] w) (gQi X r w') 0 0 (gFr X) := by
  refine g_ofW (cc := cX11_undo) (maxL := 1) (ret := (some .int)) (by decide) rfl (Nat.le_of_ble_eq_true rfl) (fun p e s m args below meth c ls H hx hb hr hts hown hlocks hml hK hl hW => ?_)
  have hl : lv_has ls 1 [(0, .ref (gA X 7 0))] := hl
  have hown : s.vm.findClass RX11 = some m.cls := hown
  have hL : gLo X [] := gLo_nil
  show W p l e rmX11_undo s m args below meth c H [] 0 0 _ _
  have inX11 : ∀ w ∈ wsX110, w ∈ wsX11_undo := fun w h => List.mem_cons_of_mem _ (inlX11 w h)
  have q10 := hts _ (List.mem_cons_of_mem _ wq_X11_10)
  have q22 := hts _ (List.mem_cons_of_mem _ wq_X11_22)
  have k167 : CallW rmX11_undo s args RX11 RX3 167 yX3_restoreInto cX3_restoreInto 2 (some .int) wsX3_restoreInto rmX3_restoreInto 0 0 1 := cwV 1 hts (gGoodV (fun w h => List.mem_cons_of_mem _ h) wk_X11_167) rfl rfl rfl (by decide +kernel) ⟨Nat.le_of_ble_eq_true rfl, Nat.le_of_ble_eq_true rfl⟩
  rw [F_X11_undo] at hF
  obtain ⟨locs, hlocs⟩ : ∃ locs : List Loc, locs = [] := ⟨_, rfl⟩
  rw [← hlocs] at hL ⊢
  refine lv_aload_n hx hb dX11_undo_0 rfl (lv_at hl 0 rfl) ?_
  refine rg_X11_history hx hb hts inX11 hown hK hW q22 dX11_undo_1 ?_
  refine lv_aload_n hx hb dX11_undo_4 rfl (lv_at hl 0 rfl) ?_
  refine rg_X11_meet hx hb hts inX11 hown hK hW q10 dX11_undo_5 ?_
  obtain ⟨v_2, w_3, hq_1, hF⟩ := gC_some hF
  refine g_Vi (As := [.ref (gA X 0 0)]) (rest := []) ⟨hx, hb, hml, hown, hts⟩ hK hW hL hl.1 (gok_c (by decide)) gE_H rfl (c_X3_restoreInto l X w 0 h07 v_2 w_3 hq_1) k167 rfl rfl (Nat.le_of_ble_eq_true rfl) dX11_undo_8 ⟨Nat.le_of_ble_eq_true rfl, Nat.le_of_ble_eq_true rfl⟩ (fun H locs hW hL => ?_)
  exact g_ri hx hb hr hlocks (gW2 hF hW) hL (gI2 hF).1 dX11_undo_11
