abbrev rmX11_next : Room := { frames := 3, cells := 0, slots := 0, locals := 64 }
abbrev wsX11_next : List Cond := gws yX11_next cX11_next 1 (some .int)
set_option maxHeartbeats 4000000 in
set_option maxRecDepth 100000 in
theorem c_X11_next (l : Launch) (X : gX) (w : gWd)  (r : Int32) (w' : gWd) (hF : F_X11_next w = some (r, w')) : Met l yX11_next wsX11_next rmX11_next (gPc X [.ref (gA X 7 0)] w) (gQi X r w') 0 0 (gFr X) := by
  refine g_ofW (cc := cX11_next) (maxL := 1) (ret := (some .int)) (by decide) rfl (Nat.le_of_ble_eq_true rfl) (fun p e s m args below meth c ls H hx hb hr hts hown hlocks hml hK hl hW => ?_)
  have hl : lv_has ls 1 [(0, .ref (gA X 7 0))] := hl
  have hown : s.vm.findClass RX11 = some m.cls := hown
  have hL : gLo X [] := gLo_nil
  show W p l e rmX11_next s m args below meth c H [] 0 0 _ _
  have inX11 : ∀ w ∈ wsX110, w ∈ wsX11_next := fun w h => List.mem_cons_of_mem _ (inlX11 w h)
  have q10 := hts _ (List.mem_cons_of_mem _ wq_X11_10)
  have q22 := hts _ (List.mem_cons_of_mem _ wq_X11_22)
  have k40 : CallW rmX11_next s args RX11 RX3 40 yX3_prepare cX3_prepare 2 none wsX3_prepare rmX3_prepare 0 0 1 := cwV 1 hts (gGoodV (fun w h => List.mem_cons_of_mem _ h) wk_X11_40) rfl rfl rfl (by decide +kernel) ⟨Nat.le_of_ble_eq_true rfl, Nat.le_of_ble_eq_true rfl⟩
  have k50 : CallW rmX11_next s args RX11 RX3 50 yX3_keepUnlessError cX3_keepUnlessError 2 (some .int) wsX3_keepUnlessError rmX3_keepUnlessError 0 0 1 := cwV 1 hts (gGoodV (fun w h => List.mem_cons_of_mem _ h) wk_X11_50) rfl rfl rfl (by decide +kernel) ⟨Nat.le_of_ble_eq_true rfl, Nat.le_of_ble_eq_true rfl⟩
  have k74 : CallB rmX11_next s args RX11 74 yX1_beginNextEvent cX1_beginNextEvent 5 (some .int) wsX1_beginNextEvent rmX1_beginNextEvent 0 0 1 ∧ (Cond.static yX1_beginNextEvent).before args s = true := va_cwS 1 hts (gGoodS (fun w h => List.mem_cons_of_mem _ h) wk_X11_74) rfl rfl rfl (by decide +kernel) ⟨Nat.le_of_ble_eq_true rfl, Nat.le_of_ble_eq_true rfl⟩
  rw [F_X11_next] at hF
  obtain ⟨locs, hlocs⟩ : ∃ locs : List Loc, locs = [] := ⟨_, rfl⟩
  rw [← hlocs] at hL ⊢
  refine lv_aload_n hx hb dX11_next_0 rfl (lv_at hl 0 rfl) ?_
  refine rg_X11_history hx hb hts inX11 hown hK hW q22 dX11_next_1 ?_
  refine lv_aload_n hx hb dX11_next_4 rfl (lv_at hl 0 rfl) ?_
  refine rg_X11_meet hx hb hts inX11 hown hK hW q10 dX11_next_5 ?_
  obtain ⟨w_2, hq_1, hF⟩ := gP_some hF
  refine g_Vv (As := [.ref (gA X 0 0)]) (rest := []) ⟨hx, hb, hml, hown, hts⟩ hK hW hL hl.1 (gok_c (by decide)) gE_H rfl (c_X3_prepare l X w 0 h07 w_2 hq_1) k40 rfl rfl (Nat.le_of_ble_eq_true rfl) dX11_next_8 ⟨Nat.le_of_ble_eq_true rfl, Nat.le_of_ble_eq_true rfl⟩ (fun H locs hW hL => ?_)
  refine lv_aload_n hx hb dX11_next_11 rfl (lv_at hl 0 rfl) ?_
  refine rg_X11_history hx hb hts inX11 hown hK hW q22 dX11_next_12 ?_
  refine lv_aload_n hx hb dX11_next_15 rfl (lv_at hl 0 rfl) ?_
  refine rg_X11_meet hx hb hts inX11 hown hK hW q10 dX11_next_16 ?_
  obtain ⟨v_4, w_5, hq_3, hF⟩ := gC_some hF
  refine g_Si (As := [.ref (gA X 0 0)]) (rest := [.ref (gA X 7 1)]) ⟨hx, hb, hml, hown, hts⟩ hK hW hL hl.1 (c_X1_beginNextEvent l X w_2 0 h07 v_4 w_5 hq_3) k74 rfl rfl (Nat.le_of_ble_eq_true rfl) dX11_next_19 ⟨Nat.le_of_ble_eq_true rfl, Nat.le_of_ble_eq_true rfl⟩ (fun H locs hW hL => ?_)
  obtain ⟨v_7, w_8, hq_6, hF⟩ := gC_some hF
  refine g_Vi (As := [.int v_4]) (rest := []) ⟨hx, hb, hml, hown, hts⟩ hK hW hL hl.1 (gok_c (by decide)) gE_H rfl (c_X3_keepUnlessError l X w_5 v_4 v_7 w_8 hq_6) k50 rfl rfl (Nat.le_of_ble_eq_true rfl) dX11_next_22 ⟨Nat.le_of_ble_eq_true rfl, Nat.le_of_ble_eq_true rfl⟩ (fun H locs hW hL => ?_)
  exact g_ri hx hb hr hlocks (gW2 hF hW) hL (gI2 hF).1 dX11_next_25
abbrev rmX0_aboveZero : Room := { frames := 0, cells := 0, slots := 0, locals := 0 }
abbrev wsX0_aboveZero : List Cond := gws yX0_aboveZero cX0_aboveZero 1 (some .int)
set_option maxHeartbeats 4000000 in
set_option maxRecDepth 100000 in
theorem c_X0_aboveZero (l : Launch) (X : gX) (w : gWd) (x0 : Int32) (r : Int32) (hF : F_X0_aboveZero w x0 = some r) : Met l yX0_aboveZero wsX0_aboveZero rmX0_aboveZero (gPc X [.int x0] w) (gQi X r w) 0 0 (gFr X) := by
  refine g_ofW (cc := cX0_aboveZero) (maxL := 1) (ret := (some .int)) (by decide) rfl (Nat.le_of_ble_eq_true rfl) (fun p e s m args below meth c ls H hx hb hr hts hown hlocks hml hK hl hW => ?_)
  have hl : lv_has ls 1 [(0, .int x0)] := hl
  have hown : s.vm.findClass RX0 = some m.cls := hown
  have hL : gLo X [] := gLo_nil
  show W p l e rmX0_aboveZero s m args below meth c H [] 0 0 _ _
  have q22 := hts _ (List.mem_cons_of_mem _ wq_X0_22)
  rw [F_X0_aboveZero] at hF
  obtain ⟨locs, hlocs⟩ : ∃ locs : List Loc, locs = [] := ⟨_, rfl⟩
  rw [← hlocs] at hL ⊢
  refine lv_iload_n hx hb dX0_aboveZero_0 rfl (lv_at hl 0 rfl) ?_
  refine lv_if_le (tgt := 8) hx hb dX0_aboveZero_1 (by decide) (fun hc_1 => ?_) (fun hc_1 => ?_)
  · replace hF := gT hc_1 hF
    refine lv_ldc hx hb hown q22 dX0_aboveZero_8 ?_
    exact g_ri hx hb hr hlocks hW hL (Option.some.inj hF) dX0_aboveZero_10
  · replace hF := gF hc_1 hF
    refine lv_iload_n hx hb dX0_aboveZero_4 rfl (lv_at hl 0 rfl) ?_
    refine lv_goto (tgt := 10) hx hb dX0_aboveZero_5 (by decide) ?_
    exact g_ri hx hb hr hlocks hW hL (Option.some.inj hF) dX0_aboveZero_10
abbrev rmX0_ofSwimmer : Room := { frames := 3, cells := 0, slots := 0, locals := 65 }
abbrev wsX0_ofSwimmer : List Cond := gws yX0_ofSwimmer cX0_ofSwimmer 3 (some .int)
set_option maxHeartbeats 4000000 in
set_option maxRecDepth 100000 in
theorem c_X0_ofSwimmer (l : Launch) (X : gX) (w : gWd) (i0 : Nat) (hi0 : i0 < 7) (i1 : Nat) (hi1 : i1 < 7) (n1 : Nat) (hn1 : n1 < 30) (x2 : Int32) (r : Int32) (hF : F_X0_ofSwimmer w i0 i1 n1 x2 = some r) : Met l yX0_ofSwimmer wsX0_ofSwimmer rmX0_ofSwimmer (gPc X [.ref (gA X i0 0), .ref (gA X i1 (4 + n1)), .int x2] w) (gQi X r w) 0 0 (gFr X) := by
  refine g_ofW (cc := cX0_ofSwimmer) (maxL := 3) (ret := (some .int)) (by decide) rfl (Nat.le_of_ble_eq_true rfl) (fun p e s m args below meth c ls H hx hb hr hts hown hlocks hml hK hl hW => ?_)
  have hl : lv_has ls 3 [(0, .ref (gA X i0 0)), (1, .ref (gA X i1 (4 + n1))), (2, .int x2)] := hl
  have hown : s.vm.findClass RX0 = some m.cls := hown
  have hL : gLo X [] := gLo_nil
  show W p l e rmX0_ofSwimmer s m args below meth c H [] 0 0 _ _
  have inX10 : ∀ w ∈ wsX100, w ∈ wsX0_ofSwimmer := fun w h => List.mem_cons_of_mem _ (inlX10 w h)
  have q15 := hts _ (List.mem_cons_of_mem _ wq_X0_15)
  have q18 := hts _ (List.mem_cons_of_mem _ wq_X0_18)
  have q22 := hts _ (List.mem_cons_of_mem _ wq_X0_22)
  have q29 := hts _ (List.mem_cons_of_mem _ wq_X0_29)
  have q32 := hts _ (List.mem_cons_of_mem _ wq_X0_32)
  have q41 := hts _ (List.mem_cons_of_mem _ wq_X0_41)
  have q47 := hts _ (List.mem_cons_of_mem _ wq_X0_47)
  have q50 := hts _ (List.mem_cons_of_mem _ wq_X0_50)
  have q53 := hts _ (List.mem_cons_of_mem _ wq_X0_53)
  have q56 := hts _ (List.mem_cons_of_mem _ wq_X0_56)
  have q9 := hts _ (List.mem_cons_of_mem _ wq_X0_9)
  have k23 : CallW rmX0_ofSwimmer s args RX0 RX5 23 yX5_rankByEntry cX5_rankByEntry 4 (some .int) wsX5_rankByEntry rmX5_rankByEntry 0 0 1 := cwV 1 hts (gGoodV (fun w h => List.mem_cons_of_mem _ h) wk_X0_23) rfl rfl rfl (by decide +kernel) ⟨Nat.le_of_ble_eq_true rfl, Nat.le_of_ble_eq_true rfl⟩
  have k35 : CallB rmX0_ofSwimmer s args RX0 35 yX0_aboveZero cX0_aboveZero 1 (some .int) wsX0_aboveZero rmX0_aboveZero 0 0 1 ∧ (Cond.static yX0_aboveZero).before args s = true := va_cwS 1 hts (gGoodS (fun w h => List.mem_cons_of_mem _ h) wk_X0_35) rfl rfl rfl (by decide +kernel) ⟨Nat.le_of_ble_eq_true rfl, Nat.le_of_ble_eq_true rfl⟩
  have k44 : CallW rmX0_ofSwimmer s args RX0 RX5 44 yX5_rankByHeatTime cX5_rankByHeatTime 4 (some .int) wsX5_rankByHeatTime rmX5_rankByHeatTime 0 0 1 := cwV 1 hts (gGoodV (fun w h => List.mem_cons_of_mem _ h) wk_X0_44) rfl rfl rfl (by decide +kernel) ⟨Nat.le_of_ble_eq_true rfl, Nat.le_of_ble_eq_true rfl⟩
  rw [F_X0_ofSwimmer] at hF
  obtain ⟨locs, hlocs⟩ : ∃ locs : List Loc, locs = [] := ⟨_, rfl⟩
  rw [← hlocs] at hL ⊢
  refine lv_iload_n hx hb dX0_ofSwimmer_0 rfl (lv_at hl 2 rfl) ?_
  by_cases hc_1 : x2 = 0
  · replace hF := gT hc_1 hF
    refine lv_tableIn (off := 59) (tgt := 60) hx hb dX0_ofSwimmer_1 (by rw [hc_1]; decide) (by rw [hc_1]; decide) (by rw [hc_1]; rfl) (by decide) ?_
    refine lv_aload_n hx hb dX0_ofSwimmer_60 rfl (lv_at hl 1 rfl) ?_
    refine rg_X10_club hx hb hts inX10 hown hK hW hi1 hn1 q9 dX0_ofSwimmer_61 ?_
    exact g_ri hx hb hr hlocks hW hL (Option.some.inj hF) dX0_ofSwimmer_64
  · replace hF := gF hc_1 hF
    by_cases hc_2 : x2 = 1
    · replace hF := gT hc_2 hF
      refine lv_tableIn (off := 64) (tgt := 65) hx hb dX0_ofSwimmer_1 (by rw [hc_2]; decide) (by rw [hc_2]; decide) (by rw [hc_2]; rfl) (by decide) ?_
      refine lv_aload_n hx hb dX0_ofSwimmer_65 rfl (lv_at hl 1 rfl) ?_
      refine rg_X10_entry hx hb hts inX10 hown hK hW hi1 hn1 q15 dX0_ofSwimmer_66 ?_
      exact g_ri hx hb hr hlocks hW hL (Option.some.inj hF) dX0_ofSwimmer_69
    · replace hF := gF hc_2 hF
      by_cases hc_3 : x2 = 2
      · replace hF := gT hc_3 hF
        refine lv_tableIn (off := 69) (tgt := 70) hx hb dX0_ofSwimmer_1 (by rw [hc_3]; decide) (by rw [hc_3]; decide) (by rw [hc_3]; rfl) (by decide) ?_
        refine lv_aload_n hx hb dX0_ofSwimmer_70 rfl (lv_at hl 1 rfl) ?_
        refine rg_X10_scratched hx hb hts inX10 hown hK hW hi1 hn1 q18 dX0_ofSwimmer_71 ?_
        refine lv_if_eq (tgt := 82) hx hb dX0_ofSwimmer_74 (by decide) (fun hc_4 => ?_) (fun hc_4 => ?_)
        · replace hF := gT hc_4 hF
          refine lv_aload_n hx hb dX0_ofSwimmer_82 rfl (lv_at hl 0 rfl) ?_
          refine lv_aload_n hx hb dX0_ofSwimmer_83 rfl (lv_at hl 1 rfl) ?_
          obtain ⟨v_6, hq_5, hF⟩ := gP_some hF
          refine g_Vi (As := [.ref (gA X i1 (4 + n1))]) (rest := []) ⟨hx, hb, hml, hown, hts⟩ hK hW hL hl.1 (gok_m hi0 (by decide)) (gE_m0 hi0) rfl (c_X5_rankByEntry l X w i0 hi0 i1 hi1 n1 hn1 v_6 hq_5) k23 rfl rfl (Nat.le_of_ble_eq_true rfl) dX0_ofSwimmer_84 ⟨Nat.le_of_ble_eq_true rfl, Nat.le_of_ble_eq_true rfl⟩ (fun H locs hW hL => ?_)
          exact g_ri hx hb hr hlocks hW hL (Option.some.inj hF) dX0_ofSwimmer_87
        · replace hF := gF hc_4 hF
          refine lv_ldc hx hb hown q22 dX0_ofSwimmer_77 ?_
          refine lv_goto (tgt := 87) hx hb dX0_ofSwimmer_79 (by decide) ?_
          exact g_ri hx hb hr hlocks hW hL (Option.some.inj hF) dX0_ofSwimmer_87
      · replace hF := gF hc_3 hF
        by_cases hc_7 : x2 = 3
        · replace hF := gT hc_7 hF
          refine lv_tableIn (off := 87) (tgt := 88) hx hb dX0_ofSwimmer_1 (by rw [hc_7]; decide) (by rw [hc_7]; decide) (by rw [hc_7]; rfl) (by decide) ?_
          refine lv_aload_n hx hb dX0_ofSwimmer_88 rfl (lv_at hl 1 rfl) ?_
          refine rg_X10_heat hx hb hts inX10 hown hK hW hi1 hn1 q29 dX0_ofSwimmer_89 ?_
          refine lv_iconst (v := (-1)) hx hb dX0_ofSwimmer_92 (by decide) ?_
          refine lv_icmp_ne (tgt := 101) hx hb dX0_ofSwimmer_93 (by decide) (fun hc_8 => ?_) (fun hc_8 => ?_)
          · replace hF := gF hc_8 hF
            refine lv_aload_n hx hb dX0_ofSwimmer_101 rfl (lv_at hl 1 rfl) ?_
            refine rg_X10_heat hx hb hts inX10 hown hK hW hi1 hn1 q29 dX0_ofSwimmer_102 ?_
            exact g_ri hx hb hr hlocks hW hL (Option.some.inj hF) dX0_ofSwimmer_105
          · replace hF := gT hc_8 hF
            refine lv_ldc hx hb hown q22 dX0_ofSwimmer_96 ?_
            refine lv_goto (tgt := 105) hx hb dX0_ofSwimmer_98 (by decide) ?_
            exact g_ri hx hb hr hlocks hW hL (Option.some.inj hF) dX0_ofSwimmer_105
        · replace hF := gF hc_7 hF
          by_cases hc_9 : x2 = 4
          · replace hF := gT hc_9 hF
            refine lv_tableIn (off := 105) (tgt := 106) hx hb dX0_ofSwimmer_1 (by rw [hc_9]; decide) (by rw [hc_9]; decide) (by rw [hc_9]; rfl) (by decide) ?_
            refine lv_aload_n hx hb dX0_ofSwimmer_106 rfl (lv_at hl 1 rfl) ?_
            refine rg_X10_heatLane hx hb hts inX10 hown hK hW hi1 hn1 q32 dX0_ofSwimmer_107 ?_
            obtain ⟨v_11, hq_10, hF⟩ := gP_some hF
            refine g_Si (As := [.int (w i1 (4 + n1) 5)]) (rest := []) ⟨hx, hb, hml, hown, hts⟩ hK hW hL hl.1 (c_X0_aboveZero l X w ((w i1 (4 + n1) 5)) v_11 hq_10) k35 rfl rfl (Nat.le_of_ble_eq_true rfl) dX0_ofSwimmer_110 ⟨Nat.le_of_ble_eq_true rfl, Nat.le_of_ble_eq_true rfl⟩ (fun H locs hW hL => ?_)
            exact g_ri hx hb hr hlocks hW hL (Option.some.inj hF) dX0_ofSwimmer_113
          · replace hF := gF hc_9 hF
            by_cases hc_12 : x2 = 5
            · replace hF := gT hc_12 hF
              refine lv_tableIn (off := 113) (tgt := 114) hx hb dX0_ofSwimmer_1 (by rw [hc_12]; decide) (by rw [hc_12]; decide) (by rw [hc_12]; rfl) (by decide) ?_
              refine lv_aload_n hx hb dX0_ofSwimmer_114 rfl (lv_at hl 1 rfl) ?_
              refine rg_X10_heatTime hx hb hts inX10 hown hK hW hi1 hn1 q41 dX0_ofSwimmer_115 ?_
              refine lv_iconst (v := (-1)) hx hb dX0_ofSwimmer_118 (by decide) ?_
              refine lv_icmp_ne (tgt := 127) hx hb dX0_ofSwimmer_119 (by decide) (fun hc_13 => ?_) (fun hc_13 => ?_)
              · replace hF := gF hc_13 hF
                refine lv_aload_n hx hb dX0_ofSwimmer_127 rfl (lv_at hl 1 rfl) ?_
                refine rg_X10_heatTime hx hb hts inX10 hown hK hW hi1 hn1 q41 dX0_ofSwimmer_128 ?_
                exact g_ri hx hb hr hlocks hW hL (Option.some.inj hF) dX0_ofSwimmer_131
              · replace hF := gT hc_13 hF
                refine lv_ldc hx hb hown q22 dX0_ofSwimmer_122 ?_
                refine lv_goto (tgt := 131) hx hb dX0_ofSwimmer_124 (by decide) ?_
                exact g_ri hx hb hr hlocks hW hL (Option.some.inj hF) dX0_ofSwimmer_131
            · replace hF := gF hc_12 hF
              by_cases hc_14 : x2 = 6
              · replace hF := gT hc_14 hF
                refine lv_tableIn (off := 131) (tgt := 132) hx hb dX0_ofSwimmer_1 (by rw [hc_14]; decide) (by rw [hc_14]; decide) (by rw [hc_14]; rfl) (by decide) ?_
                refine lv_aload_n hx hb dX0_ofSwimmer_132 rfl (lv_at hl 1 rfl) ?_
                refine rg_X10_heatTime hx hb hts inX10 hown hK hW hi1 hn1 q41 dX0_ofSwimmer_133 ?_
                refine lv_if_le (tgt := 147) hx hb dX0_ofSwimmer_136 (by decide) (fun hc_15 => ?_) (fun hc_15 => ?_)
                · replace hF := gT hc_15 hF
                  refine lv_ldc hx hb hown q22 dX0_ofSwimmer_147 ?_
                  exact g_ri hx hb hr hlocks hW hL (Option.some.inj hF) dX0_ofSwimmer_149
                · replace hF := gF hc_15 hF
                  refine lv_aload_n hx hb dX0_ofSwimmer_139 rfl (lv_at hl 0 rfl) ?_
                  refine lv_aload_n hx hb dX0_ofSwimmer_140 rfl (lv_at hl 1 rfl) ?_
                  obtain ⟨v_17, hq_16, hF⟩ := gP_some hF
                  refine g_Vi (As := [.ref (gA X i1 (4 + n1))]) (rest := []) ⟨hx, hb, hml, hown, hts⟩ hK hW hL hl.1 (gok_m hi0 (by decide)) (gE_m0 hi0) rfl (c_X5_rankByHeatTime l X w i0 hi0 i1 hi1 n1 hn1 v_17 hq_16) k44 rfl rfl (Nat.le_of_ble_eq_true rfl) dX0_ofSwimmer_141 ⟨Nat.le_of_ble_eq_true rfl, Nat.le_of_ble_eq_true rfl⟩ (fun H locs hW hL => ?_)
                  refine lv_goto (tgt := 149) hx hb dX0_ofSwimmer_144 (by decide) ?_
                  exact g_ri hx hb hr hlocks hW hL (Option.some.inj hF) dX0_ofSwimmer_149
              · replace hF := gF hc_14 hF
                by_cases hc_18 : x2 = 7
                · replace hF := gT hc_18 hF
                  refine lv_tableIn (off := 149) (tgt := 150) hx hb dX0_ofSwimmer_1 (by rw [hc_18]; decide) (by rw [hc_18]; decide) (by rw [hc_18]; rfl) (by decide) ?_
                  refine lv_aload_n hx hb dX0_ofSwimmer_150 rfl (lv_at hl 1 rfl) ?_
                  refine rg_X10_finalLane hx hb hts inX10 hown hK hW hi1 hn1 q47 dX0_ofSwimmer_151 ?_
                  obtain ⟨v_20, hq_19, hF⟩ := gP_some hF
                  refine g_Si (As := [.int (w i1 (4 + n1) 7)]) (rest := []) ⟨hx, hb, hml, hown, hts⟩ hK hW hL hl.1 (c_X0_aboveZero l X w ((w i1 (4 + n1) 7)) v_20 hq_19) k35 rfl rfl (Nat.le_of_ble_eq_true rfl) dX0_ofSwimmer_154 ⟨Nat.le_of_ble_eq_true rfl, Nat.le_of_ble_eq_true rfl⟩ (fun H locs hW hL => ?_)
                  exact g_ri hx hb hr hlocks hW hL (Option.some.inj hF) dX0_ofSwimmer_157
                · replace hF := gF hc_18 hF
                  by_cases hc_21 : x2 = 8
                  · replace hF := gT hc_21 hF
                    refine lv_tableIn (off := 157) (tgt := 158) hx hb dX0_ofSwimmer_1 (by rw [hc_21]; decide) (by rw [hc_21]; decide) (by rw [hc_21]; rfl) (by decide) ?_
                    refine lv_aload_n hx hb dX0_ofSwimmer_158 rfl (lv_at hl 1 rfl) ?_
                    refine rg_X10_finalTime hx hb hts inX10 hown hK hW hi1 hn1 q50 dX0_ofSwimmer_159 ?_
                    refine lv_iconst (v := (-1)) hx hb dX0_ofSwimmer_162 (by decide) ?_
                    refine lv_icmp_ne (tgt := 171) hx hb dX0_ofSwimmer_163 (by decide) (fun hc_22 => ?_) (fun hc_22 => ?_)
                    · replace hF := gF hc_22 hF
                      refine lv_aload_n hx hb dX0_ofSwimmer_171 rfl (lv_at hl 1 rfl) ?_
                      refine rg_X10_finalTime hx hb hts inX10 hown hK hW hi1 hn1 q50 dX0_ofSwimmer_172 ?_
                      exact g_ri hx hb hr hlocks hW hL (Option.some.inj hF) dX0_ofSwimmer_175
                    · replace hF := gT hc_22 hF
                      refine lv_ldc hx hb hown q22 dX0_ofSwimmer_166 ?_
                      refine lv_goto (tgt := 175) hx hb dX0_ofSwimmer_168 (by decide) ?_
                      exact g_ri hx hb hr hlocks hW hL (Option.some.inj hF) dX0_ofSwimmer_175
                  · replace hF := gF hc_21 hF
                    by_cases hc_23 : x2 = 9
                    · replace hF := gT hc_23 hF
                      refine lv_tableIn (off := 175) (tgt := 176) hx hb dX0_ofSwimmer_1 (by rw [hc_23]; decide) (by rw [hc_23]; decide) (by rw [hc_23]; rfl) (by decide) ?_
                      refine lv_aload_n hx hb dX0_ofSwimmer_176 rfl (lv_at hl 1 rfl) ?_
                      refine rg_X10_place hx hb hts inX10 hown hK hW hi1 hn1 q53 dX0_ofSwimmer_177 ?_
                      obtain ⟨v_25, hq_24, hF⟩ := gP_some hF
                      refine g_Si (As := [.int (w i1 (4 + n1) 9)]) (rest := []) ⟨hx, hb, hml, hown, hts⟩ hK hW hL hl.1 (c_X0_aboveZero l X w ((w i1 (4 + n1) 9)) v_25 hq_24) k35 rfl rfl (Nat.le_of_ble_eq_true rfl) dX0_ofSwimmer_180 ⟨Nat.le_of_ble_eq_true rfl, Nat.le_of_ble_eq_true rfl⟩ (fun H locs hW hL => ?_)
                      exact g_ri hx hb hr hlocks hW hL (Option.some.inj hF) dX0_ofSwimmer_183
                    · replace hF := gF hc_23 hF
                      by_cases hc_26 : x2 = 10
                      · replace hF := gT hc_26 hF
                        refine lv_tableIn (off := 183) (tgt := 184) hx hb dX0_ofSwimmer_1 (by rw [hc_26]; decide) (by rw [hc_26]; decide) (by rw [hc_26]; rfl) (by decide) ?_
                        refine lv_aload_n hx hb dX0_ofSwimmer_184 rfl (lv_at hl 1 rfl) ?_
                        refine rg_X10_scratched hx hb hts inX10 hown hK hW hi1 hn1 q18 dX0_ofSwimmer_185 ?_
                        refine lv_if_eq (tgt := 195) hx hb dX0_ofSwimmer_188 (by decide) (fun hc_27 => ?_) (fun hc_27 => ?_)
                        · replace hF := gT hc_27 hF
                          refine lv_iconst (v := 0) hx hb dX0_ofSwimmer_195 (by decide) ?_
                          exact g_ri hx hb hr hlocks hW hL (Option.some.inj hF) dX0_ofSwimmer_196
                        · replace hF := gF hc_27 hF
                          refine lv_iconst (v := 1) hx hb dX0_ofSwimmer_191 (by decide) ?_
                          refine lv_goto (tgt := 196) hx hb dX0_ofSwimmer_192 (by decide) ?_
                          exact g_ri hx hb hr hlocks hW hL (Option.some.inj hF) dX0_ofSwimmer_196
                      · replace hF := gF hc_26 hF
                        refine lv_tableOut (tgt := 197) hx hb dX0_ofSwimmer_1 (g_tabOut (fun k h1 h2 h3 => ?_)) (by decide) ?_
                        · have hk : k = 0 ∨ k = 1 ∨ k = 2 ∨ k = 3 ∨ k = 4 ∨ k = 5 ∨ k = 6 ∨ k = 7 ∨ k = 8 ∨ k = 9 ∨ k = 10 := by omega
                          rcases hk with rfl | rfl | rfl | rfl | rfl | rfl | rfl | rfl | rfl | rfl | rfl
                          · exact hc_1 (Int32.toInt_inj.mp (h3.trans (by decide)))
                          · exact hc_2 (Int32.toInt_inj.mp (h3.trans (by decide)))
                          · exact hc_3 (Int32.toInt_inj.mp (h3.trans (by decide)))
                          · exact hc_7 (Int32.toInt_inj.mp (h3.trans (by decide)))
                          · exact hc_9 (Int32.toInt_inj.mp (h3.trans (by decide)))
                          · exact hc_12 (Int32.toInt_inj.mp (h3.trans (by decide)))
                          · exact hc_14 (Int32.toInt_inj.mp (h3.trans (by decide)))
                          · exact hc_18 (Int32.toInt_inj.mp (h3.trans (by decide)))
                          · exact hc_21 (Int32.toInt_inj.mp (h3.trans (by decide)))
                          · exact hc_23 (Int32.toInt_inj.mp (h3.trans (by decide)))
                          · exact hc_26 (Int32.toInt_inj.mp (h3.trans (by decide)))
                        · skip
                          refine lv_aload_n hx hb dX0_ofSwimmer_197 rfl (lv_at hl 1 rfl) ?_
                          refine rg_X10_brought hx hb hts inX10 hown hK hW hi1 hn1 q56 dX0_ofSwimmer_198 ?_
                          exact g_ri hx hb hr hlocks hW hL (Option.some.inj hF) dX0_ofSwimmer_201
abbrev rmX11_swimmer : Room := { frames := 4, cells := 0, slots := 0, locals := 87 }
abbrev wsX11_swimmer : List Cond := gws yX11_swimmer cX11_swimmer 3 (some .int)
set_option maxHeartbeats 4000000 in
set_option maxRecDepth 100000 in
theorem c_X11_swimmer (l : Launch) (X : gX) (w : gWd) (x1 : Int32) (x2 : Int32) (r : Int32) (hF : F_X11_swimmer w x1 x2 = some r) : Met l yX11_swimmer wsX11_swimmer rmX11_swimmer (gPc X [.ref (gA X 7 0), .int x1, .int x2] w) (gQi X r w) 0 0 (gFr X) := by
  refine g_ofW (cc := cX11_swimmer) (maxL := 3) (ret := (some .int)) (by decide) rfl (Nat.le_of_ble_eq_true rfl) (fun p e s m args below meth c ls H hx hb hr hts hown hlocks hml hK hl hW => ?_)
  have hl : lv_has ls 3 [(0, .ref (gA X 7 0)), (1, .int x1), (2, .int x2)] := hl
  have hown : s.vm.findClass RX11 = some m.cls := hown
  have hL : gLo X [] := gLo_nil
  show W p l e rmX11_swimmer s m args below meth c H [] 0 0 _ _
  have inX11 : ∀ w ∈ wsX110, w ∈ wsX11_swimmer := fun w h => List.mem_cons_of_mem _ (inlX11 w h)
  have inX5 : ∀ w ∈ wsX50, w ∈ wsX11_swimmer := fun w h => List.mem_cons_of_mem _ (inlX5 w h)
  have q10 := hts _ (List.mem_cons_of_mem _ wq_X11_10)
  have q81 := hts _ (List.mem_cons_of_mem _ wq_X11_81)
  have q82 := hts _ (List.mem_cons_of_mem _ wq_X11_82)
  have k77 : CallW rmX11_swimmer s args RX11 RX5 77 yX5_has cX5_has 2 (some .boolean) wsX5_has rmX5_has 0 0 1 := cwV 1 hts (gGoodV (fun w h => List.mem_cons_of_mem _ h) wk_X11_77) rfl rfl rfl (by decide +kernel) ⟨Nat.le_of_ble_eq_true rfl, Nat.le_of_ble_eq_true rfl⟩
  have k86 : CallB rmX11_swimmer s args RX11 86 yX0_ofSwimmer cX0_ofSwimmer 3 (some .int) wsX0_ofSwimmer rmX0_ofSwimmer 0 0 3 ∧ (Cond.static yX0_ofSwimmer).before args s = true := va_cwS 3 hts (gGoodS (fun w h => List.mem_cons_of_mem _ h) wk_X11_86) rfl rfl rfl (by decide +kernel) ⟨Nat.le_of_ble_eq_true rfl, Nat.le_of_ble_eq_true rfl⟩
  rw [F_X11_swimmer] at hF
  obtain ⟨locs, hlocs⟩ : ∃ locs : List Loc, locs = [] := ⟨_, rfl⟩
  rw [← hlocs] at hL ⊢
  refine lv_aload_n hx hb dX11_swimmer_0 rfl (lv_at hl 0 rfl) ?_
  refine rg_X11_meet hx hb hts inX11 hown hK hW q10 dX11_swimmer_1 ?_
  refine lv_iload_n hx hb dX11_swimmer_4 rfl (lv_at hl 1 rfl) ?_
  obtain ⟨v_2, hq_1, hF⟩ := gP_some hF
  refine g_Vi (As := [.int x1]) (rest := []) ⟨hx, hb, hml, hown, hts⟩ hK hW hL hl.1 (gok_m h07 (by decide)) (gE_m0 h07) rfl (c_X5_has l X w 0 h07 x1 v_2 hq_1) k77 rfl rfl (Nat.le_of_ble_eq_true rfl) dX11_swimmer_5 ⟨Nat.le_of_ble_eq_true rfl, Nat.le_of_ble_eq_true rfl⟩ (fun H locs hW hL => ?_)
  refine lv_if_eq (tgt := 21) hx hb dX11_swimmer_8 (by decide) (fun hc_3 => ?_) (fun hc_3 => ?_)
  · replace hF := gT hc_3 hF
    refine lv_ldc hx hb hown q81 dX11_swimmer_21 ?_
    exact g_ri hx hb hr hlocks hW hL (Option.some.inj hF) dX11_swimmer_23
  · replace hF := gF hc_3 hF
    refine lv_iload_n hx hb dX11_swimmer_11 rfl (lv_at hl 2 rfl) ?_
    refine lv_if_lt (tgt := 21) hx hb dX11_swimmer_12 (by decide) (fun hc_4 => ?_) (fun hc_4 => ?_)
    · replace hF := gT hc_4 hF
      refine lv_ldc hx hb hown q81 dX11_swimmer_21 ?_
      exact g_ri hx hb hr hlocks hW hL (Option.some.inj hF) dX11_swimmer_23
    · replace hF := gF hc_4 hF
      refine lv_iload_n hx hb dX11_swimmer_15 rfl (lv_at hl 2 rfl) ?_
      refine lv_bipush (v := 11) hx hb dX11_swimmer_16 (by decide) ?_
      refine lv_icmp_le (tgt := 24) hx hb dX11_swimmer_18 (by decide) (fun hc_5 => ?_) (fun hc_5 => ?_)
      · replace hF := gT hc_5 hF
        refine lv_aload_n hx hb dX11_swimmer_24 rfl (lv_at hl 0 rfl) ?_
        refine rg_X11_meet hx hb hts inX11 hown hK hW q10 dX11_swimmer_25 ?_
        refine lv_aload_n hx hb dX11_swimmer_28 rfl (lv_at hl 0 rfl) ?_
        refine rg_X11_meet hx hb hts inX11 hown hK hW q10 dX11_swimmer_29 ?_
        refine rg_X5_all hx hb hts inX5 hown hK hW h07 q82 dX11_swimmer_32 ?_
        refine lv_iload_n hx hb dX11_swimmer_35 rfl (lv_at hl 1 rfl) ?_
        obtain ⟨hin_6, hF⟩ := gB_some hF
        obtain ⟨k_7, ek_7⟩ : ∃ k, k = Int32.toNatClampNeg x1 := ⟨_, rfl⟩
        rw [← ek_7] at hF
        refine r_all (k := k_7) hx hb hK hW h07 hin_6 ek_7.symm dX11_swimmer_36 ?_
        refine lv_iload_n hx hb dX11_swimmer_37 rfl (lv_at hl 2 rfl) ?_
        obtain ⟨v_9, hq_8, hF⟩ := gP_some hF
        refine g_Si (As := [.ref (gA X 0 0), .ref (gA X 0 (4 + k_7)), .int x2]) (rest := []) ⟨hx, hb, hml, hown, hts⟩ hK hW hL hl.1 (c_X0_ofSwimmer l X w 0 h07 0 h07 k_7 (vp_lt2 hin_6 ek_7.symm) x2 v_9 hq_8) k86 rfl rfl (Nat.le_of_ble_eq_true rfl) dX11_swimmer_38 ⟨Nat.le_of_ble_eq_true rfl, Nat.le_of_ble_eq_true rfl⟩ (fun H locs hW hL => ?_)
        exact g_ri hx hb hr hlocks hW hL (Option.some.inj hF) dX11_swimmer_41
      · replace hF := gF hc_5 hF
        refine lv_ldc hx hb hown q81 dX11_swimmer_21 ?_
        exact g_ri hx hb hr hlocks hW hL (Option.some.inj hF) dX11_swimmer_23
abbrev rmX11_reserve : Room := { frames := 3, cells := 0, slots := 0, locals := 65 }
abbrev wsX11_reserve : List Cond := gws yX11_reserve cX11_reserve 2 (some .int)
set_option maxHeartbeats 4000000 in
set_option maxRecDepth 100000 in
theorem c_X11_reserve (l : Launch) (X : gX) (w : gWd) (x1 : Int32) (r : Int32) (hF : F_X11_reserve w x1 = some r) : Met l yX11_reserve wsX11_reserve rmX11_reserve (gPc X [.ref (gA X 7 0), .int x1] w) (gQi X r w) 0 0 (gFr X) := by
  refine g_ofW (cc := cX11_reserve) (maxL := 2) (ret := (some .int)) (by decide) rfl (Nat.le_of_ble_eq_true rfl) (fun p e s m args below meth c ls H hx hb hr hts hown hlocks hml hK hl hW => ?_)
  have hl : lv_has ls 2 [(0, .ref (gA X 7 0)), (1, .int x1)] := hl
  have hown : s.vm.findClass RX11 = some m.cls := hown
  have hL : gLo X [] := gLo_nil
  show W p l e rmX11_reserve s m args below meth c H [] 0 0 _ _
  have inX11 : ∀ w ∈ wsX110, w ∈ wsX11_reserve := fun w h => List.mem_cons_of_mem _ (inlX11 w h)
  have q10 := hts _ (List.mem_cons_of_mem _ wq_X11_10)
  have q81 := hts _ (List.mem_cons_of_mem _ wq_X11_81)
  have k105 : CallW rmX11_reserve s args RX11 RX5 105 yX5_freeReserve cX5_freeReserve 4 (some .int) wsX5_freeReserve rmX5_freeReserve 0 0 1 := cwV 1 hts (gGoodV (fun w h => List.mem_cons_of_mem _ h) wk_X11_105) rfl rfl rfl (by decide +kernel) ⟨Nat.le_of_ble_eq_true rfl, Nat.le_of_ble_eq_true rfl⟩
  rw [F_X11_reserve] at hF
  obtain ⟨locs, hlocs⟩ : ∃ locs : List Loc, locs = [] := ⟨_, rfl⟩
  rw [← hlocs] at hL ⊢
  refine lv_iload_n hx hb dX11_reserve_0 rfl (lv_at hl 1 rfl) ?_
  refine lv_if_ge (tgt := 9) hx hb dX11_reserve_1 (by decide) (fun hc_1 => ?_) (fun hc_1 => ?_)
  · replace hF := gT hc_1 hF
    refine lv_aload_n hx hb dX11_reserve_9 rfl (lv_at hl 0 rfl) ?_
    refine rg_X11_meet hx hb hts inX11 hown hK hW q10 dX11_reserve_10 ?_
    refine lv_iload_n hx hb dX11_reserve_13 rfl (lv_at hl 1 rfl) ?_
    obtain ⟨v_3, hq_2, hF⟩ := gP_some hF
    refine g_Vi (As := [.int x1]) (rest := []) ⟨hx, hb, hml, hown, hts⟩ hK hW hL hl.1 (gok_m h07 (by decide)) (gE_m0 h07) rfl (c_X5_freeReserve l X w 0 h07 x1 v_3 hq_2) k105 rfl rfl (Nat.le_of_ble_eq_true rfl) dX11_reserve_14 ⟨Nat.le_of_ble_eq_true rfl, Nat.le_of_ble_eq_true rfl⟩ (fun H locs hW hL => ?_)
    exact g_ri hx hb hr hlocks hW hL (Option.some.inj hF) dX11_reserve_17
  · replace hF := gF hc_1 hF
    refine lv_ldc hx hb hown q81 dX11_reserve_4 ?_
    refine lv_goto (tgt := 17) hx hb dX11_reserve_6 (by decide) ?_
    exact g_ri hx hb hr hlocks hW hL (Option.some.inj hF) dX11_reserve_17
abbrev rmX8_ofClub : Room := { frames := 0, cells := 0, slots := 0, locals := 0 }
abbrev wsX8_ofClub : List Cond := gws yX8_ofClub cX8_ofClub 4 (some .int)
set_option maxHeartbeats 4000000 in
set_option maxRecDepth 100000 in
theorem c_X8_ofClub (l : Launch) (X : gX) (w : gWd) (i0 : Nat) (hi0 : i0 < 7) (x1 : Int32) (r : Int32) (hF : F_X8_ofClub w i0 x1 = some r) : Met l yX8_ofClub wsX8_ofClub rmX8_ofClub (gPc X [.ref (gA X i0 0), .int x1] w) (gQi X r w) 0 0 (gFr X) := by
  refine g_ofW (cc := cX8_ofClub) (maxL := 4) (ret := (some .int)) (by decide) rfl (Nat.le_of_ble_eq_true rfl) (fun p e s m args below meth c ls H hx hb hr hts hown hlocks hml hK hl hW => ?_)
  have hl : lv_has ls 4 [(0, .ref (gA X i0 0)), (1, .int x1)] := hl
  have hown : s.vm.findClass RX8 = some m.cls := hown
  have hL : gLo X [] := gLo_nil
  show W p l e rmX8_ofClub s m args below meth c H [] 0 0 _ _
  have inX5 : ∀ w ∈ wsX50, w ∈ wsX8_ofClub := fun w h => List.mem_cons_of_mem _ (inlX5 w h)
  have inX10 : ∀ w ∈ wsX100, w ∈ wsX8_ofClub := fun w h => List.mem_cons_of_mem _ (inlX10 w h)
  have q24 := hts _ (List.mem_cons_of_mem _ wq_X8_24)
  have q37 := hts _ (List.mem_cons_of_mem _ wq_X8_37)
  have q40 := hts _ (List.mem_cons_of_mem _ wq_X8_40)
  have q44 := hts _ (List.mem_cons_of_mem _ wq_X8_44)
  have L_4 : ∀ (fu : Nat) (i0 : Nat) (x1 : Int32) (x2 : Int32) (x3 : Int32) (hi0 : i0 < 7) (ls : Array Slot) (hl : lv_has ls 4 [(0, .ref (gA X i0 0)), (1, .int x1), (2, .int x2), (3, .int x3)]) (hF : F_X8_ofClub_4 fu w i0 x1 x2 x3 = some r) (H : Heap) (locs : List Loc) (hW : gWo X 252 (gE X w) H) (hL : gLo X locs), W p l e rmX8_ofClub s m args below meth c H locs 0 0 (MQ below (gQi X r w) args s 0 0 (gFr X)) (F0 m 4 ls []) := by
    intro fu
    induction fu with
    | zero => intro i0 x1 x2 x3 hi0 ls hl hF H locs hW hL; rw [F_X8_ofClub_4_z] at hF; cases hF
    | succ fu4 ih4 =>
      intro i0 x1 x2 x3 hi0 ls hl hF H locs hW hL
      rw [F_X8_ofClub_4_s] at hF
      refine lv_iload_n hx hb dX8_ofClub_4 rfl (lv_at hl 3 rfl) ?_
      refine lv_aload_n hx hb dX8_ofClub_5 rfl (lv_at hl 0 rfl) ?_
      refine rg_X5_size hx hb hts inX5 hown hK hW hi0 q37 dX8_ofClub_6 ?_
      refine lv_icmp_ge (tgt := 43) hx hb dX8_ofClub_9 (by decide) (fun hc_1 => ?_) (fun hc_1 => ?_)
      · replace hF := gT hc_1 hF
        refine lv_iload_n hx hb dX8_ofClub_43 rfl (lv_at hl 2 rfl) ?_
        exact g_ri hx hb hr hlocks hW hL (Option.some.inj hF) dX8_ofClub_44
      · replace hF := gF hc_1 hF
        refine lv_aload_n hx hb dX8_ofClub_12 rfl (lv_at hl 0 rfl) ?_
        refine rg_X5_all hx hb hts inX5 hown hK hW hi0 q40 dX8_ofClub_13 ?_
        refine lv_iload_n hx hb dX8_ofClub_16 rfl (lv_at hl 3 rfl) ?_
        obtain ⟨hin_2, hF⟩ := gB_some hF
        obtain ⟨k_3, ek_3⟩ : ∃ k, k = Int32.toNatClampNeg x3 := ⟨_, rfl⟩
        rw [← ek_3] at hF
        refine r_all (k := k_3) hx hb hK hW hi0 hin_2 ek_3.symm dX8_ofClub_17 ?_
        refine rg_X10_club hx hb hts inX10 hown hK hW hi0 (vp_lt2 hin_2 ek_3.symm) q44 dX8_ofClub_18 ?_
        refine lv_iload_n hx hb dX8_ofClub_21 rfl (lv_at hl 1 rfl) ?_
        refine lv_icmp_ne (tgt := 37) hx hb dX8_ofClub_22 (by decide) (fun hc_4 => ?_) (fun hc_4 => ?_)
        · replace hF := gF hc_4 hF
          obtain ⟨x3_5, ex3_5, hF⟩ := gS_some hF
          refine lv_iinc (v := x3_5) (lv' := [(3, .int x3_5), (0, .ref (gA X i0 0)), (1, .int x1), (2, .int x2)]) hx hb dX8_ofClub_37 hl (k := 3) rfl (by rw [ex3_5]; rfl) (by decide) rfl (fun ls hl => ?_)
          refine lv_goto (tgt := 4) hx hb dX8_ofClub_40 (by decide) ?_
          exact ih4 i0 x1 x2 x3_5 hi0 ls (lv_sub hl [1, 2, 3, 0] rfl) hF H locs hW hL
        · replace hF := gT hc_4 hF
          refine lv_iload_n hx hb dX8_ofClub_25 rfl (lv_at hl 2 rfl) ?_
          refine lv_aload_n hx hb dX8_ofClub_26 rfl (lv_at hl 0 rfl) ?_
          refine rg_X5_all hx hb hts inX5 hown hK hW hi0 q40 dX8_ofClub_27 ?_
          refine lv_iload_n hx hb dX8_ofClub_30 rfl (lv_at hl 3 rfl) ?_
          obtain ⟨hin_6, hF⟩ := gB_some hF
          obtain ⟨k_7, ek_7⟩ : ∃ k, k = Int32.toNatClampNeg x3 := ⟨_, rfl⟩
          rw [← ek_7] at hF
          refine r_all (k := k_7) hx hb hK hW hi0 hin_6 ek_7.symm dX8_ofClub_31 ?_
          refine rg_X10_brought hx hb hts inX10 hown hK hW hi0 (vp_lt2 hin_6 ek_7.symm) q24 dX8_ofClub_32 ?_
          refine lv_iadd hx hb dX8_ofClub_35 ?_
          obtain ⟨x2_8, ex2_8, hF⟩ := gS_some hF
          refine g_top ex2_8 ?_
          refine lv_istore_n (lv' := [(2, .int x2_8), (0, .ref (gA X i0 0)), (1, .int x1), (3, .int x3)]) hx hb dX8_ofClub_36 rfl hl (by decide) rfl (fun ls hl => ?_)
          obtain ⟨x3_9, ex3_9, hF⟩ := gS_some hF
          refine lv_iinc (v := x3_9) (lv' := [(3, .int x3_9), (2, .int x2_8), (0, .ref (gA X i0 0)), (1, .int x1)]) hx hb dX8_ofClub_37 hl (k := 3) rfl (by rw [ex3_9]; rfl) (by decide) rfl (fun ls hl => ?_)
          refine lv_goto (tgt := 4) hx hb dX8_ofClub_40 (by decide) ?_
          exact ih4 i0 x1 x2_8 x3_9 hi0 ls (lv_sub hl [2, 3, 1, 0] rfl) hF H locs hW hL
  rw [F_X8_ofClub] at hF
  obtain ⟨locs, hlocs⟩ : ∃ locs : List Loc, locs = [] := ⟨_, rfl⟩
  rw [← hlocs] at hL ⊢
  refine lv_iconst (v := 0) hx hb dX8_ofClub_0 (by decide) ?_
  refine lv_istore_n (lv' := [(2, .int 0), (0, .ref (gA X i0 0)), (1, .int x1)]) hx hb dX8_ofClub_1 rfl hl (by decide) rfl (fun ls hl => ?_)
  refine lv_iconst (v := 0) hx hb dX8_ofClub_2 (by decide) ?_
  refine lv_istore_n (lv' := [(3, .int 0), (2, .int 0), (0, .ref (gA X i0 0)), (1, .int x1)]) hx hb dX8_ofClub_3 rfl hl (by decide) rfl (fun ls hl => ?_)
  exact L_4 gFU i0 x1 0 0 hi0 ls (lv_sub hl [2, 3, 1, 0] rfl) hF H locs hW hL
abbrev rmX11_points : Room := { frames := 1, cells := 0, slots := 0, locals := 23 }
abbrev wsX11_points : List Cond := gws yX11_points cX11_points 2 (some .int)
set_option maxHeartbeats 4000000 in
set_option maxRecDepth 100000 in
theorem c_X11_points (l : Launch) (X : gX) (w : gWd) (x1 : Int32) (r : Int32) (hF : F_X11_points w x1 = some r) : Met l yX11_points wsX11_points rmX11_points (gPc X [.ref (gA X 7 0), .int x1] w) (gQi X r w) 0 0 (gFr X) := by
  refine g_ofW (cc := cX11_points) (maxL := 2) (ret := (some .int)) (by decide) rfl (Nat.le_of_ble_eq_true rfl) (fun p e s m args below meth c ls H hx hb hr hts hown hlocks hml hK hl hW => ?_)
  have hl : lv_has ls 2 [(0, .ref (gA X 7 0)), (1, .int x1)] := hl
  have hown : s.vm.findClass RX11 = some m.cls := hown
  have hL : gLo X [] := gLo_nil
  show W p l e rmX11_points s m args below meth c H [] 0 0 _ _
  have inX11 : ∀ w ∈ wsX110, w ∈ wsX11_points := fun w h => List.mem_cons_of_mem _ (inlX11 w h)
  have q10 := hts _ (List.mem_cons_of_mem _ wq_X11_10)
  have q81 := hts _ (List.mem_cons_of_mem _ wq_X11_81)
  have k108 : CallB rmX11_points s args RX11 108 yX8_ofClub cX8_ofClub 4 (some .int) wsX8_ofClub rmX8_ofClub 0 0 2 ∧ (Cond.static yX8_ofClub).before args s = true := va_cwS 2 hts (gGoodS (fun w h => List.mem_cons_of_mem _ h) wk_X11_108) rfl rfl rfl (by decide +kernel) ⟨Nat.le_of_ble_eq_true rfl, Nat.le_of_ble_eq_true rfl⟩
  have B_10 : ∀   (ls : Array Slot) (hl : lv_has ls 2 []) (hF : F_X11_points_10 w = some r) (H : Heap) (locs : List Loc) (hW : gWo X 252 (gE X w) H) (hL : gLo X locs), W p l e rmX11_points s m args below meth c H locs 0 0 (MQ below (gQi X r w) args s 0 0 (gFr X)) (F0 m 10 ls []) := by
    intro ls hl hF H locs hW hL
    rw [F_X11_points_10] at hF
    refine lv_ldc hx hb hown q81 dX11_points_10 ?_
    refine lv_goto (tgt := 23) hx hb dX11_points_12 (by decide) ?_
    exact g_ri hx hb hr hlocks hW hL (Option.some.inj hF) dX11_points_23
  rw [F_X11_points] at hF
  obtain ⟨locs, hlocs⟩ : ∃ locs : List Loc, locs = [] := ⟨_, rfl⟩
  rw [← hlocs] at hL ⊢
  refine lv_iload_n hx hb dX11_points_0 rfl (lv_at hl 1 rfl) ?_
  refine lv_if_lt (tgt := 10) hx hb dX11_points_1 (by decide) (fun hc_1 => ?_) (fun hc_1 => ?_)
  · replace hF := gT hc_1 hF
    exact B_10  ls (lv_sub hl [] rfl) hF H locs hW hL
  · replace hF := gF hc_1 hF
    refine lv_iload_n hx hb dX11_points_4 rfl (lv_at hl 1 rfl) ?_
    refine lv_bipush (v := 6) hx hb dX11_points_5 (by decide) ?_
    refine lv_icmp_lt (tgt := 15) hx hb dX11_points_7 (by decide) (fun hc_2 => ?_) (fun hc_2 => ?_)
    · replace hF := gT hc_2 hF
      refine lv_aload_n hx hb dX11_points_15 rfl (lv_at hl 0 rfl) ?_
      refine rg_X11_meet hx hb hts inX11 hown hK hW q10 dX11_points_16 ?_
      refine lv_iload_n hx hb dX11_points_19 rfl (lv_at hl 1 rfl) ?_
      obtain ⟨v_4, hq_3, hF⟩ := gP_some hF
      refine g_Si (As := [.ref (gA X 0 0), .int x1]) (rest := []) ⟨hx, hb, hml, hown, hts⟩ hK hW hL hl.1 (c_X8_ofClub l X w 0 h07 x1 v_4 hq_3) k108 rfl rfl (Nat.le_of_ble_eq_true rfl) dX11_points_20 ⟨Nat.le_of_ble_eq_true rfl, Nat.le_of_ble_eq_true rfl⟩ (fun H locs hW hL => ?_)
      exact g_ri hx hb hr hlocks hW hL (Option.some.inj hF) dX11_points_23
    · replace hF := gF hc_2 hF
      exact B_10  ls (lv_sub hl [] rfl) hF H locs hW hL
abbrev rmX11_why : Room := { frames := 4, cells := 0, slots := 0, locals := 85 }
abbrev wsX11_why : List Cond := gws yX11_why cX11_why 1 (some .int)
set_option maxHeartbeats 4000000 in
set_option maxRecDepth 100000 in
theorem c_X11_why (l : Launch) (X : gX) (w : gWd)  (r : Int32) (hF : F_X11_why w = some r) : Met l yX11_why wsX11_why rmX11_why (gPc X [.ref (gA X 7 0)] w) (gQi X r w) 0 0 (gFr X) := by
  refine g_ofW (cc := cX11_why) (maxL := 1) (ret := (some .int)) (by decide) rfl (Nat.le_of_ble_eq_true rfl) (fun p e s m args below meth c ls H hx hb hr hts hown hlocks hml hK hl hW => ?_)
  have hl : lv_has ls 1 [(0, .ref (gA X 7 0))] := hl
  have hown : s.vm.findClass RX11 = some m.cls := hown
  have hL : gLo X [] := gLo_nil
  show W p l e rmX11_why s m args below meth c H [] 0 0 _ _
  have inX11 : ∀ w ∈ wsX110, w ∈ wsX11_why := fun w h => List.mem_cons_of_mem _ (inlX11 w h)
  have q10 := hts _ (List.mem_cons_of_mem _ wq_X11_10)
  have k142 : CallW rmX11_why s args RX11 RX5 142 yX5_reasonToWait cX5_reasonToWait 1 (some .int) wsX5_reasonToWait rmX5_reasonToWait 0 0 0 := cwV 0 hts (gGoodV (fun w h => List.mem_cons_of_mem _ h) wk_X11_142) rfl rfl rfl (by decide +kernel) ⟨Nat.le_of_ble_eq_true rfl, Nat.le_of_ble_eq_true rfl⟩
  rw [F_X11_why] at hF
  obtain ⟨locs, hlocs⟩ : ∃ locs : List Loc, locs = [] := ⟨_, rfl⟩
  rw [← hlocs] at hL ⊢
  refine lv_aload_n hx hb dX11_why_0 rfl (lv_at hl 0 rfl) ?_
  refine rg_X11_meet hx hb hts inX11 hown hK hW q10 dX11_why_1 ?_
  obtain ⟨v_2, hq_1, hF⟩ := gP_some hF
  refine g_Vi (As := []) (rest := []) ⟨hx, hb, hml, hown, hts⟩ hK hW hL hl.1 (gok_m h07 (by decide)) (gE_m0 h07) rfl (c_X5_reasonToWait l X w 0 h07 v_2 hq_1) k142 rfl rfl (Nat.le_of_ble_eq_true rfl) dX11_why_4 ⟨Nat.le_of_ble_eq_true rfl, Nat.le_of_ble_eq_true rfl⟩ (fun H locs hW hL => ?_)
  exact g_ri hx hb hr hlocks hW hL (Option.some.inj hF) dX11_why_7
abbrev rmX11_missing : Room := { frames := 2, cells := 0, slots := 0, locals := 44 }
abbrev wsX11_missing : List Cond := gws yX11_missing cX11_missing 2 (some .int)
set_option maxHeartbeats 4000000 in
set_option maxRecDepth 100000 in
theorem c_X11_missing (l : Launch) (X : gX) (w : gWd) (x1 : Int32) (r : Int32) (hF : F_X11_missing w x1 = some r) : Met l yX11_missing wsX11_missing rmX11_missing (gPc X [.ref (gA X 7 0), .int x1] w) (gQi X r w) 0 0 (gFr X) := by
  refine g_ofW (cc := cX11_missing) (maxL := 2) (ret := (some .int)) (by decide) rfl (Nat.le_of_ble_eq_true rfl) (fun p e s m args below meth c ls H hx hb hr hts hown hlocks hml hK hl hW => ?_)
  have hl : lv_has ls 2 [(0, .ref (gA X 7 0)), (1, .int x1)] := hl
  have hown : s.vm.findClass RX11 = some m.cls := hown
  have hL : gLo X [] := gLo_nil
  show W p l e rmX11_missing s m args below meth c H [] 0 0 _ _
  have inX11 : ∀ w ∈ wsX110, w ∈ wsX11_missing := fun w h => List.mem_cons_of_mem _ (inlX11 w h)
  have q10 := hts _ (List.mem_cons_of_mem _ wq_X11_10)
  have q81 := hts _ (List.mem_cons_of_mem _ wq_X11_81)
  have k145 : CallW rmX11_missing s args RX11 RX5 145 yX5_stillToSwim cX5_stillToSwim 4 (some .int) wsX5_stillToSwim rmX5_stillToSwim 0 0 1 := cwV 1 hts (gGoodV (fun w h => List.mem_cons_of_mem _ h) wk_X11_145) rfl rfl rfl (by decide +kernel) ⟨Nat.le_of_ble_eq_true rfl, Nat.le_of_ble_eq_true rfl⟩
  rw [F_X11_missing] at hF
  obtain ⟨locs, hlocs⟩ : ∃ locs : List Loc, locs = [] := ⟨_, rfl⟩
  rw [← hlocs] at hL ⊢
  refine lv_iload_n hx hb dX11_missing_0 rfl (lv_at hl 1 rfl) ?_
  refine lv_if_ge (tgt := 9) hx hb dX11_missing_1 (by decide) (fun hc_1 => ?_) (fun hc_1 => ?_)
  · replace hF := gT hc_1 hF
    refine lv_aload_n hx hb dX11_missing_9 rfl (lv_at hl 0 rfl) ?_
    refine rg_X11_meet hx hb hts inX11 hown hK hW q10 dX11_missing_10 ?_
    refine lv_iload_n hx hb dX11_missing_13 rfl (lv_at hl 1 rfl) ?_
    obtain ⟨v_3, hq_2, hF⟩ := gP_some hF
    refine g_Vi (As := [.int x1]) (rest := []) ⟨hx, hb, hml, hown, hts⟩ hK hW hL hl.1 (gok_m h07 (by decide)) (gE_m0 h07) rfl (c_X5_stillToSwim l X w 0 h07 x1 v_3 hq_2) k145 rfl rfl (Nat.le_of_ble_eq_true rfl) dX11_missing_14 ⟨Nat.le_of_ble_eq_true rfl, Nat.le_of_ble_eq_true rfl⟩ (fun H locs hW hL => ?_)
    exact g_ri hx hb hr hlocks hW hL (Option.some.inj hF) dX11_missing_17
  · replace hF := gF hc_1 hF
    refine lv_ldc hx hb hown q81 dX11_missing_4 ?_
    refine lv_goto (tgt := 17) hx hb dX11_missing_6 (by decide) ?_
    exact g_ri hx hb hr hlocks hW hL (Option.some.inj hF) dX11_missing_17
abbrev rmX0_freeReserves : Room := { frames := 3, cells := 0, slots := 0, locals := 65 }
abbrev wsX0_freeReserves : List Cond := gws yX0_freeReserves cX0_freeReserves 2 (some .int)
set_option maxHeartbeats 4000000 in
set_option maxRecDepth 100000 in
theorem c_X0_freeReserves (l : Launch) (X : gX) (w : gWd) (i0 : Nat) (hi0 : i0 < 7) (r : Int32) (hF : F_X0_freeReserves w i0 = some r) : Met l yX0_freeReserves wsX0_freeReserves rmX0_freeReserves (gPc X [.ref (gA X i0 0)] w) (gQi X r w) 0 0 (gFr X) := by
  refine g_ofW (cc := cX0_freeReserves) (maxL := 2) (ret := (some .int)) (by decide) rfl (Nat.le_of_ble_eq_true rfl) (fun p e s m args below meth c ls H hx hb hr hts hown hlocks hml hK hl hW => ?_)
  have hl : lv_has ls 2 [(0, .ref (gA X i0 0))] := hl
  have hown : s.vm.findClass RX0 = some m.cls := hown
  have hL : gLo X [] := gLo_nil
  show W p l e rmX0_freeReserves s m args below meth c H [] 0 0 _ _
  have q22 := hts _ (List.mem_cons_of_mem _ wq_X0_22)
  have k136 : CallW rmX0_freeReserves s args RX0 RX5 136 yX5_freeReserve cX5_freeReserve 4 (some .int) wsX5_freeReserve rmX5_freeReserve 0 0 1 := cwV 1 hts (gGoodV (fun w h => List.mem_cons_of_mem _ h) wk_X0_136) rfl rfl rfl (by decide +kernel) ⟨Nat.le_of_ble_eq_true rfl, Nat.le_of_ble_eq_true rfl⟩
  have L_2 : ∀ (fu : Nat) (i0 : Nat) (x1 : Int32) (hi0 : i0 < 7) (ls : Array Slot) (hl : lv_has ls 2 [(0, .ref (gA X i0 0)), (1, .int x1)]) (hF : F_X0_freeReserves_2 fu w i0 x1 = some r) (H : Heap) (locs : List Loc) (hW : gWo X 252 (gE X w) H) (hL : gLo X locs), W p l e rmX0_freeReserves s m args below meth c H locs 0 0 (MQ below (gQi X r w) args s 0 0 (gFr X)) (F0 m 2 ls []) := by
    intro fu
    induction fu with
    | zero => intro i0 x1 hi0 ls hl hF H locs hW hL; rw [F_X0_freeReserves_2_z] at hF; cases hF
    | succ fu2 ih2 =>
      intro i0 x1 hi0 ls hl hF H locs hW hL
      rw [F_X0_freeReserves_2_s] at hF
      refine lv_iload_n hx hb dX0_freeReserves_2 rfl (lv_at hl 1 rfl) ?_
      refine lv_iconst (v := 4) hx hb dX0_freeReserves_3 (by decide) ?_
      refine lv_icmp_ge (tgt := 23) hx hb dX0_freeReserves_4 (by decide) (fun hc_1 => ?_) (fun hc_1 => ?_)
      · replace hF := gT hc_1 hF
        refine lv_iload_n hx hb dX0_freeReserves_23 rfl (lv_at hl 1 rfl) ?_
        exact g_ri hx hb hr hlocks hW hL (Option.some.inj hF) dX0_freeReserves_24
      · replace hF := gF hc_1 hF
        refine lv_aload_n hx hb dX0_freeReserves_7 rfl (lv_at hl 0 rfl) ?_
        refine lv_iload_n hx hb dX0_freeReserves_8 rfl (lv_at hl 1 rfl) ?_
        obtain ⟨v_3, hq_2, hF⟩ := gP_some hF
        refine g_Vi (As := [.int x1]) (rest := []) ⟨hx, hb, hml, hown, hts⟩ hK hW hL hl.1 (gok_m hi0 (by decide)) (gE_m0 hi0) rfl (c_X5_freeReserve l X w i0 hi0 x1 v_3 hq_2) k136 rfl rfl (Nat.le_of_ble_eq_true rfl) dX0_freeReserves_9 ⟨Nat.le_of_ble_eq_true rfl, Nat.le_of_ble_eq_true rfl⟩ (fun H locs hW hL => ?_)
        refine lv_ldc hx hb hown q22 dX0_freeReserves_12 ?_
        refine lv_icmp_eq (tgt := 23) hx hb dX0_freeReserves_14 (by decide) (fun hc_4 => ?_) (fun hc_4 => ?_)
        · replace hF := gT hc_4 hF
          refine lv_iload_n hx hb dX0_freeReserves_23 rfl (lv_at hl 1 rfl) ?_
          exact g_ri hx hb hr hlocks hW hL (Option.some.inj hF) dX0_freeReserves_24
        · replace hF := gF hc_4 hF
          obtain ⟨x1_5, ex1_5, hF⟩ := gS_some hF
          refine lv_iinc (v := x1_5) (lv' := [(1, .int x1_5), (0, .ref (gA X i0 0))]) hx hb dX0_freeReserves_17 hl (k := 1) rfl (by rw [ex1_5]; rfl) (by decide) rfl (fun ls hl => ?_)
          refine lv_goto (tgt := 2) hx hb dX0_freeReserves_20 (by decide) ?_
          exact ih2 i0 x1_5 hi0 ls (lv_sub hl [1, 0] rfl) hF H locs hW hL
  rw [F_X0_freeReserves] at hF
  obtain ⟨locs, hlocs⟩ : ∃ locs : List Loc, locs = [] := ⟨_, rfl⟩
  rw [← hlocs] at hL ⊢
  refine lv_iconst (v := 0) hx hb dX0_freeReserves_0 (by decide) ?_
  refine lv_istore_n (lv' := [(1, .int 0), (0, .ref (gA X i0 0))]) hx hb dX0_freeReserves_1 rfl hl (by decide) rfl (fun ls hl => ?_)
  exact L_2 gFU i0 0 hi0 ls (lv_sub hl [1, 0] rfl) hF H locs hW hL
abbrev rmX0_scratchedSet : Room := { frames := 0, cells := 0, slots := 0, locals := 0 }
abbrev wsX0_scratchedSet : List Cond := gws yX0_scratchedSet cX0_scratchedSet 3 (some .int)
set_option maxHeartbeats 4000000 in
set_option maxRecDepth 100000 in
theorem c_X0_scratchedSet (l : Launch) (X : gX) (w : gWd) (i0 : Nat) (hi0 : i0 < 7) (r : Int32) (hF : F_X0_scratchedSet w i0 = some r) : Met l yX0_scratchedSet wsX0_scratchedSet rmX0_scratchedSet (gPc X [.ref (gA X i0 0)] w) (gQi X r w) 0 0 (gFr X) := by
  refine g_ofW (cc := cX0_scratchedSet) (maxL := 3) (ret := (some .int)) (by decide) rfl (Nat.le_of_ble_eq_true rfl) (fun p e s m args below meth c ls H hx hb hr hts hown hlocks hml hK hl hW => ?_)
  have hl : lv_has ls 3 [(0, .ref (gA X i0 0))] := hl
  have hown : s.vm.findClass RX0 = some m.cls := hown
  have hL : gLo X [] := gLo_nil
  show W p l e rmX0_scratchedSet s m args below meth c H [] 0 0 _ _
  have inX5 : ∀ w ∈ wsX50, w ∈ wsX0_scratchedSet := fun w h => List.mem_cons_of_mem _ (inlX5 w h)
  have inX10 : ∀ w ∈ wsX100, w ∈ wsX0_scratchedSet := fun w h => List.mem_cons_of_mem _ (inlX10 w h)
  have q18 := hts _ (List.mem_cons_of_mem _ wq_X0_18)
  have q59 := hts _ (List.mem_cons_of_mem _ wq_X0_59)
  have q62 := hts _ (List.mem_cons_of_mem _ wq_X0_62)
  have L_4 : ∀ (fu : Nat) (i0 : Nat) (x1 : Int32) (x2 : Int32) (hi0 : i0 < 7) (ls : Array Slot) (hl : lv_has ls 3 [(0, .ref (gA X i0 0)), (1, .int x1), (2, .int x2)]) (hF : F_X0_scratchedSet_4 fu w i0 x1 x2 = some r) (H : Heap) (locs : List Loc) (hW : gWo X 252 (gE X w) H) (hL : gLo X locs), W p l e rmX0_scratchedSet s m args below meth c H locs 0 0 (MQ below (gQi X r w) args s 0 0 (gFr X)) (F0 m 4 ls []) := by
    intro fu
    induction fu with
    | zero => intro i0 x1 x2 hi0 ls hl hF H locs hW hL; rw [F_X0_scratchedSet_4_z] at hF; cases hF
    | succ fu4 ih4 =>
      intro i0 x1 x2 hi0 ls hl hF H locs hW hL
      rw [F_X0_scratchedSet_4_s] at hF
      refine lv_iload_n hx hb dX0_scratchedSet_4 rfl (lv_at hl 2 rfl) ?_
      refine lv_aload_n hx hb dX0_scratchedSet_5 rfl (lv_at hl 0 rfl) ?_
      refine rg_X5_size hx hb hts inX5 hown hK hW hi0 q59 dX0_scratchedSet_6 ?_
      refine lv_icmp_ge (tgt := 36) hx hb dX0_scratchedSet_9 (by decide) (fun hc_1 => ?_) (fun hc_1 => ?_)
      · replace hF := gT hc_1 hF
        refine lv_iload_n hx hb dX0_scratchedSet_36 rfl (lv_at hl 1 rfl) ?_
        exact g_ri hx hb hr hlocks hW hL (Option.some.inj hF) dX0_scratchedSet_37
      · replace hF := gF hc_1 hF
        refine lv_aload_n hx hb dX0_scratchedSet_12 rfl (lv_at hl 0 rfl) ?_
        refine rg_X5_all hx hb hts inX5 hown hK hW hi0 q62 dX0_scratchedSet_13 ?_
        refine lv_iload_n hx hb dX0_scratchedSet_16 rfl (lv_at hl 2 rfl) ?_
        obtain ⟨hin_2, hF⟩ := gB_some hF
        obtain ⟨k_3, ek_3⟩ : ∃ k, k = Int32.toNatClampNeg x2 := ⟨_, rfl⟩
        rw [← ek_3] at hF
        refine r_all (k := k_3) hx hb hK hW hi0 hin_2 ek_3.symm dX0_scratchedSet_17 ?_
        refine rg_X10_scratched hx hb hts inX10 hown hK hW hi0 (vp_lt2 hin_2 ek_3.symm) q18 dX0_scratchedSet_18 ?_
        refine lv_if_eq (tgt := 30) hx hb dX0_scratchedSet_21 (by decide) (fun hc_4 => ?_) (fun hc_4 => ?_)
        · replace hF := gT hc_4 hF
          obtain ⟨x2_5, ex2_5, hF⟩ := gS_some hF
          refine lv_iinc (v := x2_5) (lv' := [(2, .int x2_5), (0, .ref (gA X i0 0)), (1, .int x1)]) hx hb dX0_scratchedSet_30 hl (k := 2) rfl (by rw [ex2_5]; rfl) (by decide) rfl (fun ls hl => ?_)
          refine lv_goto (tgt := 4) hx hb dX0_scratchedSet_33 (by decide) ?_
          exact ih4 i0 x1 x2_5 hi0 ls (lv_sub hl [1, 2, 0] rfl) hF H locs hW hL
        · replace hF := gF hc_4 hF
          refine lv_iload_n hx hb dX0_scratchedSet_24 rfl (lv_at hl 1 rfl) ?_
          refine lv_iconst (v := 1) hx hb dX0_scratchedSet_25 (by decide) ?_
          refine lv_iload_n hx hb dX0_scratchedSet_26 rfl (lv_at hl 2 rfl) ?_
          refine lv_ishl hx hb dX0_scratchedSet_27 ?_
          refine lv_ior hx hb dX0_scratchedSet_28 ?_
          obtain ⟨x1_6, ex1_6, hF⟩ := gS_some hF
          refine g_top ex1_6 ?_
          refine lv_istore_n (lv' := [(1, .int x1_6), (0, .ref (gA X i0 0)), (2, .int x2)]) hx hb dX0_scratchedSet_29 rfl hl (by decide) rfl (fun ls hl => ?_)
          obtain ⟨x2_7, ex2_7, hF⟩ := gS_some hF
          refine lv_iinc (v := x2_7) (lv' := [(2, .int x2_7), (1, .int x1_6), (0, .ref (gA X i0 0))]) hx hb dX0_scratchedSet_30 hl (k := 2) rfl (by rw [ex2_7]; rfl) (by decide) rfl (fun ls hl => ?_)
          refine lv_goto (tgt := 4) hx hb dX0_scratchedSet_33 (by decide) ?_
          exact ih4 i0 x1_6 x2_7 hi0 ls (lv_sub hl [2, 1, 0] rfl) hF H locs hW hL
  rw [F_X0_scratchedSet] at hF
  obtain ⟨locs, hlocs⟩ : ∃ locs : List Loc, locs = [] := ⟨_, rfl⟩
  rw [← hlocs] at hL ⊢
  refine lv_iconst (v := 0) hx hb dX0_scratchedSet_0 (by decide) ?_
  refine lv_istore_n (lv' := [(1, .int 0), (0, .ref (gA X i0 0))]) hx hb dX0_scratchedSet_1 rfl hl (by decide) rfl (fun ls hl => ?_)
  refine lv_iconst (v := 0) hx hb dX0_scratchedSet_2 (by decide) ?_
  refine lv_istore_n (lv' := [(2, .int 0), (1, .int 0), (0, .ref (gA X i0 0))]) hx hb dX0_scratchedSet_3 rfl hl (by decide) rfl (fun ls hl => ?_)
  exact L_4 gFU i0 0 0 hi0 ls (lv_sub hl [2, 1, 0] rfl) hF H locs hW hL
abbrev rmX0_timesOfEvent : Room := { frames := 0, cells := 0, slots := 0, locals := 0 }
abbrev wsX0_timesOfEvent : List Cond := gws yX0_timesOfEvent cX0_timesOfEvent 3 (some .int)
set_option maxHeartbeats 4000000 in
set_option maxRecDepth 100000 in
theorem c_X0_timesOfEvent (l : Launch) (X : gX) (w : gWd) (i0 : Nat) (hi0 : i0 < 7) (r : Int32) (hF : F_X0_timesOfEvent w i0 = some r) : Met l yX0_timesOfEvent wsX0_timesOfEvent rmX0_timesOfEvent (gPc X [.ref (gA X i0 0)] w) (gQi X r w) 0 0 (gFr X) := by
  refine g_ofW (cc := cX0_timesOfEvent) (maxL := 3) (ret := (some .int)) (by decide) rfl (Nat.le_of_ble_eq_true rfl) (fun p e s m args below meth c ls H hx hb hr hts hown hlocks hml hK hl hW => ?_)
  have hl : lv_has ls 3 [(0, .ref (gA X i0 0))] := hl
  have hown : s.vm.findClass RX0 = some m.cls := hown
  have hL : gLo X [] := gLo_nil
  show W p l e rmX0_timesOfEvent s m args below meth c H [] 0 0 _ _
  have inX5 : ∀ w ∈ wsX50, w ∈ wsX0_timesOfEvent := fun w h => List.mem_cons_of_mem _ (inlX5 w h)
  have inX10 : ∀ w ∈ wsX100, w ∈ wsX0_timesOfEvent := fun w h => List.mem_cons_of_mem _ (inlX10 w h)
  have q41 := hts _ (List.mem_cons_of_mem _ wq_X0_41)
  have q50 := hts _ (List.mem_cons_of_mem _ wq_X0_50)
  have q59 := hts _ (List.mem_cons_of_mem _ wq_X0_59)
  have q62 := hts _ (List.mem_cons_of_mem _ wq_X0_62)
  have L_4 : ∀ (fu : Nat) (i0 : Nat) (x1 : Int32) (x2 : Int32) (hi0 : i0 < 7) (ls : Array Slot) (hl : lv_has ls 3 [(0, .ref (gA X i0 0)), (1, .int x1), (2, .int x2)]) (hF : F_X0_timesOfEvent_4 fu w i0 x1 x2 = some r) (H : Heap) (locs : List Loc) (hW : gWo X 252 (gE X w) H) (hL : gLo X locs), W p l e rmX0_timesOfEvent s m args below meth c H locs 0 0 (MQ below (gQi X r w) args s 0 0 (gFr X)) (F0 m 4 ls []) := by
    intro fu
    induction fu with
    | zero => intro i0 x1 x2 hi0 ls hl hF H locs hW hL; rw [F_X0_timesOfEvent_4_z] at hF; cases hF
    | succ fu4 ih4 =>
      have B_28 : ∀ (i0 : Nat) (x1 : Int32) (x2 : Int32) (hi0 : i0 < 7) (ls : Array Slot) (hl : lv_has ls 3 [(0, .ref (gA X i0 0)), (1, .int x1), (2, .int x2)]) (hF : F_X0_timesOfEvent_28 (F_X0_timesOfEvent_4 fu4) w i0 x1 x2 = some r) (H : Heap) (locs : List Loc) (hW : gWo X 252 (gE X w) H) (hL : gLo X locs), W p l e rmX0_timesOfEvent s m args below meth c H locs 0 0 (MQ below (gQi X r w) args s 0 0 (gFr X)) (F0 m 28 ls []) := by
        intro i0 x1 x2 hi0 ls hl hF H locs hW hL
        rw [F_X0_timesOfEvent_28] at hF
        refine lv_aload_n hx hb dX0_timesOfEvent_28 rfl (lv_at hl 0 rfl) ?_
        refine rg_X5_all hx hb hts inX5 hown hK hW hi0 q62 dX0_timesOfEvent_29 ?_
        refine lv_iload_n hx hb dX0_timesOfEvent_32 rfl (lv_at hl 2 rfl) ?_
        obtain ⟨hin_6, hF⟩ := gB_some hF
        obtain ⟨k_7, ek_7⟩ : ∃ k, k = Int32.toNatClampNeg x2 := ⟨_, rfl⟩
        rw [← ek_7] at hF
        refine r_all (k := k_7) hx hb hK hW hi0 hin_6 ek_7.symm dX0_timesOfEvent_33 ?_
        refine rg_X10_finalTime hx hb hts inX10 hown hK hW hi0 (vp_lt2 hin_6 ek_7.symm) q50 dX0_timesOfEvent_34 ?_
        refine lv_iconst (v := (-1)) hx hb dX0_timesOfEvent_37 (by decide) ?_
        refine lv_icmp_eq (tgt := 44) hx hb dX0_timesOfEvent_38 (by decide) (fun hc_8 => ?_) (fun hc_8 => ?_)
        · replace hF := gT hc_8 hF
          obtain ⟨x2_9, ex2_9, hF⟩ := gS_some hF
          refine lv_iinc (v := x2_9) (lv' := [(2, .int x2_9), (0, .ref (gA X i0 0)), (1, .int x1)]) hx hb dX0_timesOfEvent_44 hl (k := 2) rfl (by rw [ex2_9]; rfl) (by decide) rfl (fun ls hl => ?_)
          refine lv_goto (tgt := 4) hx hb dX0_timesOfEvent_47 (by decide) ?_
          exact ih4 i0 x1 x2_9 hi0 ls (lv_sub hl [1, 2, 0] rfl) hF H locs hW hL
        · replace hF := gF hc_8 hF
          obtain ⟨x1_10, ex1_10, hF⟩ := gS_some hF
          refine lv_iinc (v := x1_10) (lv' := [(1, .int x1_10), (0, .ref (gA X i0 0)), (2, .int x2)]) hx hb dX0_timesOfEvent_41 hl (k := 1) rfl (by rw [ex1_10]; rfl) (by decide) rfl (fun ls hl => ?_)
          obtain ⟨x2_11, ex2_11, hF⟩ := gS_some hF
          refine lv_iinc (v := x2_11) (lv' := [(2, .int x2_11), (1, .int x1_10), (0, .ref (gA X i0 0))]) hx hb dX0_timesOfEvent_44 hl (k := 2) rfl (by rw [ex2_11]; rfl) (by decide) rfl (fun ls hl => ?_)
          refine lv_goto (tgt := 4) hx hb dX0_timesOfEvent_47 (by decide) ?_
          exact ih4 i0 x1_10 x2_11 hi0 ls (lv_sub hl [2, 1, 0] rfl) hF H locs hW hL
      intro i0 x1 x2 hi0 ls hl hF H locs hW hL
      rw [F_X0_timesOfEvent_4_s] at hF
      refine lv_iload_n hx hb dX0_timesOfEvent_4 rfl (lv_at hl 2 rfl) ?_
      refine lv_aload_n hx hb dX0_timesOfEvent_5 rfl (lv_at hl 0 rfl) ?_
      refine rg_X5_size hx hb hts inX5 hown hK hW hi0 q59 dX0_timesOfEvent_6 ?_
      refine lv_icmp_ge (tgt := 50) hx hb dX0_timesOfEvent_9 (by decide) (fun hc_1 => ?_) (fun hc_1 => ?_)
      · replace hF := gT hc_1 hF
        refine lv_iload_n hx hb dX0_timesOfEvent_50 rfl (lv_at hl 1 rfl) ?_
        exact g_ri hx hb hr hlocks hW hL (Option.some.inj hF) dX0_timesOfEvent_51
      · replace hF := gF hc_1 hF
        refine lv_aload_n hx hb dX0_timesOfEvent_12 rfl (lv_at hl 0 rfl) ?_
        refine rg_X5_all hx hb hts inX5 hown hK hW hi0 q62 dX0_timesOfEvent_13 ?_
        refine lv_iload_n hx hb dX0_timesOfEvent_16 rfl (lv_at hl 2 rfl) ?_
        obtain ⟨hin_2, hF⟩ := gB_some hF
        obtain ⟨k_3, ek_3⟩ : ∃ k, k = Int32.toNatClampNeg x2 := ⟨_, rfl⟩
        rw [← ek_3] at hF
        refine r_all (k := k_3) hx hb hK hW hi0 hin_2 ek_3.symm dX0_timesOfEvent_17 ?_
        refine rg_X10_heatTime hx hb hts inX10 hown hK hW hi0 (vp_lt2 hin_2 ek_3.symm) q41 dX0_timesOfEvent_18 ?_
        refine lv_iconst (v := (-1)) hx hb dX0_timesOfEvent_21 (by decide) ?_
        refine lv_icmp_eq (tgt := 28) hx hb dX0_timesOfEvent_22 (by decide) (fun hc_4 => ?_) (fun hc_4 => ?_)
        · replace hF := gT hc_4 hF
          exact B_28 i0 x1 x2 hi0 ls (hl) hF H locs hW hL
        · replace hF := gF hc_4 hF
          obtain ⟨x1_5, ex1_5, hF⟩ := gS_some hF
          refine lv_iinc (v := x1_5) (lv' := [(1, .int x1_5), (0, .ref (gA X i0 0)), (2, .int x2)]) hx hb dX0_timesOfEvent_25 hl (k := 1) rfl (by rw [ex1_5]; rfl) (by decide) rfl (fun ls hl => ?_)
          exact B_28 i0 x1_5 x2 hi0 ls (lv_sub hl [1, 0, 2] rfl) hF H locs hW hL
  rw [F_X0_timesOfEvent] at hF
  obtain ⟨locs, hlocs⟩ : ∃ locs : List Loc, locs = [] := ⟨_, rfl⟩
  rw [← hlocs] at hL ⊢
  refine lv_iconst (v := 0) hx hb dX0_timesOfEvent_0 (by decide) ?_
  refine lv_istore_n (lv' := [(1, .int 0), (0, .ref (gA X i0 0))]) hx hb dX0_timesOfEvent_1 rfl hl (by decide) rfl (fun ls hl => ?_)
  refine lv_iconst (v := 0) hx hb dX0_timesOfEvent_2 (by decide) ?_
  refine lv_istore_n (lv' := [(2, .int 0), (1, .int 0), (0, .ref (gA X i0 0))]) hx hb dX0_timesOfEvent_3 rfl hl (by decide) rfl (fun ls hl => ?_)
  exact L_4 gFU i0 0 0 hi0 ls (lv_sub hl [2, 1, 0] rfl) hF H locs hW hL
abbrev rmX8_ofAllClubs : Room := { frames := 0, cells := 0, slots := 0, locals := 0 }
abbrev wsX8_ofAllClubs : List Cond := gws yX8_ofAllClubs cX8_ofAllClubs 3 (some .int)
set_option maxHeartbeats 4000000 in
set_option maxRecDepth 100000 in
theorem c_X8_ofAllClubs (l : Launch) (X : gX) (w : gWd) (i0 : Nat) (hi0 : i0 < 7) (r : Int32) (hF : F_X8_ofAllClubs w i0 = some r) : Met l yX8_ofAllClubs wsX8_ofAllClubs rmX8_ofAllClubs (gPc X [.ref (gA X i0 0)] w) (gQi X r w) 0 0 (gFr X) := by
  refine g_ofW (cc := cX8_ofAllClubs) (maxL := 3) (ret := (some .int)) (by decide) rfl (Nat.le_of_ble_eq_true rfl) (fun p e s m args below meth c ls H hx hb hr hts hown hlocks hml hK hl hW => ?_)
  have hl : lv_has ls 3 [(0, .ref (gA X i0 0))] := hl
  have hown : s.vm.findClass RX8 = some m.cls := hown
  have hL : gLo X [] := gLo_nil
  show W p l e rmX8_ofAllClubs s m args below meth c H [] 0 0 _ _
  have inX5 : ∀ w ∈ wsX50, w ∈ wsX8_ofAllClubs := fun w h => List.mem_cons_of_mem _ (inlX5 w h)
  have inX10 : ∀ w ∈ wsX100, w ∈ wsX8_ofAllClubs := fun w h => List.mem_cons_of_mem _ (inlX10 w h)
  have q24 := hts _ (List.mem_cons_of_mem _ wq_X8_24)
  have q37 := hts _ (List.mem_cons_of_mem _ wq_X8_37)
  have q40 := hts _ (List.mem_cons_of_mem _ wq_X8_40)
  have L_4 : ∀ (fu : Nat) (i0 : Nat) (x1 : Int32) (x2 : Int32) (hi0 : i0 < 7) (ls : Array Slot) (hl : lv_has ls 3 [(0, .ref (gA X i0 0)), (1, .int x1), (2, .int x2)]) (hF : F_X8_ofAllClubs_4 fu w i0 x1 x2 = some r) (H : Heap) (locs : List Loc) (hW : gWo X 252 (gE X w) H) (hL : gLo X locs), W p l e rmX8_ofAllClubs s m args below meth c H locs 0 0 (MQ below (gQi X r w) args s 0 0 (gFr X)) (F0 m 4 ls []) := by
    intro fu
    induction fu with
    | zero => intro i0 x1 x2 hi0 ls hl hF H locs hW hL; rw [F_X8_ofAllClubs_4_z] at hF; cases hF
    | succ fu4 ih4 =>
      intro i0 x1 x2 hi0 ls hl hF H locs hW hL
      rw [F_X8_ofAllClubs_4_s] at hF
      refine lv_iload_n hx hb dX8_ofAllClubs_4 rfl (lv_at hl 2 rfl) ?_
      refine lv_aload_n hx hb dX8_ofAllClubs_5 rfl (lv_at hl 0 rfl) ?_
      refine rg_X5_size hx hb hts inX5 hown hK hW hi0 q37 dX8_ofAllClubs_6 ?_
      refine lv_icmp_ge (tgt := 30) hx hb dX8_ofAllClubs_9 (by decide) (fun hc_1 => ?_) (fun hc_1 => ?_)
      · replace hF := gT hc_1 hF
        refine lv_iload_n hx hb dX8_ofAllClubs_30 rfl (lv_at hl 1 rfl) ?_
        exact g_ri hx hb hr hlocks hW hL (Option.some.inj hF) dX8_ofAllClubs_31
      · replace hF := gF hc_1 hF
        refine lv_iload_n hx hb dX8_ofAllClubs_12 rfl (lv_at hl 1 rfl) ?_
        refine lv_aload_n hx hb dX8_ofAllClubs_13 rfl (lv_at hl 0 rfl) ?_
        refine rg_X5_all hx hb hts inX5 hown hK hW hi0 q40 dX8_ofAllClubs_14 ?_
        refine lv_iload_n hx hb dX8_ofAllClubs_17 rfl (lv_at hl 2 rfl) ?_
        obtain ⟨hin_2, hF⟩ := gB_some hF
        obtain ⟨k_3, ek_3⟩ : ∃ k, k = Int32.toNatClampNeg x2 := ⟨_, rfl⟩
        rw [← ek_3] at hF
        refine r_all (k := k_3) hx hb hK hW hi0 hin_2 ek_3.symm dX8_ofAllClubs_18 ?_
        refine rg_X10_brought hx hb hts inX10 hown hK hW hi0 (vp_lt2 hin_2 ek_3.symm) q24 dX8_ofAllClubs_19 ?_
        refine lv_iadd hx hb dX8_ofAllClubs_22 ?_
        obtain ⟨x1_4, ex1_4, hF⟩ := gS_some hF
        refine g_top ex1_4 ?_
        refine lv_istore_n (lv' := [(1, .int x1_4), (0, .ref (gA X i0 0)), (2, .int x2)]) hx hb dX8_ofAllClubs_23 rfl hl (by decide) rfl (fun ls hl => ?_)
        obtain ⟨x2_5, ex2_5, hF⟩ := gS_some hF
        refine lv_iinc (v := x2_5) (lv' := [(2, .int x2_5), (1, .int x1_4), (0, .ref (gA X i0 0))]) hx hb dX8_ofAllClubs_24 hl (k := 2) rfl (by rw [ex2_5]; rfl) (by decide) rfl (fun ls hl => ?_)
        refine lv_goto (tgt := 4) hx hb dX8_ofAllClubs_27 (by decide) ?_
        exact ih4 i0 x1_4 x2_5 hi0 ls (lv_sub hl [2, 1, 0] rfl) hF H locs hW hL
  rw [F_X8_ofAllClubs] at hF
  obtain ⟨locs, hlocs⟩ : ∃ locs : List Loc, locs = [] := ⟨_, rfl⟩
  rw [← hlocs] at hL ⊢
  refine lv_iconst (v := 0) hx hb dX8_ofAllClubs_0 (by decide) ?_
  refine lv_istore_n (lv' := [(1, .int 0), (0, .ref (gA X i0 0))]) hx hb dX8_ofAllClubs_1 rfl hl (by decide) rfl (fun ls hl => ?_)
  refine lv_iconst (v := 0) hx hb dX8_ofAllClubs_2 (by decide) ?_
  refine lv_istore_n (lv' := [(2, .int 0), (1, .int 0), (0, .ref (gA X i0 0))]) hx hb dX8_ofAllClubs_3 rfl hl (by decide) rfl (fun ls hl => ?_)
  exact L_4 gFU i0 0 0 hi0 ls (lv_sub hl [2, 1, 0] rfl) hF H locs hW hL
abbrev rmX0_ofMeet : Room := { frames := 4, cells := 0, slots := 0, locals := 86 }
abbrev wsX0_ofMeet : List Cond := gws yX0_ofMeet cX0_ofMeet 2 (some .int)
set_option maxHeartbeats 4000000 in
set_option maxRecDepth 100000 in
theorem c_X0_ofMeet (l : Launch) (X : gX) (w : gWd) (i0 : Nat) (hi0 : i0 < 7) (x1 : Int32) (r : Int32) (hF : F_X0_ofMeet w i0 x1 = some r) : Met l yX0_ofMeet wsX0_ofMeet rmX0_ofMeet (gPc X [.ref (gA X i0 0), .int x1] w) (gQi X r w) 0 0 (gFr X) := by
  refine g_ofW (cc := cX0_ofMeet) (maxL := 2) (ret := (some .int)) (by decide) rfl (Nat.le_of_ble_eq_true rfl) (fun p e s m args below meth c ls H hx hb hr hts hown hlocks hml hK hl hW => ?_)
  have hl : lv_has ls 2 [(0, .ref (gA X i0 0)), (1, .int x1)] := hl
  have hown : s.vm.findClass RX0 = some m.cls := hown
  have hL : gLo X [] := gLo_nil
  show W p l e rmX0_ofMeet s m args below meth c H [] 0 0 _ _
  have inX5 : ∀ w ∈ wsX50, w ∈ wsX0_ofMeet := fun w h => List.mem_cons_of_mem _ (inlX5 w h)
  have q106 := hts _ (List.mem_cons_of_mem _ wq_X0_106)
  have q118 := hts _ (List.mem_cons_of_mem _ wq_X0_118)
  have q121 := hts _ (List.mem_cons_of_mem _ wq_X0_121)
  have q124 := hts _ (List.mem_cons_of_mem _ wq_X0_124)
  have q127 := hts _ (List.mem_cons_of_mem _ wq_X0_127)
  have q135 := hts _ (List.mem_cons_of_mem _ wq_X0_135)
  have q22 := hts _ (List.mem_cons_of_mem _ wq_X0_22)
  have q59 := hts _ (List.mem_cons_of_mem _ wq_X0_59)
  have q99 := hts _ (List.mem_cons_of_mem _ wq_X0_99)
  have k102 : CallB rmX0_ofMeet s args RX0 102 yX0_scratchedSet cX0_scratchedSet 3 (some .int) wsX0_scratchedSet rmX0_scratchedSet 0 0 1 ∧ (Cond.static yX0_scratchedSet).before args s = true := va_cwS 1 hts (gGoodS (fun w h => List.mem_cons_of_mem _ h) wk_X0_102) rfl rfl rfl (by decide +kernel) ⟨Nat.le_of_ble_eq_true rfl, Nat.le_of_ble_eq_true rfl⟩
  have k109 : CallW rmX0_ofMeet s args RX0 RX5 109 yX5_finalSet cX5_finalSet 3 (some .int) wsX5_finalSet rmX5_finalSet 0 0 0 := cwV 0 hts (gGoodV (fun w h => List.mem_cons_of_mem _ h) wk_X0_109) rfl rfl rfl (by decide +kernel) ⟨Nat.le_of_ble_eq_true rfl, Nat.le_of_ble_eq_true rfl⟩
  have k112 : CallB rmX0_ofMeet s args RX0 112 yX0_freeReserves cX0_freeReserves 2 (some .int) wsX0_freeReserves rmX0_freeReserves 0 0 1 ∧ (Cond.static yX0_freeReserves).before args s = true := va_cwS 1 hts (gGoodS (fun w h => List.mem_cons_of_mem _ h) wk_X0_112) rfl rfl rfl (by decide +kernel) ⟨Nat.le_of_ble_eq_true rfl, Nat.le_of_ble_eq_true rfl⟩
  have k115 : CallB rmX0_ofMeet s args RX0 115 yX0_timesOfEvent cX0_timesOfEvent 3 (some .int) wsX0_timesOfEvent rmX0_timesOfEvent 0 0 1 ∧ (Cond.static yX0_timesOfEvent).before args s = true := va_cwS 1 hts (gGoodS (fun w h => List.mem_cons_of_mem _ h) wk_X0_115) rfl rfl rfl (by decide +kernel) ⟨Nat.le_of_ble_eq_true rfl, Nat.le_of_ble_eq_true rfl⟩
  have k130 : CallB rmX0_ofMeet s args RX0 130 yX8_ofAllClubs cX8_ofAllClubs 3 (some .int) wsX8_ofAllClubs rmX8_ofAllClubs 0 0 1 ∧ (Cond.static yX8_ofAllClubs).before args s = true := va_cwS 1 hts (gGoodS (fun w h => List.mem_cons_of_mem _ h) wk_X0_130) rfl rfl rfl (by decide +kernel) ⟨Nat.le_of_ble_eq_true rfl, Nat.le_of_ble_eq_true rfl⟩
  have k35 : CallB rmX0_ofMeet s args RX0 35 yX0_aboveZero cX0_aboveZero 1 (some .int) wsX0_aboveZero rmX0_aboveZero 0 0 1 ∧ (Cond.static yX0_aboveZero).before args s = true := va_cwS 1 hts (gGoodS (fun w h => List.mem_cons_of_mem _ h) wk_X0_35) rfl rfl rfl (by decide +kernel) ⟨Nat.le_of_ble_eq_true rfl, Nat.le_of_ble_eq_true rfl⟩
  rw [F_X0_ofMeet] at hF
  obtain ⟨locs, hlocs⟩ : ∃ locs : List Loc, locs = [] := ⟨_, rfl⟩
  rw [← hlocs] at hL ⊢
  refine lv_iload_n hx hb dX0_ofMeet_0 rfl (lv_at hl 1 rfl) ?_
  by_cases hc_1 : x1 = 0
  · replace hF := gT hc_1 hF
    refine lv_tableIn (off := 63) (tgt := 64) hx hb dX0_ofMeet_1 (by rw [hc_1]; decide) (by rw [hc_1]; decide) (by rw [hc_1]; rfl) (by decide) ?_
    refine lv_aload_n hx hb dX0_ofMeet_64 rfl (lv_at hl 0 rfl) ?_
    refine rg_X5_stage hx hb hts inX5 hown hK hW hi0 q99 dX0_ofMeet_65 ?_
    exact g_ri hx hb hr hlocks hW hL (Option.some.inj hF) dX0_ofMeet_68
  · replace hF := gF hc_1 hF
    by_cases hc_2 : x1 = 1
    · replace hF := gT hc_2 hF
      refine lv_tableIn (off := 68) (tgt := 69) hx hb dX0_ofMeet_1 (by rw [hc_2]; decide) (by rw [hc_2]; decide) (by rw [hc_2]; rfl) (by decide) ?_
      refine lv_aload_n hx hb dX0_ofMeet_69 rfl (lv_at hl 0 rfl) ?_
      refine rg_X5_size hx hb hts inX5 hown hK hW hi0 q59 dX0_ofMeet_70 ?_
      exact g_ri hx hb hr hlocks hW hL (Option.some.inj hF) dX0_ofMeet_73
    · replace hF := gF hc_2 hF
      by_cases hc_3 : x1 = 2
      · replace hF := gT hc_3 hF
        refine lv_tableIn (off := 73) (tgt := 74) hx hb dX0_ofMeet_1 (by rw [hc_3]; decide) (by rw [hc_3]; decide) (by rw [hc_3]; rfl) (by decide) ?_
        refine lv_aload_n hx hb dX0_ofMeet_74 rfl (lv_at hl 0 rfl) ?_
        obtain ⟨v_5, hq_4, hF⟩ := gP_some hF
        refine g_Si (As := [.ref (gA X i0 0)]) (rest := []) ⟨hx, hb, hml, hown, hts⟩ hK hW hL hl.1 (c_X0_scratchedSet l X w i0 hi0 v_5 hq_4) k102 rfl rfl (Nat.le_of_ble_eq_true rfl) dX0_ofMeet_75 ⟨Nat.le_of_ble_eq_true rfl, Nat.le_of_ble_eq_true rfl⟩ (fun H locs hW hL => ?_)
        exact g_ri hx hb hr hlocks hW hL (Option.some.inj hF) dX0_ofMeet_78
      · replace hF := gF hc_3 hF
        by_cases hc_6 : x1 = 3
        · replace hF := gT hc_6 hF
          refine lv_tableIn (off := 78) (tgt := 79) hx hb dX0_ofMeet_1 (by rw [hc_6]; decide) (by rw [hc_6]; decide) (by rw [hc_6]; rfl) (by decide) ?_
          refine lv_aload_n hx hb dX0_ofMeet_79 rfl (lv_at hl 0 rfl) ?_
          refine rg_X5_heats hx hb hts inX5 hown hK hW hi0 q106 dX0_ofMeet_80 ?_
          exact g_ri hx hb hr hlocks hW hL (Option.some.inj hF) dX0_ofMeet_83
        · replace hF := gF hc_6 hF
          by_cases hc_7 : x1 = 4
          · replace hF := gT hc_7 hF
            refine lv_tableIn (off := 83) (tgt := 84) hx hb dX0_ofMeet_1 (by rw [hc_7]; decide) (by rw [hc_7]; decide) (by rw [hc_7]; rfl) (by decide) ?_
            refine lv_aload_n hx hb dX0_ofMeet_84 rfl (lv_at hl 0 rfl) ?_
            obtain ⟨v_9, hq_8, hF⟩ := gP_some hF
            refine g_Vi (As := []) (rest := []) ⟨hx, hb, hml, hown, hts⟩ hK hW hL hl.1 (gok_m hi0 (by decide)) (gE_m0 hi0) rfl (c_X5_finalSet l X w i0 hi0 v_9 hq_8) k109 rfl rfl (Nat.le_of_ble_eq_true rfl) dX0_ofMeet_85 ⟨Nat.le_of_ble_eq_true rfl, Nat.le_of_ble_eq_true rfl⟩ (fun H locs hW hL => ?_)
            exact g_ri hx hb hr hlocks hW hL (Option.some.inj hF) dX0_ofMeet_88
          · replace hF := gF hc_7 hF
            by_cases hc_10 : x1 = 5
            · replace hF := gT hc_10 hF
              refine lv_tableIn (off := 88) (tgt := 89) hx hb dX0_ofMeet_1 (by rw [hc_10]; decide) (by rw [hc_10]; decide) (by rw [hc_10]; rfl) (by decide) ?_
              refine lv_aload_n hx hb dX0_ofMeet_89 rfl (lv_at hl 0 rfl) ?_
              obtain ⟨v_12, hq_11, hF⟩ := gP_some hF
              refine g_Si (As := [.ref (gA X i0 0)]) (rest := []) ⟨hx, hb, hml, hown, hts⟩ hK hW hL hl.1 (c_X0_freeReserves l X w i0 hi0 v_12 hq_11) k112 rfl rfl (Nat.le_of_ble_eq_true rfl) dX0_ofMeet_90 ⟨Nat.le_of_ble_eq_true rfl, Nat.le_of_ble_eq_true rfl⟩ (fun H locs hW hL => ?_)
              exact g_ri hx hb hr hlocks hW hL (Option.some.inj hF) dX0_ofMeet_93
            · replace hF := gF hc_10 hF
              by_cases hc_13 : x1 = 6
              · replace hF := gT hc_13 hF
                refine lv_tableIn (off := 93) (tgt := 94) hx hb dX0_ofMeet_1 (by rw [hc_13]; decide) (by rw [hc_13]; decide) (by rw [hc_13]; rfl) (by decide) ?_
                refine lv_aload_n hx hb dX0_ofMeet_94 rfl (lv_at hl 0 rfl) ?_
                obtain ⟨v_15, hq_14, hF⟩ := gP_some hF
                refine g_Si (As := [.ref (gA X i0 0)]) (rest := []) ⟨hx, hb, hml, hown, hts⟩ hK hW hL hl.1 (c_X0_timesOfEvent l X w i0 hi0 v_15 hq_14) k115 rfl rfl (Nat.le_of_ble_eq_true rfl) dX0_ofMeet_95 ⟨Nat.le_of_ble_eq_true rfl, Nat.le_of_ble_eq_true rfl⟩ (fun H locs hW hL => ?_)
                exact g_ri hx hb hr hlocks hW hL (Option.some.inj hF) dX0_ofMeet_98
              · replace hF := gF hc_13 hF
                by_cases hc_16 : x1 = 7
                · replace hF := gT hc_16 hF
                  refine lv_tableIn (off := 98) (tgt := 99) hx hb dX0_ofMeet_1 (by rw [hc_16]; decide) (by rw [hc_16]; decide) (by rw [hc_16]; rfl) (by decide) ?_
                  refine lv_aload_n hx hb dX0_ofMeet_99 rfl (lv_at hl 0 rfl) ?_
                  refine rg_X5_eventsEnded hx hb hts inX5 hown hK hW hi0 q118 dX0_ofMeet_100 ?_
                  exact g_ri hx hb hr hlocks hW hL (Option.some.inj hF) dX0_ofMeet_103
                · replace hF := gF hc_16 hF
                  by_cases hc_17 : x1 = 8
                  · replace hF := gT hc_17 hF
                    refine lv_tableIn (off := 103) (tgt := 104) hx hb dX0_ofMeet_1 (by rw [hc_17]; decide) (by rw [hc_17]; decide) (by rw [hc_17]; rfl) (by decide) ?_
                    refine lv_aload_n hx hb dX0_ofMeet_104 rfl (lv_at hl 0 rfl) ?_
                    refine rg_X5_record hx hb hts inX5 hown hK hW hi0 q121 dX0_ofMeet_105 ?_
                    obtain ⟨v_19, hq_18, hF⟩ := gP_some hF
                    refine g_Si (As := [.int (w i0 0 9)]) (rest := []) ⟨hx, hb, hml, hown, hts⟩ hK hW hL hl.1 (c_X0_aboveZero l X w ((w i0 0 9)) v_19 hq_18) k35 rfl rfl (Nat.le_of_ble_eq_true rfl) dX0_ofMeet_108 ⟨Nat.le_of_ble_eq_true rfl, Nat.le_of_ble_eq_true rfl⟩ (fun H locs hW hL => ?_)
                    exact g_ri hx hb hr hlocks hW hL (Option.some.inj hF) dX0_ofMeet_111
                  · replace hF := gF hc_17 hF
                    by_cases hc_20 : x1 = 9
                    · replace hF := gT hc_20 hF
                      refine lv_tableIn (off := 111) (tgt := 112) hx hb dX0_ofMeet_1 (by rw [hc_20]; decide) (by rw [hc_20]; decide) (by rw [hc_20]; rfl) (by decide) ?_
                      refine lv_aload_n hx hb dX0_ofMeet_112 rfl (lv_at hl 0 rfl) ?_
                      refine rg_X5_record hx hb hts inX5 hown hK hW hi0 q121 dX0_ofMeet_113 ?_
                      refine lv_if_le (tgt := 126) hx hb dX0_ofMeet_116 (by decide) (fun hc_21 => ?_) (fun hc_21 => ?_)
                      · replace hF := gT hc_21 hF
                        refine lv_ldc hx hb hown q22 dX0_ofMeet_126 ?_
                        exact g_ri hx hb hr hlocks hW hL (Option.some.inj hF) dX0_ofMeet_128
                      · replace hF := gF hc_21 hF
                        refine lv_aload_n hx hb dX0_ofMeet_119 rfl (lv_at hl 0 rfl) ?_
                        refine rg_X5_recordSwimmer hx hb hts inX5 hown hK hW hi0 q124 dX0_ofMeet_120 ?_
                        refine lv_goto (tgt := 128) hx hb dX0_ofMeet_123 (by decide) ?_
                        exact g_ri hx hb hr hlocks hW hL (Option.some.inj hF) dX0_ofMeet_128
                    · replace hF := gF hc_20 hF
                      by_cases hc_22 : x1 = 10
                      · replace hF := gT hc_22 hF
                        refine lv_tableIn (off := 128) (tgt := 129) hx hb dX0_ofMeet_1 (by rw [hc_22]; decide) (by rw [hc_22]; decide) (by rw [hc_22]; rfl) (by decide) ?_
                        refine lv_aload_n hx hb dX0_ofMeet_129 rfl (lv_at hl 0 rfl) ?_
                        refine rg_X5_reservesCalled hx hb hts inX5 hown hK hW hi0 q127 dX0_ofMeet_130 ?_
                        exact g_ri hx hb hr hlocks hW hL (Option.some.inj hF) dX0_ofMeet_133
                      · replace hF := gF hc_22 hF
                        by_cases hc_23 : x1 = 11
                        · replace hF := gT hc_23 hF
                          refine lv_tableIn (off := 133) (tgt := 134) hx hb dX0_ofMeet_1 (by rw [hc_23]; decide) (by rw [hc_23]; decide) (by rw [hc_23]; rfl) (by decide) ?_
                          refine lv_aload_n hx hb dX0_ofMeet_134 rfl (lv_at hl 0 rfl) ?_
                          obtain ⟨v_25, hq_24, hF⟩ := gP_some hF
                          refine g_Si (As := [.ref (gA X i0 0)]) (rest := []) ⟨hx, hb, hml, hown, hts⟩ hK hW hL hl.1 (c_X8_ofAllClubs l X w i0 hi0 v_25 hq_24) k130 rfl rfl (Nat.le_of_ble_eq_true rfl) dX0_ofMeet_135 ⟨Nat.le_of_ble_eq_true rfl, Nat.le_of_ble_eq_true rfl⟩ (fun H locs hW hL => ?_)
                          exact g_ri hx hb hr hlocks hW hL (Option.some.inj hF) dX0_ofMeet_138
                        · replace hF := gF hc_23 hF
                          refine lv_tableOut (tgt := 139) hx hb dX0_ofMeet_1 (g_tabOut (fun k h1 h2 h3 => ?_)) (by decide) ?_
                          · have hk : k = 0 ∨ k = 1 ∨ k = 2 ∨ k = 3 ∨ k = 4 ∨ k = 5 ∨ k = 6 ∨ k = 7 ∨ k = 8 ∨ k = 9 ∨ k = 10 ∨ k = 11 := by omega
                            rcases hk with rfl | rfl | rfl | rfl | rfl | rfl | rfl | rfl | rfl | rfl | rfl | rfl
                            · exact hc_1 (Int32.toInt_inj.mp (h3.trans (by decide)))
                            · exact hc_2 (Int32.toInt_inj.mp (h3.trans (by decide)))
                            · exact hc_3 (Int32.toInt_inj.mp (h3.trans (by decide)))
                            · exact hc_6 (Int32.toInt_inj.mp (h3.trans (by decide)))
                            · exact hc_7 (Int32.toInt_inj.mp (h3.trans (by decide)))
                            · exact hc_10 (Int32.toInt_inj.mp (h3.trans (by decide)))
                            · exact hc_13 (Int32.toInt_inj.mp (h3.trans (by decide)))
                            · exact hc_16 (Int32.toInt_inj.mp (h3.trans (by decide)))
                            · exact hc_17 (Int32.toInt_inj.mp (h3.trans (by decide)))
                            · exact hc_20 (Int32.toInt_inj.mp (h3.trans (by decide)))
                            · exact hc_22 (Int32.toInt_inj.mp (h3.trans (by decide)))
                            · exact hc_23 (Int32.toInt_inj.mp (h3.trans (by decide)))
                          · skip
                            refine lv_ldc hx hb hown q135 dX0_ofMeet_139 ?_
                            exact g_ri hx hb hr hlocks hW hL (Option.some.inj hF) dX0_ofMeet_141
abbrev rmX11_count : Room := { frames := 5, cells := 0, slots := 0, locals := 107 }
abbrev wsX11_count : List Cond := gws yX11_count cX11_count 2 (some .int)
set_option maxHeartbeats 4000000 in
set_option maxRecDepth 100000 in
theorem c_X11_count (l : Launch) (X : gX) (w : gWd) (x1 : Int32) (r : Int32) (hF : F_X11_count w x1 = some r) : Met l yX11_count wsX11_count rmX11_count (gPc X [.ref (gA X 7 0), .int x1] w) (gQi X r w) 0 0 (gFr X) := by
  refine g_ofW (cc := cX11_count) (maxL := 2) (ret := (some .int)) (by decide) rfl (Nat.le_of_ble_eq_true rfl) (fun p e s m args below meth c ls H hx hb hr hts hown hlocks hml hK hl hW => ?_)
  have hl : lv_has ls 2 [(0, .ref (gA X 7 0)), (1, .int x1)] := hl
  have hown : s.vm.findClass RX11 = some m.cls := hown
  have hL : gLo X [] := gLo_nil
  show W p l e rmX11_count s m args below meth c H [] 0 0 _ _
  have inX11 : ∀ w ∈ wsX110, w ∈ wsX11_count := fun w h => List.mem_cons_of_mem _ (inlX11 w h)
  have inX3 : ∀ w ∈ wsX30, w ∈ wsX11_count := fun w h => List.mem_cons_of_mem _ (inlX3 w h)
  have inX5 : ∀ w ∈ wsX50, w ∈ wsX11_count := fun w h => List.mem_cons_of_mem _ (inlX5 w h)
  have inX6 : ∀ w ∈ wsX60, w ∈ wsX11_count := fun w h => List.mem_cons_of_mem _ (inlX6 w h)
  have q10 := hts _ (List.mem_cons_of_mem _ wq_X11_10)
  have q154 := hts _ (List.mem_cons_of_mem _ wq_X11_154)
  have q157 := hts _ (List.mem_cons_of_mem _ wq_X11_157)
  have q160 := hts _ (List.mem_cons_of_mem _ wq_X11_160)
  have q22 := hts _ (List.mem_cons_of_mem _ wq_X11_22)
  have q29 := hts _ (List.mem_cons_of_mem _ wq_X11_29)
  have k164 : CallB rmX11_count s args RX11 164 yX0_ofMeet cX0_ofMeet 2 (some .int) wsX0_ofMeet rmX0_ofMeet 0 0 2 ∧ (Cond.static yX0_ofMeet).before args s = true := va_cwS 2 hts (gGoodS (fun w h => List.mem_cons_of_mem _ h) wk_X11_164) rfl rfl rfl (by decide +kernel) ⟨Nat.le_of_ble_eq_true rfl, Nat.le_of_ble_eq_true rfl⟩
  have B_53 : ∀ (x1 : Int32)  (ls : Array Slot) (hl : lv_has ls 2 [(0, .ref (gA X 7 0)), (1, .int x1)]) (hF : F_X11_count_53 w x1 = some r) (H : Heap) (locs : List Loc) (hW : gWo X 252 (gE X w) H) (hL : gLo X locs), W p l e rmX11_count s m args below meth c H locs 0 0 (MQ below (gQi X r w) args s 0 0 (gFr X)) (F0 m 53 ls []) := by
    intro x1 ls hl hF H locs hW hL
    rw [F_X11_count_53] at hF
    refine lv_aload_n hx hb dX11_count_53 rfl (lv_at hl 0 rfl) ?_
    refine rg_X11_meet hx hb hts inX11 hown hK hW q10 dX11_count_54 ?_
    refine lv_iload_n hx hb dX11_count_57 rfl (lv_at hl 1 rfl) ?_
    obtain ⟨v_2, hq_1, hF⟩ := gP_some hF
    refine g_Si (As := [.ref (gA X 0 0), .int x1]) (rest := []) ⟨hx, hb, hml, hown, hts⟩ hK hW hL hl.1 (c_X0_ofMeet l X w 0 h07 x1 v_2 hq_1) k164 rfl rfl (Nat.le_of_ble_eq_true rfl) dX11_count_58 ⟨Nat.le_of_ble_eq_true rfl, Nat.le_of_ble_eq_true rfl⟩ (fun H locs hW hL => ?_)
    exact g_ri hx hb hr hlocks hW hL (Option.some.inj hF) dX11_count_61
  rw [F_X11_count] at hF
  obtain ⟨locs, hlocs⟩ : ∃ locs : List Loc, locs = [] := ⟨_, rfl⟩
  rw [← hlocs] at hL ⊢
  refine lv_iload_n hx hb dX11_count_0 rfl (lv_at hl 1 rfl) ?_
  refine lv_bipush (v := 12) hx hb dX11_count_1 (by decide) ?_
  refine lv_icmp_ne (tgt := 14) hx hb dX11_count_3 (by decide) (fun hc_3 => ?_) (fun hc_3 => ?_)
  · replace hF := gF hc_3 hF
    refine lv_iload_n hx hb dX11_count_14 rfl (lv_at hl 1 rfl) ?_
    refine lv_bipush (v := 13) hx hb dX11_count_15 (by decide) ?_
    refine lv_icmp_ne (tgt := 28) hx hb dX11_count_17 (by decide) (fun hc_4 => ?_) (fun hc_4 => ?_)
    · replace hF := gF hc_4 hF
      refine lv_iload_n hx hb dX11_count_28 rfl (lv_at hl 1 rfl) ?_
      refine lv_bipush (v := 20) hx hb dX11_count_29 (by decide) ?_
      refine lv_icmp_lt (tgt := 53) hx hb dX11_count_31 (by decide) (fun hc_5 => ?_) (fun hc_5 => ?_)
      · replace hF := gT hc_5 hF
        exact B_53 x1 ls (hl) hF H locs hW hL
      · replace hF := gF hc_5 hF
        refine lv_iload_n hx hb dX11_count_34 rfl (lv_at hl 1 rfl) ?_
        refine lv_bipush (v := 23) hx hb dX11_count_35 (by decide) ?_
        refine lv_icmp_ge (tgt := 53) hx hb dX11_count_37 (by decide) (fun hc_6 => ?_) (fun hc_6 => ?_)
        · replace hF := gT hc_6 hF
          exact B_53 x1 ls (hl) hF H locs hW hL
        · replace hF := gF hc_6 hF
          refine lv_aload_n hx hb dX11_count_40 rfl (lv_at hl 0 rfl) ?_
          refine rg_X11_meet hx hb hts inX11 hown hK hW q10 dX11_count_41 ?_
          refine rg_X5_settings hx hb hts inX5 hown hK hW h07 q160 dX11_count_44 ?_
          refine lv_iload_n hx hb dX11_count_47 rfl (lv_at hl 1 rfl) ?_
          refine lv_bipush (v := 20) hx hb dX11_count_48 (by decide) ?_
          refine lv_isub hx hb dX11_count_50 ?_
          obtain ⟨hin_7, hF⟩ := gB_some hF
          obtain ⟨k_8, ek_8⟩ : ∃ k, k = Int32.toNatClampNeg ((x1 - 20)) := ⟨_, rfl⟩
          rw [← ek_8] at hF
          refine g_iald2 (k := k_8) hx hb hK hW (gok_m h07 (by decide)) (gad_lt (gok_m h07 (by decide))) (gE_m1 h07) hin_7 ek_8.symm dX11_count_51 ?_
          exact g_ri hx hb hr hlocks hW hL (Option.some.inj hF) dX11_count_52
    · replace hF := gT hc_4 hF
      refine lv_aload_n hx hb dX11_count_20 rfl (lv_at hl 0 rfl) ?_
      refine rg_X11_text hx hb hts inX11 hown hK hW q29 dX11_count_21 ?_
      refine rg_X6_length hx hb hts inX6 hown hK hW q157 dX11_count_24 ?_
      exact g_ri hx hb hr hlocks hW hL (Option.some.inj hF) dX11_count_27
  · replace hF := gT hc_3 hF
    refine lv_aload_n hx hb dX11_count_6 rfl (lv_at hl 0 rfl) ?_
    refine rg_X11_history hx hb hts inX11 hown hK hW q22 dX11_count_7 ?_
    refine rg_X3_kept hx hb hts inX3 hown hK hW q154 dX11_count_10 ?_
    exact g_ri hx hb hr hlocks hW hL (Option.some.inj hF) dX11_count_13
