abbrev rmX11_next : Room := { frames := 3, cells := 0, slots := 0, locals := 64 }
abbrev wsX11_next : List Cond := gws yX11_next cX11_next 1 (some .int)
set_option maxHeartbeats 4000000 in
set_option maxRecDepth 100000 in
theorem c_X11_next (l : Launch) (X : gX) (w : gWd)  (r : Int32) (w' : gWd) (hF : F_X11_next w = some (r, w')) : Met l yX11_next wsX11_next rmX11_next (gPc X [.ref (gA X 7 0)] w) (gQi X r w') 0 0 (gFr X) := by
  refine g_ofW (cc := cX11_next) (maxL := 1) (ret := (some .int)) (by decide) rfl (Nat.le_of_ble_eq_true rfl) (fun p e s m args below meth c ls H hx hb hr hts hown hlocks hml hK hl hW => ?_)
  have hl : lv_has ls 1 [(0, .ref (gA X 7 0))] := hl
  have hown : s.vm.findClass RX11 = some m.cls := hown
  have hL : gLo X [] := gLo_nil
  show W p l e rmX11_next s m args below meth c H [] 0 0 _ _
  have inX11 : ∀ w ∈ wsX110, w ∈ wsX11_next := fun w h => List.mem_cons_of_mem _ (inlX11 w h)
  have q10 := hts _ (List.mem_cons_of_mem _ wq_X11_10)
  have q22 := hts _ (List.mem_cons_of_mem _ wq_X11_22)
  have k40 : CallW rmX11_next s args RX11 RX3 40 yX3_prepare cX3_prepare 2 none wsX3_prepare rmX3_prepare 0 0 1 := cwV 1 hts (gGoodV (fun w h => List.mem_cons_of_mem _ h) wk_X11_40) rfl rfl rfl (by decide +kernel) ⟨Nat.le_of_ble_eq_true rfl, Nat.le_of_ble_eq_true rfl⟩
  have k50 : CallW rmX11_next s args RX11 RX3 50 yX3_keepUnlessError cX3_keepUnlessError 2 (some .int) wsX3_keepUnlessError rmX3_keepUnlessError 0 0 1 := cwV 1 hts (gGoodV (fun w h => List.mem_cons_of_mem _ h) wk_X11_50) rfl rfl rfl (by decide +kernel) ⟨Nat.le_of_ble_eq_true rfl, Nat.le_of_ble_eq_true rfl⟩
  have k74 : CallB rmX11_next s args RX11 74 yX1_beginNextEvent cX1_beginNextEvent 5 (some .int) wsX1_beginNextEvent rmX1_beginNextEvent 0 0 1 ∧ (Cond.static yX1_beginNextEvent).before args s = true := va_cwS 1 hts (gGoodS (fun w h => List.mem_cons_of_mem _ h) wk_X11_74) rfl rfl rfl (by decide +kernel) ⟨Nat.le_of_ble_eq_true rfl, Nat.le_of_ble_eq_true rfl⟩
  rw [F_X11_next] at hF
  obtain ⟨locs, hlocs⟩ : ∃ locs : List Loc, locs = [] := ⟨_, rfl⟩
  rw [← hlocs] at hL ⊢
  refine lv_aload_n hx hb dX11_next_0 rfl (lv_at hl 0 rfl) ?_
  refine rg_X11_history hx hb hts inX11 hown hK hW q22 dX11_next_1 ?_
  refine lv_aload_n hx hb dX11_next_4 rfl (lv_at hl 0 rfl) ?_
  refine rg_X11_meet hx hb hts inX11 hown hK hW q10 dX11_next_5 ?_
  obtain ⟨w_2, hq_1, hF⟩ := gP_some hF
  refine g_Vv (As := [.ref (gA X 0 0)]) (rest := []) ⟨hx, hb, hml, hown, hts⟩ hK hW hL hl.1 (gok_c (by decide)) gE_H rfl (c_X3_prepare l X w 0 h07 w_2 hq_1) k40 rfl rfl (Nat.le_of_ble_eq_true rfl) dX11_next_8 ⟨Nat.le_of_ble_eq_true rfl, Nat.le_of_ble_eq_true rfl⟩ (fun H locs hW hL => ?_)
  refine lv_aload_n hx hb dX11_next_11 rfl (lv_at hl 0 rfl) ?_
  refine rg_X11_history hx hb hts inX11 hown hK hW q22 dX11_next_12 ?_
  refine lv_aload_n hx hb dX11_next_15 rfl (lv_at hl 0 rfl) ?_
  refine rg_X11_meet hx hb hts inX11 hown hK hW q10 dX11_next_16 ?_
  obtain ⟨v_4, w_5, hq_3, hF⟩ := gC_some hF
  refine g_Si (As := [.ref (gA X 0 0)]) (rest := [.ref (gA X 7 1)]) ⟨hx, hb, hml, hown, hts⟩ hK hW hL hl.1 (c_X1_beginNextEvent l X w_2 0 h07 v_4 w_5 hq_3) k74 rfl rfl (Nat.le_of_ble_eq_true rfl) dX11_next_19 ⟨Nat.le_of_ble_eq_true rfl, Nat.le_of_ble_eq_true rfl⟩ (fun H locs hW hL => ?_)
  obtain ⟨v_7, w_8, hq_6, hF⟩ := gC_some hF
  refine g_Vi (As := [.int v_4]) (rest := []) ⟨hx, hb, hml, hown, hts⟩ hK hW hL hl.1 (gok_c (by decide)) gE_H rfl (c_X3_keepUnlessError l X w_5 v_4 v_7 w_8 hq_6) k50 rfl rfl (Nat.le_of_ble_eq_true rfl) dX11_next_22 ⟨Nat.le_of_ble_eq_true rfl, Nat.le_of_ble_eq_true rfl⟩ (fun H locs hW hL => ?_)
  exact g_ri hx hb hr hlocks (gW2 hF hW) hL (gI2 hF).1 dX11_next_25
abbrev rmX0_aboveZero : Room := { frames := 0, cells := 0, slots := 0, locals := 0 }
abbrev wsX0_aboveZero : List Cond := gws yX0_aboveZero cX0_aboveZero 1 (some .int)
set_option maxHeartbeats 4000000 in
set_option maxRecDepth 100000 in
theorem c_X0_aboveZero (l : Launch) (X : gX) (w : gWd) (x0 : Int32) (r : Int32) (hF : F_X0_aboveZero w x0 = some r) : Met l yX0_aboveZero wsX0_aboveZero rmX0_aboveZero (gPc X [.int x0] w) (gQi X r w) 0 0 (gFr X) := by
  refine g_ofW (cc := cX0_aboveZero) (maxL := 1) (ret := (some .int)) (by decide) rfl (Nat.le_of_ble_eq_true rfl) (fun p e s m args below meth c ls H hx hb hr hts hown hlocks hml hK hl hW => ?_)
  have hl : lv_has ls 1 [(0, .int x0)] := hl
  have hown : s.vm.findClass RX0 = some m.cls := hown
  have hL : gLo X [] := gLo_nil
  show W p l e rmX0_aboveZero s m args below meth c H [] 0 0 _ _
  have q22 := hts _ (List.mem_cons_of_mem _ wq_X0_22)
  rw [F_X0_aboveZero] at hF
  obtain ⟨locs, hlocs⟩ : ∃ locs : List Loc, locs = [] := ⟨_, rfl⟩
  rw [← hlocs] at hL ⊢
  refine lv_iload_n hx hb dX0_aboveZero_0 rfl (lv_at hl 0 rfl) ?_
  refine lv_if_le (tgt := 8) hx hb dX0_aboveZero_1 (by decide) (fun hc_1 => ?_) (fun hc_1 => ?_)
  · replace hF := gT hc_1 hF
    refine lv_ldc hx hb hown q22 dX0_aboveZero_8 ?_
    exact g_ri hx hb hr hlocks hW hL (Option.some.inj hF) dX0_aboveZero_10
  · replace hF := gF hc_1 hF
    refine lv_iload_n hx hb dX0_aboveZero_4 rfl (lv_at hl 0 rfl) ?_
    refine lv_goto (tgt := 10) hx hb dX0_aboveZero_5 (by decide) ?_
    exact g_ri hx hb hr hlocks hW hL (Option.some.inj hF) dX0_aboveZero_10
abbrev rmX0_ofSwimmer : Room := { frames := 3, cells := 0, slots := 0, locals := 65 }
abbrev wsX0_ofSwimmer : List Cond := gws yX0_ofSwimmer cX0_ofSwimmer 3 (some .int)
set_option maxHeartbeats 4000000 in
set_option maxRecDepth 100000 in
theorem c_X0_ofSwimmer (l : Launch) (X : gX) (w : gWd) (i0 : Nat) (hi0 : i0 < 7) (i1 : Nat) (hi1 : i1 < 7) (n1 : Nat) (hn1 : n1 < 30) (x2 : Int32) (r : Int32) (hF : F_X0_ofSwimmer w i0 i1 n1 x2 = some r) : Met l yX0_ofSwimmer wsX0_ofSwimmer rmX0_ofSwimmer (gPc X [.ref (gA X i0 0), .ref (gA X i1 (4 + n1)), .int x2] w) (gQi X r w) 0 0 (gFr X) := by
  refine g_ofW (cc := cX0_ofSwimmer) (maxL := 3) (ret := (some .int)) (by decide) rfl (Nat.le_of_ble_eq_true rfl) (fun p e s m args below meth c ls H hx hb hr hts hown hlocks hml hK hl hW => ?_)
  have hl : lv_has ls 3 [(0, .ref (gA X i0 0)), (1, .ref (gA X i1 (4 + n1))), (2, .int x2)] := hl
  have hown : s.vm.findClass RX0 = some m.cls := hown
  have hL : gLo X [] := gLo_nil
  show W p l e rmX0_ofSwimmer s m args below meth c H [] 0 0 _ _
  have inX10 : ∀ w ∈ wsX100, w ∈ wsX0_ofSwimmer := fun w h => List.mem_cons_of_mem _ (inlX10 w h)
  have q15 := hts _ (List.mem_cons_of_mem _ wq_X0_15)
  have q18 := hts _ (List.mem_cons_of_mem _ wq_X0_18)
  have q22 := hts _ (List.mem_cons_of_mem _ wq_X0_22)
  have q29 := hts _ (List.mem_cons_of_mem _ wq_X0_29)
  have q32 := hts _ (List.mem_cons_of_mem _ wq_X0_32)
  have q41 := hts _ (List.mem_cons_of_mem _ wq_X0_41)
  have q47 := hts _ (List.mem_cons_of_mem _ wq_X0_47)
  have q50 := hts _ (List.mem_cons_of_mem _ wq_X0_50)
  have q53 := hts _ (List.mem_cons_of_mem _ wq_X0_53)
  have q56 := hts _ (List.mem_cons_of_mem _ wq_X0_56)
  have q9 := hts _ (List.mem_cons_of_mem _ wq_X0_9)
  have k23 : CallW rmX0_ofSwimmer s args RX0 RX5 23 yX5_rankByEntry cX5_rankByEntry 4 (some .int) wsX5_rankByEntry rmX5_rankByEntry 0 0 1 := cwV 1 hts (gGoodV (fun w h => List.mem_cons_of_mem _ h) wk_X0_23) rfl rfl rfl (by decide +kernel) ⟨Nat.le_of_ble_eq_true rfl, Nat.le_of_ble_eq_true rfl⟩
  have k35 : CallB rmX0_ofSwimmer s args RX0 35 yX0_aboveZero cX0_aboveZero 1 (some .int) wsX0_aboveZero rmX0_aboveZero 0 0 1 ∧ (Cond.static yX0_aboveZero).before args s = true := va_cwS 1 hts (gGoodS (fun w h => List.mem_cons_of_mem _ h) wk_X0_35) rfl rfl rfl (by decide +kernel) ⟨Nat.le_of_ble_eq_true rfl, Nat.le_of_ble_eq_true rfl⟩
  have k44 : CallW rmX0_ofSwimmer s args RX0 RX5 44 yX5_rankByHeatTime cX5_rankByHeatTime 4 (some .int) wsX5_rankByHeatTime rmX5_rankByHeatTime 0 0 1 := cwV 1 hts (gGoodV (fun w h => List.mem_cons_of_mem _ h) wk_X0_44) rfl rfl rfl (by decide +kernel) ⟨Nat.le_of_ble_eq_true rfl, Nat.le_of_ble_eq_true rfl⟩
  rw [F_X0_ofSwimmer] at hF
  obtain ⟨locs, hlocs⟩ : ∃ locs : List Loc, locs = [] := ⟨_, rfl⟩
  rw [← hlocs] at hL ⊢
  refine lv_iload_n hx hb dX0_ofSwimmer_0 rfl (lv_at hl 2 rfl) ?_
  by_cases hc_1 : x2 = 0
  · replace hF := gT hc_1 hF
    refine lv_tableIn (off := 59) (tgt := 60) hx hb dX0_ofSwimmer_1 (by rw [hc_1]; decide) (by rw [hc_1]; decide) (by rw [hc_1]; rfl) (by decide) ?_
    refine lv_aload_n hx hb dX0_ofSwimmer_60 rfl (lv_at hl 1 rfl) ?_
    refine rg_X10_club hx hb hts inX10 hown hK hW hi1 hn1 q9 dX0_ofSwimmer_61 ?_
    exact g_ri hx hb hr hlocks hW hL (Option.some.inj hF) dX0_ofSwimmer_64
  · replace hF := gF hc_1 hF
    by_cases hc_2 : x2 = 1
    · replace hF := gT hc_2 hF
      refine lv_tableIn (off := 64) (tgt := 65) hx hb dX0_ofSwimmer_1 (by rw [hc_2]; decide) (by rw [hc_2]; decide) (by rw [hc_2]; rfl) (by decide) ?_
      refine lv_aload_n hx hb dX0_ofSwimmer_65 rfl (lv_at hl 1 rfl) ?_
      refine rg_X10_entry hx hb hts inX10 hown hK hW hi1 hn1 q15 dX0_ofSwimmer_66 ?_
      exact g_ri hx hb hr hlocks hW hL (Option.some.inj hF) dX0_ofSwimmer_69
    · replace hF := gF hc_2 hF
      by_cases hc_3 : x2 = 2
      · replace hF := gT hc_3 hF
        refine lv_tableIn (off := 69) (tgt := 70) hx hb dX0_ofSwimmer_1 (by rw [hc_3]; decide) (by rw [hc_3]; decide) (by rw [hc_3]; rfl) (by decide) ?_
        refine lv_aload_n hx hb dX0_ofSwimmer_70 rfl (lv_at hl 1 rfl) ?_
        refine rg_X10_scratched hx hb hts inX10 hown hK hW hi1 hn1 q18 dX0_ofSwimmer_71 ?_
        refine lv_if_eq (tgt := 82) hx hb dX0_ofSwimmer_74 (by decide) (fun hc_4 => ?_) (fun hc_4 => ?_)
        · replace hF := gT hc_4 hF
          refine lv_aload_n hx hb dX0_ofSwimmer_82 rfl (lv_at hl 0 rfl) ?_
          refine lv_aload_n hx hb dX0_ofSwimmer_83 rfl (lv_at hl 1 rfl) ?_
          obtain ⟨v_6, hq_5, hF⟩ := gP_some hF
          refine g_Vi (As := [.ref (gA X i1 (4 + n1))]) (rest := []) ⟨hx, hb, hml, hown, hts⟩ hK hW hL hl.1 (gok_m hi0 (by decide)) (gE_m0 hi0) rfl (c_X5_rankByEntry l X w i0 hi0 i1 hi1 n1 hn1 v_6 hq_5) k23 rfl rfl (Nat.le_of_ble_eq_true rfl) dX0_ofSwimmer_84 ⟨Nat.le_of_ble_eq_true rfl, Nat.le_of_ble_eq_true rfl⟩ (fun H locs hW hL => ?_)
          exact g_ri hx hb hr hlocks hW hL (Option.some.inj hF) dX0_ofSwimmer_87
        · replace hF := gF hc_4 hF
          refine lv_ldc hx hb hown q22 dX0_ofSwimmer_77 ?_
          refine lv_goto (tgt := 87) hx hb dX0_ofSwimmer_79 (by decide) ?_
          exact g_ri hx hb hr hlocks hW hL (Option.some.inj hF) dX0_ofSwimmer_87
      · replace hF := gF hc_3 hF
        by_cases hc_7 : x2 = 3
        · replace hF := gT hc_7 hF
          refine lv_tableIn (off := 87) (tgt := 88) hx hb dX0_ofSwimmer_1 (by rw [hc_7]; decide) (by rw [hc_7]; decide) (by rw [hc_7]; rfl) (by decide) ?_
          refine lv_aload_n hx hb dX0_ofSwimmer_88 rfl (lv_at hl 1 rfl) ?_
          refine rg_X10_heat hx hb hts inX10 hown hK hW hi1 hn1 q29 dX0_ofSwimmer_89 ?_
          refine lv_iconst (v := (-1)) hx hb dX0_ofSwimmer_92 (by decide) ?_
          refine lv_icmp_ne (tgt := 101) hx hb dX0_ofSwimmer_93 (by decide) (fun hc_8 => ?_) (fun hc_8 => ?_)
          · replace hF := gF hc_8 hF
            refine lv_aload_n hx hb dX0_ofSwimmer_101 rfl (lv_at hl 1 rfl) ?_
            refine rg_X10_heat hx hb hts inX10 hown hK hW hi1 hn1 q29 dX0_ofSwimmer_102 ?_
            exact g_ri hx hb hr hlocks hW hL (Option.some.inj hF) dX0_ofSwimmer_105
          · replace hF := gT hc_8 hF
            refine lv_ldc hx hb hown q22 dX0_ofSwimmer_96 ?_
            refine lv_goto (tgt := 105) hx hb dX0_ofSwimmer_98 (by decide) ?_
            exact g_ri hx hb hr hlocks hW hL (Option.some.inj hF) dX0_ofSwimmer_105
        · replace hF := gF hc_7 hF
          by_cases hc_9 : x2 = 4
          · replace hF := gT hc_9 hF
            refine lv_tableIn (off := 105) (tgt := 106) hx hb dX0_ofSwimmer_1 (by rw [hc_9]; decide) (by rw [hc_9]; decide) (by rw [hc_9]; rfl) (by decide) ?_
            refine lv_aload_n hx hb dX0_ofSwimmer_106 rfl (lv_at hl 1 rfl) ?_
            refine rg_X10_heatLane hx hb hts inX10 hown hK hW hi1 hn1 q32 dX0_ofSwimmer_107 ?_
            obtain ⟨v_11, hq_10, hF⟩ := gP_some hF
            refine g_Si (As := [.int (w i1 (4 + n1) 5)]) (rest := []) ⟨hx, hb, hml, hown, hts⟩ hK hW hL hl.1 (c_X0_aboveZero l X w ((w i1 (4 + n1) 5)) v_11 hq_10) k35 rfl rfl (Nat.le_of_ble_eq_true rfl) dX0_ofSwimmer_110 ⟨Nat.le_of_ble_eq_true rfl, Nat.le_of_ble_eq_true rfl⟩ (fun H locs hW hL => ?_)
            exact g_ri hx hb hr hlocks hW hL (Option.some.inj hF) dX0_ofSwimmer_113
          · replace hF := gF hc_9 hF
            by_cases hc_12 : x2 = 5
            · replace hF := gT hc_12 hF
              refine lv_tableIn (off := 113) (tgt := 114) hx hb dX0_ofSwimmer_1 (by rw [hc_12]; decide) (by rw [hc_12]; decide) (by rw [hc_12]; rfl) (by decide) ?_
              refine lv_aload_n hx hb dX0_ofSwimmer_114 rfl (lv_at hl 1 rfl) ?_
              refine rg_X10_heatTime hx hb hts inX10 hown hK hW hi1 hn1 q41 dX0_ofSwimmer_115 ?_
              refine lv_iconst (v := (-1)) hx hb dX0_ofSwimmer_118 (by decide) ?_
              refine lv_icmp_ne (tgt := 127) hx hb dX0_ofSwimmer_119 (by decide) (fun hc_13 => ?_) (fun hc_13 => ?_)
              · replace hF := gF hc_13 hF
                refine lv_aload_n hx hb dX0_ofSwimmer_127 rfl (lv_at hl 1 rfl) ?_
                refine rg_X10_heatTime hx hb hts inX10 hown hK hW hi1 hn1 q41 dX0_ofSwimmer_128 ?_
                exact g_ri hx hb hr hlocks hW hL (Option.some.inj hF) dX0_ofSwimmer_131
              · replace hF := gT hc_13 hF
                refine lv_ldc hx hb hown q22 dX0_ofSwimmer_122 ?_
                refine lv_goto (tgt := 131) hx hb dX0_ofSwimmer_124 (by decide) ?_
                exact g_ri hx hb hr hlocks hW hL (Option.some.inj hF) dX0_ofSwimmer_131
            · replace hF := gF hc_12 hF
              by_cases hc_14 : x2 = 6
              · replace hF := gT hc_14 hF
                refine lv_tableIn (off := 131) (tgt := 132) hx hb dX0_ofSwimmer_1 (by rw [hc_14]; decide) (by rw [hc_14]; decide) (by rw [hc_14]; rfl) (by decide) ?_
                refine lv_aload_n hx hb dX0_ofSwimmer_132 rfl (lv_at hl 1 rfl) ?_
                refine rg_X10_heatTime hx hb hts inX10 hown hK hW hi1 hn1 q41 dX0_ofSwimmer_133 ?_
                refine lv_if_le (tgt := 147) hx hb dX0_ofSwimmer_136 (by decide) (fun hc_15 => ?_) (fun hc_15 => ?_)
                · replace hF := gT hc_15 hF
                  refine lv_ldc hx hb hown q22 dX0_ofSwimmer_147 ?_
                  exact g_ri hx hb hr hlocks hW hL (Option.some.inj hF) dX0_ofSwimmer_149
                · replace hF := gF hc_15 hF
                  refine lv_aload_n hx hb dX0_ofSwimmer_139 rfl (lv_at hl 0 rfl) ?_
                  refine lv_aload_n hx hb dX0_ofSwimmer_140 rfl (lv_at hl 1 rfl) ?_
                  obtain ⟨v_17, hq_16, hF⟩ := gP_some hF
                  refine g_Vi (As := [.ref (gA X i1 (4 + n1))]) (rest := []) ⟨hx, hb, hml, hown, hts⟩ hK hW hL hl.1 (gok_m hi0 (by decide)) (gE_m0 hi0) rfl (c_X5_rankByHeatTime l X w i0 hi0 i1 hi1 n1 hn1 v_17 hq_16) k44 rfl rfl (Nat.le_of_ble_eq_true rfl) dX0_ofSwimmer_141 ⟨Nat.le_of_ble_eq_true rfl, Nat.le_of_ble_eq_true rfl⟩ (fun H locs hW hL => ?_)
                  refine lv_goto (tgt := 149) hx hb dX0_ofSwimmer_144 (by decide) ?_
                  exact g_ri hx hb hr hlocks hW hL (Option.some.inj hF) dX0_ofSwimmer_149
              · replace hF := gF hc_14 hF
                by_cases hc_18 : x2 = 7
                · replace hF := gT hc_18 hF
                  refine lv_tableIn (off := 149) (tgt := 150) hx hb dX0_ofSwimmer_1 (by rw [hc_18]; decide) (by rw [hc_18]; decide) (by rw [hc_18]; rfl) (by decide) ?_
                  refine lv_aload_n hx hb dX0_ofSwimmer_150 rfl (lv_at hl 1 rfl) ?_
                  refine rg_X10_finalLane hx hb hts inX10 hown hK hW hi1 hn1 q47 dX0_ofSwimmer_151 ?_
                  obtain ⟨v_20, hq_19, hF⟩ := gP_some hF
                  refine g_Si (As := [.int (w i1 (4 + n1) 7)]) (rest := []) ⟨hx, hb, hml, hown, hts⟩ hK hW hL hl.1 (c_X0_aboveZero l X w ((w i1 (4 + n1) 7)) v_20 hq_19) k35 rfl rfl (Nat.le_of_ble_eq_true rfl) dX0_ofSwimmer_154 ⟨Nat.le_of_ble_eq_true rfl, Nat.le_of_ble_eq_true rfl⟩ (fun H locs hW hL => ?_)
                  exact g_ri hx hb hr hlocks hW hL (Option.some.inj hF) dX0_ofSwimmer_157
                · replace hF := gF hc_18 hF
                  by_cases hc_21 : x2 = 8
                  · replace hF := gT hc_21 hF
                    refine lv_tableIn (off := 157) (tgt := 158) hx hb dX0_ofSwimmer_1 (by rw [hc_21]; decide) (by rw [hc_21]; decide) (by rw [hc_21]; rfl) (by decide) ?_
                    refine lv_aload_n hx hb dX0_ofSwimmer_158 rfl (lv_at hl 1 rfl) ?_
                    refine rg_X10_finalTime hx hb hts inX10 hown hK hW hi1 hn1 q50 dX0_ofSwimmer_159 ?_
                    refine lv_iconst (v := (-1)) hx hb dX0_ofSwimmer_162 (by decide) ?_
                    refine lv_icmp_ne (tgt := 171) hx hb dX0_ofSwimmer_163 (by decide) (fun hc_22 => ?_) (fun hc_22 => ?_)
                    · replace hF := gF hc_22 hF
                      refine lv_aload_n hx hb dX0_ofSwimmer_171 rfl (lv_at hl 1 rfl) ?_
                      refine rg_X10_finalTime hx hb hts inX10 hown hK hW hi1 hn1 q50 dX0_ofSwimmer_172 ?_
                      exact g_ri hx hb hr hlocks hW hL (Option.some.inj hF) dX0_ofSwimmer_175
                    · replace hF := gT hc_22 hF
                      refine lv_ldc hx hb hown q22 dX0_ofSwimmer_166 ?_
                      refine lv_goto (tgt := 175) hx hb dX0_ofSwimmer_168 (by decide) ?_
                      exact g_ri hx hb hr hlocks hW hL (Option.some.inj hF) dX0_ofSwimmer_175
                  · replace hF := gF hc_21 hF
                    by_cases hc_23 : x2 = 9
                    · replace hF := gT hc_23 hF
                      refine lv_tableIn (off := 175) (tgt := 176) hx hb dX0_ofSwimmer_1 (by rw [hc_23]; decide) (by rw [hc_23]; decide) (by rw [hc_23]; rfl) (by decide) ?_
                      refine lv_aload_n hx hb dX0_ofSwimmer_176 rfl (lv_at hl 1 rfl) ?_
                      refine rg_X10_place hx hb hts inX10 hown hK hW hi1 hn1 q53 dX0_ofSwimmer_177 ?_
                      obtain ⟨v_25, hq_24, hF⟩ := gP_some hF
                      refine g_Si (As := [.int (w i1 (4 + n1) 9)]) (rest := []) ⟨hx, hb, hml, hown, hts⟩ hK hW hL hl.1 (c_X0_aboveZero l X w ((w i1 (4 + n1) 9)) v_25 hq_24) k35 rfl rfl (Nat.le_of_ble_eq_true rfl) dX0_ofSwimmer_180 ⟨Nat.le_of_ble_eq_true rfl, Nat.le_of_ble_eq_true rfl⟩ (fun H locs hW hL => ?_)
                      exact g_ri hx hb hr hlocks hW hL (Option.some.inj hF) dX0_ofSwimmer_183
                    · replace hF := gF hc_23 hF
                      by_cases hc_26 : x2 = 10
                      · replace hF := gT hc_26 hF
                        refine lv_tableIn (off := 183) (tgt := 184) hx hb dX0_ofSwimmer_1 (by rw [hc_26]; decide) (by rw [hc_26]; decide) (by rw [hc_26]; rfl) (by decide) ?_
                        refine lv_aload_n hx hb dX0_ofSwimmer_184 rfl (lv_at hl 1 rfl) ?_
                        refine rg_X10_scratched hx hb hts inX10 hown hK hW hi1 hn1 q18 dX0_ofSwimmer_185 ?_
                        refine lv_if_eq (tgt := 195) hx hb dX0_ofSwimmer_188 (by decide) (fun hc_27 => ?_) (fun hc_27 => ?_)
                        · replace hF := gT hc_27 hF
                          refine lv_iconst (v := 0) hx hb dX0_ofSwimmer_195 (by decide) ?_
                          exact g_ri hx hb hr hlocks hW hL (Option.some.inj hF) dX0_ofSwimmer_196
                        · replace hF := gF hc_27 hF
                          refine lv_iconst (v := 1) hx hb dX0_ofSwimmer_191 (by decide) ?_
                          refine lv_goto (tgt := 196) hx hb dX0_ofSwimmer_192 (by decide) ?_
                          exact g_ri hx hb hr hlocks hW hL (Option.some.inj hF) dX0_ofSwimmer_196
                      · replace hF := gF hc_26 hF
                        refine lv_tableOut (tgt := 197) hx hb dX0_ofSwimmer_1 (g_tabOut (fun k h1 h2 h3 => ?_)) (by decide) ?_
                        · have hk : k = 0 ∨ k = 1 ∨ k = 2 ∨ k = 3 ∨ k = 4 ∨ k = 5 ∨ k = 6 ∨ k = 7 ∨ k = 8 ∨ k = 9 ∨ k = 10 := by omega
                          rcases hk with rfl | rfl | rfl | rfl | rfl | rfl | rfl | rfl | rfl | rfl | rfl
                          · exact hc_1 (Int32.toInt_inj.mp (h3.trans (by decide)))
                          · exact hc_2 (Int32.toInt_inj.mp (h3.trans (by decide)))
                          · exact hc_3 (Int32.toInt_inj.mp (h3.trans (by decide)))
                          · exact hc_7 (Int32.toInt_inj.mp (h3.trans (by decide)))
                          · exact hc_9 (Int32.toInt_inj.mp (h3.trans (by decide)))
                          · exact hc_12 (Int32.toInt_inj.mp (h3.trans (by decide)))
                          · exact hc_14 (Int32.toInt_inj.mp (h3.trans (by decide)))
                          · exact hc_18 (Int32.toInt_inj.mp (h3.trans (by decide)))
                          · exact hc_21 (Int32.toInt_inj.mp (h3.trans (by decide)))
                          · exact hc_23 (Int32.toInt_inj.mp (h3.trans (by decide)))
                          · exact hc_26 (Int32.toInt_inj.mp (h3.trans (by decide)))
                        · skip
                          refine lv_aload_n hx hb dX0_ofSwimmer_197 rfl (lv_at hl 1 rfl) ?_
                          refine rg_X10_brought hx hb hts inX10 hown hK hW hi1 hn1 q56 dX0_ofSwimmer_198 ?_
                          exact g_ri hx hb hr hlocks hW hL (Option.some.inj hF) dX0_ofSwimmer_201
abbrev rmX11_swimmer : Room := { frames := 4, cells := 0, slots := 0, locals := 87 }
abbrev wsX11_swimmer : List Cond := gws yX11_swimmer cX11_swimmer 3 (some .int)
set_option maxHeartbeats 4000000 in
set_option maxRecDepth 100000 in
theorem c_X11_swimmer (l : Launch) (X : gX) (w : gWd) (x1 : Int32) (x2 : Int32) (r : Int32) (hF : F_X11_swimmer w x1 x2 = some r) : Met l yX11_swimmer wsX11_swimmer rmX11_swimmer (gPc X [.ref (gA X 7 0), .int x1, .int x2] w) (gQi X r w) 0 0 (gFr X) := by
  refine g_ofW (cc := cX11_swimmer) (maxL := 3) (ret := (some .int)) (by decide) rfl (Nat.le_of_ble_eq_true rfl) (fun p e s m args below meth c ls H hx hb hr hts hown hlocks hml hK hl hW => ?_)
  have hl : lv_has ls 3 [(0, .ref (gA X 7 0)), (1, .int x1), (2, .int x2)] := hl
  have hown : s.vm.findClass RX11 = some m.cls := hown
  have hL : gLo X [] := gLo_nil
  show W p l e rmX11_swimmer s m args below meth c H [] 0 0 _ _
  have inX11 : ∀ w ∈ wsX110, w ∈ wsX11_swimmer := fun w h => List.mem_cons_of_mem _ (inlX11 w h)
  have inX5 : ∀ w ∈ wsX50, w ∈ wsX11_swimmer := fun w h => List.mem_cons_of_mem _ (inlX5 w h)
  have q10 := hts _ (List.mem_cons_of_mem _ wq_X11_10)
  have q81 := hts _ (List.mem_cons_of_mem _ wq_X11_81)
  have q82 := hts _ (List.mem_cons_of_mem _ wq_X11_82)
  have k77 : CallW rmX11_swimmer s args RX11 RX5 77 yX5_has cX5_has 2 (some .boolean) wsX5_has rmX5_has 0 0 1 := cwV 1 hts (gGoodV (fun w h => List.mem_cons_of_mem _ h) wk_X11_77) rfl rfl rfl (by decide +kernel) ⟨Nat.le_of_ble_eq_true rfl, Nat.le_of_ble_eq_true rfl⟩
  have k86 : CallB rmX11_swimmer s args RX11 86 yX0_ofSwimmer cX0_ofSwimmer 3 (some .int) wsX0_ofSwimmer rmX0_ofSwimmer 0 0 3 ∧ (Cond.static yX0_ofSwimmer).before args s = true := va_cwS 3 hts (gGoodS (fun w h => List.mem_cons_of_mem _ h) wk_X11_86) rfl rfl rfl (by decide +kernel) ⟨Nat.le_of_ble_eq_true rfl, Nat.le_of_ble_eq_true rfl⟩
  rw [F_X11_swimmer] at hF
  obtain ⟨locs, hlocs⟩ : ∃ locs : List Loc, locs = [] := ⟨_, rfl⟩
  rw [← hlocs] at hL ⊢
  refine lv_aload_n hx hb dX11_swimmer_0 rfl (lv_at hl 0 rfl) ?_
  refine rg_X11_meet hx hb hts inX11 hown hK hW q10 dX11_swimmer_1 ?_
  refine lv_iload_n hx hb dX11_swimmer_4 rfl (lv_at hl 1 rfl) ?_
  obtain ⟨v_2, hq_1, hF⟩ := gP_some hF
  refine g_Vi (As := [.int x1]) (rest := []) ⟨hx, hb, hml, hown, hts⟩ hK hW hL hl.1 (gok_m h07 (by decide)) (gE_m0 h07) rfl (c_X5_has l X w 0 h07 x1 v_2 hq_1) k77 rfl rfl (Nat.le_of_ble_eq_true rfl) dX11_swimmer_5 ⟨Nat.le_of_ble_eq_true rfl, Nat.le_of_ble_eq_true rfl⟩ (fun H locs hW hL => ?_)
  refine lv_if_eq (tgt := 21) hx hb dX11_swimmer_8 (by decide) (fun hc_3 => ?_) (fun hc_3 => ?_)
  · replace hF := gT hc_3 hF
    refine lv_ldc hx hb hown q81 dX11_swimmer_21 ?_
    exact g_ri hx hb hr hlocks hW hL (Option.some.inj hF) dX11_swimmer_23
  · replace hF := gF hc_3 hF
    refine lv_iload_n hx hb dX11_swimmer_11 rfl (lv_at hl 2 rfl) ?_
    refine lv_if_lt (tgt := 21) hx hb dX11_swimmer_12 (by decide) (fun hc_4 => ?_) (fun hc_4 => ?_)
    · replace hF := gT hc_4 hF
      refine lv_ldc hx hb hown q81 dX11_swimmer_21 ?_
      exact g_ri hx hb hr hlocks hW hL (Option.some.inj hF) dX11_swimmer_23
    · replace hF := gF hc_4 hF
      refine lv_iload_n hx hb dX11_swimmer_15 rfl (lv_at hl 2 rfl) ?_
      refine lv_bipush (v := 11) hx hb dX11_swimmer_16 (by decide) ?_
      refine lv_icmp_le (tgt := 24) hx hb dX11_swimmer_18 (by decide) (fun hc_5 => ?_) (fun hc_5 => ?_)
      · replace hF := gT hc_5 hF
        refine lv_aload_n hx hb dX11_swimmer_24 rfl (lv_at hl 0 rfl) ?_
        refine rg_X11_meet hx hb hts inX11 hown hK hW q10 dX11_swimmer_25 ?_
        refine lv_aload_n hx hb dX11_swimmer_28 rfl (lv_at hl 0 rfl) ?_
        refine rg_X11_meet hx hb hts inX11 hown hK hW q10 dX11_swimmer_29 ?_
        refine rg_X5_all hx hb hts inX5 hown hK hW h07 q82 dX11_swimmer_32 ?_
        refine lv_iload_n hx hb dX11_swimmer_35 rfl (lv_at hl 1 rfl) ?_
        obtain ⟨hin_6, hF⟩ := gB_some hF
        obtain ⟨k_7, ek_7⟩ : ∃ k, k = Int32.toNatClampNeg x1 := ⟨_, rfl⟩
        rw [← ek_7] at hF
        refine r_all (k := k_7) hx hb hK hW h07 hin_6 ek_7.symm dX11_swimmer_36 ?_
        refine lv_iload_n hx hb dX11_swimmer_37 rfl (lv_at hl 2 rfl) ?_
        obtain ⟨v_9, hq_8, hF⟩ := gP_some hF
        refine g_Si (As := [.ref (gA X 0 0), .ref (gA X 0 (4 + k_7)), .int x2]) (rest := []) ⟨hx, hb, hml, hown, hts⟩ hK hW hL hl.1 (c_X0_ofSwimmer l X w 0 h07 0 h07 k_7 (vp_lt2 hin_6 ek_7.symm) x2 v_9 hq_8) k86 rfl rfl (Nat.le_of_ble_eq_true rfl) dX11_swimmer_38 ⟨Nat.le_of_ble_eq_true rfl, Nat.le_of_ble_eq_true rfl⟩ (fun H locs hW hL => ?_)
        exact g_ri hx hb hr hlocks hW hL (Option.some.inj hF) dX11_swimmer_41
      · replace hF := gF hc_5 hF
        refine lv_ldc hx hb hown q81 dX11_swimmer_21 ?_
        exact g_ri hx hb hr hlocks hW hL (Option.some.inj hF) dX11_swimmer_23
abbrev rmX10_isIn : Room := { frames := 0, cells := 0, slots := 0, locals := 0 }
abbrev wsX10_isIn : List Cond := gws yX10_isIn cX10_isIn 2 (some .boolean)
set_option maxHeartbeats 4000000 in
set_option maxRecDepth 100000 in
theorem c_X10_isIn (l : Launch) (X : gX) (w : gWd) (i0 : Nat) (hi0 : i0 < 7) (n0 : Nat) (hn0 : n0 < 30) (x1 : Int32) (r : Int32) (hF : F_X10_isIn w i0 n0 x1 = some r) : Met l yX10_isIn wsX10_isIn rmX10_isIn (gPc X [.ref (gA X i0 (4 + n0)), .int x1] w) (gQi X r w) 0 0 (gFr X) := by
  refine g_ofW (cc := cX10_isIn) (maxL := 2) (ret := (some .boolean)) (by decide) rfl (Nat.le_of_ble_eq_true rfl) (fun p e s m args below meth c ls H hx hb hr hts hown hlocks hml hK hl hW => ?_)
  have hl : lv_has ls 2 [(0, .ref (gA X i0 (4 + n0))), (1, .int x1)] := hl
  have hown : s.vm.findClass RX10 = some m.cls := hown
  have hL : gLo X [] := gLo_nil
  show W p l e rmX10_isIn s m args below meth c H [] 0 0 _ _
  have inX10 : ∀ w ∈ wsX100, w ∈ wsX10_isIn := fun w h => List.mem_cons_of_mem _ (inlX10 w h)
  have q40 := hts _ (List.mem_cons_of_mem _ wq_X10_40)
  have q49 := hts _ (List.mem_cons_of_mem _ wq_X10_49)
  rw [F_X10_isIn] at hF
  obtain ⟨locs, hlocs⟩ : ∃ locs : List Loc, locs = [] := ⟨_, rfl⟩
  rw [← hlocs] at hL ⊢
  refine lv_iload_n hx hb dX10_isIn_0 rfl (lv_at hl 1 rfl) ?_
  refine lv_iconst (v := (-1)) hx hb dX10_isIn_1 (by decide) ?_
  refine lv_icmp_ne (tgt := 20) hx hb dX10_isIn_2 (by decide) (fun hc_1 => ?_) (fun hc_1 => ?_)
  · replace hF := gF hc_1 hF
    refine lv_aload_n hx hb dX10_isIn_20 rfl (lv_at hl 0 rfl) ?_
    refine rg_X10_heat hx hb hts inX10 hown hK hW hi0 hn0 q40 dX10_isIn_21 ?_
    refine lv_iload_n hx hb dX10_isIn_24 rfl (lv_at hl 1 rfl) ?_
    refine lv_icmp_ne (tgt := 32) hx hb dX10_isIn_25 (by decide) (fun hc_2 => ?_) (fun hc_2 => ?_)
    · replace hF := gF hc_2 hF
      refine lv_iconst (v := 0) hx hb dX10_isIn_32 (by decide) ?_
      exact g_rz hx hb hr hlocks hW hL (Or.inl rfl) (Option.some.inj hF) dX10_isIn_33
    · replace hF := gT hc_2 hF
      refine lv_iconst (v := 1) hx hb dX10_isIn_28 (by decide) ?_
      refine lv_goto (tgt := 33) hx hb dX10_isIn_29 (by decide) ?_
      exact g_rz hx hb hr hlocks hW hL (Or.inr rfl) (Option.some.inj hF) dX10_isIn_33
  · replace hF := gT hc_1 hF
    refine lv_aload_n hx hb dX10_isIn_5 rfl (lv_at hl 0 rfl) ?_
    refine rg_X10_finalLane hx hb hts inX10 hown hK hW hi0 hn0 q49 dX10_isIn_6 ?_
    refine lv_if_eq (tgt := 16) hx hb dX10_isIn_9 (by decide) (fun hc_3 => ?_) (fun hc_3 => ?_)
    · replace hF := gT hc_3 hF
      refine lv_iconst (v := 0) hx hb dX10_isIn_16 (by decide) ?_
      refine lv_goto (tgt := 33) hx hb dX10_isIn_17 (by decide) ?_
      exact g_rz hx hb hr hlocks hW hL (Or.inl rfl) (Option.some.inj hF) dX10_isIn_33
    · replace hF := gF hc_3 hF
      refine lv_iconst (v := 1) hx hb dX10_isIn_12 (by decide) ?_
      refine lv_goto (tgt := 33) hx hb dX10_isIn_13 (by decide) ?_
      exact g_rz hx hb hr hlocks hW hL (Or.inr rfl) (Option.some.inj hF) dX10_isIn_33
abbrev rmX10_laneOf : Room := { frames := 0, cells := 0, slots := 0, locals := 0 }
abbrev wsX10_laneOf : List Cond := gws yX10_laneOf cX10_laneOf 2 (some .int)
set_option maxHeartbeats 4000000 in
set_option maxRecDepth 100000 in
theorem c_X10_laneOf (l : Launch) (X : gX) (w : gWd) (i0 : Nat) (hi0 : i0 < 7) (n0 : Nat) (hn0 : n0 < 30) (x1 : Int32) (r : Int32) (hF : F_X10_laneOf w i0 n0 x1 = some r) : Met l yX10_laneOf wsX10_laneOf rmX10_laneOf (gPc X [.ref (gA X i0 (4 + n0)), .int x1] w) (gQi X r w) 0 0 (gFr X) := by
  refine g_ofW (cc := cX10_laneOf) (maxL := 2) (ret := (some .int)) (by decide) rfl (Nat.le_of_ble_eq_true rfl) (fun p e s m args below meth c ls H hx hb hr hts hown hlocks hml hK hl hW => ?_)
  have hl : lv_has ls 2 [(0, .ref (gA X i0 (4 + n0))), (1, .int x1)] := hl
  have hown : s.vm.findClass RX10 = some m.cls := hown
  have hL : gLo X [] := gLo_nil
  show W p l e rmX10_laneOf s m args below meth c H [] 0 0 _ _
  have inX10 : ∀ w ∈ wsX100, w ∈ wsX10_laneOf := fun w h => List.mem_cons_of_mem _ (inlX10 w h)
  have q43 := hts _ (List.mem_cons_of_mem _ wq_X10_43)
  have q49 := hts _ (List.mem_cons_of_mem _ wq_X10_49)
  rw [F_X10_laneOf] at hF
  obtain ⟨locs, hlocs⟩ : ∃ locs : List Loc, locs = [] := ⟨_, rfl⟩
  rw [← hlocs] at hL ⊢
  refine lv_iload_n hx hb dX10_laneOf_0 rfl (lv_at hl 1 rfl) ?_
  refine lv_iconst (v := (-1)) hx hb dX10_laneOf_1 (by decide) ?_
  refine lv_icmp_ne (tgt := 12) hx hb dX10_laneOf_2 (by decide) (fun hc_1 => ?_) (fun hc_1 => ?_)
  · replace hF := gF hc_1 hF
    refine lv_aload_n hx hb dX10_laneOf_12 rfl (lv_at hl 0 rfl) ?_
    refine rg_X10_heatLane hx hb hts inX10 hown hK hW hi0 hn0 q43 dX10_laneOf_13 ?_
    exact g_ri hx hb hr hlocks hW hL (Option.some.inj hF) dX10_laneOf_16
  · replace hF := gT hc_1 hF
    refine lv_aload_n hx hb dX10_laneOf_5 rfl (lv_at hl 0 rfl) ?_
    refine rg_X10_finalLane hx hb hts inX10 hown hK hW hi0 hn0 q49 dX10_laneOf_6 ?_
    refine lv_goto (tgt := 16) hx hb dX10_laneOf_9 (by decide) ?_
    exact g_ri hx hb hr hlocks hW hL (Option.some.inj hF) dX10_laneOf_16
abbrev rmX0_inLane : Room := { frames := 1, cells := 0, slots := 0, locals := 21 }
abbrev wsX0_inLane : List Cond := gws yX0_inLane cX0_inLane 5 (some .int)
set_option maxHeartbeats 4000000 in
set_option maxRecDepth 100000 in
theorem c_X0_inLane (l : Launch) (X : gX) (w : gWd) (i0 : Nat) (hi0 : i0 < 7) (x1 : Int32) (x2 : Int32) (r : Int32) (hF : F_X0_inLane w i0 x1 x2 = some r) : Met l yX0_inLane wsX0_inLane rmX0_inLane (gPc X [.ref (gA X i0 0), .int x1, .int x2] w) (gQi X r w) 0 0 (gFr X) := by
  refine g_ofW (cc := cX0_inLane) (maxL := 5) (ret := (some .int)) (by decide) rfl (Nat.le_of_ble_eq_true rfl) (fun p e s m args below meth c ls H hx hb hr hts hown hlocks hml hK hl hW => ?_)
  have hl : lv_has ls 5 [(0, .ref (gA X i0 0)), (1, .int x1), (2, .int x2)] := hl
  have hown : s.vm.findClass RX0 = some m.cls := hown
  have hL : gLo X [] := gLo_nil
  show W p l e rmX0_inLane s m args below meth c H [] 0 0 _ _
  have inX5 : ∀ w ∈ wsX50, w ∈ wsX0_inLane := fun w h => List.mem_cons_of_mem _ (inlX5 w h)
  have q22 := hts _ (List.mem_cons_of_mem _ wq_X0_22)
  have q59 := hts _ (List.mem_cons_of_mem _ wq_X0_59)
  have q62 := hts _ (List.mem_cons_of_mem _ wq_X0_62)
  have k66 : CallW rmX0_inLane s args RX0 RX10 66 yX10_isIn cX10_isIn 2 (some .boolean) wsX10_isIn rmX10_isIn 0 0 1 := cwV 1 hts (gGoodV (fun w h => List.mem_cons_of_mem _ h) wk_X0_66) rfl rfl rfl (by decide +kernel) ⟨Nat.le_of_ble_eq_true rfl, Nat.le_of_ble_eq_true rfl⟩
  have k70 : CallW rmX0_inLane s args RX0 RX10 70 yX10_laneOf cX10_laneOf 2 (some .int) wsX10_laneOf rmX10_laneOf 0 0 1 := cwV 1 hts (gGoodV (fun w h => List.mem_cons_of_mem _ h) wk_X0_70) rfl rfl rfl (by decide +kernel) ⟨Nat.le_of_ble_eq_true rfl, Nat.le_of_ble_eq_true rfl⟩
  have L_2 : ∀ (fu : Nat) (i0 : Nat) (x1 : Int32) (x2 : Int32) (x3 : Int32) (hi0 : i0 < 7) (ls : Array Slot) (hl : lv_has ls 5 [(0, .ref (gA X i0 0)), (1, .int x1), (2, .int x2), (3, .int x3)]) (hF : F_X0_inLane_2 fu w i0 x1 x2 x3 = some r) (H : Heap) (locs : List Loc) (hW : gWo X 251 (gE X w) H) (hL : gLo X locs), W p l e rmX0_inLane s m args below meth c H locs 0 0 (MQ below (gQi X r w) args s 0 0 (gFr X)) (F0 m 2 ls []) := by
    intro fu
    induction fu with
    | zero => intro i0 x1 x2 x3 hi0 ls hl hF H locs hW hL; rw [F_X0_inLane_2_z] at hF; cases hF
    | succ fu2 ih2 =>
      intro i0 x1 x2 x3 hi0 ls hl hF H locs hW hL
      rw [F_X0_inLane_2_s] at hF
      refine lv_iload_n hx hb dX0_inLane_2 rfl (lv_at hl 3 rfl) ?_
      refine lv_aload_n hx hb dX0_inLane_3 rfl (lv_at hl 0 rfl) ?_
      refine rg_X5_size hx hb hts inX5 hown hK hW hi0 q59 dX0_inLane_4 ?_
      refine lv_icmp_ge (tgt := 45) hx hb dX0_inLane_7 (by decide) (fun hc_1 => ?_) (fun hc_1 => ?_)
      · replace hF := gT hc_1 hF
        refine lv_ldc hx hb hown q22 dX0_inLane_45 ?_
        exact g_ri hx hb hr hlocks hW hL (Option.some.inj hF) dX0_inLane_47
      · replace hF := gF hc_1 hF
        refine lv_aload_n hx hb dX0_inLane_10 rfl (lv_at hl 0 rfl) ?_
        refine rg_X5_all hx hb hts inX5 hown hK hW hi0 q62 dX0_inLane_11 ?_
        refine lv_iload_n hx hb dX0_inLane_14 rfl (lv_at hl 3 rfl) ?_
        obtain ⟨hin_2, hF⟩ := gB_some hF
        obtain ⟨k_3, ek_3⟩ : ∃ k, k = Int32.toNatClampNeg x3 := ⟨_, rfl⟩
        rw [← ek_3] at hF
        refine r_all (k := k_3) hx hb hK hW hi0 hin_2 ek_3.symm dX0_inLane_15 ?_
        refine lv_astore (lv' := [(4, .ref (gA X i0 (4 + k_3))), (0, .ref (gA X i0 0)), (1, .int x1), (2, .int x2), (3, .int x3)]) hx hb dX0_inLane_16 hl (by decide) rfl (fun ls hl => ?_)
        refine lv_aload hx hb dX0_inLane_18 (lv_at hl 0 rfl) ?_
        refine lv_iload_n hx hb dX0_inLane_20 rfl (lv_at hl 2 rfl) ?_
        obtain ⟨v_5, hq_4, hF⟩ := gP_some hF
        refine g_Vi (As := [.int x1]) (rest := []) ⟨hx, hb, hml, hown, hts⟩ hK hW hL hl.1 (gok_s hi0 (vp_lt2 hin_2 ek_3.symm)) (gE_ms hi0 k_3) rfl (c_X10_isIn l X w i0 hi0 k_3 (vp_lt2 hin_2 ek_3.symm) x1 v_5 hq_4) k66 rfl rfl (Nat.le_of_ble_eq_true rfl) dX0_inLane_21 ⟨Nat.le_of_ble_eq_true rfl, Nat.le_of_ble_eq_true rfl⟩ (fun H locs hW hL => ?_)
        refine lv_if_eq (tgt := 39) hx hb dX0_inLane_24 (by decide) (fun hc_6 => ?_) (fun hc_6 => ?_)
        · replace hF := gT hc_6 hF
          obtain ⟨x3_7, ex3_7, hF⟩ := gS_some hF
          refine lv_iinc (v := x3_7) (lv' := [(3, .int x3_7), (4, .ref (gA X i0 (4 + k_3))), (0, .ref (gA X i0 0)), (1, .int x1), (2, .int x2)]) hx hb dX0_inLane_39 hl (k := 4) rfl (by rw [ex3_7]; rfl) (by decide) rfl (fun ls hl => ?_)
          refine lv_goto (tgt := 2) hx hb dX0_inLane_42 (by decide) ?_
          exact ih2 i0 x1 x2 x3_7 hi0 ls (lv_sub hl [2, 3, 4, 0] rfl) hF H locs hW hL
        · replace hF := gF hc_6 hF
          refine lv_aload hx hb dX0_inLane_27 (lv_at hl 0 rfl) ?_
          refine lv_iload_n hx hb dX0_inLane_29 rfl (lv_at hl 2 rfl) ?_
          obtain ⟨v_9, hq_8, hF⟩ := gP_some hF
          refine g_Vi (As := [.int x1]) (rest := []) ⟨hx, hb, hml, hown, hts⟩ hK hW hL hl.1 (gok_s hi0 (vp_lt2 hin_2 ek_3.symm)) (gE_ms hi0 k_3) rfl (c_X10_laneOf l X w i0 hi0 k_3 (vp_lt2 hin_2 ek_3.symm) x1 v_9 hq_8) k70 rfl rfl (Nat.le_of_ble_eq_true rfl) dX0_inLane_30 ⟨Nat.le_of_ble_eq_true rfl, Nat.le_of_ble_eq_true rfl⟩ (fun H locs hW hL => ?_)
          refine lv_iload_n hx hb dX0_inLane_33 rfl (lv_at hl 3 rfl) ?_
          refine lv_icmp_ne (tgt := 39) hx hb dX0_inLane_34 (by decide) (fun hc_10 => ?_) (fun hc_10 => ?_)
          · replace hF := gF hc_10 hF
            obtain ⟨x3_11, ex3_11, hF⟩ := gS_some hF
            refine lv_iinc (v := x3_11) (lv' := [(3, .int x3_11), (4, .ref (gA X i0 (4 + k_3))), (0, .ref (gA X i0 0)), (1, .int x1), (2, .int x2)]) hx hb dX0_inLane_39 hl (k := 4) rfl (by rw [ex3_11]; rfl) (by decide) rfl (fun ls hl => ?_)
            refine lv_goto (tgt := 2) hx hb dX0_inLane_42 (by decide) ?_
            exact ih2 i0 x1 x2 x3_11 hi0 ls (lv_sub hl [2, 3, 4, 0] rfl) hF H locs hW hL
          · replace hF := gT hc_10 hF
            refine lv_iload_n hx hb dX0_inLane_37 rfl (lv_at hl 4 rfl) ?_
            exact g_ri hx hb hr hlocks hW hL (Option.some.inj hF) dX0_inLane_38
  rw [F_X0_inLane] at hF
  obtain ⟨locs, hlocs⟩ : ∃ locs : List Loc, locs = [] := ⟨_, rfl⟩
  rw [← hlocs] at hL ⊢
  refine lv_iconst (v := 0) hx hb dX0_inLane_0 (by decide) ?_
  refine lv_istore_n (lv' := [(3, .int 0), (0, .ref (gA X i0 0)), (1, .int x1), (2, .int x2)]) hx hb dX0_inLane_1 rfl hl (by decide) rfl (fun ls hl => ?_)
  exact L_2 gFU i0 x1 x2 0 hi0 ls (lv_sub hl [1, 2, 3, 0] rfl) hF H locs hW hL
abbrev rmX5_hasHeat : Room := { frames := 0, cells := 0, slots := 0, locals := 0 }
abbrev wsX5_hasHeat : List Cond := gws yX5_hasHeat cX5_hasHeat 2 (some .boolean)
set_option maxHeartbeats 4000000 in
set_option maxRecDepth 100000 in
theorem c_X5_hasHeat (l : Launch) (X : gX) (w : gWd) (i0 : Nat) (hi0 : i0 < 7) (x1 : Int32) (r : Int32) (hF : F_X5_hasHeat w i0 x1 = some r) : Met l yX5_hasHeat wsX5_hasHeat rmX5_hasHeat (gPc X [.ref (gA X i0 0), .int x1] w) (gQi X r w) 0 0 (gFr X) := by
  refine g_ofW (cc := cX5_hasHeat) (maxL := 2) (ret := (some .boolean)) (by decide) rfl (Nat.le_of_ble_eq_true rfl) (fun p e s m args below meth c ls H hx hb hr hts hown hlocks hml hK hl hW => ?_)
  have hl : lv_has ls 2 [(0, .ref (gA X i0 0)), (1, .int x1)] := hl
  have hown : s.vm.findClass RX5 = some m.cls := hown
  have hL : gLo X [] := gLo_nil
  show W p l e rmX5_hasHeat s m args below meth c H [] 0 0 _ _
  have inX5 : ∀ w ∈ wsX50, w ∈ wsX5_hasHeat := fun w h => List.mem_cons_of_mem _ (inlX5 w h)
  have q36 := hts _ (List.mem_cons_of_mem _ wq_X5_36)
  have q39 := hts _ (List.mem_cons_of_mem _ wq_X5_39)
  have B_37 : ∀   (ls : Array Slot) (hl : lv_has ls 2 []) (hF : F_X5_hasHeat_37 w = some r) (H : Heap) (locs : List Loc) (hW : gWo X 251 (gE X w) H) (hL : gLo X locs), W p l e rmX5_hasHeat s m args below meth c H locs 0 0 (MQ below (gQi X r w) args s 0 0 (gFr X)) (F0 m 37 ls []) := by
    intro ls hl hF H locs hW hL
    rw [F_X5_hasHeat_37] at hF
    refine lv_iconst (v := 0) hx hb dX5_hasHeat_37 (by decide) ?_
    exact g_rz hx hb hr hlocks hW hL (Or.inl rfl) (Option.some.inj hF) dX5_hasHeat_38
  rw [F_X5_hasHeat] at hF
  obtain ⟨locs, hlocs⟩ : ∃ locs : List Loc, locs = [] := ⟨_, rfl⟩
  rw [← hlocs] at hL ⊢
  refine lv_iload_n hx hb dX5_hasHeat_0 rfl (lv_at hl 1 rfl) ?_
  refine lv_iconst (v := (-1)) hx hb dX5_hasHeat_1 (by decide) ?_
  refine lv_icmp_ne (tgt := 21) hx hb dX5_hasHeat_2 (by decide) (fun hc_1 => ?_) (fun hc_1 => ?_)
  · replace hF := gF hc_1 hF
    refine lv_iload_n hx hb dX5_hasHeat_21 rfl (lv_at hl 1 rfl) ?_
    refine lv_if_lt (tgt := 37) hx hb dX5_hasHeat_22 (by decide) (fun hc_2 => ?_) (fun hc_2 => ?_)
    · replace hF := gT hc_2 hF
      exact B_37  ls (lv_sub hl [] rfl) hF H locs hW hL
    · replace hF := gF hc_2 hF
      refine lv_iload_n hx hb dX5_hasHeat_25 rfl (lv_at hl 1 rfl) ?_
      refine lv_aload_n hx hb dX5_hasHeat_26 rfl (lv_at hl 0 rfl) ?_
      refine rg_X5_heats hx hb hts inX5 hown hK hW hi0 q39 dX5_hasHeat_27 ?_
      refine lv_icmp_ge (tgt := 37) hx hb dX5_hasHeat_30 (by decide) (fun hc_3 => ?_) (fun hc_3 => ?_)
      · replace hF := gT hc_3 hF
        exact B_37  ls (lv_sub hl [] rfl) hF H locs hW hL
      · replace hF := gF hc_3 hF
        refine lv_iconst (v := 1) hx hb dX5_hasHeat_33 (by decide) ?_
        refine lv_goto (tgt := 38) hx hb dX5_hasHeat_34 (by decide) ?_
        exact g_rz hx hb hr hlocks hW hL (Or.inr rfl) (Option.some.inj hF) dX5_hasHeat_38
  · replace hF := gT hc_1 hF
    refine lv_aload_n hx hb dX5_hasHeat_5 rfl (lv_at hl 0 rfl) ?_
    refine rg_X5_stage hx hb hts inX5 hown hK hW hi0 q36 dX5_hasHeat_6 ?_
    refine lv_iconst (v := 2) hx hb dX5_hasHeat_9 (by decide) ?_
    refine lv_icmp_lt (tgt := 17) hx hb dX5_hasHeat_10 (by decide) (fun hc_4 => ?_) (fun hc_4 => ?_)
    · replace hF := gT hc_4 hF
      refine lv_iconst (v := 0) hx hb dX5_hasHeat_17 (by decide) ?_
      refine lv_goto (tgt := 38) hx hb dX5_hasHeat_18 (by decide) ?_
      exact g_rz hx hb hr hlocks hW hL (Or.inl rfl) (Option.some.inj hF) dX5_hasHeat_38
    · replace hF := gF hc_4 hF
      refine lv_iconst (v := 1) hx hb dX5_hasHeat_13 (by decide) ?_
      refine lv_goto (tgt := 38) hx hb dX5_hasHeat_14 (by decide) ?_
      exact g_rz hx hb hr hlocks hW hL (Or.inr rfl) (Option.some.inj hF) dX5_hasHeat_38
abbrev rmX11_at : Room := { frames := 2, cells := 0, slots := 0, locals := 45 }
abbrev wsX11_at : List Cond := gws yX11_at cX11_at 3 (some .int)
set_option maxHeartbeats 4000000 in
set_option maxRecDepth 100000 in
theorem c_X11_at (l : Launch) (X : gX) (w : gWd) (x1 : Int32) (x2 : Int32) (r : Int32) (hF : F_X11_at w x1 x2 = some r) : Met l yX11_at wsX11_at rmX11_at (gPc X [.ref (gA X 7 0), .int x1, .int x2] w) (gQi X r w) 0 0 (gFr X) := by
  refine g_ofW (cc := cX11_at) (maxL := 3) (ret := (some .int)) (by decide) rfl (Nat.le_of_ble_eq_true rfl) (fun p e s m args below meth c ls H hx hb hr hts hown hlocks hml hK hl hW => ?_)
  have hl : lv_has ls 3 [(0, .ref (gA X 7 0)), (1, .int x1), (2, .int x2)] := hl
  have hown : s.vm.findClass RX11 = some m.cls := hown
  have hL : gLo X [] := gLo_nil
  show W p l e rmX11_at s m args below meth c H [] 0 0 _ _
  have inX11 : ∀ w ∈ wsX110, w ∈ wsX11_at := fun w h => List.mem_cons_of_mem _ (inlX11 w h)
  have q10 := hts _ (List.mem_cons_of_mem _ wq_X11_10)
  have q81 := hts _ (List.mem_cons_of_mem _ wq_X11_81)
  have k92 : CallW rmX11_at s args RX11 RX5 92 yX5_hasHeat cX5_hasHeat 2 (some .boolean) wsX5_hasHeat rmX5_hasHeat 0 0 1 := cwV 1 hts (gGoodV (fun w h => List.mem_cons_of_mem _ h) wk_X11_92) rfl rfl rfl (by decide +kernel) ⟨Nat.le_of_ble_eq_true rfl, Nat.le_of_ble_eq_true rfl⟩
  have k95 : CallW rmX11_at s args RX11 RX5 95 yX5_lanes cX5_lanes 1 (some .int) wsX5_lanes rmX5_lanes 0 0 0 := cwV 0 hts (gGoodV (fun w h => List.mem_cons_of_mem _ h) wk_X11_95) rfl rfl rfl (by decide +kernel) ⟨Nat.le_of_ble_eq_true rfl, Nat.le_of_ble_eq_true rfl⟩
  have k99 : CallB rmX11_at s args RX11 99 yX0_inLane cX0_inLane 5 (some .int) wsX0_inLane rmX0_inLane 0 0 3 ∧ (Cond.static yX0_inLane).before args s = true := va_cwS 3 hts (gGoodS (fun w h => List.mem_cons_of_mem _ h) wk_X11_99) rfl rfl rfl (by decide +kernel) ⟨Nat.le_of_ble_eq_true rfl, Nat.le_of_ble_eq_true rfl⟩
  rw [F_X11_at] at hF
  obtain ⟨locs, hlocs⟩ : ∃ locs : List Loc, locs = [] := ⟨_, rfl⟩
  rw [← hlocs] at hL ⊢
  refine lv_aload_n hx hb dX11_at_0 rfl (lv_at hl 0 rfl) ?_
  refine rg_X11_meet hx hb hts inX11 hown hK hW q10 dX11_at_1 ?_
  refine lv_iload_n hx hb dX11_at_4 rfl (lv_at hl 1 rfl) ?_
  obtain ⟨v_2, hq_1, hF⟩ := gP_some hF
  refine g_Vi (As := [.int x1]) (rest := []) ⟨hx, hb, hml, hown, hts⟩ hK hW hL hl.1 (gok_m h07 (by decide)) (gE_m0 h07) rfl (c_X5_hasHeat l X w 0 h07 x1 v_2 hq_1) k92 rfl rfl (Nat.le_of_ble_eq_true rfl) dX11_at_5 ⟨Nat.le_of_ble_eq_true rfl, Nat.le_of_ble_eq_true rfl⟩ (fun H locs hW hL => ?_)
  refine lv_if_eq (tgt := 27) hx hb dX11_at_8 (by decide) (fun hc_3 => ?_) (fun hc_3 => ?_)
  · replace hF := gT hc_3 hF
    refine lv_ldc hx hb hown q81 dX11_at_27 ?_
    exact g_ri hx hb hr hlocks hW hL (Option.some.inj hF) dX11_at_29
  · replace hF := gF hc_3 hF
    refine lv_iload_n hx hb dX11_at_11 rfl (lv_at hl 2 rfl) ?_
    refine lv_iconst (v := 1) hx hb dX11_at_12 (by decide) ?_
    refine lv_icmp_lt (tgt := 27) hx hb dX11_at_13 (by decide) (fun hc_4 => ?_) (fun hc_4 => ?_)
    · replace hF := gT hc_4 hF
      refine lv_ldc hx hb hown q81 dX11_at_27 ?_
      exact g_ri hx hb hr hlocks hW hL (Option.some.inj hF) dX11_at_29
    · replace hF := gF hc_4 hF
      refine lv_iload_n hx hb dX11_at_16 rfl (lv_at hl 2 rfl) ?_
      refine lv_aload_n hx hb dX11_at_17 rfl (lv_at hl 0 rfl) ?_
      refine rg_X11_meet hx hb hts inX11 hown hK hW q10 dX11_at_18 ?_
      obtain ⟨v_6, hq_5, hF⟩ := gP_some hF
      refine g_Vi (As := []) (rest := [.int x2]) ⟨hx, hb, hml, hown, hts⟩ hK hW hL hl.1 (gok_m h07 (by decide)) (gE_m0 h07) rfl (c_X5_lanes l X w 0 h07 v_6 hq_5) k95 rfl rfl (Nat.le_of_ble_eq_true rfl) dX11_at_21 ⟨Nat.le_of_ble_eq_true rfl, Nat.le_of_ble_eq_true rfl⟩ (fun H locs hW hL => ?_)
      refine lv_icmp_le (tgt := 30) hx hb dX11_at_24 (by decide) (fun hc_7 => ?_) (fun hc_7 => ?_)
      · replace hF := gT hc_7 hF
        refine lv_aload_n hx hb dX11_at_30 rfl (lv_at hl 0 rfl) ?_
        refine rg_X11_meet hx hb hts inX11 hown hK hW q10 dX11_at_31 ?_
        refine lv_iload_n hx hb dX11_at_34 rfl (lv_at hl 1 rfl) ?_
        refine lv_iload_n hx hb dX11_at_35 rfl (lv_at hl 2 rfl) ?_
        obtain ⟨v_9, hq_8, hF⟩ := gP_some hF
        refine g_Si (As := [.ref (gA X 0 0), .int x1, .int x2]) (rest := []) ⟨hx, hb, hml, hown, hts⟩ hK hW hL hl.1 (c_X0_inLane l X w 0 h07 x1 x2 v_9 hq_8) k99 rfl rfl (Nat.le_of_ble_eq_true rfl) dX11_at_36 ⟨Nat.le_of_ble_eq_true rfl, Nat.le_of_ble_eq_true rfl⟩ (fun H locs hW hL => ?_)
        exact g_ri hx hb hr hlocks hW hL (Option.some.inj hF) dX11_at_39
      · replace hF := gF hc_7 hF
        refine lv_ldc hx hb hown q81 dX11_at_27 ?_
        exact g_ri hx hb hr hlocks hW hL (Option.some.inj hF) dX11_at_29
abbrev rmX10_timeOf : Room := { frames := 0, cells := 0, slots := 0, locals := 0 }
abbrev wsX10_timeOf : List Cond := gws yX10_timeOf cX10_timeOf 2 (some .int)
set_option maxHeartbeats 4000000 in
set_option maxRecDepth 100000 in
theorem c_X10_timeOf (l : Launch) (X : gX) (w : gWd) (i0 : Nat) (hi0 : i0 < 7) (n0 : Nat) (hn0 : n0 < 30) (x1 : Int32) (r : Int32) (hF : F_X10_timeOf w i0 n0 x1 = some r) : Met l yX10_timeOf wsX10_timeOf rmX10_timeOf (gPc X [.ref (gA X i0 (4 + n0)), .int x1] w) (gQi X r w) 0 0 (gFr X) := by
  refine g_ofW (cc := cX10_timeOf) (maxL := 2) (ret := (some .int)) (by decide) rfl (Nat.le_of_ble_eq_true rfl) (fun p e s m args below meth c ls H hx hb hr hts hown hlocks hml hK hl hW => ?_)
  have hl : lv_has ls 2 [(0, .ref (gA X i0 (4 + n0))), (1, .int x1)] := hl
  have hown : s.vm.findClass RX10 = some m.cls := hown
  have hL : gLo X [] := gLo_nil
  show W p l e rmX10_timeOf s m args below meth c H [] 0 0 _ _
  have inX10 : ∀ w ∈ wsX100, w ∈ wsX10_timeOf := fun w h => List.mem_cons_of_mem _ (inlX10 w h)
  have q46 := hts _ (List.mem_cons_of_mem _ wq_X10_46)
  have q52 := hts _ (List.mem_cons_of_mem _ wq_X10_52)
  rw [F_X10_timeOf] at hF
  obtain ⟨locs, hlocs⟩ : ∃ locs : List Loc, locs = [] := ⟨_, rfl⟩
  rw [← hlocs] at hL ⊢
  refine lv_iload_n hx hb dX10_timeOf_0 rfl (lv_at hl 1 rfl) ?_
  refine lv_iconst (v := (-1)) hx hb dX10_timeOf_1 (by decide) ?_
  refine lv_icmp_ne (tgt := 12) hx hb dX10_timeOf_2 (by decide) (fun hc_1 => ?_) (fun hc_1 => ?_)
  · replace hF := gF hc_1 hF
    refine lv_aload_n hx hb dX10_timeOf_12 rfl (lv_at hl 0 rfl) ?_
    refine rg_X10_heatTime hx hb hts inX10 hown hK hW hi0 hn0 q46 dX10_timeOf_13 ?_
    exact g_ri hx hb hr hlocks hW hL (Option.some.inj hF) dX10_timeOf_16
  · replace hF := gT hc_1 hF
    refine lv_aload_n hx hb dX10_timeOf_5 rfl (lv_at hl 0 rfl) ?_
    refine rg_X10_finalTime hx hb hts inX10 hown hK hW hi0 hn0 q52 dX10_timeOf_6 ?_
    refine lv_goto (tgt := 16) hx hb dX10_timeOf_9 (by decide) ?_
    exact g_ri hx hb hr hlocks hW hL (Option.some.inj hF) dX10_timeOf_16
abbrev rmX0_countIn : Room := { frames := 1, cells := 0, slots := 0, locals := 21 }
abbrev wsX0_countIn : List Cond := gws yX0_countIn cX0_countIn 6 (some .int)
set_option maxHeartbeats 4000000 in
set_option maxRecDepth 100000 in
theorem c_X0_countIn (l : Launch) (X : gX) (w : gWd) (i0 : Nat) (hi0 : i0 < 7) (x1 : Int32) (x2 : Int32) (r : Int32) (hF : F_X0_countIn w i0 x1 x2 = some r) : Met l yX0_countIn wsX0_countIn rmX0_countIn (gPc X [.ref (gA X i0 0), .int x1, .int x2] w) (gQi X r w) 0 0 (gFr X) := by
  refine g_ofW (cc := cX0_countIn) (maxL := 6) (ret := (some .int)) (by decide) rfl (Nat.le_of_ble_eq_true rfl) (fun p e s m args below meth c ls H hx hb hr hts hown hlocks hml hK hl hW => ?_)
  have hl : lv_has ls 6 [(0, .ref (gA X i0 0)), (1, .int x1), (2, .int x2)] := hl
  have hown : s.vm.findClass RX0 = some m.cls := hown
  have hL : gLo X [] := gLo_nil
  show W p l e rmX0_countIn s m args below meth c H [] 0 0 _ _
  have inX5 : ∀ w ∈ wsX50, w ∈ wsX0_countIn := fun w h => List.mem_cons_of_mem _ (inlX5 w h)
  have q59 := hts _ (List.mem_cons_of_mem _ wq_X0_59)
  have q62 := hts _ (List.mem_cons_of_mem _ wq_X0_62)
  have k66 : CallW rmX0_countIn s args RX0 RX10 66 yX10_isIn cX10_isIn 2 (some .boolean) wsX10_isIn rmX10_isIn 0 0 1 := cwV 1 hts (gGoodV (fun w h => List.mem_cons_of_mem _ h) wk_X0_66) rfl rfl rfl (by decide +kernel) ⟨Nat.le_of_ble_eq_true rfl, Nat.le_of_ble_eq_true rfl⟩
  have k84 : CallW rmX0_countIn s args RX0 RX10 84 yX10_timeOf cX10_timeOf 2 (some .int) wsX10_timeOf rmX10_timeOf 0 0 1 := cwV 1 hts (gGoodV (fun w h => List.mem_cons_of_mem _ h) wk_X0_84) rfl rfl rfl (by decide +kernel) ⟨Nat.le_of_ble_eq_true rfl, Nat.le_of_ble_eq_true rfl⟩
  have L_5 : ∀ (fu : Nat) (i0 : Nat) (x1 : Int32) (x2 : Int32) (x3 : Int32) (x4 : Int32) (hi0 : i0 < 7) (ls : Array Slot) (hl : lv_has ls 6 [(0, .ref (gA X i0 0)), (1, .int x1), (2, .int x2), (3, .int x3), (4, .int x4)]) (hF : F_X0_countIn_5 fu w i0 x1 x2 x3 x4 = some r) (H : Heap) (locs : List Loc) (hW : gWo X 251 (gE X w) H) (hL : gLo X locs), W p l e rmX0_countIn s m args below meth c H locs 0 0 (MQ below (gQi X r w) args s 0 0 (gFr X)) (F0 m 5 ls []) := by
    intro fu
    induction fu with
    | zero => intro i0 x1 x2 x3 x4 hi0 ls hl hF H locs hW hL; rw [F_X0_countIn_5_z] at hF; cases hF
    | succ fu5 ih5 =>
      have B_46 : ∀ (i0 : Nat) (x1 : Int32) (x2 : Int32) (x3 : Int32) (x4 : Int32) (hi0 : i0 < 7) (ls : Array Slot) (hl : lv_has ls 6 [(0, .ref (gA X i0 0)), (1, .int x1), (2, .int x2), (3, .int x3), (4, .int x4)]) (hF : F_X0_countIn_46 (F_X0_countIn_5 fu5) w i0 x1 x2 x3 x4 = some r) (H : Heap) (locs : List Loc) (hW : gWo X 251 (gE X w) H) (hL : gLo X locs), W p l e rmX0_countIn s m args below meth c H locs 0 0 (MQ below (gQi X r w) args s 0 0 (gFr X)) (F0 m 46 ls []) := by
        intro i0 x1 x2 x3 x4 hi0 ls hl hF H locs hW hL
        rw [F_X0_countIn_46] at hF
        obtain ⟨x3_13, ex3_13, hF⟩ := gS_some hF
        refine lv_iinc (v := x3_13) (lv' := [(3, .int x3_13), (0, .ref (gA X i0 0)), (1, .int x1), (2, .int x2), (4, .int x4)]) hx hb dX0_countIn_46 hl (k := 3) rfl (by rw [ex3_13]; rfl) (by decide) rfl (fun ls hl => ?_)
        obtain ⟨x4_14, ex4_14, hF⟩ := gS_some hF
        refine lv_iinc (v := x4_14) (lv' := [(4, .int x4_14), (3, .int x3_13), (0, .ref (gA X i0 0)), (1, .int x1), (2, .int x2)]) hx hb dX0_countIn_49 hl (k := 4) rfl (by rw [ex4_14]; rfl) (by decide) rfl (fun ls hl => ?_)
        refine lv_goto (tgt := 5) hx hb dX0_countIn_52 (by decide) ?_
        exact ih5 i0 x1 x2 x3_13 x4_14 hi0 ls (lv_sub hl [2, 3, 4, 1, 0] rfl) hF H locs hW hL
      intro i0 x1 x2 x3 x4 hi0 ls hl hF H locs hW hL
      rw [F_X0_countIn_5_s] at hF
      refine lv_iload hx hb dX0_countIn_5 (lv_at hl 4 rfl) ?_
      refine lv_aload_n hx hb dX0_countIn_7 rfl (lv_at hl 0 rfl) ?_
      refine rg_X5_size hx hb hts inX5 hown hK hW hi0 q59 dX0_countIn_8 ?_
      refine lv_icmp_ge (tgt := 55) hx hb dX0_countIn_11 (by decide) (fun hc_1 => ?_) (fun hc_1 => ?_)
      · replace hF := gT hc_1 hF
        refine lv_iload_n hx hb dX0_countIn_55 rfl (lv_at hl 3 rfl) ?_
        exact g_ri hx hb hr hlocks hW hL (Option.some.inj hF) dX0_countIn_56
      · replace hF := gF hc_1 hF
        refine lv_aload_n hx hb dX0_countIn_14 rfl (lv_at hl 0 rfl) ?_
        refine rg_X5_all hx hb hts inX5 hown hK hW hi0 q62 dX0_countIn_15 ?_
        refine lv_iload hx hb dX0_countIn_18 (lv_at hl 4 rfl) ?_
        obtain ⟨hin_2, hF⟩ := gB_some hF
        obtain ⟨k_3, ek_3⟩ : ∃ k, k = Int32.toNatClampNeg x4 := ⟨_, rfl⟩
        rw [← ek_3] at hF
        refine r_all (k := k_3) hx hb hK hW hi0 hin_2 ek_3.symm dX0_countIn_20 ?_
        refine lv_astore (lv' := [(5, .ref (gA X i0 (4 + k_3))), (0, .ref (gA X i0 0)), (1, .int x1), (2, .int x2), (3, .int x3), (4, .int x4)]) hx hb dX0_countIn_21 hl (by decide) rfl (fun ls hl => ?_)
        refine lv_aload hx hb dX0_countIn_23 (lv_at hl 0 rfl) ?_
        refine lv_iload_n hx hb dX0_countIn_25 rfl (lv_at hl 2 rfl) ?_
        obtain ⟨v_5, hq_4, hF⟩ := gP_some hF
        refine g_Vi (As := [.int x1]) (rest := []) ⟨hx, hb, hml, hown, hts⟩ hK hW hL hl.1 (gok_s hi0 (vp_lt2 hin_2 ek_3.symm)) (gE_ms hi0 k_3) rfl (c_X10_isIn l X w i0 hi0 k_3 (vp_lt2 hin_2 ek_3.symm) x1 v_5 hq_4) k66 rfl rfl (Nat.le_of_ble_eq_true rfl) dX0_countIn_26 ⟨Nat.le_of_ble_eq_true rfl, Nat.le_of_ble_eq_true rfl⟩ (fun H locs hW hL => ?_)
        refine lv_if_eq (tgt := 49) hx hb dX0_countIn_29 (by decide) (fun hc_6 => ?_) (fun hc_6 => ?_)
        · replace hF := gT hc_6 hF
          obtain ⟨x4_7, ex4_7, hF⟩ := gS_some hF
          refine lv_iinc (v := x4_7) (lv' := [(4, .int x4_7), (5, .ref (gA X i0 (4 + k_3))), (0, .ref (gA X i0 0)), (1, .int x1), (2, .int x2), (3, .int x3)]) hx hb dX0_countIn_49 hl (k := 5) rfl (by rw [ex4_7]; rfl) (by decide) rfl (fun ls hl => ?_)
          refine lv_goto (tgt := 5) hx hb dX0_countIn_52 (by decide) ?_
          exact ih5 i0 x1 x2 x3 x4_7 hi0 ls (lv_sub hl [2, 3, 4, 5, 0] rfl) hF H locs hW hL
        · replace hF := gF hc_6 hF
          refine lv_iload_n hx hb dX0_countIn_32 rfl (lv_at hl 3 rfl) ?_
          refine lv_if_eq (tgt := 46) hx hb dX0_countIn_33 (by decide) (fun hc_8 => ?_) (fun hc_8 => ?_)
          · replace hF := gT hc_8 hF
            exact B_46 i0 x1 x2 x3 x4 hi0 ls (lv_sub hl [1, 2, 3, 4, 5] rfl) hF H locs hW hL
          · replace hF := gF hc_8 hF
            refine lv_aload hx hb dX0_countIn_36 (lv_at hl 0 rfl) ?_
            refine lv_iload_n hx hb dX0_countIn_38 rfl (lv_at hl 2 rfl) ?_
            obtain ⟨v_10, hq_9, hF⟩ := gP_some hF
            refine g_Vi (As := [.int x1]) (rest := []) ⟨hx, hb, hml, hown, hts⟩ hK hW hL hl.1 (gok_s hi0 (vp_lt2 hin_2 ek_3.symm)) (gE_ms hi0 k_3) rfl (c_X10_timeOf l X w i0 hi0 k_3 (vp_lt2 hin_2 ek_3.symm) x1 v_10 hq_9) k84 rfl rfl (Nat.le_of_ble_eq_true rfl) dX0_countIn_39 ⟨Nat.le_of_ble_eq_true rfl, Nat.le_of_ble_eq_true rfl⟩ (fun H locs hW hL => ?_)
            refine lv_iconst (v := (-1)) hx hb dX0_countIn_42 (by decide) ?_
            refine lv_icmp_eq (tgt := 49) hx hb dX0_countIn_43 (by decide) (fun hc_11 => ?_) (fun hc_11 => ?_)
            · replace hF := gT hc_11 hF
              obtain ⟨x4_12, ex4_12, hF⟩ := gS_some hF
              refine lv_iinc (v := x4_12) (lv' := [(4, .int x4_12), (5, .ref (gA X i0 (4 + k_3))), (0, .ref (gA X i0 0)), (1, .int x1), (2, .int x2), (3, .int x3)]) hx hb dX0_countIn_49 hl (k := 5) rfl (by rw [ex4_12]; rfl) (by decide) rfl (fun ls hl => ?_)
              refine lv_goto (tgt := 5) hx hb dX0_countIn_52 (by decide) ?_
              exact ih5 i0 x1 x2 x3 x4_12 hi0 ls (lv_sub hl [2, 3, 4, 5, 0] rfl) hF H locs hW hL
            · replace hF := gF hc_11 hF
              exact B_46 i0 x1 x2 x3 x4 hi0 ls (lv_sub hl [1, 2, 3, 4, 5] rfl) hF H locs hW hL
  rw [F_X0_countIn] at hF
  obtain ⟨locs, hlocs⟩ : ∃ locs : List Loc, locs = [] := ⟨_, rfl⟩
  rw [← hlocs] at hL ⊢
  refine lv_iconst (v := 0) hx hb dX0_countIn_0 (by decide) ?_
  refine lv_istore_n (lv' := [(3, .int 0), (0, .ref (gA X i0 0)), (1, .int x1), (2, .int x2)]) hx hb dX0_countIn_1 rfl hl (by decide) rfl (fun ls hl => ?_)
  refine lv_iconst (v := 0) hx hb dX0_countIn_2 (by decide) ?_
  refine lv_istore (lv' := [(4, .int 0), (3, .int 0), (0, .ref (gA X i0 0)), (1, .int x1), (2, .int x2)]) hx hb dX0_countIn_3 hl (by decide) rfl (fun ls hl => ?_)
  exact L_5 gFU i0 x1 x2 0 0 hi0 ls (lv_sub hl [2, 3, 4, 1, 0] rfl) hF H locs hW hL
abbrev rmX0_greatestEntryIn : Room := { frames := 1, cells := 0, slots := 0, locals := 21 }
abbrev wsX0_greatestEntryIn : List Cond := gws yX0_greatestEntryIn cX0_greatestEntryIn 4 (some .int)
set_option maxHeartbeats 4000000 in
set_option maxRecDepth 100000 in
theorem c_X0_greatestEntryIn (l : Launch) (X : gX) (w : gWd) (i0 : Nat) (hi0 : i0 < 7) (x1 : Int32) (r : Int32) (hF : F_X0_greatestEntryIn w i0 x1 = some r) : Met l yX0_greatestEntryIn wsX0_greatestEntryIn rmX0_greatestEntryIn (gPc X [.ref (gA X i0 0), .int x1] w) (gQi X r w) 0 0 (gFr X) := by
  refine g_ofW (cc := cX0_greatestEntryIn) (maxL := 4) (ret := (some .int)) (by decide) rfl (Nat.le_of_ble_eq_true rfl) (fun p e s m args below meth c ls H hx hb hr hts hown hlocks hml hK hl hW => ?_)
  have hl : lv_has ls 4 [(0, .ref (gA X i0 0)), (1, .int x1)] := hl
  have hown : s.vm.findClass RX0 = some m.cls := hown
  have hL : gLo X [] := gLo_nil
  show W p l e rmX0_greatestEntryIn s m args below meth c H [] 0 0 _ _
  have inX5 : ∀ w ∈ wsX50, w ∈ wsX0_greatestEntryIn := fun w h => List.mem_cons_of_mem _ (inlX5 w h)
  have inX10 : ∀ w ∈ wsX100, w ∈ wsX0_greatestEntryIn := fun w h => List.mem_cons_of_mem _ (inlX10 w h)
  have q15 := hts _ (List.mem_cons_of_mem _ wq_X0_15)
  have q59 := hts _ (List.mem_cons_of_mem _ wq_X0_59)
  have q62 := hts _ (List.mem_cons_of_mem _ wq_X0_62)
  have k35 : CallB rmX0_greatestEntryIn s args RX0 35 yX0_aboveZero cX0_aboveZero 1 (some .int) wsX0_aboveZero rmX0_aboveZero 0 0 1 ∧ (Cond.static yX0_aboveZero).before args s = true := va_cwS 1 hts (gGoodS (fun w h => List.mem_cons_of_mem _ h) wk_X0_35) rfl rfl rfl (by decide +kernel) ⟨Nat.le_of_ble_eq_true rfl, Nat.le_of_ble_eq_true rfl⟩
  have k66 : CallW rmX0_greatestEntryIn s args RX0 RX10 66 yX10_isIn cX10_isIn 2 (some .boolean) wsX10_isIn rmX10_isIn 0 0 1 := cwV 1 hts (gGoodV (fun w h => List.mem_cons_of_mem _ h) wk_X0_66) rfl rfl rfl (by decide +kernel) ⟨Nat.le_of_ble_eq_true rfl, Nat.le_of_ble_eq_true rfl⟩
  have L_4 : ∀ (fu : Nat) (i0 : Nat) (x1 : Int32) (x2 : Int32) (x3 : Int32) (hi0 : i0 < 7) (ls : Array Slot) (hl : lv_has ls 4 [(0, .ref (gA X i0 0)), (1, .int x1), (2, .int x2), (3, .int x3)]) (hF : F_X0_greatestEntryIn_4 fu w i0 x1 x2 x3 = some r) (H : Heap) (locs : List Loc) (hW : gWo X 251 (gE X w) H) (hL : gLo X locs), W p l e rmX0_greatestEntryIn s m args below meth c H locs 0 0 (MQ below (gQi X r w) args s 0 0 (gFr X)) (F0 m 4 ls []) := by
    intro fu
    induction fu with
    | zero => intro i0 x1 x2 x3 hi0 ls hl hF H locs hW hL; rw [F_X0_greatestEntryIn_4_z] at hF; cases hF
    | succ fu4 ih4 =>
      intro i0 x1 x2 x3 hi0 ls hl hF H locs hW hL
      rw [F_X0_greatestEntryIn_4_s] at hF
      refine lv_iload_n hx hb dX0_greatestEntryIn_4 rfl (lv_at hl 3 rfl) ?_
      refine lv_aload_n hx hb dX0_greatestEntryIn_5 rfl (lv_at hl 0 rfl) ?_
      refine rg_X5_size hx hb hts inX5 hown hK hW hi0 q59 dX0_greatestEntryIn_6 ?_
      refine lv_icmp_ge (tgt := 54) hx hb dX0_greatestEntryIn_9 (by decide) (fun hc_1 => ?_) (fun hc_1 => ?_)
      · replace hF := gT hc_1 hF
        refine lv_iload_n hx hb dX0_greatestEntryIn_54 rfl (lv_at hl 2 rfl) ?_
        obtain ⟨v_3, hq_2, hF⟩ := gP_some hF
        refine g_Si (As := [.int x2]) (rest := []) ⟨hx, hb, hml, hown, hts⟩ hK hW hL hl.1 (c_X0_aboveZero l X w x2 v_3 hq_2) k35 rfl rfl (Nat.le_of_ble_eq_true rfl) dX0_greatestEntryIn_55 ⟨Nat.le_of_ble_eq_true rfl, Nat.le_of_ble_eq_true rfl⟩ (fun H locs hW hL => ?_)
        exact g_ri hx hb hr hlocks hW hL (Option.some.inj hF) dX0_greatestEntryIn_58
      · replace hF := gF hc_1 hF
        refine lv_aload_n hx hb dX0_greatestEntryIn_12 rfl (lv_at hl 0 rfl) ?_
        refine rg_X5_all hx hb hts inX5 hown hK hW hi0 q62 dX0_greatestEntryIn_13 ?_
        refine lv_iload_n hx hb dX0_greatestEntryIn_16 rfl (lv_at hl 3 rfl) ?_
        obtain ⟨hin_4, hF⟩ := gB_some hF
        obtain ⟨k_5, ek_5⟩ : ∃ k, k = Int32.toNatClampNeg x3 := ⟨_, rfl⟩
        rw [← ek_5] at hF
        refine r_all (k := k_5) hx hb hK hW hi0 hin_4 ek_5.symm dX0_greatestEntryIn_17 ?_
        refine lv_iload_n hx hb dX0_greatestEntryIn_18 rfl (lv_at hl 1 rfl) ?_
        obtain ⟨v_7, hq_6, hF⟩ := gP_some hF
        refine g_Vi (As := [.int x1]) (rest := []) ⟨hx, hb, hml, hown, hts⟩ hK hW hL hl.1 (gok_s hi0 (vp_lt2 hin_4 ek_5.symm)) (gE_ms hi0 k_5) rfl (c_X10_isIn l X w i0 hi0 k_5 (vp_lt2 hin_4 ek_5.symm) x1 v_7 hq_6) k66 rfl rfl (Nat.le_of_ble_eq_true rfl) dX0_greatestEntryIn_19 ⟨Nat.le_of_ble_eq_true rfl, Nat.le_of_ble_eq_true rfl⟩ (fun H locs hW hL => ?_)
        refine lv_if_eq (tgt := 48) hx hb dX0_greatestEntryIn_22 (by decide) (fun hc_8 => ?_) (fun hc_8 => ?_)
        · replace hF := gT hc_8 hF
          obtain ⟨x3_9, ex3_9, hF⟩ := gS_some hF
          refine lv_iinc (v := x3_9) (lv' := [(3, .int x3_9), (0, .ref (gA X i0 0)), (1, .int x1), (2, .int x2)]) hx hb dX0_greatestEntryIn_48 hl (k := 3) rfl (by rw [ex3_9]; rfl) (by decide) rfl (fun ls hl => ?_)
          refine lv_goto (tgt := 4) hx hb dX0_greatestEntryIn_51 (by decide) ?_
          exact ih4 i0 x1 x2 x3_9 hi0 ls (lv_sub hl [1, 2, 3, 0] rfl) hF H locs hW hL
        · replace hF := gF hc_8 hF
          refine lv_aload_n hx hb dX0_greatestEntryIn_25 rfl (lv_at hl 0 rfl) ?_
          refine rg_X5_all hx hb hts inX5 hown hK hW hi0 q62 dX0_greatestEntryIn_26 ?_
          refine lv_iload_n hx hb dX0_greatestEntryIn_29 rfl (lv_at hl 3 rfl) ?_
          obtain ⟨hin_10, hF⟩ := gB_some hF
          obtain ⟨k_11, ek_11⟩ : ∃ k, k = Int32.toNatClampNeg x3 := ⟨_, rfl⟩
          rw [← ek_11] at hF
          refine r_all (k := k_11) hx hb hK hW hi0 hin_10 ek_11.symm dX0_greatestEntryIn_30 ?_
          refine rg_X10_entry hx hb hts inX10 hown hK hW hi0 (vp_lt2 hin_10 ek_11.symm) q15 dX0_greatestEntryIn_31 ?_
          refine lv_iload_n hx hb dX0_greatestEntryIn_34 rfl (lv_at hl 2 rfl) ?_
          refine lv_icmp_le (tgt := 48) hx hb dX0_greatestEntryIn_35 (by decide) (fun hc_12 => ?_) (fun hc_12 => ?_)
          · replace hF := gT hc_12 hF
            obtain ⟨x3_13, ex3_13, hF⟩ := gS_some hF
            refine lv_iinc (v := x3_13) (lv' := [(3, .int x3_13), (0, .ref (gA X i0 0)), (1, .int x1), (2, .int x2)]) hx hb dX0_greatestEntryIn_48 hl (k := 3) rfl (by rw [ex3_13]; rfl) (by decide) rfl (fun ls hl => ?_)
            refine lv_goto (tgt := 4) hx hb dX0_greatestEntryIn_51 (by decide) ?_
            exact ih4 i0 x1 x2 x3_13 hi0 ls (lv_sub hl [1, 2, 3, 0] rfl) hF H locs hW hL
          · replace hF := gF hc_12 hF
            refine lv_aload_n hx hb dX0_greatestEntryIn_38 rfl (lv_at hl 0 rfl) ?_
            refine rg_X5_all hx hb hts inX5 hown hK hW hi0 q62 dX0_greatestEntryIn_39 ?_
            refine lv_iload_n hx hb dX0_greatestEntryIn_42 rfl (lv_at hl 3 rfl) ?_
            obtain ⟨hin_14, hF⟩ := gB_some hF
            obtain ⟨k_15, ek_15⟩ : ∃ k, k = Int32.toNatClampNeg x3 := ⟨_, rfl⟩
            rw [← ek_15] at hF
            refine r_all (k := k_15) hx hb hK hW hi0 hin_14 ek_15.symm dX0_greatestEntryIn_43 ?_
            refine rg_X10_entry hx hb hts inX10 hown hK hW hi0 (vp_lt2 hin_14 ek_15.symm) q15 dX0_greatestEntryIn_44 ?_
            obtain ⟨x2_16, ex2_16, hF⟩ := gS_some hF
            refine g_top ex2_16 ?_
            refine lv_istore_n (lv' := [(2, .int x2_16), (0, .ref (gA X i0 0)), (1, .int x1), (3, .int x3)]) hx hb dX0_greatestEntryIn_47 rfl hl (by decide) rfl (fun ls hl => ?_)
            obtain ⟨x3_17, ex3_17, hF⟩ := gS_some hF
            refine lv_iinc (v := x3_17) (lv' := [(3, .int x3_17), (2, .int x2_16), (0, .ref (gA X i0 0)), (1, .int x1)]) hx hb dX0_greatestEntryIn_48 hl (k := 3) rfl (by rw [ex3_17]; rfl) (by decide) rfl (fun ls hl => ?_)
            refine lv_goto (tgt := 4) hx hb dX0_greatestEntryIn_51 (by decide) ?_
            exact ih4 i0 x1 x2_16 x3_17 hi0 ls (lv_sub hl [2, 3, 1, 0] rfl) hF H locs hW hL
  rw [F_X0_greatestEntryIn] at hF
  obtain ⟨locs, hlocs⟩ : ∃ locs : List Loc, locs = [] := ⟨_, rfl⟩
  rw [← hlocs] at hL ⊢
  refine lv_iconst (v := 0) hx hb dX0_greatestEntryIn_0 (by decide) ?_
  refine lv_istore_n (lv' := [(2, .int 0), (0, .ref (gA X i0 0)), (1, .int x1)]) hx hb dX0_greatestEntryIn_1 rfl hl (by decide) rfl (fun ls hl => ?_)
  refine lv_iconst (v := 0) hx hb dX0_greatestEntryIn_2 (by decide) ?_
  refine lv_istore_n (lv' := [(3, .int 0), (2, .int 0), (0, .ref (gA X i0 0)), (1, .int x1)]) hx hb dX0_greatestEntryIn_3 rfl hl (by decide) rfl (fun ls hl => ?_)
  exact L_4 gFU i0 x1 0 0 hi0 ls (lv_sub hl [2, 3, 1, 0] rfl) hF H locs hW hL
abbrev rmX0_leastIn : Room := { frames := 1, cells := 0, slots := 0, locals := 21 }
abbrev wsX0_leastIn : List Cond := gws yX0_leastIn cX0_leastIn 7 (some .int)
set_option maxHeartbeats 4000000 in
set_option maxRecDepth 100000 in
theorem c_X0_leastIn (l : Launch) (X : gX) (w : gWd) (i0 : Nat) (hi0 : i0 < 7) (x1 : Int32) (x2 : Int32) (r : Int32) (hF : F_X0_leastIn w i0 x1 x2 = some r) : Met l yX0_leastIn wsX0_leastIn rmX0_leastIn (gPc X [.ref (gA X i0 0), .int x1, .int x2] w) (gQi X r w) 0 0 (gFr X) := by
  refine g_ofW (cc := cX0_leastIn) (maxL := 7) (ret := (some .int)) (by decide) rfl (Nat.le_of_ble_eq_true rfl) (fun p e s m args below meth c ls H hx hb hr hts hown hlocks hml hK hl hW => ?_)
  have hl : lv_has ls 7 [(0, .ref (gA X i0 0)), (1, .int x1), (2, .int x2)] := hl
  have hown : s.vm.findClass RX0 = some m.cls := hown
  have hL : gLo X [] := gLo_nil
  show W p l e rmX0_leastIn s m args below meth c H [] 0 0 _ _
  have inX5 : ∀ w ∈ wsX50, w ∈ wsX0_leastIn := fun w h => List.mem_cons_of_mem _ (inlX5 w h)
  have inX10 : ∀ w ∈ wsX100, w ∈ wsX0_leastIn := fun w h => List.mem_cons_of_mem _ (inlX10 w h)
  have q15 := hts _ (List.mem_cons_of_mem _ wq_X0_15)
  have q59 := hts _ (List.mem_cons_of_mem _ wq_X0_59)
  have q62 := hts _ (List.mem_cons_of_mem _ wq_X0_62)
  have k35 : CallB rmX0_leastIn s args RX0 35 yX0_aboveZero cX0_aboveZero 1 (some .int) wsX0_aboveZero rmX0_aboveZero 0 0 1 ∧ (Cond.static yX0_aboveZero).before args s = true := va_cwS 1 hts (gGoodS (fun w h => List.mem_cons_of_mem _ h) wk_X0_35) rfl rfl rfl (by decide +kernel) ⟨Nat.le_of_ble_eq_true rfl, Nat.le_of_ble_eq_true rfl⟩
  have k66 : CallW rmX0_leastIn s args RX0 RX10 66 yX10_isIn cX10_isIn 2 (some .boolean) wsX10_isIn rmX10_isIn 0 0 1 := cwV 1 hts (gGoodV (fun w h => List.mem_cons_of_mem _ h) wk_X0_66) rfl rfl rfl (by decide +kernel) ⟨Nat.le_of_ble_eq_true rfl, Nat.le_of_ble_eq_true rfl⟩
  have k84 : CallW rmX0_leastIn s args RX0 RX10 84 yX10_timeOf cX10_timeOf 2 (some .int) wsX10_timeOf rmX10_timeOf 0 0 1 := cwV 1 hts (gGoodV (fun w h => List.mem_cons_of_mem _ h) wk_X0_84) rfl rfl rfl (by decide +kernel) ⟨Nat.le_of_ble_eq_true rfl, Nat.le_of_ble_eq_true rfl⟩
  have L_5 : ∀ (fu : Nat) (i0 : Nat) (x1 : Int32) (x2 : Int32) (x3 : Int32) (x4 : Int32) (hi0 : i0 < 7) (ls : Array Slot) (hl : lv_has ls 7 [(0, .ref (gA X i0 0)), (1, .int x1), (2, .int x2), (3, .int x3), (4, .int x4)]) (hF : F_X0_leastIn_5 fu w i0 x1 x2 x3 x4 = some r) (H : Heap) (locs : List Loc) (hW : gWo X 251 (gE X w) H) (hL : gLo X locs), W p l e rmX0_leastIn s m args below meth c H locs 0 0 (MQ below (gQi X r w) args s 0 0 (gFr X)) (F0 m 5 ls []) := by
    intro fu
    induction fu with
    | zero => intro i0 x1 x2 x3 x4 hi0 ls hl hF H locs hW hL; rw [F_X0_leastIn_5_z] at hF; cases hF
    | succ fu5 ih5 =>
      have B_67 : ∀ (i0 : Nat) (x1 : Int32) (x2 : Int32) (x4 : Int32) (x6 : Int32) (hi0 : i0 < 7) (ls : Array Slot) (hl : lv_has ls 7 [(0, .ref (gA X i0 0)), (1, .int x1), (2, .int x2), (4, .int x4), (6, .int x6)]) (hF : F_X0_leastIn_67 (F_X0_leastIn_5 fu5) w i0 x1 x2 x4 x6 = some r) (H : Heap) (locs : List Loc) (hW : gWo X 251 (gE X w) H) (hL : gLo X locs), W p l e rmX0_leastIn s m args below meth c H locs 0 0 (MQ below (gQi X r w) args s 0 0 (gFr X)) (F0 m 67 ls []) := by
        intro i0 x1 x2 x4 x6 hi0 ls hl hF H locs hW hL
        rw [F_X0_leastIn_67] at hF
        refine lv_iload hx hb dX0_leastIn_67 (lv_at hl 4 rfl) ?_
        refine lv_istore_n (lv' := [(3, .int x6), (0, .ref (gA X i0 0)), (1, .int x1), (2, .int x2), (4, .int x4), (6, .int x6)]) hx hb dX0_leastIn_69 rfl hl (by decide) rfl (fun ls hl => ?_)
        obtain ⟨x4_18, ex4_18, hF⟩ := gS_some hF
        refine lv_iinc (v := x4_18) (lv' := [(4, .int x4_18), (3, .int x6), (0, .ref (gA X i0 0)), (1, .int x1), (2, .int x2), (6, .int x6)]) hx hb dX0_leastIn_70 hl (k := 4) rfl (by rw [ex4_18]; rfl) (by decide) rfl (fun ls hl => ?_)
        refine lv_goto (tgt := 5) hx hb dX0_leastIn_73 (by decide) ?_
        exact ih5 i0 x1 x2 x6 x4_18 hi0 ls (lv_sub hl [2, 3, 4, 1, 0] rfl) hF H locs hW hL
      have B_41 : ∀ (i0 : Nat) (x1 : Int32) (x2 : Int32) (x3 : Int32) (x4 : Int32) (i5 : Nat) (n5 : Nat) (xs0 : Int32) (hi0 : i0 < 7) (hi5 : i5 < 7) (hn5 : n5 < 30) (ls : Array Slot) (hl : lv_has ls 7 [(0, .ref (gA X i0 0)), (1, .int x1), (2, .int x2), (3, .int x3), (4, .int x4), (5, .ref (gA X i5 (4 + n5)))]) (hF : F_X0_leastIn_41 (F_X0_leastIn_5 fu5) w i0 x1 x2 x3 x4 i5 n5 xs0 = some r) (H : Heap) (locs : List Loc) (hW : gWo X 251 (gE X w) H) (hL : gLo X locs), W p l e rmX0_leastIn s m args below meth c H locs 0 0 (MQ below (gQi X r w) args s 0 0 (gFr X)) (F0 m 41 ls [.int xs0]) := by
        intro i0 x1 x2 x3 x4 i5 n5 xs0 hi0 hi5 hn5 ls hl hF H locs hW hL
        rw [F_X0_leastIn_41] at hF
        refine lv_istore (lv' := [(6, .int xs0), (0, .ref (gA X i0 0)), (1, .int x1), (2, .int x2), (3, .int x3), (4, .int x4), (5, .ref (gA X i5 (4 + n5)))]) hx hb dX0_leastIn_41 hl (by decide) rfl (fun ls hl => ?_)
        refine lv_aload hx hb dX0_leastIn_43 (lv_at hl 6 rfl) ?_
        refine lv_iload_n hx hb dX0_leastIn_45 rfl (lv_at hl 2 rfl) ?_
        obtain ⟨v_10, hq_9, hF⟩ := gP_some hF
        refine g_Vi (As := [.int x1]) (rest := []) ⟨hx, hb, hml, hown, hts⟩ hK hW hL hl.1 (gok_s hi5 hn5) (gE_ms hi5 n5) rfl (c_X10_isIn l X w i5 hi5 n5 hn5 x1 v_10 hq_9) k66 rfl rfl (Nat.le_of_ble_eq_true rfl) dX0_leastIn_46 ⟨Nat.le_of_ble_eq_true rfl, Nat.le_of_ble_eq_true rfl⟩ (fun H locs hW hL => ?_)
        refine lv_if_eq (tgt := 70) hx hb dX0_leastIn_49 (by decide) (fun hc_11 => ?_) (fun hc_11 => ?_)
        · replace hF := gT hc_11 hF
          obtain ⟨x4_12, ex4_12, hF⟩ := gS_some hF
          refine lv_iinc (v := x4_12) (lv' := [(4, .int x4_12), (6, .int xs0), (0, .ref (gA X i0 0)), (1, .int x1), (2, .int x2), (3, .int x3), (5, .ref (gA X i5 (4 + n5)))]) hx hb dX0_leastIn_70 hl (k := 5) rfl (by rw [ex4_12]; rfl) (by decide) rfl (fun ls hl => ?_)
          refine lv_goto (tgt := 5) hx hb dX0_leastIn_73 (by decide) ?_
          exact ih5 i0 x1 x2 x3 x4_12 hi0 ls (lv_sub hl [2, 3, 4, 5, 0] rfl) hF H locs hW hL
        · replace hF := gF hc_11 hF
          refine lv_iload hx hb dX0_leastIn_52 (lv_at hl 0 rfl) ?_
          refine lv_if_le (tgt := 70) hx hb dX0_leastIn_54 (by decide) (fun hc_13 => ?_) (fun hc_13 => ?_)
          · replace hF := gT hc_13 hF
            obtain ⟨x4_14, ex4_14, hF⟩ := gS_some hF
            refine lv_iinc (v := x4_14) (lv' := [(4, .int x4_14), (6, .int xs0), (0, .ref (gA X i0 0)), (1, .int x1), (2, .int x2), (3, .int x3), (5, .ref (gA X i5 (4 + n5)))]) hx hb dX0_leastIn_70 hl (k := 5) rfl (by rw [ex4_14]; rfl) (by decide) rfl (fun ls hl => ?_)
            refine lv_goto (tgt := 5) hx hb dX0_leastIn_73 (by decide) ?_
            exact ih5 i0 x1 x2 x3 x4_14 hi0 ls (lv_sub hl [2, 3, 4, 5, 0] rfl) hF H locs hW hL
          · replace hF := gF hc_13 hF
            refine lv_iload_n hx hb dX0_leastIn_57 rfl (lv_at hl 4 rfl) ?_
            refine lv_if_eq (tgt := 67) hx hb dX0_leastIn_58 (by decide) (fun hc_15 => ?_) (fun hc_15 => ?_)
            · replace hF := gT hc_15 hF
              exact B_67 i0 x1 x2 x4 xs0 hi0 ls (lv_sub hl [1, 2, 3, 5, 0] rfl) hF H locs hW hL
            · replace hF := gF hc_15 hF
              refine lv_iload hx hb dX0_leastIn_61 (lv_at hl 0 rfl) ?_
              refine lv_iload_n hx hb dX0_leastIn_63 rfl (lv_at hl 4 rfl) ?_
              refine lv_icmp_ge (tgt := 70) hx hb dX0_leastIn_64 (by decide) (fun hc_16 => ?_) (fun hc_16 => ?_)
              · replace hF := gT hc_16 hF
                obtain ⟨x4_17, ex4_17, hF⟩ := gS_some hF
                refine lv_iinc (v := x4_17) (lv' := [(4, .int x4_17), (6, .int xs0), (0, .ref (gA X i0 0)), (1, .int x1), (2, .int x2), (3, .int x3), (5, .ref (gA X i5 (4 + n5)))]) hx hb dX0_leastIn_70 hl (k := 5) rfl (by rw [ex4_17]; rfl) (by decide) rfl (fun ls hl => ?_)
                refine lv_goto (tgt := 5) hx hb dX0_leastIn_73 (by decide) ?_
                exact ih5 i0 x1 x2 x3 x4_17 hi0 ls (lv_sub hl [2, 3, 4, 5, 0] rfl) hF H locs hW hL
              · replace hF := gF hc_16 hF
                exact B_67 i0 x1 x2 x4 xs0 hi0 ls (lv_sub hl [1, 2, 3, 5, 0] rfl) hF H locs hW hL
      intro i0 x1 x2 x3 x4 hi0 ls hl hF H locs hW hL
      rw [F_X0_leastIn_5_s] at hF
      refine lv_iload hx hb dX0_leastIn_5 (lv_at hl 4 rfl) ?_
      refine lv_aload_n hx hb dX0_leastIn_7 rfl (lv_at hl 0 rfl) ?_
      refine rg_X5_size hx hb hts inX5 hown hK hW hi0 q59 dX0_leastIn_8 ?_
      refine lv_icmp_ge (tgt := 76) hx hb dX0_leastIn_11 (by decide) (fun hc_1 => ?_) (fun hc_1 => ?_)
      · replace hF := gT hc_1 hF
        refine lv_iload_n hx hb dX0_leastIn_76 rfl (lv_at hl 3 rfl) ?_
        obtain ⟨v_3, hq_2, hF⟩ := gP_some hF
        refine g_Si (As := [.int x3]) (rest := []) ⟨hx, hb, hml, hown, hts⟩ hK hW hL hl.1 (c_X0_aboveZero l X w x3 v_3 hq_2) k35 rfl rfl (Nat.le_of_ble_eq_true rfl) dX0_leastIn_77 ⟨Nat.le_of_ble_eq_true rfl, Nat.le_of_ble_eq_true rfl⟩ (fun H locs hW hL => ?_)
        exact g_ri hx hb hr hlocks hW hL (Option.some.inj hF) dX0_leastIn_80
      · replace hF := gF hc_1 hF
        refine lv_aload_n hx hb dX0_leastIn_14 rfl (lv_at hl 0 rfl) ?_
        refine rg_X5_all hx hb hts inX5 hown hK hW hi0 q62 dX0_leastIn_15 ?_
        refine lv_iload hx hb dX0_leastIn_18 (lv_at hl 4 rfl) ?_
        obtain ⟨hin_4, hF⟩ := gB_some hF
        obtain ⟨k_5, ek_5⟩ : ∃ k, k = Int32.toNatClampNeg x4 := ⟨_, rfl⟩
        rw [← ek_5] at hF
        refine r_all (k := k_5) hx hb hK hW hi0 hin_4 ek_5.symm dX0_leastIn_20 ?_
        refine lv_astore (lv' := [(5, .ref (gA X i0 (4 + k_5))), (0, .ref (gA X i0 0)), (1, .int x1), (2, .int x2), (3, .int x3), (4, .int x4)]) hx hb dX0_leastIn_21 hl (by decide) rfl (fun ls hl => ?_)
        refine lv_iload_n hx hb dX0_leastIn_23 rfl (lv_at hl 3 rfl) ?_
        refine lv_if_eq (tgt := 36) hx hb dX0_leastIn_24 (by decide) (fun hc_6 => ?_) (fun hc_6 => ?_)
        · replace hF := gT hc_6 hF
          refine lv_aload hx hb dX0_leastIn_36 (lv_at hl 0 rfl) ?_
          refine rg_X10_entry hx hb hts inX10 hown hK hW hi0 (vp_lt2 hin_4 ek_5.symm) q15 dX0_leastIn_38 ?_
          exact B_41 i0 x1 x2 x3 x4 i0 k_5 ((w i0 (4 + k_5) 2)) hi0 hi0 ((vp_lt2 hin_4 ek_5.symm)) ls (lv_sub hl [1, 2, 3, 4, 5, 0] rfl) hF H locs hW hL
        · replace hF := gF hc_6 hF
          refine lv_aload hx hb dX0_leastIn_27 (lv_at hl 0 rfl) ?_
          refine lv_iload_n hx hb dX0_leastIn_29 rfl (lv_at hl 2 rfl) ?_
          obtain ⟨v_8, hq_7, hF⟩ := gP_some hF
          refine g_Vi (As := [.int x1]) (rest := []) ⟨hx, hb, hml, hown, hts⟩ hK hW hL hl.1 (gok_s hi0 (vp_lt2 hin_4 ek_5.symm)) (gE_ms hi0 k_5) rfl (c_X10_timeOf l X w i0 hi0 k_5 (vp_lt2 hin_4 ek_5.symm) x1 v_8 hq_7) k84 rfl rfl (Nat.le_of_ble_eq_true rfl) dX0_leastIn_30 ⟨Nat.le_of_ble_eq_true rfl, Nat.le_of_ble_eq_true rfl⟩ (fun H locs hW hL => ?_)
          refine lv_goto (tgt := 41) hx hb dX0_leastIn_33 (by decide) ?_
          exact B_41 i0 x1 x2 x3 x4 i0 k_5 v_8 hi0 hi0 ((vp_lt2 hin_4 ek_5.symm)) ls (lv_sub hl [1, 2, 3, 4, 5, 0] rfl) hF H locs hW hL
  rw [F_X0_leastIn] at hF
  obtain ⟨locs, hlocs⟩ : ∃ locs : List Loc, locs = [] := ⟨_, rfl⟩
  rw [← hlocs] at hL ⊢
  refine lv_iconst (v := 0) hx hb dX0_leastIn_0 (by decide) ?_
  refine lv_istore_n (lv' := [(3, .int 0), (0, .ref (gA X i0 0)), (1, .int x1), (2, .int x2)]) hx hb dX0_leastIn_1 rfl hl (by decide) rfl (fun ls hl => ?_)
  refine lv_iconst (v := 0) hx hb dX0_leastIn_2 (by decide) ?_
  refine lv_istore (lv' := [(4, .int 0), (3, .int 0), (0, .ref (gA X i0 0)), (1, .int x1), (2, .int x2)]) hx hb dX0_leastIn_3 hl (by decide) rfl (fun ls hl => ?_)
  exact L_5 gFU i0 x1 x2 0 0 hi0 ls (lv_sub hl [2, 3, 4, 1, 0] rfl) hF H locs hW hL
abbrev rmX0_ofHeat : Room := { frames := 2, cells := 0, slots := 0, locals := 47 }
abbrev wsX0_ofHeat : List Cond := gws yX0_ofHeat cX0_ofHeat 3 (some .int)
set_option maxHeartbeats 4000000 in
set_option maxRecDepth 100000 in
theorem c_X0_ofHeat (l : Launch) (X : gX) (w : gWd) (i0 : Nat) (hi0 : i0 < 7) (x1 : Int32) (x2 : Int32) (r : Int32) (hF : F_X0_ofHeat w i0 x1 x2 = some r) : Met l yX0_ofHeat wsX0_ofHeat rmX0_ofHeat (gPc X [.ref (gA X i0 0), .int x1, .int x2] w) (gQi X r w) 0 0 (gFr X) := by
  refine g_ofW (cc := cX0_ofHeat) (maxL := 3) (ret := (some .int)) (by decide) rfl (Nat.le_of_ble_eq_true rfl) (fun p e s m args below meth c ls H hx hb hr hts hown hlocks hml hK hl hW => ?_)
  have hl : lv_has ls 3 [(0, .ref (gA X i0 0)), (1, .int x1), (2, .int x2)] := hl
  have hown : s.vm.findClass RX0 = some m.cls := hown
  have hL : gLo X [] := gLo_nil
  show W p l e rmX0_ofHeat s m args below meth c H [] 0 0 _ _
  have k73 : CallB rmX0_ofHeat s args RX0 73 yX0_countIn cX0_countIn 6 (some .int) wsX0_countIn rmX0_countIn 0 0 3 ∧ (Cond.static yX0_countIn).before args s = true := va_cwS 3 hts (gGoodS (fun w h => List.mem_cons_of_mem _ h) wk_X0_73) rfl rfl rfl (by decide +kernel) ⟨Nat.le_of_ble_eq_true rfl, Nat.le_of_ble_eq_true rfl⟩
  have k77 : CallB rmX0_ofHeat s args RX0 77 yX0_leastIn cX0_leastIn 7 (some .int) wsX0_leastIn rmX0_leastIn 0 0 3 ∧ (Cond.static yX0_leastIn).before args s = true := va_cwS 3 hts (gGoodS (fun w h => List.mem_cons_of_mem _ h) wk_X0_77) rfl rfl rfl (by decide +kernel) ⟨Nat.le_of_ble_eq_true rfl, Nat.le_of_ble_eq_true rfl⟩
  have k80 : CallB rmX0_ofHeat s args RX0 80 yX0_greatestEntryIn cX0_greatestEntryIn 4 (some .int) wsX0_greatestEntryIn rmX0_greatestEntryIn 0 0 2 ∧ (Cond.static yX0_greatestEntryIn).before args s = true := va_cwS 2 hts (gGoodS (fun w h => List.mem_cons_of_mem _ h) wk_X0_80) rfl rfl rfl (by decide +kernel) ⟨Nat.le_of_ble_eq_true rfl, Nat.le_of_ble_eq_true rfl⟩
  rw [F_X0_ofHeat] at hF
  obtain ⟨locs, hlocs⟩ : ∃ locs : List Loc, locs = [] := ⟨_, rfl⟩
  rw [← hlocs] at hL ⊢
  refine lv_iload_n hx hb dX0_ofHeat_0 rfl (lv_at hl 2 rfl) ?_
  by_cases hc_1 : x2 = 0
  · replace hF := gT hc_1 hF
    refine lv_tableIn (off := 31) (tgt := 32) hx hb dX0_ofHeat_1 (by rw [hc_1]; decide) (by rw [hc_1]; decide) (by rw [hc_1]; rfl) (by decide) ?_
    refine lv_aload_n hx hb dX0_ofHeat_32 rfl (lv_at hl 0 rfl) ?_
    refine lv_iload_n hx hb dX0_ofHeat_33 rfl (lv_at hl 1 rfl) ?_
    refine lv_iconst (v := 0) hx hb dX0_ofHeat_34 (by decide) ?_
    obtain ⟨v_3, hq_2, hF⟩ := gP_some hF
    refine g_Si (As := [.ref (gA X i0 0), .int x1, .int 0]) (rest := []) ⟨hx, hb, hml, hown, hts⟩ hK hW hL hl.1 (c_X0_countIn l X w i0 hi0 x1 0 v_3 hq_2) k73 rfl rfl (Nat.le_of_ble_eq_true rfl) dX0_ofHeat_35 ⟨Nat.le_of_ble_eq_true rfl, Nat.le_of_ble_eq_true rfl⟩ (fun H locs hW hL => ?_)
    exact g_ri hx hb hr hlocks hW hL (Option.some.inj hF) dX0_ofHeat_38
  · replace hF := gF hc_1 hF
    by_cases hc_4 : x2 = 1
    · replace hF := gT hc_4 hF
      refine lv_tableIn (off := 38) (tgt := 39) hx hb dX0_ofHeat_1 (by rw [hc_4]; decide) (by rw [hc_4]; decide) (by rw [hc_4]; rfl) (by decide) ?_
      refine lv_aload_n hx hb dX0_ofHeat_39 rfl (lv_at hl 0 rfl) ?_
      refine lv_iload_n hx hb dX0_ofHeat_40 rfl (lv_at hl 1 rfl) ?_
      refine lv_iconst (v := 1) hx hb dX0_ofHeat_41 (by decide) ?_
      obtain ⟨v_6, hq_5, hF⟩ := gP_some hF
      refine g_Si (As := [.ref (gA X i0 0), .int x1, .int 1]) (rest := []) ⟨hx, hb, hml, hown, hts⟩ hK hW hL hl.1 (c_X0_countIn l X w i0 hi0 x1 1 v_6 hq_5) k73 rfl rfl (Nat.le_of_ble_eq_true rfl) dX0_ofHeat_42 ⟨Nat.le_of_ble_eq_true rfl, Nat.le_of_ble_eq_true rfl⟩ (fun H locs hW hL => ?_)
      exact g_ri hx hb hr hlocks hW hL (Option.some.inj hF) dX0_ofHeat_45
    · replace hF := gF hc_4 hF
      by_cases hc_7 : x2 = 2
      · replace hF := gT hc_7 hF
        refine lv_tableIn (off := 45) (tgt := 46) hx hb dX0_ofHeat_1 (by rw [hc_7]; decide) (by rw [hc_7]; decide) (by rw [hc_7]; rfl) (by decide) ?_
        refine lv_aload_n hx hb dX0_ofHeat_46 rfl (lv_at hl 0 rfl) ?_
        refine lv_iload_n hx hb dX0_ofHeat_47 rfl (lv_at hl 1 rfl) ?_
        refine lv_iconst (v := 0) hx hb dX0_ofHeat_48 (by decide) ?_
        obtain ⟨v_9, hq_8, hF⟩ := gP_some hF
        refine g_Si (As := [.ref (gA X i0 0), .int x1, .int 0]) (rest := []) ⟨hx, hb, hml, hown, hts⟩ hK hW hL hl.1 (c_X0_leastIn l X w i0 hi0 x1 0 v_9 hq_8) k77 rfl rfl (Nat.le_of_ble_eq_true rfl) dX0_ofHeat_49 ⟨Nat.le_of_ble_eq_true rfl, Nat.le_of_ble_eq_true rfl⟩ (fun H locs hW hL => ?_)
        exact g_ri hx hb hr hlocks hW hL (Option.some.inj hF) dX0_ofHeat_52
      · replace hF := gF hc_7 hF
        by_cases hc_10 : x2 = 3
        · replace hF := gT hc_10 hF
          refine lv_tableIn (off := 52) (tgt := 53) hx hb dX0_ofHeat_1 (by rw [hc_10]; decide) (by rw [hc_10]; decide) (by rw [hc_10]; rfl) (by decide) ?_
          refine lv_aload_n hx hb dX0_ofHeat_53 rfl (lv_at hl 0 rfl) ?_
          refine lv_iload_n hx hb dX0_ofHeat_54 rfl (lv_at hl 1 rfl) ?_
          obtain ⟨v_12, hq_11, hF⟩ := gP_some hF
          refine g_Si (As := [.ref (gA X i0 0), .int x1]) (rest := []) ⟨hx, hb, hml, hown, hts⟩ hK hW hL hl.1 (c_X0_greatestEntryIn l X w i0 hi0 x1 v_12 hq_11) k80 rfl rfl (Nat.le_of_ble_eq_true rfl) dX0_ofHeat_55 ⟨Nat.le_of_ble_eq_true rfl, Nat.le_of_ble_eq_true rfl⟩ (fun H locs hW hL => ?_)
          exact g_ri hx hb hr hlocks hW hL (Option.some.inj hF) dX0_ofHeat_58
        · replace hF := gF hc_10 hF
          refine lv_tableOut (tgt := 59) hx hb dX0_ofHeat_1 (g_tabOut (fun k h1 h2 h3 => ?_)) (by decide) ?_
          · have hk : k = 0 ∨ k = 1 ∨ k = 2 ∨ k = 3 := by omega
            rcases hk with rfl | rfl | rfl | rfl
            · exact hc_1 (Int32.toInt_inj.mp (h3.trans (by decide)))
            · exact hc_4 (Int32.toInt_inj.mp (h3.trans (by decide)))
            · exact hc_7 (Int32.toInt_inj.mp (h3.trans (by decide)))
            · exact hc_10 (Int32.toInt_inj.mp (h3.trans (by decide)))
          · skip
            refine lv_aload_n hx hb dX0_ofHeat_59 rfl (lv_at hl 0 rfl) ?_
            refine lv_iload_n hx hb dX0_ofHeat_60 rfl (lv_at hl 1 rfl) ?_
            refine lv_iconst (v := 1) hx hb dX0_ofHeat_61 (by decide) ?_
            obtain ⟨v_14, hq_13, hF⟩ := gP_some hF
            refine g_Si (As := [.ref (gA X i0 0), .int x1, .int 1]) (rest := []) ⟨hx, hb, hml, hown, hts⟩ hK hW hL hl.1 (c_X0_leastIn l X w i0 hi0 x1 1 v_14 hq_13) k77 rfl rfl (Nat.le_of_ble_eq_true rfl) dX0_ofHeat_62 ⟨Nat.le_of_ble_eq_true rfl, Nat.le_of_ble_eq_true rfl⟩ (fun H locs hW hL => ?_)
            exact g_ri hx hb hr hlocks hW hL (Option.some.inj hF) dX0_ofHeat_65
abbrev rmX11_heat : Room := { frames := 3, cells := 0, slots := 0, locals := 69 }
abbrev wsX11_heat : List Cond := gws yX11_heat cX11_heat 3 (some .int)
set_option maxHeartbeats 4000000 in
set_option maxRecDepth 100000 in
theorem c_X11_heat (l : Launch) (X : gX) (w : gWd) (x1 : Int32) (x2 : Int32) (r : Int32) (hF : F_X11_heat w x1 x2 = some r) : Met l yX11_heat wsX11_heat rmX11_heat (gPc X [.ref (gA X 7 0), .int x1, .int x2] w) (gQi X r w) 0 0 (gFr X) := by
  refine g_ofW (cc := cX11_heat) (maxL := 3) (ret := (some .int)) (by decide) rfl (Nat.le_of_ble_eq_true rfl) (fun p e s m args below meth c ls H hx hb hr hts hown hlocks hml hK hl hW => ?_)
  have hl : lv_has ls 3 [(0, .ref (gA X 7 0)), (1, .int x1), (2, .int x2)] := hl
  have hown : s.vm.findClass RX11 = some m.cls := hown
  have hL : gLo X [] := gLo_nil
  show W p l e rmX11_heat s m args below meth c H [] 0 0 _ _
  have inX11 : ∀ w ∈ wsX110, w ∈ wsX11_heat := fun w h => List.mem_cons_of_mem _ (inlX11 w h)
  have q10 := hts _ (List.mem_cons_of_mem _ wq_X11_10)
  have q81 := hts _ (List.mem_cons_of_mem _ wq_X11_81)
  have k102 : CallB rmX11_heat s args RX11 102 yX0_ofHeat cX0_ofHeat 3 (some .int) wsX0_ofHeat rmX0_ofHeat 0 0 3 ∧ (Cond.static yX0_ofHeat).before args s = true := va_cwS 3 hts (gGoodS (fun w h => List.mem_cons_of_mem _ h) wk_X11_102) rfl rfl rfl (by decide +kernel) ⟨Nat.le_of_ble_eq_true rfl, Nat.le_of_ble_eq_true rfl⟩
  have k92 : CallW rmX11_heat s args RX11 RX5 92 yX5_hasHeat cX5_hasHeat 2 (some .boolean) wsX5_hasHeat rmX5_hasHeat 0 0 1 := cwV 1 hts (gGoodV (fun w h => List.mem_cons_of_mem _ h) wk_X11_92) rfl rfl rfl (by decide +kernel) ⟨Nat.le_of_ble_eq_true rfl, Nat.le_of_ble_eq_true rfl⟩
  rw [F_X11_heat] at hF
  obtain ⟨locs, hlocs⟩ : ∃ locs : List Loc, locs = [] := ⟨_, rfl⟩
  rw [← hlocs] at hL ⊢
  refine lv_aload_n hx hb dX11_heat_0 rfl (lv_at hl 0 rfl) ?_
  refine rg_X11_meet hx hb hts inX11 hown hK hW q10 dX11_heat_1 ?_
  refine lv_iload_n hx hb dX11_heat_4 rfl (lv_at hl 1 rfl) ?_
  obtain ⟨v_2, hq_1, hF⟩ := gP_some hF
  refine g_Vi (As := [.int x1]) (rest := []) ⟨hx, hb, hml, hown, hts⟩ hK hW hL hl.1 (gok_m h07 (by decide)) (gE_m0 h07) rfl (c_X5_hasHeat l X w 0 h07 x1 v_2 hq_1) k92 rfl rfl (Nat.le_of_ble_eq_true rfl) dX11_heat_5 ⟨Nat.le_of_ble_eq_true rfl, Nat.le_of_ble_eq_true rfl⟩ (fun H locs hW hL => ?_)
  refine lv_if_eq (tgt := 20) hx hb dX11_heat_8 (by decide) (fun hc_3 => ?_) (fun hc_3 => ?_)
  · replace hF := gT hc_3 hF
    refine lv_ldc hx hb hown q81 dX11_heat_20 ?_
    exact g_ri hx hb hr hlocks hW hL (Option.some.inj hF) dX11_heat_22
  · replace hF := gF hc_3 hF
    refine lv_iload_n hx hb dX11_heat_11 rfl (lv_at hl 2 rfl) ?_
    refine lv_if_lt (tgt := 20) hx hb dX11_heat_12 (by decide) (fun hc_4 => ?_) (fun hc_4 => ?_)
    · replace hF := gT hc_4 hF
      refine lv_ldc hx hb hown q81 dX11_heat_20 ?_
      exact g_ri hx hb hr hlocks hW hL (Option.some.inj hF) dX11_heat_22
    · replace hF := gF hc_4 hF
      refine lv_iload_n hx hb dX11_heat_15 rfl (lv_at hl 2 rfl) ?_
      refine lv_iconst (v := 4) hx hb dX11_heat_16 (by decide) ?_
      refine lv_icmp_le (tgt := 23) hx hb dX11_heat_17 (by decide) (fun hc_5 => ?_) (fun hc_5 => ?_)
      · replace hF := gT hc_5 hF
        refine lv_aload_n hx hb dX11_heat_23 rfl (lv_at hl 0 rfl) ?_
        refine rg_X11_meet hx hb hts inX11 hown hK hW q10 dX11_heat_24 ?_
        refine lv_iload_n hx hb dX11_heat_27 rfl (lv_at hl 1 rfl) ?_
        refine lv_iload_n hx hb dX11_heat_28 rfl (lv_at hl 2 rfl) ?_
        obtain ⟨v_7, hq_6, hF⟩ := gP_some hF
        refine g_Si (As := [.ref (gA X 0 0), .int x1, .int x2]) (rest := []) ⟨hx, hb, hml, hown, hts⟩ hK hW hL hl.1 (c_X0_ofHeat l X w 0 h07 x1 x2 v_7 hq_6) k102 rfl rfl (Nat.le_of_ble_eq_true rfl) dX11_heat_29 ⟨Nat.le_of_ble_eq_true rfl, Nat.le_of_ble_eq_true rfl⟩ (fun H locs hW hL => ?_)
        exact g_ri hx hb hr hlocks hW hL (Option.some.inj hF) dX11_heat_32
      · replace hF := gF hc_5 hF
        refine lv_ldc hx hb hown q81 dX11_heat_20 ?_
        exact g_ri hx hb hr hlocks hW hL (Option.some.inj hF) dX11_heat_22
abbrev rmX11_reserve : Room := { frames := 3, cells := 0, slots := 0, locals := 65 }
abbrev wsX11_reserve : List Cond := gws yX11_reserve cX11_reserve 2 (some .int)
set_option maxHeartbeats 4000000 in
set_option maxRecDepth 100000 in
theorem c_X11_reserve (l : Launch) (X : gX) (w : gWd) (x1 : Int32) (r : Int32) (hF : F_X11_reserve w x1 = some r) : Met l yX11_reserve wsX11_reserve rmX11_reserve (gPc X [.ref (gA X 7 0), .int x1] w) (gQi X r w) 0 0 (gFr X) := by
  refine g_ofW (cc := cX11_reserve) (maxL := 2) (ret := (some .int)) (by decide) rfl (Nat.le_of_ble_eq_true rfl) (fun p e s m args below meth c ls H hx hb hr hts hown hlocks hml hK hl hW => ?_)
  have hl : lv_has ls 2 [(0, .ref (gA X 7 0)), (1, .int x1)] := hl
  have hown : s.vm.findClass RX11 = some m.cls := hown
  have hL : gLo X [] := gLo_nil
  show W p l e rmX11_reserve s m args below meth c H [] 0 0 _ _
  have inX11 : ∀ w ∈ wsX110, w ∈ wsX11_reserve := fun w h => List.mem_cons_of_mem _ (inlX11 w h)
  have q10 := hts _ (List.mem_cons_of_mem _ wq_X11_10)
  have q81 := hts _ (List.mem_cons_of_mem _ wq_X11_81)
  have k105 : CallW rmX11_reserve s args RX11 RX5 105 yX5_freeReserve cX5_freeReserve 4 (some .int) wsX5_freeReserve rmX5_freeReserve 0 0 1 := cwV 1 hts (gGoodV (fun w h => List.mem_cons_of_mem _ h) wk_X11_105) rfl rfl rfl (by decide +kernel) ⟨Nat.le_of_ble_eq_true rfl, Nat.le_of_ble_eq_true rfl⟩
  rw [F_X11_reserve] at hF
  obtain ⟨locs, hlocs⟩ : ∃ locs : List Loc, locs = [] := ⟨_, rfl⟩
  rw [← hlocs] at hL ⊢
  refine lv_iload_n hx hb dX11_reserve_0 rfl (lv_at hl 1 rfl) ?_
  refine lv_if_ge (tgt := 9) hx hb dX11_reserve_1 (by decide) (fun hc_1 => ?_) (fun hc_1 => ?_)
  · replace hF := gT hc_1 hF
    refine lv_aload_n hx hb dX11_reserve_9 rfl (lv_at hl 0 rfl) ?_
    refine rg_X11_meet hx hb hts inX11 hown hK hW q10 dX11_reserve_10 ?_
    refine lv_iload_n hx hb dX11_reserve_13 rfl (lv_at hl 1 rfl) ?_
    obtain ⟨v_3, hq_2, hF⟩ := gP_some hF
    refine g_Vi (As := [.int x1]) (rest := []) ⟨hx, hb, hml, hown, hts⟩ hK hW hL hl.1 (gok_m h07 (by decide)) (gE_m0 h07) rfl (c_X5_freeReserve l X w 0 h07 x1 v_3 hq_2) k105 rfl rfl (Nat.le_of_ble_eq_true rfl) dX11_reserve_14 ⟨Nat.le_of_ble_eq_true rfl, Nat.le_of_ble_eq_true rfl⟩ (fun H locs hW hL => ?_)
    exact g_ri hx hb hr hlocks hW hL (Option.some.inj hF) dX11_reserve_17
  · replace hF := gF hc_1 hF
    refine lv_ldc hx hb hown q81 dX11_reserve_4 ?_
    refine lv_goto (tgt := 17) hx hb dX11_reserve_6 (by decide) ?_
    exact g_ri hx hb hr hlocks hW hL (Option.some.inj hF) dX11_reserve_17
abbrev rmX8_ofClub : Room := { frames := 0, cells := 0, slots := 0, locals := 0 }
abbrev wsX8_ofClub : List Cond := gws yX8_ofClub cX8_ofClub 4 (some .int)
set_option maxHeartbeats 4000000 in
set_option maxRecDepth 100000 in
theorem c_X8_ofClub (l : Launch) (X : gX) (w : gWd) (i0 : Nat) (hi0 : i0 < 7) (x1 : Int32) (r : Int32) (hF : F_X8_ofClub w i0 x1 = some r) : Met l yX8_ofClub wsX8_ofClub rmX8_ofClub (gPc X [.ref (gA X i0 0), .int x1] w) (gQi X r w) 0 0 (gFr X) := by
  refine g_ofW (cc := cX8_ofClub) (maxL := 4) (ret := (some .int)) (by decide) rfl (Nat.le_of_ble_eq_true rfl) (fun p e s m args below meth c ls H hx hb hr hts hown hlocks hml hK hl hW => ?_)
  have hl : lv_has ls 4 [(0, .ref (gA X i0 0)), (1, .int x1)] := hl
  have hown : s.vm.findClass RX8 = some m.cls := hown
  have hL : gLo X [] := gLo_nil
  show W p l e rmX8_ofClub s m args below meth c H [] 0 0 _ _
  have inX5 : ∀ w ∈ wsX50, w ∈ wsX8_ofClub := fun w h => List.mem_cons_of_mem _ (inlX5 w h)
  have inX10 : ∀ w ∈ wsX100, w ∈ wsX8_ofClub := fun w h => List.mem_cons_of_mem _ (inlX10 w h)
  have q24 := hts _ (List.mem_cons_of_mem _ wq_X8_24)
  have q37 := hts _ (List.mem_cons_of_mem _ wq_X8_37)
  have q40 := hts _ (List.mem_cons_of_mem _ wq_X8_40)
  have q44 := hts _ (List.mem_cons_of_mem _ wq_X8_44)
  have L_4 : ∀ (fu : Nat) (i0 : Nat) (x1 : Int32) (x2 : Int32) (x3 : Int32) (hi0 : i0 < 7) (ls : Array Slot) (hl : lv_has ls 4 [(0, .ref (gA X i0 0)), (1, .int x1), (2, .int x2), (3, .int x3)]) (hF : F_X8_ofClub_4 fu w i0 x1 x2 x3 = some r) (H : Heap) (locs : List Loc) (hW : gWo X 251 (gE X w) H) (hL : gLo X locs), W p l e rmX8_ofClub s m args below meth c H locs 0 0 (MQ below (gQi X r w) args s 0 0 (gFr X)) (F0 m 4 ls []) := by
    intro fu
    induction fu with
    | zero => intro i0 x1 x2 x3 hi0 ls hl hF H locs hW hL; rw [F_X8_ofClub_4_z] at hF; cases hF
    | succ fu4 ih4 =>
      intro i0 x1 x2 x3 hi0 ls hl hF H locs hW hL
      rw [F_X8_ofClub_4_s] at hF
      refine lv_iload_n hx hb dX8_ofClub_4 rfl (lv_at hl 3 rfl) ?_
      refine lv_aload_n hx hb dX8_ofClub_5 rfl (lv_at hl 0 rfl) ?_
      refine rg_X5_size hx hb hts inX5 hown hK hW hi0 q37 dX8_ofClub_6 ?_
      refine lv_icmp_ge (tgt := 43) hx hb dX8_ofClub_9 (by decide) (fun hc_1 => ?_) (fun hc_1 => ?_)
      · replace hF := gT hc_1 hF
        refine lv_iload_n hx hb dX8_ofClub_43 rfl (lv_at hl 2 rfl) ?_
        exact g_ri hx hb hr hlocks hW hL (Option.some.inj hF) dX8_ofClub_44
      · replace hF := gF hc_1 hF
        refine lv_aload_n hx hb dX8_ofClub_12 rfl (lv_at hl 0 rfl) ?_
        refine rg_X5_all hx hb hts inX5 hown hK hW hi0 q40 dX8_ofClub_13 ?_
        refine lv_iload_n hx hb dX8_ofClub_16 rfl (lv_at hl 3 rfl) ?_
        obtain ⟨hin_2, hF⟩ := gB_some hF
        obtain ⟨k_3, ek_3⟩ : ∃ k, k = Int32.toNatClampNeg x3 := ⟨_, rfl⟩
        rw [← ek_3] at hF
        refine r_all (k := k_3) hx hb hK hW hi0 hin_2 ek_3.symm dX8_ofClub_17 ?_
        refine rg_X10_club hx hb hts inX10 hown hK hW hi0 (vp_lt2 hin_2 ek_3.symm) q44 dX8_ofClub_18 ?_
        refine lv_iload_n hx hb dX8_ofClub_21 rfl (lv_at hl 1 rfl) ?_
        refine lv_icmp_ne (tgt := 37) hx hb dX8_ofClub_22 (by decide) (fun hc_4 => ?_) (fun hc_4 => ?_)
        · replace hF := gF hc_4 hF
          obtain ⟨x3_5, ex3_5, hF⟩ := gS_some hF
          refine lv_iinc (v := x3_5) (lv' := [(3, .int x3_5), (0, .ref (gA X i0 0)), (1, .int x1), (2, .int x2)]) hx hb dX8_ofClub_37 hl (k := 3) rfl (by rw [ex3_5]; rfl) (by decide) rfl (fun ls hl => ?_)
          refine lv_goto (tgt := 4) hx hb dX8_ofClub_40 (by decide) ?_
          exact ih4 i0 x1 x2 x3_5 hi0 ls (lv_sub hl [1, 2, 3, 0] rfl) hF H locs hW hL
        · replace hF := gT hc_4 hF
          refine lv_iload_n hx hb dX8_ofClub_25 rfl (lv_at hl 2 rfl) ?_
          refine lv_aload_n hx hb dX8_ofClub_26 rfl (lv_at hl 0 rfl) ?_
          refine rg_X5_all hx hb hts inX5 hown hK hW hi0 q40 dX8_ofClub_27 ?_
          refine lv_iload_n hx hb dX8_ofClub_30 rfl (lv_at hl 3 rfl) ?_
          obtain ⟨hin_6, hF⟩ := gB_some hF
          obtain ⟨k_7, ek_7⟩ : ∃ k, k = Int32.toNatClampNeg x3 := ⟨_, rfl⟩
          rw [← ek_7] at hF
          refine r_all (k := k_7) hx hb hK hW hi0 hin_6 ek_7.symm dX8_ofClub_31 ?_
          refine rg_X10_brought hx hb hts inX10 hown hK hW hi0 (vp_lt2 hin_6 ek_7.symm) q24 dX8_ofClub_32 ?_
          refine lv_iadd hx hb dX8_ofClub_35 ?_
          obtain ⟨x2_8, ex2_8, hF⟩ := gS_some hF
          refine g_top ex2_8 ?_
          refine lv_istore_n (lv' := [(2, .int x2_8), (0, .ref (gA X i0 0)), (1, .int x1), (3, .int x3)]) hx hb dX8_ofClub_36 rfl hl (by decide) rfl (fun ls hl => ?_)
          obtain ⟨x3_9, ex3_9, hF⟩ := gS_some hF
          refine lv_iinc (v := x3_9) (lv' := [(3, .int x3_9), (2, .int x2_8), (0, .ref (gA X i0 0)), (1, .int x1)]) hx hb dX8_ofClub_37 hl (k := 3) rfl (by rw [ex3_9]; rfl) (by decide) rfl (fun ls hl => ?_)
          refine lv_goto (tgt := 4) hx hb dX8_ofClub_40 (by decide) ?_
          exact ih4 i0 x1 x2_8 x3_9 hi0 ls (lv_sub hl [2, 3, 1, 0] rfl) hF H locs hW hL
  rw [F_X8_ofClub] at hF
  obtain ⟨locs, hlocs⟩ : ∃ locs : List Loc, locs = [] := ⟨_, rfl⟩
  rw [← hlocs] at hL ⊢
  refine lv_iconst (v := 0) hx hb dX8_ofClub_0 (by decide) ?_
  refine lv_istore_n (lv' := [(2, .int 0), (0, .ref (gA X i0 0)), (1, .int x1)]) hx hb dX8_ofClub_1 rfl hl (by decide) rfl (fun ls hl => ?_)
  refine lv_iconst (v := 0) hx hb dX8_ofClub_2 (by decide) ?_
  refine lv_istore_n (lv' := [(3, .int 0), (2, .int 0), (0, .ref (gA X i0 0)), (1, .int x1)]) hx hb dX8_ofClub_3 rfl hl (by decide) rfl (fun ls hl => ?_)
  exact L_4 gFU i0 x1 0 0 hi0 ls (lv_sub hl [2, 3, 1, 0] rfl) hF H locs hW hL
abbrev rmX11_points : Room := { frames := 1, cells := 0, slots := 0, locals := 23 }
abbrev wsX11_points : List Cond := gws yX11_points cX11_points 2 (some .int)
set_option maxHeartbeats 4000000 in
set_option maxRecDepth 100000 in
theorem c_X11_points (l : Launch) (X : gX) (w : gWd) (x1 : Int32) (r : Int32) (hF : F_X11_points w x1 = some r) : Met l yX11_points wsX11_points rmX11_points (gPc X [.ref (gA X 7 0), .int x1] w) (gQi X r w) 0 0 (gFr X) := by
  refine g_ofW (cc := cX11_points) (maxL := 2) (ret := (some .int)) (by decide) rfl (Nat.le_of_ble_eq_true rfl) (fun p e s m args below meth c ls H hx hb hr hts hown hlocks hml hK hl hW => ?_)
  have hl : lv_has ls 2 [(0, .ref (gA X 7 0)), (1, .int x1)] := hl
  have hown : s.vm.findClass RX11 = some m.cls := hown
  have hL : gLo X [] := gLo_nil
  show W p l e rmX11_points s m args below meth c H [] 0 0 _ _
  have inX11 : ∀ w ∈ wsX110, w ∈ wsX11_points := fun w h => List.mem_cons_of_mem _ (inlX11 w h)
  have q10 := hts _ (List.mem_cons_of_mem _ wq_X11_10)
  have q81 := hts _ (List.mem_cons_of_mem _ wq_X11_81)
  have k108 : CallB rmX11_points s args RX11 108 yX8_ofClub cX8_ofClub 4 (some .int) wsX8_ofClub rmX8_ofClub 0 0 2 ∧ (Cond.static yX8_ofClub).before args s = true := va_cwS 2 hts (gGoodS (fun w h => List.mem_cons_of_mem _ h) wk_X11_108) rfl rfl rfl (by decide +kernel) ⟨Nat.le_of_ble_eq_true rfl, Nat.le_of_ble_eq_true rfl⟩
  have B_10 : ∀   (ls : Array Slot) (hl : lv_has ls 2 []) (hF : F_X11_points_10 w = some r) (H : Heap) (locs : List Loc) (hW : gWo X 251 (gE X w) H) (hL : gLo X locs), W p l e rmX11_points s m args below meth c H locs 0 0 (MQ below (gQi X r w) args s 0 0 (gFr X)) (F0 m 10 ls []) := by
    intro ls hl hF H locs hW hL
    rw [F_X11_points_10] at hF
    refine lv_ldc hx hb hown q81 dX11_points_10 ?_
    refine lv_goto (tgt := 23) hx hb dX11_points_12 (by decide) ?_
    exact g_ri hx hb hr hlocks hW hL (Option.some.inj hF) dX11_points_23
  rw [F_X11_points] at hF
  obtain ⟨locs, hlocs⟩ : ∃ locs : List Loc, locs = [] := ⟨_, rfl⟩
  rw [← hlocs] at hL ⊢
  refine lv_iload_n hx hb dX11_points_0 rfl (lv_at hl 1 rfl) ?_
  refine lv_if_lt (tgt := 10) hx hb dX11_points_1 (by decide) (fun hc_1 => ?_) (fun hc_1 => ?_)
  · replace hF := gT hc_1 hF
    exact B_10  ls (lv_sub hl [] rfl) hF H locs hW hL
  · replace hF := gF hc_1 hF
    refine lv_iload_n hx hb dX11_points_4 rfl (lv_at hl 1 rfl) ?_
    refine lv_bipush (v := 6) hx hb dX11_points_5 (by decide) ?_
    refine lv_icmp_lt (tgt := 15) hx hb dX11_points_7 (by decide) (fun hc_2 => ?_) (fun hc_2 => ?_)
    · replace hF := gT hc_2 hF
      refine lv_aload_n hx hb dX11_points_15 rfl (lv_at hl 0 rfl) ?_
      refine rg_X11_meet hx hb hts inX11 hown hK hW q10 dX11_points_16 ?_
      refine lv_iload_n hx hb dX11_points_19 rfl (lv_at hl 1 rfl) ?_
      obtain ⟨v_4, hq_3, hF⟩ := gP_some hF
      refine g_Si (As := [.ref (gA X 0 0), .int x1]) (rest := []) ⟨hx, hb, hml, hown, hts⟩ hK hW hL hl.1 (c_X8_ofClub l X w 0 h07 x1 v_4 hq_3) k108 rfl rfl (Nat.le_of_ble_eq_true rfl) dX11_points_20 ⟨Nat.le_of_ble_eq_true rfl, Nat.le_of_ble_eq_true rfl⟩ (fun H locs hW hL => ?_)
      exact g_ri hx hb hr hlocks hW hL (Option.some.inj hF) dX11_points_23
    · replace hF := gF hc_2 hF
      exact B_10  ls (lv_sub hl [] rfl) hF H locs hW hL
