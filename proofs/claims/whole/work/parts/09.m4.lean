abbrev rmX12_allPoints : Room := { frames := 0, cells := 0, slots := 0, locals := 0 }
abbrev wsX12_allPoints : List Cond := gws yX12_allPoints cX12_allPoints 3 (some .int)
set_option maxHeartbeats 4000000 in
set_option maxRecDepth 100000 in
theorem c_X12_allPoints (l : Launch) (X : gX) (w : gWd)  (r : Int32) (hF : F_X12_allPoints w = some r) : Met l yX12_allPoints wsX12_allPoints rmX12_allPoints (gPc X [.ref (gA X 8 0)] w) (gQi X r w) 0 0 (gFr X) := by
  refine g_ofW (cc := cX12_allPoints) (maxL := 3) (ret := (some .int)) (by decide) rfl (Nat.le_of_ble_eq_true rfl) (fun p e s m args below meth c ls H hx hb hr hts hown hlocks hml hK hl hW => ?_)
  have hl : lv_has ls 3 [(0, .ref (gA X 8 0))] := hl
  have hown : s.vm.findClass RX12 = some m.cls := hown
  have hL : gLo X [] := gLo_nil
  show W p l e rmX12_allPoints s m args below meth c H [] 0 0 _ _
  have inX12 : ∀ w ∈ wsX120, w ∈ wsX12_allPoints := fun w h => List.mem_cons_of_mem _ (inlX12 w h)
  have q7 := hts _ (List.mem_cons_of_mem _ wq_X12_7)
  have L_4 : ∀ (fu : Nat) (x1 : Int32) (x2 : Int32)  (ls : Array Slot) (hl : lv_has ls 3 [(0, .ref (gA X 8 0)), (1, .int x1), (2, .int x2)]) (hF : F_X12_allPoints_4 fu w x1 x2 = some r) (H : Heap) (locs : List Loc) (hW : gWo X 251 (gE X w) H) (hL : gLo X locs), W p l e rmX12_allPoints s m args below meth c H locs 0 0 (MQ below (gQi X r w) args s 0 0 (gFr X)) (F0 m 4 ls []) := by
    intro fu
    induction fu with
    | zero => intro x1 x2 ls hl hF H locs hW hL; rw [F_X12_allPoints_4_z] at hF; cases hF
    | succ fu4 ih4 =>
      intro x1 x2 ls hl hF H locs hW hL
      rw [F_X12_allPoints_4_s] at hF
      refine lv_iload_n hx hb dX12_allPoints_4 rfl (lv_at hl 2 rfl) ?_
      refine lv_bipush (v := 6) hx hb dX12_allPoints_5 (by decide) ?_
      refine lv_icmp_ge (tgt := 29) hx hb dX12_allPoints_7 (by decide) (fun hc_1 => ?_) (fun hc_1 => ?_)
      · replace hF := gT hc_1 hF
        refine lv_iload_n hx hb dX12_allPoints_29 rfl (lv_at hl 1 rfl) ?_
        exact g_ri hx hb hr hlocks hW hL (Option.some.inj hF) dX12_allPoints_30
      · replace hF := gF hc_1 hF
        refine lv_iload_n hx hb dX12_allPoints_10 rfl (lv_at hl 1 rfl) ?_
        refine lv_aload_n hx hb dX12_allPoints_11 rfl (lv_at hl 0 rfl) ?_
        refine rg_X12_s hx hb hts inX12 hown hK hW q7 dX12_allPoints_12 ?_
        refine lv_sipush (v := 300) hx hb dX12_allPoints_15 (by decide) ?_
        refine lv_iload_n hx hb dX12_allPoints_18 rfl (lv_at hl 2 rfl) ?_
        refine lv_iadd hx hb dX12_allPoints_19 ?_
        obtain ⟨hin_2, hF⟩ := gB_some hF
        obtain ⟨k_3, ek_3⟩ : ∃ k, k = Int32.toNatClampNeg ((300 + x2)) := ⟨_, rfl⟩
        rw [← ek_3] at hF
        refine g_iald2 (k := k_3) hx hb hK hW (gok_o (by decide)) (gad_lt (gok_o (by decide))) gE_O1 hin_2 ek_3.symm dX12_allPoints_20 ?_
        refine lv_iadd hx hb dX12_allPoints_21 ?_
        obtain ⟨x1_4, ex1_4, hF⟩ := gS_some hF
        refine g_top ex1_4 ?_
        refine lv_istore_n (lv' := [(1, .int x1_4), (0, .ref (gA X 8 0)), (2, .int x2)]) hx hb dX12_allPoints_22 rfl hl (by decide) rfl (fun ls hl => ?_)
        obtain ⟨x2_5, ex2_5, hF⟩ := gS_some hF
        refine lv_iinc (v := x2_5) (lv' := [(2, .int x2_5), (1, .int x1_4), (0, .ref (gA X 8 0))]) hx hb dX12_allPoints_23 hl (k := 2) rfl (by rw [ex2_5]; rfl) (by decide) rfl (fun ls hl => ?_)
        refine lv_goto (tgt := 4) hx hb dX12_allPoints_26 (by decide) ?_
        exact ih4 x1_4 x2_5 ls (lv_sub hl [2, 1, 0] rfl) hF H locs hW hL
  rw [F_X12_allPoints] at hF
  obtain ⟨locs, hlocs⟩ : ∃ locs : List Loc, locs = [] := ⟨_, rfl⟩
  rw [← hlocs] at hL ⊢
  refine lv_iconst (v := 0) hx hb dX12_allPoints_0 (by decide) ?_
  refine lv_istore_n (lv' := [(1, .int 0), (0, .ref (gA X 8 0))]) hx hb dX12_allPoints_1 rfl hl (by decide) rfl (fun ls hl => ?_)
  refine lv_iconst (v := 0) hx hb dX12_allPoints_2 (by decide) ?_
  refine lv_istore_n (lv' := [(2, .int 0), (1, .int 0), (0, .ref (gA X 8 0))]) hx hb dX12_allPoints_3 rfl hl (by decide) rfl (fun ls hl => ?_)
  exact L_4 gFU 0 0 ls (lv_sub hl [2, 1, 0] rfl) hF H locs hW hL
abbrev rmX12_count : Room := { frames := 4, cells := 0, slots := 0, locals := 87 }
abbrev wsX12_count : List Cond := gws yX12_count cX12_count 2 (some .int)
set_option maxHeartbeats 4000000 in
set_option maxRecDepth 100000 in
theorem c_X12_count (l : Launch) (X : gX) (w : gWd) (x1 : Int32) (r : Int32) (hF : F_X12_count w x1 = some r) : Met l yX12_count wsX12_count rmX12_count (gPc X [.ref (gA X 8 0), .int x1] w) (gQi X r w) 0 0 (gFr X) := by
  refine g_ofW (cc := cX12_count) (maxL := 2) (ret := (some .int)) (by decide) rfl (Nat.le_of_ble_eq_true rfl) (fun p e s m args below meth c ls H hx hb hr hts hown hlocks hml hK hl hW => ?_)
  have hl : lv_has ls 2 [(0, .ref (gA X 8 0)), (1, .int x1)] := hl
  have hown : s.vm.findClass RX12 = some m.cls := hown
  have hL : gLo X [] := gLo_nil
  show W p l e rmX12_count s m args below meth c H [] 0 0 _ _
  have inX12 : ∀ w ∈ wsX120, w ∈ wsX12_count := fun w h => List.mem_cons_of_mem _ (inlX12 w h)
  have q174 := hts _ (List.mem_cons_of_mem _ wq_X12_174)
  have q32 := hts _ (List.mem_cons_of_mem _ wq_X12_32)
  have q7 := hts _ (List.mem_cons_of_mem _ wq_X12_7)
  have q75 := hts _ (List.mem_cons_of_mem _ wq_X12_75)
  have q85 := hts _ (List.mem_cons_of_mem _ wq_X12_85)
  have k122 : CallW rmX12_count s args RX12 RX12 122 yX12_inFinal cX12_inFinal 3 (some .int) wsX12_inFinal rmX12_inFinal 0 0 0 := cwV 0 hts (gGoodV (fun w h => List.mem_cons_of_mem _ h) wk_X12_122) rfl rfl rfl (by decide +kernel) ⟨Nat.le_of_ble_eq_true rfl, Nat.le_of_ble_eq_true rfl⟩
  have k137 : CallB rmX12_count s args RX12 137 yX12_orNone cX12_orNone 1 (some .int) wsX12_orNone rmX12_orNone 0 0 1 ∧ (Cond.static yX12_orNone).before args s = true := va_cwS 1 hts (gGoodS (fun w h => List.mem_cons_of_mem _ h) wk_X12_137) rfl rfl rfl (by decide +kernel) ⟨Nat.le_of_ble_eq_true rfl, Nat.le_of_ble_eq_true rfl⟩
  have k162 : CallW rmX12_count s args RX12 RX12 162 yX12_goneOnes cX12_goneOnes 3 (some .int) wsX12_goneOnes rmX12_goneOnes 0 0 0 := cwV 0 hts (gGoodV (fun w h => List.mem_cons_of_mem _ h) wk_X12_162) rfl rfl rfl (by decide +kernel) ⟨Nat.le_of_ble_eq_true rfl, Nat.le_of_ble_eq_true rfl⟩
  have k165 : CallW rmX12_count s args RX12 RX12 165 yX12_reserves cX12_reserves 2 (some .int) wsX12_reserves rmX12_reserves 0 0 0 := cwV 0 hts (gGoodV (fun w h => List.mem_cons_of_mem _ h) wk_X12_165) rfl rfl rfl (by decide +kernel) ⟨Nat.le_of_ble_eq_true rfl, Nat.le_of_ble_eq_true rfl⟩
  have k168 : CallW rmX12_count s args RX12 RX12 168 yX12_timesNow cX12_timesNow 3 (some .int) wsX12_timesNow rmX12_timesNow 0 0 0 := cwV 0 hts (gGoodV (fun w h => List.mem_cons_of_mem _ h) wk_X12_168) rfl rfl rfl (by decide +kernel) ⟨Nat.le_of_ble_eq_true rfl, Nat.le_of_ble_eq_true rfl⟩
  have k171 : CallW rmX12_count s args RX12 RX12 171 yX12_allPoints cX12_allPoints 3 (some .int) wsX12_allPoints rmX12_allPoints 0 0 0 := cwV 0 hts (gGoodV (fun w h => List.mem_cons_of_mem _ h) wk_X12_171) rfl rfl rfl (by decide +kernel) ⟨Nat.le_of_ble_eq_true rfl, Nat.le_of_ble_eq_true rfl⟩
  rw [F_X12_count] at hF
  obtain ⟨locs, hlocs⟩ : ∃ locs : List Loc, locs = [] := ⟨_, rfl⟩
  rw [← hlocs] at hL ⊢
  refine lv_iload_n hx hb dX12_count_0 rfl (lv_at hl 1 rfl) ?_
  by_cases hc_1 : x1 = 0
  · replace hF := gT hc_1 hF
    refine lv_tableIn (off := 107) (tgt := 108) hx hb dX12_count_1 (by rw [hc_1]; decide) (by rw [hc_1]; decide) (by rw [hc_1]; rfl) (by decide) ?_
    refine lv_aload_n hx hb dX12_count_108 rfl (lv_at hl 0 rfl) ?_
    refine rg_X12_s hx hb hts inX12 hown hK hW q7 dX12_count_109 ?_
    refine lv_sipush (v := 310) hx hb dX12_count_112 (by decide) ?_
    refine g_iald2 (k := 310) hx hb hK hW (gok_o (by decide)) (gad_lt (gok_o (by decide))) gE_O1 (gin (by decide)) (by decide) dX12_count_115 ?_
    exact g_ri hx hb hr hlocks hW hL (Option.some.inj hF) dX12_count_116
  · replace hF := gF hc_1 hF
    by_cases hc_2 : x1 = 1
    · replace hF := gT hc_2 hF
      refine lv_tableIn (off := 116) (tgt := 117) hx hb dX12_count_1 (by rw [hc_2]; decide) (by rw [hc_2]; decide) (by rw [hc_2]; rfl) (by decide) ?_
      refine lv_aload_n hx hb dX12_count_117 rfl (lv_at hl 0 rfl) ?_
      refine rg_X12_s hx hb hts inX12 hown hK hW q7 dX12_count_118 ?_
      refine lv_sipush (v := 311) hx hb dX12_count_121 (by decide) ?_
      refine g_iald2 (k := 311) hx hb hK hW (gok_o (by decide)) (gad_lt (gok_o (by decide))) gE_O1 (gin (by decide)) (by decide) dX12_count_124 ?_
      exact g_ri hx hb hr hlocks hW hL (Option.some.inj hF) dX12_count_125
    · replace hF := gF hc_2 hF
      by_cases hc_3 : x1 = 2
      · replace hF := gT hc_3 hF
        refine lv_tableIn (off := 125) (tgt := 126) hx hb dX12_count_1 (by rw [hc_3]; decide) (by rw [hc_3]; decide) (by rw [hc_3]; rfl) (by decide) ?_
        refine lv_aload_n hx hb dX12_count_126 rfl (lv_at hl 0 rfl) ?_
        obtain ⟨v_5, hq_4, hF⟩ := gP_some hF
        refine g_Vi (As := []) (rest := []) ⟨hx, hb, hml, hown, hts⟩ hK hW hL hl.1 (gok_o (by decide)) gE_O rfl (c_X12_goneOnes l X w  v_5 hq_4) k162 rfl rfl (Nat.le_of_ble_eq_true rfl) dX12_count_127 ⟨Nat.le_of_ble_eq_true rfl, Nat.le_of_ble_eq_true rfl⟩ (fun H locs hW hL => ?_)
        exact g_ri hx hb hr hlocks hW hL (Option.some.inj hF) dX12_count_130
      · replace hF := gF hc_3 hF
        by_cases hc_6 : x1 = 3
        · replace hF := gT hc_6 hF
          refine lv_tableIn (off := 130) (tgt := 131) hx hb dX12_count_1 (by rw [hc_6]; decide) (by rw [hc_6]; decide) (by rw [hc_6]; rfl) (by decide) ?_
          refine lv_aload_n hx hb dX12_count_131 rfl (lv_at hl 0 rfl) ?_
          refine rg_X12_s hx hb hts inX12 hown hK hW q7 dX12_count_132 ?_
          refine lv_sipush (v := 312) hx hb dX12_count_135 (by decide) ?_
          refine g_iald2 (k := 312) hx hb hK hW (gok_o (by decide)) (gad_lt (gok_o (by decide))) gE_O1 (gin (by decide)) (by decide) dX12_count_138 ?_
          exact g_ri hx hb hr hlocks hW hL (Option.some.inj hF) dX12_count_139
        · replace hF := gF hc_6 hF
          by_cases hc_7 : x1 = 4
          · replace hF := gT hc_7 hF
            refine lv_tableIn (off := 139) (tgt := 140) hx hb dX12_count_1 (by rw [hc_7]; decide) (by rw [hc_7]; decide) (by rw [hc_7]; rfl) (by decide) ?_
            refine lv_aload_n hx hb dX12_count_140 rfl (lv_at hl 0 rfl) ?_
            obtain ⟨v_9, hq_8, hF⟩ := gP_some hF
            refine g_Vi (As := []) (rest := []) ⟨hx, hb, hml, hown, hts⟩ hK hW hL hl.1 (gok_o (by decide)) gE_O rfl (c_X12_inFinal l X w  v_9 hq_8) k122 rfl rfl (Nat.le_of_ble_eq_true rfl) dX12_count_141 ⟨Nat.le_of_ble_eq_true rfl, Nat.le_of_ble_eq_true rfl⟩ (fun H locs hW hL => ?_)
            exact g_ri hx hb hr hlocks hW hL (Option.some.inj hF) dX12_count_144
          · replace hF := gF hc_7 hF
            by_cases hc_10 : x1 = 5
            · replace hF := gT hc_10 hF
              refine lv_tableIn (off := 144) (tgt := 145) hx hb dX12_count_1 (by rw [hc_10]; decide) (by rw [hc_10]; decide) (by rw [hc_10]; rfl) (by decide) ?_
              refine lv_aload_n hx hb dX12_count_145 rfl (lv_at hl 0 rfl) ?_
              obtain ⟨v_12, hq_11, hF⟩ := gP_some hF
              refine g_Vi (As := []) (rest := []) ⟨hx, hb, hml, hown, hts⟩ hK hW hL hl.1 (gok_o (by decide)) gE_O rfl (c_X12_reserves l X w  v_12 hq_11) k165 rfl rfl (Nat.le_of_ble_eq_true rfl) dX12_count_146 ⟨Nat.le_of_ble_eq_true rfl, Nat.le_of_ble_eq_true rfl⟩ (fun H locs hW hL => ?_)
              exact g_ri hx hb hr hlocks hW hL (Option.some.inj hF) dX12_count_149
            · replace hF := gF hc_10 hF
              by_cases hc_13 : x1 = 6
              · replace hF := gT hc_13 hF
                refine lv_tableIn (off := 149) (tgt := 150) hx hb dX12_count_1 (by rw [hc_13]; decide) (by rw [hc_13]; decide) (by rw [hc_13]; rfl) (by decide) ?_
                refine lv_aload_n hx hb dX12_count_150 rfl (lv_at hl 0 rfl) ?_
                obtain ⟨v_15, hq_14, hF⟩ := gP_some hF
                refine g_Vi (As := []) (rest := []) ⟨hx, hb, hml, hown, hts⟩ hK hW hL hl.1 (gok_o (by decide)) gE_O rfl (c_X12_timesNow l X w  v_15 hq_14) k168 rfl rfl (Nat.le_of_ble_eq_true rfl) dX12_count_151 ⟨Nat.le_of_ble_eq_true rfl, Nat.le_of_ble_eq_true rfl⟩ (fun H locs hW hL => ?_)
                exact g_ri hx hb hr hlocks hW hL (Option.some.inj hF) dX12_count_154
              · replace hF := gF hc_13 hF
                by_cases hc_16 : x1 = 7
                · replace hF := gT hc_16 hF
                  refine lv_tableIn (off := 154) (tgt := 155) hx hb dX12_count_1 (by rw [hc_16]; decide) (by rw [hc_16]; decide) (by rw [hc_16]; rfl) (by decide) ?_
                  refine lv_aload_n hx hb dX12_count_155 rfl (lv_at hl 0 rfl) ?_
                  refine rg_X12_s hx hb hts inX12 hown hK hW q7 dX12_count_156 ?_
                  refine lv_sipush (v := 313) hx hb dX12_count_159 (by decide) ?_
                  refine g_iald2 (k := 313) hx hb hK hW (gok_o (by decide)) (gad_lt (gok_o (by decide))) gE_O1 (gin (by decide)) (by decide) dX12_count_162 ?_
                  exact g_ri hx hb hr hlocks hW hL (Option.some.inj hF) dX12_count_163
                · replace hF := gF hc_16 hF
                  by_cases hc_17 : x1 = 8
                  · replace hF := gT hc_17 hF
                    refine lv_tableIn (off := 163) (tgt := 164) hx hb dX12_count_1 (by rw [hc_17]; decide) (by rw [hc_17]; decide) (by rw [hc_17]; rfl) (by decide) ?_
                    refine lv_aload_n hx hb dX12_count_164 rfl (lv_at hl 0 rfl) ?_
                    refine rg_X12_s hx hb hts inX12 hown hK hW q7 dX12_count_165 ?_
                    refine lv_sipush (v := 314) hx hb dX12_count_168 (by decide) ?_
                    refine g_iald2 (k := 314) hx hb hK hW (gok_o (by decide)) (gad_lt (gok_o (by decide))) gE_O1 (gin (by decide)) (by decide) dX12_count_171 ?_
                    obtain ⟨v_19, hq_18, hF⟩ := gP_some hF
                    refine g_Si (As := [.int (w 8 1 314)]) (rest := []) ⟨hx, hb, hml, hown, hts⟩ hK hW hL hl.1 (c_X12_orNone l X w ((w 8 1 314)) v_19 hq_18) k137 rfl rfl (Nat.le_of_ble_eq_true rfl) dX12_count_172 ⟨Nat.le_of_ble_eq_true rfl, Nat.le_of_ble_eq_true rfl⟩ (fun H locs hW hL => ?_)
                    exact g_ri hx hb hr hlocks hW hL (Option.some.inj hF) dX12_count_175
                  · replace hF := gF hc_17 hF
                    by_cases hc_20 : x1 = 9
                    · replace hF := gT hc_20 hF
                      refine lv_tableIn (off := 175) (tgt := 176) hx hb dX12_count_1 (by rw [hc_20]; decide) (by rw [hc_20]; decide) (by rw [hc_20]; rfl) (by decide) ?_
                      refine lv_aload_n hx hb dX12_count_176 rfl (lv_at hl 0 rfl) ?_
                      refine rg_X12_s hx hb hts inX12 hown hK hW q7 dX12_count_177 ?_
                      refine lv_sipush (v := 314) hx hb dX12_count_180 (by decide) ?_
                      refine g_iald2 (k := 314) hx hb hK hW (gok_o (by decide)) (gad_lt (gok_o (by decide))) gE_O1 (gin (by decide)) (by decide) dX12_count_183 ?_
                      refine lv_if_le (tgt := 198) hx hb dX12_count_184 (by decide) (fun hc_21 => ?_) (fun hc_21 => ?_)
                      · replace hF := gT hc_21 hF
                        refine lv_ldc hx hb hown q85 dX12_count_198 ?_
                        exact g_ri hx hb hr hlocks hW hL (Option.some.inj hF) dX12_count_200
                      · replace hF := gF hc_21 hF
                        refine lv_aload_n hx hb dX12_count_187 rfl (lv_at hl 0 rfl) ?_
                        refine rg_X12_s hx hb hts inX12 hown hK hW q7 dX12_count_188 ?_
                        refine lv_sipush (v := 315) hx hb dX12_count_191 (by decide) ?_
                        refine g_iald2 (k := 315) hx hb hK hW (gok_o (by decide)) (gad_lt (gok_o (by decide))) gE_O1 (gin (by decide)) (by decide) dX12_count_194 ?_
                        refine lv_goto (tgt := 200) hx hb dX12_count_195 (by decide) ?_
                        exact g_ri hx hb hr hlocks hW hL (Option.some.inj hF) dX12_count_200
                    · replace hF := gF hc_20 hF
                      by_cases hc_22 : x1 = 10
                      · replace hF := gT hc_22 hF
                        refine lv_tableIn (off := 200) (tgt := 201) hx hb dX12_count_1 (by rw [hc_22]; decide) (by rw [hc_22]; decide) (by rw [hc_22]; rfl) (by decide) ?_
                        refine lv_aload_n hx hb dX12_count_201 rfl (lv_at hl 0 rfl) ?_
                        refine rg_X12_s hx hb hts inX12 hown hK hW q7 dX12_count_202 ?_
                        refine lv_sipush (v := 316) hx hb dX12_count_205 (by decide) ?_
                        refine g_iald2 (k := 316) hx hb hK hW (gok_o (by decide)) (gad_lt (gok_o (by decide))) gE_O1 (gin (by decide)) (by decide) dX12_count_208 ?_
                        exact g_ri hx hb hr hlocks hW hL (Option.some.inj hF) dX12_count_209
                      · replace hF := gF hc_22 hF
                        by_cases hc_23 : x1 = 11
                        · replace hF := gT hc_23 hF
                          refine lv_tableIn (off := 209) (tgt := 210) hx hb dX12_count_1 (by rw [hc_23]; decide) (by rw [hc_23]; decide) (by rw [hc_23]; rfl) (by decide) ?_
                          refine lv_aload_n hx hb dX12_count_210 rfl (lv_at hl 0 rfl) ?_
                          obtain ⟨v_25, hq_24, hF⟩ := gP_some hF
                          refine g_Vi (As := []) (rest := []) ⟨hx, hb, hml, hown, hts⟩ hK hW hL hl.1 (gok_o (by decide)) gE_O rfl (c_X12_allPoints l X w  v_25 hq_24) k171 rfl rfl (Nat.le_of_ble_eq_true rfl) dX12_count_211 ⟨Nat.le_of_ble_eq_true rfl, Nat.le_of_ble_eq_true rfl⟩ (fun H locs hW hL => ?_)
                          exact g_ri hx hb hr hlocks hW hL (Option.some.inj hF) dX12_count_214
                        · replace hF := gF hc_23 hF
                          by_cases hc_26 : x1 = 12
                          · replace hF := gT hc_26 hF
                            refine lv_tableIn (off := 214) (tgt := 215) hx hb dX12_count_1 (by rw [hc_26]; decide) (by rw [hc_26]; decide) (by rw [hc_26]; rfl) (by decide) ?_
                            refine lv_aload_n hx hb dX12_count_215 rfl (lv_at hl 0 rfl) ?_
                            refine rg_X12_pasts hx hb hts inX12 hown hK hW q32 dX12_count_216 ?_
                            exact g_ri hx hb hr hlocks hW hL (Option.some.inj hF) dX12_count_219
                          · replace hF := gF hc_26 hF
                            by_cases hc_27 : x1 = 13
                            · replace hF := gT hc_27 hF
                              refine lv_tableIn (off := 219) (tgt := 220) hx hb dX12_count_1 (by rw [hc_27]; decide) (by rw [hc_27]; decide) (by rw [hc_27]; rfl) (by decide) ?_
                              refine lv_aload_n hx hb dX12_count_220 rfl (lv_at hl 0 rfl) ?_
                              refine rg_X12_typed hx hb hts inX12 hown hK hW q174 dX12_count_221 ?_
                              exact g_ri hx hb hr hlocks hW hL (Option.some.inj hF) dX12_count_224
                            · replace hF := gF hc_27 hF
                              by_cases hc_28 : x1 = 20
                              · replace hF := gT hc_28 hF
                                refine lv_tableIn (off := 224) (tgt := 225) hx hb dX12_count_1 (by rw [hc_28]; decide) (by rw [hc_28]; decide) (by rw [hc_28]; rfl) (by decide) ?_
                                refine lv_aload_n hx hb dX12_count_225 rfl (lv_at hl 0 rfl) ?_
                                refine rg_X12_s hx hb hts inX12 hown hK hW q7 dX12_count_226 ?_
                                refine lv_sipush (v := 317) hx hb dX12_count_229 (by decide) ?_
                                refine lv_iload_n hx hb dX12_count_232 rfl (lv_at hl 1 rfl) ?_
                                refine lv_iadd hx hb dX12_count_233 ?_
                                refine lv_bipush (v := 20) hx hb dX12_count_234 (by decide) ?_
                                refine lv_isub hx hb dX12_count_236 ?_
                                obtain ⟨hin_29, hF⟩ := gB_some hF
                                obtain ⟨k_30, ek_30⟩ : ∃ k, k = Int32.toNatClampNeg (((317 + x1) - 20)) := ⟨_, rfl⟩
                                rw [← ek_30] at hF
                                refine g_iald2 (k := k_30) hx hb hK hW (gok_o (by decide)) (gad_lt (gok_o (by decide))) gE_O1 hin_29 ek_30.symm dX12_count_237 ?_
                                exact g_ri hx hb hr hlocks hW hL (Option.some.inj hF) dX12_count_238
                              · replace hF := gF hc_28 hF
                                by_cases hc_31 : x1 = 21
                                · replace hF := gT hc_31 hF
                                  refine lv_tableIn (off := 224) (tgt := 225) hx hb dX12_count_1 (by rw [hc_31]; decide) (by rw [hc_31]; decide) (by rw [hc_31]; rfl) (by decide) ?_
                                  refine lv_aload_n hx hb dX12_count_225 rfl (lv_at hl 0 rfl) ?_
                                  refine rg_X12_s hx hb hts inX12 hown hK hW q7 dX12_count_226 ?_
                                  refine lv_sipush (v := 317) hx hb dX12_count_229 (by decide) ?_
                                  refine lv_iload_n hx hb dX12_count_232 rfl (lv_at hl 1 rfl) ?_
                                  refine lv_iadd hx hb dX12_count_233 ?_
                                  refine lv_bipush (v := 20) hx hb dX12_count_234 (by decide) ?_
                                  refine lv_isub hx hb dX12_count_236 ?_
                                  obtain ⟨hin_32, hF⟩ := gB_some hF
                                  obtain ⟨k_33, ek_33⟩ : ∃ k, k = Int32.toNatClampNeg (((317 + x1) - 20)) := ⟨_, rfl⟩
                                  rw [← ek_33] at hF
                                  refine g_iald2 (k := k_33) hx hb hK hW (gok_o (by decide)) (gad_lt (gok_o (by decide))) gE_O1 hin_32 ek_33.symm dX12_count_237 ?_
                                  exact g_ri hx hb hr hlocks hW hL (Option.some.inj hF) dX12_count_238
                                · replace hF := gF hc_31 hF
                                  by_cases hc_34 : x1 = 22
                                  · replace hF := gT hc_34 hF
                                    refine lv_tableIn (off := 224) (tgt := 225) hx hb dX12_count_1 (by rw [hc_34]; decide) (by rw [hc_34]; decide) (by rw [hc_34]; rfl) (by decide) ?_
                                    refine lv_aload_n hx hb dX12_count_225 rfl (lv_at hl 0 rfl) ?_
                                    refine rg_X12_s hx hb hts inX12 hown hK hW q7 dX12_count_226 ?_
                                    refine lv_sipush (v := 317) hx hb dX12_count_229 (by decide) ?_
                                    refine lv_iload_n hx hb dX12_count_232 rfl (lv_at hl 1 rfl) ?_
                                    refine lv_iadd hx hb dX12_count_233 ?_
                                    refine lv_bipush (v := 20) hx hb dX12_count_234 (by decide) ?_
                                    refine lv_isub hx hb dX12_count_236 ?_
                                    obtain ⟨hin_35, hF⟩ := gB_some hF
                                    obtain ⟨k_36, ek_36⟩ : ∃ k, k = Int32.toNatClampNeg (((317 + x1) - 20)) := ⟨_, rfl⟩
                                    rw [← ek_36] at hF
                                    refine g_iald2 (k := k_36) hx hb hK hW (gok_o (by decide)) (gad_lt (gok_o (by decide))) gE_O1 hin_35 ek_36.symm dX12_count_237 ?_
                                    exact g_ri hx hb hr hlocks hW hL (Option.some.inj hF) dX12_count_238
                                  · replace hF := gF hc_34 hF
                                    by_cases hc_37 : x1 = 14
                                    · refine lv_tableIn (off := 238) (tgt := 239) hx hb dX12_count_1 (by rw [hc_37]; decide) (by rw [hc_37]; decide) (by rw [hc_37]; rfl) (by decide) ?_
                                      refine lv_ldc hx hb hown q75 dX12_count_239 ?_
                                      exact g_ri hx hb hr hlocks hW hL (Option.some.inj hF) dX12_count_241
                                    · skip
                                      by_cases hc_38 : x1 = 15
                                      · refine lv_tableIn (off := 238) (tgt := 239) hx hb dX12_count_1 (by rw [hc_38]; decide) (by rw [hc_38]; decide) (by rw [hc_38]; rfl) (by decide) ?_
                                        refine lv_ldc hx hb hown q75 dX12_count_239 ?_
                                        exact g_ri hx hb hr hlocks hW hL (Option.some.inj hF) dX12_count_241
                                      · skip
                                        by_cases hc_39 : x1 = 16
                                        · refine lv_tableIn (off := 238) (tgt := 239) hx hb dX12_count_1 (by rw [hc_39]; decide) (by rw [hc_39]; decide) (by rw [hc_39]; rfl) (by decide) ?_
                                          refine lv_ldc hx hb hown q75 dX12_count_239 ?_
                                          exact g_ri hx hb hr hlocks hW hL (Option.some.inj hF) dX12_count_241
                                        · skip
                                          by_cases hc_40 : x1 = 17
                                          · refine lv_tableIn (off := 238) (tgt := 239) hx hb dX12_count_1 (by rw [hc_40]; decide) (by rw [hc_40]; decide) (by rw [hc_40]; rfl) (by decide) ?_
                                            refine lv_ldc hx hb hown q75 dX12_count_239 ?_
                                            exact g_ri hx hb hr hlocks hW hL (Option.some.inj hF) dX12_count_241
                                          · skip
                                            by_cases hc_41 : x1 = 18
                                            · refine lv_tableIn (off := 238) (tgt := 239) hx hb dX12_count_1 (by rw [hc_41]; decide) (by rw [hc_41]; decide) (by rw [hc_41]; rfl) (by decide) ?_
                                              refine lv_ldc hx hb hown q75 dX12_count_239 ?_
                                              exact g_ri hx hb hr hlocks hW hL (Option.some.inj hF) dX12_count_241
                                            · skip
                                              by_cases hc_42 : x1 = 19
                                              · refine lv_tableIn (off := 238) (tgt := 239) hx hb dX12_count_1 (by rw [hc_42]; decide) (by rw [hc_42]; decide) (by rw [hc_42]; rfl) (by decide) ?_
                                                refine lv_ldc hx hb hown q75 dX12_count_239 ?_
                                                exact g_ri hx hb hr hlocks hW hL (Option.some.inj hF) dX12_count_241
                                              · skip
                                                refine lv_tableOut (tgt := 239) hx hb dX12_count_1 (g_tabOut (fun k h1 h2 h3 => ?_)) (by decide) ?_
                                                · have hk : k = 0 ∨ k = 1 ∨ k = 2 ∨ k = 3 ∨ k = 4 ∨ k = 5 ∨ k = 6 ∨ k = 7 ∨ k = 8 ∨ k = 9 ∨ k = 10 ∨ k = 11 ∨ k = 12 ∨ k = 13 ∨ k = 14 ∨ k = 15 ∨ k = 16 ∨ k = 17 ∨ k = 18 ∨ k = 19 ∨ k = 20 ∨ k = 21 ∨ k = 22 := by omega
                                                  rcases hk with rfl | rfl | rfl | rfl | rfl | rfl | rfl | rfl | rfl | rfl | rfl | rfl | rfl | rfl | rfl | rfl | rfl | rfl | rfl | rfl | rfl | rfl | rfl
                                                  · exact hc_1 (Int32.toInt_inj.mp (h3.trans (by decide)))
                                                  · exact hc_2 (Int32.toInt_inj.mp (h3.trans (by decide)))
                                                  · exact hc_3 (Int32.toInt_inj.mp (h3.trans (by decide)))
                                                  · exact hc_6 (Int32.toInt_inj.mp (h3.trans (by decide)))
                                                  · exact hc_7 (Int32.toInt_inj.mp (h3.trans (by decide)))
                                                  · exact hc_10 (Int32.toInt_inj.mp (h3.trans (by decide)))
                                                  · exact hc_13 (Int32.toInt_inj.mp (h3.trans (by decide)))
                                                  · exact hc_16 (Int32.toInt_inj.mp (h3.trans (by decide)))
                                                  · exact hc_17 (Int32.toInt_inj.mp (h3.trans (by decide)))
                                                  · exact hc_20 (Int32.toInt_inj.mp (h3.trans (by decide)))
                                                  · exact hc_22 (Int32.toInt_inj.mp (h3.trans (by decide)))
                                                  · exact hc_23 (Int32.toInt_inj.mp (h3.trans (by decide)))
                                                  · exact hc_26 (Int32.toInt_inj.mp (h3.trans (by decide)))
                                                  · exact hc_27 (Int32.toInt_inj.mp (h3.trans (by decide)))
                                                  · exact hc_37 (Int32.toInt_inj.mp (h3.trans (by decide)))
                                                  · exact hc_38 (Int32.toInt_inj.mp (h3.trans (by decide)))
                                                  · exact hc_39 (Int32.toInt_inj.mp (h3.trans (by decide)))
                                                  · exact hc_40 (Int32.toInt_inj.mp (h3.trans (by decide)))
                                                  · exact hc_41 (Int32.toInt_inj.mp (h3.trans (by decide)))
                                                  · exact hc_42 (Int32.toInt_inj.mp (h3.trans (by decide)))
                                                  · exact hc_28 (Int32.toInt_inj.mp (h3.trans (by decide)))
                                                  · exact hc_31 (Int32.toInt_inj.mp (h3.trans (by decide)))
                                                  · exact hc_34 (Int32.toInt_inj.mp (h3.trans (by decide)))
                                                · skip
                                                  refine lv_ldc hx hb hown q75 dX12_count_239 ?_
                                                  exact g_ri hx hb hr hlocks hW hL (Option.some.inj hF) dX12_count_241
abbrev rmX12_undo : Room := { frames := 0, cells := 0, slots := 0, locals := 0 }
abbrev wsX12_undo : List Cond := gws yX12_undo cX12_undo 2 (some .int)
set_option maxHeartbeats 4000000 in
set_option maxRecDepth 100000 in
theorem c_X12_undo (l : Launch) (X : gX) (w : gWd)  (r : Int32) (w' : gWd) (hF : F_X12_undo w = some (r, w')) : Met l yX12_undo wsX12_undo rmX12_undo (gPc X [.ref (gA X 8 0)] w) (gQi X r w') 0 0 (gFr X) := by
  refine g_ofW (cc := cX12_undo) (maxL := 2) (ret := (some .int)) (by decide) rfl (Nat.le_of_ble_eq_true rfl) (fun p e s m args below meth c ls H hx hb hr hts hown hlocks hml hK hl hW => ?_)
  have hl : lv_has ls 2 [(0, .ref (gA X 8 0))] := hl
  have hown : s.vm.findClass RX12 = some m.cls := hown
  have hL : gLo X [] := gLo_nil
  show W p l e rmX12_undo s m args below meth c H [] 0 0 _ _
  have inX12 : ∀ w ∈ wsX120, w ∈ wsX12_undo := fun w h => List.mem_cons_of_mem _ (inlX12 w h)
  have q13 := hts _ (List.mem_cons_of_mem _ wq_X12_13)
  have q32 := hts _ (List.mem_cons_of_mem _ wq_X12_32)
  have q7 := hts _ (List.mem_cons_of_mem _ wq_X12_7)
  have q76 := hts _ (List.mem_cons_of_mem _ wq_X12_76)
  have L_22 : ∀ (fu : Nat) (w : gWd) (x1 : Int32)  (ls : Array Slot) (hl : lv_has ls 2 [(0, .ref (gA X 8 0)), (1, .int x1)]) (hF : F_X12_undo_22 fu w x1 = some (r, w')) (H : Heap) (locs : List Loc) (hW : gWo X 251 (gE X w) H) (hL : gLo X locs), W p l e rmX12_undo s m args below meth c H locs 0 0 (MQ below (gQi X r w') args s 0 0 (gFr X)) (F0 m 22 ls []) := by
    intro fu
    induction fu with
    | zero => intro w x1 ls hl hF H locs hW hL; rw [F_X12_undo_22_z] at hF; cases hF
    | succ fu22 ih22 =>
      intro w x1 ls hl hF H locs hW hL
      rw [F_X12_undo_22_s] at hF
      refine lv_iload_n hx hb dX12_undo_22 rfl (lv_at hl 1 rfl) ?_
      refine lv_sipush (v := 320) hx hb dX12_undo_23 (by decide) ?_
      refine lv_icmp_ge (tgt := 56) hx hb dX12_undo_26 (by decide) (fun hc_1 => ?_) (fun hc_1 => ?_)
      · replace hF := gT hc_1 hF
        refine lv_aload_n hx hb dX12_undo_56 rfl (lv_at hl 0 rfl) ?_
        refine rg_X12_pasts hx hb hts inX12 hown hK hW q32 dX12_undo_57 ?_
        exact g_ri hx hb hr hlocks (gW2 hF hW) hL (gI2 hF).1 dX12_undo_60
      · replace hF := gF hc_1 hF
        refine lv_aload_n hx hb dX12_undo_29 rfl (lv_at hl 0 rfl) ?_
        refine rg_X12_s hx hb hts inX12 hown hK hW q7 dX12_undo_30 ?_
        refine lv_iload_n hx hb dX12_undo_33 rfl (lv_at hl 1 rfl) ?_
        refine lv_aload_n hx hb dX12_undo_34 rfl (lv_at hl 0 rfl) ?_
        refine rg_X12_past hx hb hts inX12 hown hK hW q13 dX12_undo_35 ?_
        refine lv_sipush (v := 320) hx hb dX12_undo_38 (by decide) ?_
        refine lv_aload_n hx hb dX12_undo_41 rfl (lv_at hl 0 rfl) ?_
        refine rg_X12_pasts hx hb hts inX12 hown hK hW q32 dX12_undo_42 ?_
        refine lv_imul hx hb dX12_undo_45 ?_
        refine lv_iload_n hx hb dX12_undo_46 rfl (lv_at hl 1 rfl) ?_
        refine lv_iadd hx hb dX12_undo_47 ?_
        obtain ⟨hin_2, hF⟩ := gB_some hF
        obtain ⟨k_3, ek_3⟩ : ∃ k, k = Int32.toNatClampNeg (((320 * (w 8 0 3)) + x1)) := ⟨_, rfl⟩
        rw [← ek_3] at hF
        refine g_iald2 (k := k_3) hx hb hK hW (gok_o (by decide)) (gad_lt (gok_o (by decide))) gE_O2 hin_2 ek_3.symm dX12_undo_48 ?_
        obtain ⟨hin_4, hF⟩ := gB_some hF
        obtain ⟨k_5, ek_5⟩ : ∃ k, k = Int32.toNatClampNeg x1 := ⟨_, rfl⟩
        rw [← ek_5] at hF
        obtain ⟨w_6, ew_6, hF⟩ := gS_some hF
        refine g_iast2 (k := k_5) hx hb hK hW hL (gok_o (by decide)) (fun w => gE_O1 (w := w)) hin_4 ek_5.symm dX12_undo_49 (fun H locs hW hL => ?_)
        rw [← ew_6] at hW
        obtain ⟨x1_7, ex1_7, hF⟩ := gS_some hF
        refine lv_iinc (v := x1_7) (lv' := [(1, .int x1_7), (0, .ref (gA X 8 0))]) hx hb dX12_undo_50 hl (k := 1) rfl (by rw [ex1_7]; rfl) (by decide) rfl (fun ls hl => ?_)
        refine lv_goto (tgt := 22) hx hb dX12_undo_53 (by decide) ?_
        exact ih22 w_6 x1_7 ls (lv_sub hl [1, 0] rfl) hF H locs hW hL
  rw [F_X12_undo] at hF
  obtain ⟨locs, hlocs⟩ : ∃ locs : List Loc, locs = [] := ⟨_, rfl⟩
  rw [← hlocs] at hL ⊢
  refine lv_aload_n hx hb dX12_undo_0 rfl (lv_at hl 0 rfl) ?_
  refine rg_X12_pasts hx hb hts inX12 hown hK hW q32 dX12_undo_1 ?_
  refine lv_if_ne (tgt := 10) hx hb dX12_undo_4 (by decide) (fun hc_8 => ?_) (fun hc_8 => ?_)
  · replace hF := gF hc_8 hF
    refine lv_aload_n hx hb dX12_undo_10 rfl (lv_at hl 0 rfl) ?_
    refine lv_dup hx hb dX12_undo_11 rfl ?_
    refine rg_X12_pasts hx hb hts inX12 hown hK hW q32 dX12_undo_12 ?_
    refine lv_iconst (v := 1) hx hb dX12_undo_15 (by decide) ?_
    refine lv_isub hx hb dX12_undo_16 ?_
    obtain ⟨w_9, ew_9, hF⟩ := gS_some hF
    refine rp_X12_pasts hx hb hts inX12 hown hK hW hL q32 dX12_undo_17 (fun H locs hW hL => ?_)
    rw [← ew_9] at hW
    refine lv_iconst (v := 0) hx hb dX12_undo_20 (by decide) ?_
    refine lv_istore_n (lv' := [(1, .int 0), (0, .ref (gA X 8 0))]) hx hb dX12_undo_21 rfl hl (by decide) rfl (fun ls hl => ?_)
    exact L_22 gFU w_9 0 ls (lv_sub hl [1, 0] rfl) hF H locs hW hL
  · replace hF := gT hc_8 hF
    refine lv_ldc hx hb hown q76 dX12_undo_7 ?_
    exact g_ri hx hb hr hlocks (gW2 hF hW) hL (gI2 hF).1 dX12_undo_9
abbrev rmX12_type : Room := { frames := 1, cells := 0, slots := 0, locals := 22 }
abbrev wsX12_type : List Cond := gws yX12_type cX12_type 2 (some .int)
set_option maxHeartbeats 4000000 in
set_option maxRecDepth 100000 in
theorem c_X12_type (l : Launch) (X : gX) (w : gWd) (x1 : Int32) (r : Int32) (w' : gWd) (hF : F_X12_type w x1 = some (r, w')) : Met l yX12_type wsX12_type rmX12_type (gPc X [.ref (gA X 8 0), .int x1] w) (gQi X r w') 0 0 (gFr X) := by
  refine g_ofW (cc := cX12_type) (maxL := 2) (ret := (some .int)) (by decide) rfl (Nat.le_of_ble_eq_true rfl) (fun p e s m args below meth c ls H hx hb hr hts hown hlocks hml hK hl hW => ?_)
  have hl : lv_has ls 2 [(0, .ref (gA X 8 0)), (1, .int x1)] := hl
  have hown : s.vm.findClass RX12 = some m.cls := hown
  have hL : gLo X [] := gLo_nil
  show W p l e rmX12_type s m args below meth c H [] 0 0 _ _
  have inX12 : ∀ w ∈ wsX120, w ∈ wsX12_type := fun w h => List.mem_cons_of_mem _ (inlX12 w h)
  have q174 := hts _ (List.mem_cons_of_mem _ wq_X12_174)
  have q19 := hts _ (List.mem_cons_of_mem _ wq_X12_19)
  have q75 := hts _ (List.mem_cons_of_mem _ wq_X12_75)
  have q77 := hts _ (List.mem_cons_of_mem _ wq_X12_77)
  have k36 : CallB rmX12_type s args RX12 36 yX12_in cX12_in 3 (some .boolean) wsX12_in rmX12_in 0 0 3 ∧ (Cond.static yX12_in).before args s = true := va_cwS 3 hts (gGoodS (fun w h => List.mem_cons_of_mem _ h) wk_X12_36) rfl rfl rfl (by decide +kernel) ⟨Nat.le_of_ble_eq_true rfl, Nat.le_of_ble_eq_true rfl⟩
  rw [F_X12_type] at hF
  obtain ⟨locs, hlocs⟩ : ∃ locs : List Loc, locs = [] := ⟨_, rfl⟩
  rw [← hlocs] at hL ⊢
  refine lv_iload_n hx hb dX12_type_0 rfl (lv_at hl 1 rfl) ?_
  refine lv_bipush (v := 32) hx hb dX12_type_1 (by decide) ?_
  refine lv_bipush (v := 126) hx hb dX12_type_3 (by decide) ?_
  obtain ⟨v_2, hq_1, hF⟩ := gP_some hF
  refine g_Si (As := [.int x1, .int 32, .int 126]) (rest := []) ⟨hx, hb, hml, hown, hts⟩ hK hW hL hl.1 (c_X12_in l X w x1 32 126 v_2 hq_1) k36 rfl rfl (Nat.le_of_ble_eq_true rfl) dX12_type_5 ⟨Nat.le_of_ble_eq_true rfl, Nat.le_of_ble_eq_true rfl⟩ (fun H locs hW hL => ?_)
  refine lv_if_ne (tgt := 14) hx hb dX12_type_8 (by decide) (fun hc_3 => ?_) (fun hc_3 => ?_)
  · replace hF := gF hc_3 hF
    refine lv_aload_n hx hb dX12_type_14 rfl (lv_at hl 0 rfl) ?_
    refine rg_X12_typed hx hb hts inX12 hown hK hW q174 dX12_type_15 ?_
    refine lv_bipush (v := 60) hx hb dX12_type_18 (by decide) ?_
    refine lv_icmp_ne (tgt := 26) hx hb dX12_type_20 (by decide) (fun hc_4 => ?_) (fun hc_4 => ?_)
    · replace hF := gF hc_4 hF
      refine lv_aload_n hx hb dX12_type_26 rfl (lv_at hl 0 rfl) ?_
      refine rg_X12_text hx hb hts inX12 hown hK hW q19 dX12_type_27 ?_
      refine lv_aload_n hx hb dX12_type_30 rfl (lv_at hl 0 rfl) ?_
      refine rg_X12_typed hx hb hts inX12 hown hK hW q174 dX12_type_31 ?_
      refine lv_iload_n hx hb dX12_type_34 rfl (lv_at hl 1 rfl) ?_
      obtain ⟨hin_5, hF⟩ := gB_some hF
      obtain ⟨k_6, ek_6⟩ : ∃ k, k = Int32.toNatClampNeg ((w 8 0 6)) := ⟨_, rfl⟩
      rw [← ek_6] at hF
      obtain ⟨w_7, ew_7, hF⟩ := gS_some hF
      refine g_iast2 (k := k_6) hx hb hK hW hL (gok_o (by decide)) (fun w => gE_O4 (w := w)) hin_5 ek_6.symm dX12_type_35 (fun H locs hW hL => ?_)
      rw [← ew_7] at hW
      refine lv_aload_n hx hb dX12_type_36 rfl (lv_at hl 0 rfl) ?_
      refine lv_dup hx hb dX12_type_37 rfl ?_
      refine rg_X12_typed hx hb hts inX12 hown hK hW q174 dX12_type_38 ?_
      refine lv_iconst (v := 1) hx hb dX12_type_41 (by decide) ?_
      refine lv_iadd hx hb dX12_type_42 ?_
      obtain ⟨w_8, ew_8, hF⟩ := gS_some hF
      refine rp_X12_typed hx hb hts inX12 hown hK hW hL q174 dX12_type_43 (fun H locs hW hL => ?_)
      rw [← ew_8] at hW
      refine lv_aload_n hx hb dX12_type_46 rfl (lv_at hl 0 rfl) ?_
      refine rg_X12_typed hx hb hts inX12 hown hK hW q174 dX12_type_47 ?_
      exact g_ri hx hb hr hlocks (gW2 hF hW) hL (gI2 hF).1 dX12_type_50
    · replace hF := gT hc_4 hF
      refine lv_ldc hx hb hown q77 dX12_type_23 ?_
      exact g_ri hx hb hr hlocks (gW2 hF hW) hL (gI2 hF).1 dX12_type_25
  · replace hF := gT hc_3 hF
    refine lv_ldc hx hb hown q75 dX12_type_11 ?_
    exact g_ri hx hb hr hlocks (gW2 hF hW) hL (gI2 hF).1 dX12_type_13
abbrev rmX12_clearText : Room := { frames := 0, cells := 0, slots := 0, locals := 0 }
abbrev wsX12_clearText : List Cond := gws yX12_clearText cX12_clearText 2 (some .int)
set_option maxHeartbeats 4000000 in
set_option maxRecDepth 100000 in
theorem c_X12_clearText (l : Launch) (X : gX) (w : gWd)  (r : Int32) (w' : gWd) (hF : F_X12_clearText w = some (r, w')) : Met l yX12_clearText wsX12_clearText rmX12_clearText (gPc X [.ref (gA X 8 0)] w) (gQi X r w') 0 0 (gFr X) := by
  refine g_ofW (cc := cX12_clearText) (maxL := 2) (ret := (some .int)) (by decide) rfl (Nat.le_of_ble_eq_true rfl) (fun p e s m args below meth c ls H hx hb hr hts hown hlocks hml hK hl hW => ?_)
  have hl : lv_has ls 2 [(0, .ref (gA X 8 0))] := hl
  have hown : s.vm.findClass RX12 = some m.cls := hown
  have hL : gLo X [] := gLo_nil
  show W p l e rmX12_clearText s m args below meth c H [] 0 0 _ _
  have inX12 : ∀ w ∈ wsX120, w ∈ wsX12_clearText := fun w h => List.mem_cons_of_mem _ (inlX12 w h)
  have q174 := hts _ (List.mem_cons_of_mem _ wq_X12_174)
  rw [F_X12_clearText] at hF
  obtain ⟨locs, hlocs⟩ : ∃ locs : List Loc, locs = [] := ⟨_, rfl⟩
  rw [← hlocs] at hL ⊢
  refine lv_aload_n hx hb dX12_clearText_0 rfl (lv_at hl 0 rfl) ?_
  refine rg_X12_typed hx hb hts inX12 hown hK hW q174 dX12_clearText_1 ?_
  obtain ⟨x1_1, ex1_1, hF⟩ := gS_some hF
  refine g_top ex1_1 ?_
  refine lv_istore_n (lv' := [(1, .int x1_1), (0, .ref (gA X 8 0))]) hx hb dX12_clearText_4 rfl hl (by decide) rfl (fun ls hl => ?_)
  refine lv_aload_n hx hb dX12_clearText_5 rfl (lv_at hl 1 rfl) ?_
  refine lv_iconst (v := 0) hx hb dX12_clearText_6 (by decide) ?_
  obtain ⟨w_2, ew_2, hF⟩ := gS_some hF
  refine rp_X12_typed hx hb hts inX12 hown hK hW hL q174 dX12_clearText_7 (fun H locs hW hL => ?_)
  rw [← ew_2] at hW
  refine lv_iload_n hx hb dX12_clearText_10 rfl (lv_at hl 0 rfl) ?_
  exact g_ri hx hb hr hlocks (gW2 hF hW) hL (gI2 hF).1 dX12_clearText_11
abbrev rmX12_isAt : Room := { frames := 1, cells := 0, slots := 0, locals := 22 }
abbrev wsX12_isAt : List Cond := gws yX12_isAt cX12_isAt 3 (some .boolean)
set_option maxHeartbeats 4000000 in
set_option maxRecDepth 100000 in
theorem c_X12_isAt (l : Launch) (X : gX) (w : gWd) (x1 : Int32) (x2 : Int32) (r : Int32) (hF : F_X12_isAt w x1 x2 = some r) : Met l yX12_isAt wsX12_isAt rmX12_isAt (gPc X [.ref (gA X 8 0), .int x1, .int x2] w) (gQi X r w) 0 0 (gFr X) := by
  refine g_ofW (cc := cX12_isAt) (maxL := 3) (ret := (some .boolean)) (by decide) rfl (Nat.le_of_ble_eq_true rfl) (fun p e s m args below meth c ls H hx hb hr hts hown hlocks hml hK hl hW => ?_)
  have hl : lv_has ls 3 [(0, .ref (gA X 8 0)), (1, .int x1), (2, .int x2)] := hl
  have hown : s.vm.findClass RX12 = some m.cls := hown
  have hL : gLo X [] := gLo_nil
  show W p l e rmX12_isAt s m args below meth c H [] 0 0 _ _
  have inX12 : ∀ w ∈ wsX120, w ∈ wsX12_isAt := fun w h => List.mem_cons_of_mem _ (inlX12 w h)
  have q174 := hts _ (List.mem_cons_of_mem _ wq_X12_174)
  have q177 := hts _ (List.mem_cons_of_mem _ wq_X12_177)
  have q19 := hts _ (List.mem_cons_of_mem _ wq_X12_19)
  have k36 : CallB rmX12_isAt s args RX12 36 yX12_in cX12_in 3 (some .boolean) wsX12_in rmX12_in 0 0 3 ∧ (Cond.static yX12_in).before args s = true := va_cwS 3 hts (gGoodS (fun w h => List.mem_cons_of_mem _ h) wk_X12_36) rfl rfl rfl (by decide +kernel) ⟨Nat.le_of_ble_eq_true rfl, Nat.le_of_ble_eq_true rfl⟩
  have B_32 : ∀   (ls : Array Slot) (hl : lv_has ls 3 []) (hF : F_X12_isAt_32 w = some r) (H : Heap) (locs : List Loc) (hW : gWo X 251 (gE X w) H) (hL : gLo X locs), W p l e rmX12_isAt s m args below meth c H locs 0 0 (MQ below (gQi X r w) args s 0 0 (gFr X)) (F0 m 32 ls []) := by
    intro ls hl hF H locs hW hL
    rw [F_X12_isAt_32] at hF
    refine lv_iconst (v := 0) hx hb dX12_isAt_32 (by decide) ?_
    exact g_rz hx hb hr hlocks hW hL (Or.inl rfl) (Option.some.inj hF) dX12_isAt_33
  rw [F_X12_isAt] at hF
  obtain ⟨locs, hlocs⟩ : ∃ locs : List Loc, locs = [] := ⟨_, rfl⟩
  rw [← hlocs] at hL ⊢
  refine lv_aload_n hx hb dX12_isAt_0 rfl (lv_at hl 0 rfl) ?_
  refine rg_X12_spot hx hb hts inX12 hown hK hW q177 dX12_isAt_1 ?_
  refine lv_aload_n hx hb dX12_isAt_4 rfl (lv_at hl 0 rfl) ?_
  refine rg_X12_typed hx hb hts inX12 hown hK hW q174 dX12_isAt_5 ?_
  refine lv_icmp_ge (tgt := 32) hx hb dX12_isAt_8 (by decide) (fun hc_1 => ?_) (fun hc_1 => ?_)
  · replace hF := gT hc_1 hF
    exact B_32  ls (lv_sub hl [] rfl) hF H locs hW hL
  · replace hF := gF hc_1 hF
    refine lv_aload_n hx hb dX12_isAt_11 rfl (lv_at hl 0 rfl) ?_
    refine rg_X12_text hx hb hts inX12 hown hK hW q19 dX12_isAt_12 ?_
    refine lv_aload_n hx hb dX12_isAt_15 rfl (lv_at hl 0 rfl) ?_
    refine rg_X12_spot hx hb hts inX12 hown hK hW q177 dX12_isAt_16 ?_
    obtain ⟨hin_2, hF⟩ := gB_some hF
    obtain ⟨k_3, ek_3⟩ : ∃ k, k = Int32.toNatClampNeg ((w 8 0 8)) := ⟨_, rfl⟩
    rw [← ek_3] at hF
    refine g_iald2 (k := k_3) hx hb hK hW (gok_o (by decide)) (gad_lt (gok_o (by decide))) gE_O4 hin_2 ek_3.symm dX12_isAt_19 ?_
    refine lv_iload_n hx hb dX12_isAt_20 rfl (lv_at hl 1 rfl) ?_
    refine lv_iload_n hx hb dX12_isAt_21 rfl (lv_at hl 2 rfl) ?_
    obtain ⟨v_5, hq_4, hF⟩ := gP_some hF
    refine g_Si (As := [.int (w 8 4 k_3), .int x1, .int x2]) (rest := []) ⟨hx, hb, hml, hown, hts⟩ hK hW hL hl.1 (c_X12_in l X w ((w 8 4 k_3)) x1 x2 v_5 hq_4) k36 rfl rfl (Nat.le_of_ble_eq_true rfl) dX12_isAt_22 ⟨Nat.le_of_ble_eq_true rfl, Nat.le_of_ble_eq_true rfl⟩ (fun H locs hW hL => ?_)
    refine lv_if_eq (tgt := 32) hx hb dX12_isAt_25 (by decide) (fun hc_6 => ?_) (fun hc_6 => ?_)
    · replace hF := gT hc_6 hF
      exact B_32  ls (lv_sub hl [] rfl) hF H locs hW hL
    · replace hF := gF hc_6 hF
      refine lv_iconst (v := 1) hx hb dX12_isAt_28 (by decide) ?_
      refine lv_goto (tgt := 33) hx hb dX12_isAt_29 (by decide) ?_
      exact g_rz hx hb hr hlocks hW hL (Or.inr rfl) (Option.some.inj hF) dX12_isAt_33
abbrev rmX12_sign : Room := { frames := 2, cells := 0, slots := 0, locals := 44 }
abbrev wsX12_sign : List Cond := gws yX12_sign cX12_sign 3 (some .boolean)
set_option maxHeartbeats 4000000 in
set_option maxRecDepth 100000 in
theorem c_X12_sign (l : Launch) (X : gX) (w : gWd) (x1 : Int32) (r : Int32) (w' : gWd) (hF : F_X12_sign w x1 = some (r, w')) : Met l yX12_sign wsX12_sign rmX12_sign (gPc X [.ref (gA X 8 0), .int x1] w) (gQi X r w') 0 0 (gFr X) := by
  refine g_ofW (cc := cX12_sign) (maxL := 3) (ret := (some .boolean)) (by decide) rfl (Nat.le_of_ble_eq_true rfl) (fun p e s m args below meth c ls H hx hb hr hts hown hlocks hml hK hl hW => ?_)
  have hl : lv_has ls 3 [(0, .ref (gA X 8 0)), (1, .int x1)] := hl
  have hown : s.vm.findClass RX12 = some m.cls := hown
  have hL : gLo X [] := gLo_nil
  show W p l e rmX12_sign s m args below meth c H [] 0 0 _ _
  have inX12 : ∀ w ∈ wsX120, w ∈ wsX12_sign := fun w h => List.mem_cons_of_mem _ (inlX12 w h)
  have q177 := hts _ (List.mem_cons_of_mem _ wq_X12_177)
  have k180 : CallW rmX12_sign s args RX12 RX12 180 yX12_isAt cX12_isAt 3 (some .boolean) wsX12_isAt rmX12_isAt 0 0 2 := cwV 2 hts (gGoodV (fun w h => List.mem_cons_of_mem _ h) wk_X12_180) rfl rfl rfl (by decide +kernel) ⟨Nat.le_of_ble_eq_true rfl, Nat.le_of_ble_eq_true rfl⟩
  have B_21 : ∀ (w : gWd) (x2 : Int32) (xs0 : Int32) (xs1 : Int32)  (ls : Array Slot) (hl : lv_has ls 3 [(2, .int x2)]) (hF : F_X12_sign_21 w x2 xs0 xs1 = some (r, w')) (H : Heap) (locs : List Loc) (hW : gWo X 251 (gE X w) H) (hL : gLo X locs), W p l e rmX12_sign s m args below meth c H locs 0 0 (MQ below (gQi X r w') args s 0 0 (gFr X)) (F0 m 21 ls [.int xs0, .int xs1, .ref (gA X 8 0)]) := by
    intro w x2 xs0 xs1 ls hl hF H locs hW hL
    rw [F_X12_sign_21] at hF
    refine lv_iadd hx hb dX12_sign_21 ?_
    obtain ⟨w_1, ew_1, hF⟩ := gS_some hF
    refine rp_X12_spot hx hb hts inX12 hown hK hW hL q177 dX12_sign_22 (fun H locs hW hL => ?_)
    rw [← ew_1] at hW
    refine lv_iload_n hx hb dX12_sign_25 rfl (lv_at hl 0 rfl) ?_
    obtain ⟨hz_2, hF⟩ := gZ_some hF
    exact g_rz hx hb hr hlocks (gW2 hF hW) hL hz_2 (gI2 hF).1 dX12_sign_26
  rw [F_X12_sign] at hF
  obtain ⟨locs, hlocs⟩ : ∃ locs : List Loc, locs = [] := ⟨_, rfl⟩
  rw [← hlocs] at hL ⊢
  refine lv_aload_n hx hb dX12_sign_0 rfl (lv_at hl 0 rfl) ?_
  refine lv_iload_n hx hb dX12_sign_1 rfl (lv_at hl 1 rfl) ?_
  refine lv_iload_n hx hb dX12_sign_2 rfl (lv_at hl 1 rfl) ?_
  obtain ⟨v_4, hq_3, hF⟩ := gP_some hF
  refine g_Vi (As := [.int x1, .int x1]) (rest := []) ⟨hx, hb, hml, hown, hts⟩ hK hW hL hl.1 (gok_o (by decide)) gE_O rfl (c_X12_isAt l X w x1 x1 v_4 hq_3) k180 rfl rfl (Nat.le_of_ble_eq_true rfl) dX12_sign_3 ⟨Nat.le_of_ble_eq_true rfl, Nat.le_of_ble_eq_true rfl⟩ (fun H locs hW hL => ?_)
  refine lv_istore_n (lv' := [(2, .int v_4), (0, .ref (gA X 8 0)), (1, .int x1)]) hx hb dX12_sign_6 rfl hl (by decide) rfl (fun ls hl => ?_)
  refine lv_aload_n hx hb dX12_sign_7 rfl (lv_at hl 1 rfl) ?_
  refine lv_dup hx hb dX12_sign_8 rfl ?_
  refine rg_X12_spot hx hb hts inX12 hown hK hW q177 dX12_sign_9 ?_
  refine lv_iload_n hx hb dX12_sign_12 rfl (lv_at hl 0 rfl) ?_
  refine lv_if_eq (tgt := 20) hx hb dX12_sign_13 (by decide) (fun hc_5 => ?_) (fun hc_5 => ?_)
  · replace hF := gT hc_5 hF
    refine lv_iconst (v := 0) hx hb dX12_sign_20 (by decide) ?_
    exact B_21 w v_4 0 ((w 8 0 8)) ls (lv_sub hl [0] rfl) hF H locs hW hL
  · replace hF := gF hc_5 hF
    refine lv_iconst (v := 1) hx hb dX12_sign_16 (by decide) ?_
    refine lv_goto (tgt := 21) hx hb dX12_sign_17 (by decide) ?_
    exact B_21 w v_4 1 ((w 8 0 8)) ls (lv_sub hl [0] rfl) hF H locs hW hL
abbrev rmX12_numbered : Room := { frames := 2, cells := 0, slots := 0, locals := 44 }
abbrev wsX12_numbered : List Cond := gws yX12_numbered cX12_numbered 3 (some .boolean)
set_option maxHeartbeats 4000000 in
set_option maxRecDepth 100000 in
theorem c_X12_numbered (l : Launch) (X : gX) (w : gWd) (x1 : Int32) (r : Int32) (w' : gWd) (hF : F_X12_numbered w x1 = some (r, w')) : Met l yX12_numbered wsX12_numbered rmX12_numbered (gPc X [.ref (gA X 8 0), .int x1] w) (gQi X r w') 0 0 (gFr X) := by
  refine g_ofW (cc := cX12_numbered) (maxL := 3) (ret := (some .boolean)) (by decide) rfl (Nat.le_of_ble_eq_true rfl) (fun p e s m args below meth c ls H hx hb hr hts hown hlocks hml hK hl hW => ?_)
  have hl : lv_has ls 3 [(0, .ref (gA X 8 0)), (1, .int x1)] := hl
  have hown : s.vm.findClass RX12 = some m.cls := hown
  have hL : gLo X [] := gLo_nil
  show W p l e rmX12_numbered s m args below meth c H [] 0 0 _ _
  have inX12 : ∀ w ∈ wsX120, w ∈ wsX12_numbered := fun w h => List.mem_cons_of_mem _ (inlX12 w h)
  have q177 := hts _ (List.mem_cons_of_mem _ wq_X12_177)
  have q19 := hts _ (List.mem_cons_of_mem _ wq_X12_19)
  have q25 := hts _ (List.mem_cons_of_mem _ wq_X12_25)
  have k180 : CallW rmX12_numbered s args RX12 RX12 180 yX12_isAt cX12_isAt 3 (some .boolean) wsX12_isAt rmX12_isAt 0 0 2 := cwV 2 hts (gGoodV (fun w h => List.mem_cons_of_mem _ h) wk_X12_180) rfl rfl rfl (by decide +kernel) ⟨Nat.le_of_ble_eq_true rfl, Nat.le_of_ble_eq_true rfl⟩
  have B_74 : ∀ (w : gWd) (x2 : Int32)  (ls : Array Slot) (hl : lv_has ls 3 [(0, .ref (gA X 8 0)), (2, .int x2)]) (hF : F_X12_numbered_74 w x2 = some (r, w')) (H : Heap) (locs : List Loc) (hW : gWo X 251 (gE X w) H) (hL : gLo X locs), W p l e rmX12_numbered s m args below meth c H locs 0 0 (MQ below (gQi X r w') args s 0 0 (gFr X)) (F0 m 74 ls []) := by
    intro w x2 ls hl hF H locs hW hL
    rw [F_X12_numbered_74] at hF
    refine lv_aload_n hx hb dX12_numbered_74 rfl (lv_at hl 0 rfl) ?_
    refine rg_X12_spot hx hb hts inX12 hown hK hW q177 dX12_numbered_75 ?_
    refine lv_iload_n hx hb dX12_numbered_78 rfl (lv_at hl 1 rfl) ?_
    refine lv_icmp_le (tgt := 86) hx hb dX12_numbered_79 (by decide) (fun hc_13 => ?_) (fun hc_13 => ?_)
    · replace hF := gT hc_13 hF
      refine lv_iconst (v := 0) hx hb dX12_numbered_86 (by decide) ?_
      exact g_rz hx hb hr hlocks (gW2 hF hW) hL (Or.inl rfl) (gI2 hF).1 dX12_numbered_87
    · replace hF := gF hc_13 hF
      refine lv_iconst (v := 1) hx hb dX12_numbered_82 (by decide) ?_
      refine lv_goto (tgt := 87) hx hb dX12_numbered_83 (by decide) ?_
      exact g_rz hx hb hr hlocks (gW2 hF hW) hL (Or.inr rfl) (gI2 hF).1 dX12_numbered_87
  have L_12 : ∀ (fu : Nat) (w : gWd) (x1 : Int32) (x2 : Int32)  (ls : Array Slot) (hl : lv_has ls 3 [(0, .ref (gA X 8 0)), (1, .int x1), (2, .int x2)]) (hF : F_X12_numbered_12 fu w x1 x2 = some (r, w')) (H : Heap) (locs : List Loc) (hW : gWo X 251 (gE X w) H) (hL : gLo X locs), W p l e rmX12_numbered s m args below meth c H locs 0 0 (MQ below (gQi X r w') args s 0 0 (gFr X)) (F0 m 12 ls []) := by
    intro fu
    induction fu with
    | zero => intro w x1 x2 ls hl hF H locs hW hL; rw [F_X12_numbered_12_z] at hF; cases hF
    | succ fu12 ih12 =>
      intro w x1 x2 ls hl hF H locs hW hL
      rw [F_X12_numbered_12_s] at hF
      refine lv_aload_n hx hb dX12_numbered_12 rfl (lv_at hl 0 rfl) ?_
      refine lv_bipush (v := 48) hx hb dX12_numbered_13 (by decide) ?_
      refine lv_bipush (v := 57) hx hb dX12_numbered_15 (by decide) ?_
      obtain ⟨v_2, hq_1, hF⟩ := gP_some hF
      refine g_Vi (As := [.int 48, .int 57]) (rest := []) ⟨hx, hb, hml, hown, hts⟩ hK hW hL hl.1 (gok_o (by decide)) gE_O rfl (c_X12_isAt l X w 48 57 v_2 hq_1) k180 rfl rfl (Nat.le_of_ble_eq_true rfl) dX12_numbered_17 ⟨Nat.le_of_ble_eq_true rfl, Nat.le_of_ble_eq_true rfl⟩ (fun H locs hW hL => ?_)
      refine lv_if_eq (tgt := 74) hx hb dX12_numbered_20 (by decide) (fun hc_3 => ?_) (fun hc_3 => ?_)
      · replace hF := gT hc_3 hF
        exact B_74 w x2 ls (lv_sub hl [0, 2] rfl) hF H locs hW hL
      · replace hF := gF hc_3 hF
        refine lv_aload_n hx hb dX12_numbered_23 rfl (lv_at hl 0 rfl) ?_
        refine rg_X12_spot hx hb hts inX12 hown hK hW q177 dX12_numbered_24 ?_
        refine lv_iload_n hx hb dX12_numbered_27 rfl (lv_at hl 2 rfl) ?_
        refine lv_isub hx hb dX12_numbered_28 ?_
        refine lv_iconst (v := 3) hx hb dX12_numbered_29 (by decide) ?_
        refine lv_icmp_ge (tgt := 74) hx hb dX12_numbered_30 (by decide) (fun hc_4 => ?_) (fun hc_4 => ?_)
        · replace hF := gT hc_4 hF
          exact B_74 w x2 ls (lv_sub hl [0, 2] rfl) hF H locs hW hL
        · replace hF := gF hc_4 hF
          refine lv_aload_n hx hb dX12_numbered_33 rfl (lv_at hl 0 rfl) ?_
          refine rg_X12_numbers hx hb hts inX12 hown hK hW q25 dX12_numbered_34 ?_
          refine lv_iload_n hx hb dX12_numbered_37 rfl (lv_at hl 1 rfl) ?_
          refine lv_bipush (v := 10) hx hb dX12_numbered_38 (by decide) ?_
          refine lv_aload_n hx hb dX12_numbered_40 rfl (lv_at hl 0 rfl) ?_
          refine rg_X12_numbers hx hb hts inX12 hown hK hW q25 dX12_numbered_41 ?_
          refine lv_iload_n hx hb dX12_numbered_44 rfl (lv_at hl 1 rfl) ?_
          obtain ⟨hin_5, hF⟩ := gB_some hF
          obtain ⟨k_6, ek_6⟩ : ∃ k, k = Int32.toNatClampNeg x1 := ⟨_, rfl⟩
          rw [← ek_6] at hF
          refine g_iald2 (k := k_6) hx hb hK hW (gok_o (by decide)) (gad_lt (gok_o (by decide))) gE_O6 hin_5 ek_6.symm dX12_numbered_45 ?_
          refine lv_imul hx hb dX12_numbered_46 ?_
          refine lv_aload_n hx hb dX12_numbered_47 rfl (lv_at hl 0 rfl) ?_
          refine rg_X12_text hx hb hts inX12 hown hK hW q19 dX12_numbered_48 ?_
          refine lv_aload_n hx hb dX12_numbered_51 rfl (lv_at hl 0 rfl) ?_
          refine rg_X12_spot hx hb hts inX12 hown hK hW q177 dX12_numbered_52 ?_
          obtain ⟨hin_7, hF⟩ := gB_some hF
          obtain ⟨k_8, ek_8⟩ : ∃ k, k = Int32.toNatClampNeg ((w 8 0 8)) := ⟨_, rfl⟩
          rw [← ek_8] at hF
          refine g_iald2 (k := k_8) hx hb hK hW (gok_o (by decide)) (gad_lt (gok_o (by decide))) gE_O4 hin_7 ek_8.symm dX12_numbered_55 ?_
          refine lv_iadd hx hb dX12_numbered_56 ?_
          refine lv_bipush (v := 48) hx hb dX12_numbered_57 (by decide) ?_
          refine lv_isub hx hb dX12_numbered_59 ?_
          obtain ⟨hin_9, hF⟩ := gB_some hF
          obtain ⟨k_10, ek_10⟩ : ∃ k, k = Int32.toNatClampNeg x1 := ⟨_, rfl⟩
          rw [← ek_10] at hF
          obtain ⟨w_11, ew_11, hF⟩ := gS_some hF
          refine g_iast2 (k := k_10) hx hb hK hW hL (gok_o (by decide)) (fun w => gE_O6 (w := w)) hin_9 ek_10.symm dX12_numbered_60 (fun H locs hW hL => ?_)
          rw [← ew_11] at hW
          refine lv_aload_n hx hb dX12_numbered_61 rfl (lv_at hl 0 rfl) ?_
          refine lv_dup hx hb dX12_numbered_62 rfl ?_
          refine rg_X12_spot hx hb hts inX12 hown hK hW q177 dX12_numbered_63 ?_
          refine lv_iconst (v := 1) hx hb dX12_numbered_66 (by decide) ?_
          refine lv_iadd hx hb dX12_numbered_67 ?_
          obtain ⟨w_12, ew_12, hF⟩ := gS_some hF
          refine rp_X12_spot hx hb hts inX12 hown hK hW hL q177 dX12_numbered_68 (fun H locs hW hL => ?_)
          rw [← ew_12] at hW
          refine lv_goto (tgt := 12) hx hb dX12_numbered_71 (by decide) ?_
          exact ih12 w_12 x1 x2 ls (hl) hF H locs hW hL
  rw [F_X12_numbered] at hF
  obtain ⟨locs, hlocs⟩ : ∃ locs : List Loc, locs = [] := ⟨_, rfl⟩
  rw [← hlocs] at hL ⊢
  refine lv_aload_n hx hb dX12_numbered_0 rfl (lv_at hl 0 rfl) ?_
  refine rg_X12_spot hx hb hts inX12 hown hK hW q177 dX12_numbered_1 ?_
  obtain ⟨x2_14, ex2_14, hF⟩ := gS_some hF
  refine g_top ex2_14 ?_
  refine lv_istore_n (lv' := [(2, .int x2_14), (0, .ref (gA X 8 0)), (1, .int x1)]) hx hb dX12_numbered_4 rfl hl (by decide) rfl (fun ls hl => ?_)
  refine lv_aload_n hx hb dX12_numbered_5 rfl (lv_at hl 1 rfl) ?_
  refine rg_X12_numbers hx hb hts inX12 hown hK hW q25 dX12_numbered_6 ?_
  refine lv_iload_n hx hb dX12_numbered_9 rfl (lv_at hl 2 rfl) ?_
  refine lv_iconst (v := 0) hx hb dX12_numbered_10 (by decide) ?_
  obtain ⟨hin_15, hF⟩ := gB_some hF
  obtain ⟨k_16, ek_16⟩ : ∃ k, k = Int32.toNatClampNeg x1 := ⟨_, rfl⟩
  rw [← ek_16] at hF
  obtain ⟨w_17, ew_17, hF⟩ := gS_some hF
  refine g_iast2 (k := k_16) hx hb hK hW hL (gok_o (by decide)) (fun w => gE_O6 (w := w)) hin_15 ek_16.symm dX12_numbered_11 (fun H locs hW hL => ?_)
  rw [← ew_17] at hW
  exact L_12 gFU w_17 x1 x2_14 ls (lv_sub hl [1, 2, 0] rfl) hF H locs hW hL
abbrev rmX12_numbersOf : Room := { frames := 0, cells := 0, slots := 0, locals := 0 }
abbrev wsX12_numbersOf : List Cond := gws yX12_numbersOf cX12_numbersOf 1 (some .int)
set_option maxHeartbeats 4000000 in
set_option maxRecDepth 100000 in
theorem c_X12_numbersOf (l : Launch) (X : gX) (w : gWd) (x0 : Int32) (r : Int32) (hF : F_X12_numbersOf w x0 = some r) : Met l yX12_numbersOf wsX12_numbersOf rmX12_numbersOf (gPc X [.int x0] w) (gQi X r w) 0 0 (gFr X) := by
  refine g_ofW (cc := cX12_numbersOf) (maxL := 1) (ret := (some .int)) (by decide) rfl (Nat.le_of_ble_eq_true rfl) (fun p e s m args below meth c ls H hx hb hr hts hown hlocks hml hK hl hW => ?_)
  have hl : lv_has ls 1 [(0, .int x0)] := hl
  have hown : s.vm.findClass RX12 = some m.cls := hown
  have hL : gLo X [] := gLo_nil
  show W p l e rmX12_numbersOf s m args below meth c H [] 0 0 _ _
  have q85 := hts _ (List.mem_cons_of_mem _ wq_X12_85)
  rw [F_X12_numbersOf] at hF
  obtain ⟨locs, hlocs⟩ : ∃ locs : List Loc, locs = [] := ⟨_, rfl⟩
  rw [← hlocs] at hL ⊢
  refine lv_iload_n hx hb dX12_numbersOf_0 rfl (lv_at hl 0 rfl) ?_
  by_cases hc_1 : x0 = 100
  · replace hF := gT hc_1 hF
    refine lv_tableIn (off := 103) (tgt := 104) hx hb dX12_numbersOf_1 (by rw [hc_1]; decide) (by rw [hc_1]; decide) (by rw [hc_1]; rfl) (by decide) ?_
    refine lv_iconst (v := 0) hx hb dX12_numbersOf_104 (by decide) ?_
    exact g_ri hx hb hr hlocks hW hL (Option.some.inj hF) dX12_numbersOf_105
  · replace hF := gF hc_1 hF
    by_cases hc_2 : x0 = 101
    · replace hF := gT hc_2 hF
      refine lv_tableIn (off := 99) (tgt := 100) hx hb dX12_numbersOf_1 (by rw [hc_2]; decide) (by rw [hc_2]; decide) (by rw [hc_2]; rfl) (by decide) ?_
      refine lv_iconst (v := 2) hx hb dX12_numbersOf_100 (by decide) ?_
      exact g_ri hx hb hr hlocks hW hL (Option.some.inj hF) dX12_numbersOf_101
    · replace hF := gF hc_2 hF
      by_cases hc_3 : x0 = 102
      · replace hF := gT hc_3 hF
        refine lv_tableIn (off := 103) (tgt := 104) hx hb dX12_numbersOf_1 (by rw [hc_3]; decide) (by rw [hc_3]; decide) (by rw [hc_3]; rfl) (by decide) ?_
        refine lv_iconst (v := 0) hx hb dX12_numbersOf_104 (by decide) ?_
        exact g_ri hx hb hr hlocks hW hL (Option.some.inj hF) dX12_numbersOf_105
      · replace hF := gF hc_3 hF
        by_cases hc_4 : x0 = 110
        · replace hF := gT hc_4 hF
          refine lv_tableIn (off := 103) (tgt := 104) hx hb dX12_numbersOf_1 (by rw [hc_4]; decide) (by rw [hc_4]; decide) (by rw [hc_4]; rfl) (by decide) ?_
          refine lv_iconst (v := 0) hx hb dX12_numbersOf_104 (by decide) ?_
          exact g_ri hx hb hr hlocks hW hL (Option.some.inj hF) dX12_numbersOf_105
        · replace hF := gF hc_4 hF
          by_cases hc_5 : x0 = 111
          · replace hF := gT hc_5 hF
            refine lv_tableIn (off := 103) (tgt := 104) hx hb dX12_numbersOf_1 (by rw [hc_5]; decide) (by rw [hc_5]; decide) (by rw [hc_5]; rfl) (by decide) ?_
            refine lv_iconst (v := 0) hx hb dX12_numbersOf_104 (by decide) ?_
            exact g_ri hx hb hr hlocks hW hL (Option.some.inj hF) dX12_numbersOf_105
          · replace hF := gF hc_5 hF
            by_cases hc_6 : x0 = 115
            · replace hF := gT hc_6 hF
              refine lv_tableIn (off := 99) (tgt := 100) hx hb dX12_numbersOf_1 (by rw [hc_6]; decide) (by rw [hc_6]; decide) (by rw [hc_6]; rfl) (by decide) ?_
              refine lv_iconst (v := 2) hx hb dX12_numbersOf_100 (by decide) ?_
              exact g_ri hx hb hr hlocks hW hL (Option.some.inj hF) dX12_numbersOf_101
            · replace hF := gF hc_6 hF
              by_cases hc_7 : x0 = 120
              · replace hF := gT hc_7 hF
                refine lv_tableIn (off := 101) (tgt := 102) hx hb dX12_numbersOf_1 (by rw [hc_7]; decide) (by rw [hc_7]; decide) (by rw [hc_7]; rfl) (by decide) ?_
                refine lv_iconst (v := 1) hx hb dX12_numbersOf_102 (by decide) ?_
                exact g_ri hx hb hr hlocks hW hL (Option.some.inj hF) dX12_numbersOf_103
              · replace hF := gF hc_7 hF
                by_cases hc_8 : x0 = 103
                · refine lv_tableIn (off := 105) (tgt := 106) hx hb dX12_numbersOf_1 (by rw [hc_8]; decide) (by rw [hc_8]; decide) (by rw [hc_8]; rfl) (by decide) ?_
                  refine lv_ldc hx hb hown q85 dX12_numbersOf_106 ?_
                  exact g_ri hx hb hr hlocks hW hL (Option.some.inj hF) dX12_numbersOf_108
                · skip
                  by_cases hc_9 : x0 = 104
                  · refine lv_tableIn (off := 105) (tgt := 106) hx hb dX12_numbersOf_1 (by rw [hc_9]; decide) (by rw [hc_9]; decide) (by rw [hc_9]; rfl) (by decide) ?_
                    refine lv_ldc hx hb hown q85 dX12_numbersOf_106 ?_
                    exact g_ri hx hb hr hlocks hW hL (Option.some.inj hF) dX12_numbersOf_108
                  · skip
                    by_cases hc_10 : x0 = 105
                    · refine lv_tableIn (off := 105) (tgt := 106) hx hb dX12_numbersOf_1 (by rw [hc_10]; decide) (by rw [hc_10]; decide) (by rw [hc_10]; rfl) (by decide) ?_
                      refine lv_ldc hx hb hown q85 dX12_numbersOf_106 ?_
                      exact g_ri hx hb hr hlocks hW hL (Option.some.inj hF) dX12_numbersOf_108
                    · skip
                      by_cases hc_11 : x0 = 106
                      · refine lv_tableIn (off := 105) (tgt := 106) hx hb dX12_numbersOf_1 (by rw [hc_11]; decide) (by rw [hc_11]; decide) (by rw [hc_11]; rfl) (by decide) ?_
                        refine lv_ldc hx hb hown q85 dX12_numbersOf_106 ?_
                        exact g_ri hx hb hr hlocks hW hL (Option.some.inj hF) dX12_numbersOf_108
                      · skip
                        by_cases hc_12 : x0 = 107
                        · refine lv_tableIn (off := 105) (tgt := 106) hx hb dX12_numbersOf_1 (by rw [hc_12]; decide) (by rw [hc_12]; decide) (by rw [hc_12]; rfl) (by decide) ?_
                          refine lv_ldc hx hb hown q85 dX12_numbersOf_106 ?_
                          exact g_ri hx hb hr hlocks hW hL (Option.some.inj hF) dX12_numbersOf_108
                        · skip
                          by_cases hc_13 : x0 = 108
                          · refine lv_tableIn (off := 105) (tgt := 106) hx hb dX12_numbersOf_1 (by rw [hc_13]; decide) (by rw [hc_13]; decide) (by rw [hc_13]; rfl) (by decide) ?_
                            refine lv_ldc hx hb hown q85 dX12_numbersOf_106 ?_
                            exact g_ri hx hb hr hlocks hW hL (Option.some.inj hF) dX12_numbersOf_108
                          · skip
                            by_cases hc_14 : x0 = 109
                            · refine lv_tableIn (off := 105) (tgt := 106) hx hb dX12_numbersOf_1 (by rw [hc_14]; decide) (by rw [hc_14]; decide) (by rw [hc_14]; rfl) (by decide) ?_
                              refine lv_ldc hx hb hown q85 dX12_numbersOf_106 ?_
                              exact g_ri hx hb hr hlocks hW hL (Option.some.inj hF) dX12_numbersOf_108
                            · skip
                              by_cases hc_15 : x0 = 112
                              · refine lv_tableIn (off := 105) (tgt := 106) hx hb dX12_numbersOf_1 (by rw [hc_15]; decide) (by rw [hc_15]; decide) (by rw [hc_15]; rfl) (by decide) ?_
                                refine lv_ldc hx hb hown q85 dX12_numbersOf_106 ?_
                                exact g_ri hx hb hr hlocks hW hL (Option.some.inj hF) dX12_numbersOf_108
                              · skip
                                by_cases hc_16 : x0 = 113
                                · refine lv_tableIn (off := 105) (tgt := 106) hx hb dX12_numbersOf_1 (by rw [hc_16]; decide) (by rw [hc_16]; decide) (by rw [hc_16]; rfl) (by decide) ?_
                                  refine lv_ldc hx hb hown q85 dX12_numbersOf_106 ?_
                                  exact g_ri hx hb hr hlocks hW hL (Option.some.inj hF) dX12_numbersOf_108
                                · skip
                                  by_cases hc_17 : x0 = 114
                                  · refine lv_tableIn (off := 105) (tgt := 106) hx hb dX12_numbersOf_1 (by rw [hc_17]; decide) (by rw [hc_17]; decide) (by rw [hc_17]; rfl) (by decide) ?_
                                    refine lv_ldc hx hb hown q85 dX12_numbersOf_106 ?_
                                    exact g_ri hx hb hr hlocks hW hL (Option.some.inj hF) dX12_numbersOf_108
                                  · skip
                                    by_cases hc_18 : x0 = 116
                                    · refine lv_tableIn (off := 105) (tgt := 106) hx hb dX12_numbersOf_1 (by rw [hc_18]; decide) (by rw [hc_18]; decide) (by rw [hc_18]; rfl) (by decide) ?_
                                      refine lv_ldc hx hb hown q85 dX12_numbersOf_106 ?_
                                      exact g_ri hx hb hr hlocks hW hL (Option.some.inj hF) dX12_numbersOf_108
                                    · skip
                                      by_cases hc_19 : x0 = 117
                                      · refine lv_tableIn (off := 105) (tgt := 106) hx hb dX12_numbersOf_1 (by rw [hc_19]; decide) (by rw [hc_19]; decide) (by rw [hc_19]; rfl) (by decide) ?_
                                        refine lv_ldc hx hb hown q85 dX12_numbersOf_106 ?_
                                        exact g_ri hx hb hr hlocks hW hL (Option.some.inj hF) dX12_numbersOf_108
                                      · skip
                                        by_cases hc_20 : x0 = 118
                                        · refine lv_tableIn (off := 105) (tgt := 106) hx hb dX12_numbersOf_1 (by rw [hc_20]; decide) (by rw [hc_20]; decide) (by rw [hc_20]; rfl) (by decide) ?_
                                          refine lv_ldc hx hb hown q85 dX12_numbersOf_106 ?_
                                          exact g_ri hx hb hr hlocks hW hL (Option.some.inj hF) dX12_numbersOf_108
                                        · skip
                                          by_cases hc_21 : x0 = 119
                                          · refine lv_tableIn (off := 105) (tgt := 106) hx hb dX12_numbersOf_1 (by rw [hc_21]; decide) (by rw [hc_21]; decide) (by rw [hc_21]; rfl) (by decide) ?_
                                            refine lv_ldc hx hb hown q85 dX12_numbersOf_106 ?_
                                            exact g_ri hx hb hr hlocks hW hL (Option.some.inj hF) dX12_numbersOf_108
                                          · skip
                                            refine lv_tableOut (tgt := 106) hx hb dX12_numbersOf_1 (g_tabOut (fun k h1 h2 h3 => ?_)) (by decide) ?_
                                            · have hk : k = 100 ∨ k = 101 ∨ k = 102 ∨ k = 103 ∨ k = 104 ∨ k = 105 ∨ k = 106 ∨ k = 107 ∨ k = 108 ∨ k = 109 ∨ k = 110 ∨ k = 111 ∨ k = 112 ∨ k = 113 ∨ k = 114 ∨ k = 115 ∨ k = 116 ∨ k = 117 ∨ k = 118 ∨ k = 119 ∨ k = 120 := by omega
                                              rcases hk with rfl | rfl | rfl | rfl | rfl | rfl | rfl | rfl | rfl | rfl | rfl | rfl | rfl | rfl | rfl | rfl | rfl | rfl | rfl | rfl | rfl
                                              · exact hc_1 (Int32.toInt_inj.mp (h3.trans (by decide)))
                                              · exact hc_2 (Int32.toInt_inj.mp (h3.trans (by decide)))
                                              · exact hc_3 (Int32.toInt_inj.mp (h3.trans (by decide)))
                                              · exact hc_8 (Int32.toInt_inj.mp (h3.trans (by decide)))
                                              · exact hc_9 (Int32.toInt_inj.mp (h3.trans (by decide)))
                                              · exact hc_10 (Int32.toInt_inj.mp (h3.trans (by decide)))
                                              · exact hc_11 (Int32.toInt_inj.mp (h3.trans (by decide)))
                                              · exact hc_12 (Int32.toInt_inj.mp (h3.trans (by decide)))
                                              · exact hc_13 (Int32.toInt_inj.mp (h3.trans (by decide)))
                                              · exact hc_14 (Int32.toInt_inj.mp (h3.trans (by decide)))
                                              · exact hc_4 (Int32.toInt_inj.mp (h3.trans (by decide)))
                                              · exact hc_5 (Int32.toInt_inj.mp (h3.trans (by decide)))
                                              · exact hc_15 (Int32.toInt_inj.mp (h3.trans (by decide)))
                                              · exact hc_16 (Int32.toInt_inj.mp (h3.trans (by decide)))
                                              · exact hc_17 (Int32.toInt_inj.mp (h3.trans (by decide)))
                                              · exact hc_6 (Int32.toInt_inj.mp (h3.trans (by decide)))
                                              · exact hc_18 (Int32.toInt_inj.mp (h3.trans (by decide)))
                                              · exact hc_19 (Int32.toInt_inj.mp (h3.trans (by decide)))
                                              · exact hc_20 (Int32.toInt_inj.mp (h3.trans (by decide)))
                                              · exact hc_21 (Int32.toInt_inj.mp (h3.trans (by decide)))
                                              · exact hc_7 (Int32.toInt_inj.mp (h3.trans (by decide)))
                                            · skip
                                              refine lv_ldc hx hb hown q85 dX12_numbersOf_106 ?_
                                              exact g_ri hx hb hr hlocks hW hL (Option.some.inj hF) dX12_numbersOf_108
abbrev rmX12_reads : Room := { frames := 3, cells := 0, slots := 0, locals := 66 }
abbrev wsX12_reads : List Cond := gws yX12_reads cX12_reads 3 (some .boolean)
set_option maxHeartbeats 4000000 in
set_option maxRecDepth 100000 in
theorem c_X12_reads (l : Launch) (X : gX) (w : gWd)  (r : Int32) (w' : gWd) (hF : F_X12_reads w = some (r, w')) : Met l yX12_reads wsX12_reads rmX12_reads (gPc X [.ref (gA X 8 0)] w) (gQi X r w') 0 0 (gFr X) := by
  refine g_ofW (cc := cX12_reads) (maxL := 3) (ret := (some .boolean)) (by decide) rfl (Nat.le_of_ble_eq_true rfl) (fun p e s m args below meth c ls H hx hb hr hts hown hlocks hml hK hl hW => ?_)
  have hl : lv_has ls 3 [(0, .ref (gA X 8 0))] := hl
  have hown : s.vm.findClass RX12 = some m.cls := hown
  have hL : gLo X [] := gLo_nil
  show W p l e rmX12_reads s m args below meth c H [] 0 0 _ _
  have inX12 : ∀ w ∈ wsX120, w ∈ wsX12_reads := fun w h => List.mem_cons_of_mem _ (inlX12 w h)
  have q177 := hts _ (List.mem_cons_of_mem _ wq_X12_177)
  have q183 := hts _ (List.mem_cons_of_mem _ wq_X12_183)
  have q19 := hts _ (List.mem_cons_of_mem _ wq_X12_19)
  have k180 : CallW rmX12_reads s args RX12 RX12 180 yX12_isAt cX12_isAt 3 (some .boolean) wsX12_isAt rmX12_isAt 0 0 2 := cwV 2 hts (gGoodV (fun w h => List.mem_cons_of_mem _ h) wk_X12_180) rfl rfl rfl (by decide +kernel) ⟨Nat.le_of_ble_eq_true rfl, Nat.le_of_ble_eq_true rfl⟩
  have k186 : CallB rmX12_reads s args RX12 186 yX12_numbersOf cX12_numbersOf 1 (some .int) wsX12_numbersOf rmX12_numbersOf 0 0 1 ∧ (Cond.static yX12_numbersOf).before args s = true := va_cwS 1 hts (gGoodS (fun w h => List.mem_cons_of_mem _ h) wk_X12_186) rfl rfl rfl (by decide +kernel) ⟨Nat.le_of_ble_eq_true rfl, Nat.le_of_ble_eq_true rfl⟩
  have k189 : CallW rmX12_reads s args RX12 RX12 189 yX12_numbered cX12_numbered 3 (some .boolean) wsX12_numbered rmX12_numbered 0 0 1 := cwV 1 hts (gGoodV (fun w h => List.mem_cons_of_mem _ h) wk_X12_189) rfl rfl rfl (by decide +kernel) ⟨Nat.le_of_ble_eq_true rfl, Nat.le_of_ble_eq_true rfl⟩
  have k192 : CallW rmX12_reads s args RX12 RX12 192 yX12_sign cX12_sign 3 (some .boolean) wsX12_sign rmX12_sign 0 0 1 := cwV 1 hts (gGoodV (fun w h => List.mem_cons_of_mem _ h) wk_X12_192) rfl rfl rfl (by decide +kernel) ⟨Nat.le_of_ble_eq_true rfl, Nat.le_of_ble_eq_true rfl⟩
  have B_109 : ∀ (w : gWd)   (ls : Array Slot) (hl : lv_has ls 3 []) (hF : F_X12_reads_109 w = some (r, w')) (H : Heap) (locs : List Loc) (hW : gWo X 251 (gE X w) H) (hL : gLo X locs), W p l e rmX12_reads s m args below meth c H locs 0 0 (MQ below (gQi X r w') args s 0 0 (gFr X)) (F0 m 109 ls []) := by
    intro w ls hl hF H locs hW hL
    rw [F_X12_reads_109] at hF
    refine lv_iconst (v := 0) hx hb dX12_reads_109 (by decide) ?_
    exact g_rz hx hb hr hlocks (gW2 hF hW) hL (Or.inl rfl) (gI2 hF).1 dX12_reads_110
  have B_96 : ∀ (w : gWd)   (ls : Array Slot) (hl : lv_has ls 3 [(0, .ref (gA X 8 0))]) (hF : F_X12_reads_96 w = some (r, w')) (H : Heap) (locs : List Loc) (hW : gWo X 251 (gE X w) H) (hL : gLo X locs), W p l e rmX12_reads s m args below meth c H locs 0 0 (MQ below (gQi X r w') args s 0 0 (gFr X)) (F0 m 96 ls []) := by
    intro w ls hl hF H locs hW hL
    rw [F_X12_reads_96] at hF
    refine lv_aload_n hx hb dX12_reads_96 rfl (lv_at hl 0 rfl) ?_
    refine lv_bipush (v := 59) hx hb dX12_reads_97 (by decide) ?_
    obtain ⟨v_22, w_23, hq_21, hF⟩ := gC_some hF
    refine g_Vi (As := [.int 59]) (rest := []) ⟨hx, hb, hml, hown, hts⟩ hK hW hL hl.1 (gok_o (by decide)) gE_O rfl (c_X12_sign l X w 59 v_22 w_23 hq_21) k192 rfl rfl (Nat.le_of_ble_eq_true rfl) dX12_reads_99 ⟨Nat.le_of_ble_eq_true rfl, Nat.le_of_ble_eq_true rfl⟩ (fun H locs hW hL => ?_)
    refine lv_if_eq (tgt := 109) hx hb dX12_reads_102 (by decide) (fun hc_24 => ?_) (fun hc_24 => ?_)
    · replace hF := gT hc_24 hF
      exact B_109 w_23  ls (lv_sub hl [] rfl) hF H locs hW hL
    · replace hF := gF hc_24 hF
      refine lv_iconst (v := 1) hx hb dX12_reads_105 (by decide) ?_
      refine lv_goto (tgt := 110) hx hb dX12_reads_106 (by decide) ?_
      exact g_rz hx hb hr hlocks (gW2 hF hW) hL (Or.inr rfl) (gI2 hF).1 dX12_reads_110
  have B_69 : ∀ (w : gWd) (x1 : Int32) (xs0 : Int32)  (ls : Array Slot) (hl : lv_has ls 3 [(0, .ref (gA X 8 0)), (1, .int x1)]) (hF : F_X12_reads_69 w x1 xs0 = some (r, w')) (H : Heap) (locs : List Loc) (hW : gWo X 251 (gE X w) H) (hL : gLo X locs), W p l e rmX12_reads s m args below meth c H locs 0 0 (MQ below (gQi X r w') args s 0 0 (gFr X)) (F0 m 69 ls [.int xs0]) := by
    intro w x1 xs0 ls hl hF H locs hW hL
    rw [F_X12_reads_69] at hF
    refine lv_istore_n (lv' := [(2, .int xs0), (0, .ref (gA X 8 0)), (1, .int x1)]) hx hb dX12_reads_69 rfl hl (by decide) rfl (fun ls hl => ?_)
    refine lv_iload_n hx hb dX12_reads_70 rfl (lv_at hl 0 rfl) ?_
    refine lv_if_eq (tgt := 109) hx hb dX12_reads_71 (by decide) (fun hc_11 => ?_) (fun hc_11 => ?_)
    · replace hF := gT hc_11 hF
      exact B_109 w  ls (lv_sub hl [] rfl) hF H locs hW hL
    · replace hF := gF hc_11 hF
      refine lv_iload_n hx hb dX12_reads_74 rfl (lv_at hl 2 rfl) ?_
      refine lv_iconst (v := 2) hx hb dX12_reads_75 (by decide) ?_
      refine lv_icmp_lt (tgt := 96) hx hb dX12_reads_76 (by decide) (fun hc_12 => ?_) (fun hc_12 => ?_)
      · replace hF := gT hc_12 hF
        exact B_96 w  ls (lv_sub hl [1] rfl) hF H locs hW hL
      · replace hF := gF hc_12 hF
        refine lv_aload_n hx hb dX12_reads_79 rfl (lv_at hl 1 rfl) ?_
        refine lv_bipush (v := 44) hx hb dX12_reads_80 (by decide) ?_
        obtain ⟨v_14, w_15, hq_13, hF⟩ := gC_some hF
        refine g_Vi (As := [.int 44]) (rest := []) ⟨hx, hb, hml, hown, hts⟩ hK hW hL hl.1 (gok_o (by decide)) gE_O rfl (c_X12_sign l X w 44 v_14 w_15 hq_13) k192 rfl rfl (Nat.le_of_ble_eq_true rfl) dX12_reads_82 ⟨Nat.le_of_ble_eq_true rfl, Nat.le_of_ble_eq_true rfl⟩ (fun H locs hW hL => ?_)
        refine lv_if_eq (tgt := 109) hx hb dX12_reads_85 (by decide) (fun hc_16 => ?_) (fun hc_16 => ?_)
        · replace hF := gT hc_16 hF
          exact B_109 w_15  ls (lv_sub hl [] rfl) hF H locs hW hL
        · replace hF := gF hc_16 hF
          refine lv_aload_n hx hb dX12_reads_88 rfl (lv_at hl 1 rfl) ?_
          refine lv_iconst (v := 1) hx hb dX12_reads_89 (by decide) ?_
          obtain ⟨v_18, w_19, hq_17, hF⟩ := gC_some hF
          refine g_Vi (As := [.int 1]) (rest := []) ⟨hx, hb, hml, hown, hts⟩ hK hW hL hl.1 (gok_o (by decide)) gE_O rfl (c_X12_numbered l X w_15 1 v_18 w_19 hq_17) k189 rfl rfl (Nat.le_of_ble_eq_true rfl) dX12_reads_90 ⟨Nat.le_of_ble_eq_true rfl, Nat.le_of_ble_eq_true rfl⟩ (fun H locs hW hL => ?_)
          refine lv_if_eq (tgt := 109) hx hb dX12_reads_93 (by decide) (fun hc_20 => ?_) (fun hc_20 => ?_)
          · replace hF := gT hc_20 hF
            exact B_109 w_19  ls (lv_sub hl [] rfl) hF H locs hW hL
          · replace hF := gF hc_20 hF
            exact B_96 w_19  ls (lv_sub hl [1] rfl) hF H locs hW hL
  have B_64 : ∀ (w : gWd) (x1 : Int32)  (ls : Array Slot) (hl : lv_has ls 3 [(0, .ref (gA X 8 0)), (1, .int x1)]) (hF : F_X12_reads_64 w x1 = some (r, w')) (H : Heap) (locs : List Loc) (hW : gWo X 251 (gE X w) H) (hL : gLo X locs), W p l e rmX12_reads s m args below meth c H locs 0 0 (MQ below (gQi X r w') args s 0 0 (gFr X)) (F0 m 64 ls []) := by
    intro w x1 ls hl hF H locs hW hL
    rw [F_X12_reads_64] at hF
    refine lv_iconst (v := 1) hx hb dX12_reads_64 (by decide) ?_
    refine lv_goto (tgt := 69) hx hb dX12_reads_65 (by decide) ?_
    exact B_69 w x1 1 ls (hl) hF H locs hW hL
  have B_25 : ∀ (w : gWd) (xs0 : Int32)  (ls : Array Slot) (hl : lv_has ls 3 [(0, .ref (gA X 8 0))]) (hF : F_X12_reads_25 w xs0 = some (r, w')) (H : Heap) (locs : List Loc) (hW : gWo X 251 (gE X w) H) (hL : gLo X locs), W p l e rmX12_reads s m args below meth c H locs 0 0 (MQ below (gQi X r w') args s 0 0 (gFr X)) (F0 m 25 ls [.int xs0, .ref (gA X 8 0)]) := by
    intro w xs0 ls hl hF H locs hW hL
    rw [F_X12_reads_25] at hF
    obtain ⟨w_1, ew_1, hF⟩ := gS_some hF
    refine rp_X12_order hx hb hts inX12 hown hK hW hL q183 dX12_reads_25 (fun H locs hW hL => ?_)
    rw [← ew_1] at hW
    refine lv_aload_n hx hb dX12_reads_28 rfl (lv_at hl 0 rfl) ?_
    refine rg_X12_order hx hb hts inX12 hown hK hW q183 dX12_reads_29 ?_
    obtain ⟨v_3, hq_2, hF⟩ := gP_some hF
    refine g_Si (As := [.int (w_1 8 0 13)]) (rest := []) ⟨hx, hb, hml, hown, hts⟩ hK hW hL hl.1 (c_X12_numbersOf l X w_1 ((w_1 8 0 13)) v_3 hq_2) k186 rfl rfl (Nat.le_of_ble_eq_true rfl) dX12_reads_32 ⟨Nat.le_of_ble_eq_true rfl, Nat.le_of_ble_eq_true rfl⟩ (fun H locs hW hL => ?_)
    refine lv_istore_n (lv' := [(1, .int v_3), (0, .ref (gA X 8 0))]) hx hb dX12_reads_35 rfl hl (by decide) rfl (fun ls hl => ?_)
    refine lv_iload_n hx hb dX12_reads_36 rfl (lv_at hl 0 rfl) ?_
    refine lv_if_ge (tgt := 42) hx hb dX12_reads_37 (by decide) (fun hc_4 => ?_) (fun hc_4 => ?_)
    · replace hF := gT hc_4 hF
      refine lv_aload_n hx hb dX12_reads_42 rfl (lv_at hl 1 rfl) ?_
      refine lv_dup hx hb dX12_reads_43 rfl ?_
      refine rg_X12_spot hx hb hts inX12 hown hK hW q177 dX12_reads_44 ?_
      refine lv_iconst (v := 1) hx hb dX12_reads_47 (by decide) ?_
      refine lv_iadd hx hb dX12_reads_48 ?_
      obtain ⟨w_5, ew_5, hF⟩ := gS_some hF
      refine rp_X12_spot hx hb hts inX12 hown hK hW hL q177 dX12_reads_49 (fun H locs hW hL => ?_)
      rw [← ew_5] at hW
      refine lv_iload_n hx hb dX12_reads_52 rfl (lv_at hl 0 rfl) ?_
      refine lv_if_eq (tgt := 64) hx hb dX12_reads_53 (by decide) (fun hc_6 => ?_) (fun hc_6 => ?_)
      · replace hF := gT hc_6 hF
        exact B_64 w_5 v_3 ls (lv_sub hl [1, 0] rfl) hF H locs hW hL
      · replace hF := gF hc_6 hF
        refine lv_aload_n hx hb dX12_reads_56 rfl (lv_at hl 1 rfl) ?_
        refine lv_iconst (v := 0) hx hb dX12_reads_57 (by decide) ?_
        obtain ⟨v_8, w_9, hq_7, hF⟩ := gC_some hF
        refine g_Vi (As := [.int 0]) (rest := []) ⟨hx, hb, hml, hown, hts⟩ hK hW hL hl.1 (gok_o (by decide)) gE_O rfl (c_X12_numbered l X w_5 0 v_8 w_9 hq_7) k189 rfl rfl (Nat.le_of_ble_eq_true rfl) dX12_reads_58 ⟨Nat.le_of_ble_eq_true rfl, Nat.le_of_ble_eq_true rfl⟩ (fun H locs hW hL => ?_)
        refine lv_if_eq (tgt := 68) hx hb dX12_reads_61 (by decide) (fun hc_10 => ?_) (fun hc_10 => ?_)
        · replace hF := gT hc_10 hF
          refine lv_iconst (v := 0) hx hb dX12_reads_68 (by decide) ?_
          exact B_69 w_9 v_3 0 ls (lv_sub hl [1, 0] rfl) hF H locs hW hL
        · replace hF := gF hc_10 hF
          exact B_64 w_9 v_3 ls (lv_sub hl [1, 0] rfl) hF H locs hW hL
    · replace hF := gF hc_4 hF
      refine lv_iconst (v := 0) hx hb dX12_reads_40 (by decide) ?_
      exact g_rz hx hb hr hlocks (gW2 hF hW) hL (Or.inl rfl) (gI2 hF).1 dX12_reads_41
  rw [F_X12_reads] at hF
  obtain ⟨locs, hlocs⟩ : ∃ locs : List Loc, locs = [] := ⟨_, rfl⟩
  rw [← hlocs] at hL ⊢
  refine lv_aload_n hx hb dX12_reads_0 rfl (lv_at hl 0 rfl) ?_
  refine lv_aload_n hx hb dX12_reads_1 rfl (lv_at hl 0 rfl) ?_
  refine lv_bipush (v := 33) hx hb dX12_reads_2 (by decide) ?_
  refine lv_bipush (v := 126) hx hb dX12_reads_4 (by decide) ?_
  obtain ⟨v_26, hq_25, hF⟩ := gP_some hF
  refine g_Vi (As := [.int 33, .int 126]) (rest := [.ref (gA X 8 0)]) ⟨hx, hb, hml, hown, hts⟩ hK hW hL hl.1 (gok_o (by decide)) gE_O rfl (c_X12_isAt l X w 33 126 v_26 hq_25) k180 rfl rfl (Nat.le_of_ble_eq_true rfl) dX12_reads_6 ⟨Nat.le_of_ble_eq_true rfl, Nat.le_of_ble_eq_true rfl⟩ (fun H locs hW hL => ?_)
  refine lv_if_eq (tgt := 24) hx hb dX12_reads_9 (by decide) (fun hc_27 => ?_) (fun hc_27 => ?_)
  · replace hF := gT hc_27 hF
    refine lv_iconst (v := 0) hx hb dX12_reads_24 (by decide) ?_
    exact B_25 w 0 ls (hl) hF H locs hW hL
  · replace hF := gF hc_27 hF
    refine lv_aload_n hx hb dX12_reads_12 rfl (lv_at hl 0 rfl) ?_
    refine rg_X12_text hx hb hts inX12 hown hK hW q19 dX12_reads_13 ?_
    refine lv_aload_n hx hb dX12_reads_16 rfl (lv_at hl 0 rfl) ?_
    refine rg_X12_spot hx hb hts inX12 hown hK hW q177 dX12_reads_17 ?_
    obtain ⟨hin_28, hF⟩ := gB_some hF
    obtain ⟨k_29, ek_29⟩ : ∃ k, k = Int32.toNatClampNeg ((w 8 0 8)) := ⟨_, rfl⟩
    rw [← ek_29] at hF
    refine g_iald2 (k := k_29) hx hb hK hW (gok_o (by decide)) (gad_lt (gok_o (by decide))) gE_O4 hin_28 ek_29.symm dX12_reads_20 ?_
    refine lv_goto (tgt := 25) hx hb dX12_reads_21 (by decide) ?_
    exact B_25 w ((w 8 4 k_29)) ls (hl) hF H locs hW hL
abbrev rmX12_does : Room := { frames := 6, cells := 0, slots := 0, locals := 133 }
abbrev wsX12_does : List Cond := gws yX12_does cX12_does 1 (some .int)
set_option maxHeartbeats 4000000 in
set_option maxRecDepth 100000 in
theorem c_X12_does (l : Launch) (X : gX) (w : gWd)  (r : Int32) (w' : gWd) (hF : F_X12_does w = some (r, w')) : Met l yX12_does wsX12_does rmX12_does (gPc X [.ref (gA X 8 0)] w) (gQi X r w') 0 0 (gFr X) := by
  refine g_ofW (cc := cX12_does) (maxL := 1) (ret := (some .int)) (by decide) rfl (Nat.le_of_ble_eq_true rfl) (fun p e s m args below meth c ls H hx hb hr hts hown hlocks hml hK hl hW => ?_)
  have hl : lv_has ls 1 [(0, .ref (gA X 8 0))] := hl
  have hown : s.vm.findClass RX12 = some m.cls := hown
  have hL : gLo X [] := gLo_nil
  show W p l e rmX12_does s m args below meth c H [] 0 0 _ _
  have inX12 : ∀ w ∈ wsX120, w ∈ wsX12_does := fun w h => List.mem_cons_of_mem _ (inlX12 w h)
  have q183 := hts _ (List.mem_cons_of_mem _ wq_X12_183)
  have q25 := hts _ (List.mem_cons_of_mem _ wq_X12_25)
  have k195 : CallW rmX12_does s args RX12 RX12 195 yX12_enter cX12_enter 3 (some .int) wsX12_enter rmX12_enter 0 0 2 := cwV 2 hts (gGoodV (fun w h => List.mem_cons_of_mem _ h) wk_X12_195) rfl rfl rfl (by decide +kernel) ⟨Nat.le_of_ble_eq_true rfl, Nat.le_of_ble_eq_true rfl⟩
  have k198 : CallW rmX12_does s args RX12 RX12 198 yX12_swim cX12_swim 6 (some .int) wsX12_swim rmX12_swim 0 0 2 := cwV 2 hts (gGoodV (fun w h => List.mem_cons_of_mem _ h) wk_X12_198) rfl rfl rfl (by decide +kernel) ⟨Nat.le_of_ble_eq_true rfl, Nat.le_of_ble_eq_true rfl⟩
  have k201 : CallW rmX12_does s args RX12 RX12 201 yX12_scratch cX12_scratch 3 (some .int) wsX12_scratch rmX12_scratch 0 0 1 := cwV 1 hts (gGoodV (fun w h => List.mem_cons_of_mem _ h) wk_X12_201) rfl rfl rfl (by decide +kernel) ⟨Nat.le_of_ble_eq_true rfl, Nat.le_of_ble_eq_true rfl⟩
  have k204 : CallW rmX12_does s args RX12 RX12 204 yX12_draw cX12_draw 4 (some .int) wsX12_draw rmX12_draw 0 0 0 := cwV 0 hts (gGoodV (fun w h => List.mem_cons_of_mem _ h) wk_X12_204) rfl rfl rfl (by decide +kernel) ⟨Nat.le_of_ble_eq_true rfl, Nat.le_of_ble_eq_true rfl⟩
  have k207 : CallW rmX12_does s args RX12 RX12 207 yX12_finals cX12_finals 3 (some .int) wsX12_finals rmX12_finals 0 0 0 := cwV 0 hts (gGoodV (fun w h => List.mem_cons_of_mem _ h) wk_X12_207) rfl rfl rfl (by decide +kernel) ⟨Nat.le_of_ble_eq_true rfl, Nat.le_of_ble_eq_true rfl⟩
  have k210 : CallW rmX12_does s args RX12 RX12 210 yX12_end cX12_end 8 (some .int) wsX12_end rmX12_end 0 0 0 := cwV 0 hts (gGoodV (fun w h => List.mem_cons_of_mem _ h) wk_X12_210) rfl rfl rfl (by decide +kernel) ⟨Nat.le_of_ble_eq_true rfl, Nat.le_of_ble_eq_true rfl⟩
  have k213 : CallW rmX12_does s args RX12 RX12 213 yX12_next cX12_next 6 (some .int) wsX12_next rmX12_next 0 0 0 := cwV 0 hts (gGoodV (fun w h => List.mem_cons_of_mem _ h) wk_X12_213) rfl rfl rfl (by decide +kernel) ⟨Nat.le_of_ble_eq_true rfl, Nat.le_of_ble_eq_true rfl⟩
  rw [F_X12_does] at hF
  obtain ⟨locs, hlocs⟩ : ∃ locs : List Loc, locs = [] := ⟨_, rfl⟩
  rw [← hlocs] at hL ⊢
  refine lv_aload_n hx hb dX12_does_0 rfl (lv_at hl 0 rfl) ?_
  refine rg_X12_order hx hb hts inX12 hown hK hW q183 dX12_does_1 ?_
  by_cases hc_1 : (w 8 0 13) = 100
  · replace hF := gT hc_1 hF
    refine lv_lookup (off := 105) (tgt := 109) hx hb dX12_does_4 (by decide) (by rw [hc_1]; rfl) (by decide) ?_
    refine lv_aload_n hx hb dX12_does_109 rfl (lv_at hl 0 rfl) ?_
    obtain ⟨v_3, w_4, hq_2, hF⟩ := gC_some hF
    refine g_Vi (As := []) (rest := []) ⟨hx, hb, hml, hown, hts⟩ hK hW hL hl.1 (gok_o (by decide)) gE_O rfl (c_X12_draw l X w  v_3 w_4 hq_2) k204 rfl rfl (Nat.le_of_ble_eq_true rfl) dX12_does_110 ⟨Nat.le_of_ble_eq_true rfl, Nat.le_of_ble_eq_true rfl⟩ (fun H locs hW hL => ?_)
    exact g_ri hx hb hr hlocks (gW2 hF hW) hL (gI2 hF).1 dX12_does_113
  · replace hF := gF hc_1 hF
    by_cases hc_5 : (w 8 0 13) = 101
    · replace hF := gT hc_5 hF
      refine lv_lookup (off := 60) (tgt := 64) hx hb dX12_does_4 (by decide) (by rw [hc_5]; rfl) (by decide) ?_
      refine lv_aload_n hx hb dX12_does_64 rfl (lv_at hl 0 rfl) ?_
      refine lv_aload_n hx hb dX12_does_65 rfl (lv_at hl 0 rfl) ?_
      refine rg_X12_numbers hx hb hts inX12 hown hK hW q25 dX12_does_66 ?_
      refine lv_iconst (v := 0) hx hb dX12_does_69 (by decide) ?_
      refine g_iald2 (k := 0) hx hb hK hW (gok_o (by decide)) (gad_lt (gok_o (by decide))) gE_O6 (gin (by decide)) (by decide) dX12_does_70 ?_
      refine lv_aload_n hx hb dX12_does_71 rfl (lv_at hl 0 rfl) ?_
      refine rg_X12_numbers hx hb hts inX12 hown hK hW q25 dX12_does_72 ?_
      refine lv_iconst (v := 1) hx hb dX12_does_75 (by decide) ?_
      refine g_iald2 (k := 1) hx hb hK hW (gok_o (by decide)) (gad_lt (gok_o (by decide))) gE_O6 (gin (by decide)) (by decide) dX12_does_76 ?_
      obtain ⟨v_7, w_8, hq_6, hF⟩ := gC_some hF
      refine g_Vi (As := [.int (w 8 6 0), .int (w 8 6 1)]) (rest := []) ⟨hx, hb, hml, hown, hts⟩ hK hW hL hl.1 (gok_o (by decide)) gE_O rfl (c_X12_enter l X w ((w 8 6 0)) ((w 8 6 1)) v_7 w_8 hq_6) k195 rfl rfl (Nat.le_of_ble_eq_true rfl) dX12_does_77 ⟨Nat.le_of_ble_eq_true rfl, Nat.le_of_ble_eq_true rfl⟩ (fun H locs hW hL => ?_)
      exact g_ri hx hb hr hlocks (gW2 hF hW) hL (gI2 hF).1 dX12_does_80
    · replace hF := gF hc_5 hF
      by_cases hc_9 : (w 8 0 13) = 102
      · replace hF := gT hc_9 hF
        refine lv_lookup (off := 110) (tgt := 114) hx hb dX12_does_4 (by decide) (by rw [hc_9]; rfl) (by decide) ?_
        refine lv_aload_n hx hb dX12_does_114 rfl (lv_at hl 0 rfl) ?_
        obtain ⟨v_11, w_12, hq_10, hF⟩ := gC_some hF
        refine g_Vi (As := []) (rest := []) ⟨hx, hb, hml, hown, hts⟩ hK hW hL hl.1 (gok_o (by decide)) gE_O rfl (c_X12_finals l X w  v_11 w_12 hq_10) k207 rfl rfl (Nat.le_of_ble_eq_true rfl) dX12_does_115 ⟨Nat.le_of_ble_eq_true rfl, Nat.le_of_ble_eq_true rfl⟩ (fun H locs hW hL => ?_)
        exact g_ri hx hb hr hlocks (gW2 hF hW) hL (gI2 hF).1 dX12_does_118
      · replace hF := gF hc_9 hF
        by_cases hc_13 : (w 8 0 13) = 111
        · replace hF := gT hc_13 hF
          refine lv_lookup (off := 115) (tgt := 119) hx hb dX12_does_4 (by decide) (by rw [hc_13]; rfl) (by decide) ?_
          refine lv_aload_n hx hb dX12_does_119 rfl (lv_at hl 0 rfl) ?_
          obtain ⟨v_15, w_16, hq_14, hF⟩ := gC_some hF
          refine g_Vi (As := []) (rest := []) ⟨hx, hb, hml, hown, hts⟩ hK hW hL hl.1 (gok_o (by decide)) gE_O rfl (c_X12_end l X w  v_15 w_16 hq_14) k210 rfl rfl (Nat.le_of_ble_eq_true rfl) dX12_does_120 ⟨Nat.le_of_ble_eq_true rfl, Nat.le_of_ble_eq_true rfl⟩ (fun H locs hW hL => ?_)
          exact g_ri hx hb hr hlocks (gW2 hF hW) hL (gI2 hF).1 dX12_does_123
        · replace hF := gF hc_13 hF
          by_cases hc_17 : (w 8 0 13) = 115
          · replace hF := gT hc_17 hF
            refine lv_lookup (off := 77) (tgt := 81) hx hb dX12_does_4 (by decide) (by rw [hc_17]; rfl) (by decide) ?_
            refine lv_aload_n hx hb dX12_does_81 rfl (lv_at hl 0 rfl) ?_
            refine lv_aload_n hx hb dX12_does_82 rfl (lv_at hl 0 rfl) ?_
            refine rg_X12_numbers hx hb hts inX12 hown hK hW q25 dX12_does_83 ?_
            refine lv_iconst (v := 0) hx hb dX12_does_86 (by decide) ?_
            refine g_iald2 (k := 0) hx hb hK hW (gok_o (by decide)) (gad_lt (gok_o (by decide))) gE_O6 (gin (by decide)) (by decide) dX12_does_87 ?_
            refine lv_aload_n hx hb dX12_does_88 rfl (lv_at hl 0 rfl) ?_
            refine rg_X12_numbers hx hb hts inX12 hown hK hW q25 dX12_does_89 ?_
            refine lv_iconst (v := 1) hx hb dX12_does_92 (by decide) ?_
            refine g_iald2 (k := 1) hx hb hK hW (gok_o (by decide)) (gad_lt (gok_o (by decide))) gE_O6 (gin (by decide)) (by decide) dX12_does_93 ?_
            obtain ⟨v_19, w_20, hq_18, hF⟩ := gC_some hF
            refine g_Vi (As := [.int (w 8 6 0), .int (w 8 6 1)]) (rest := []) ⟨hx, hb, hml, hown, hts⟩ hK hW hL hl.1 (gok_o (by decide)) gE_O rfl (c_X12_swim l X w ((w 8 6 0)) ((w 8 6 1)) v_19 w_20 hq_18) k198 rfl rfl (Nat.le_of_ble_eq_true rfl) dX12_does_94 ⟨Nat.le_of_ble_eq_true rfl, Nat.le_of_ble_eq_true rfl⟩ (fun H locs hW hL => ?_)
            exact g_ri hx hb hr hlocks (gW2 hF hW) hL (gI2 hF).1 dX12_does_97
          · replace hF := gF hc_17 hF
            by_cases hc_21 : (w 8 0 13) = 120
            · replace hF := gT hc_21 hF
              refine lv_lookup (off := 94) (tgt := 98) hx hb dX12_does_4 (by decide) (by rw [hc_21]; rfl) (by decide) ?_
              refine lv_aload_n hx hb dX12_does_98 rfl (lv_at hl 0 rfl) ?_
              refine lv_aload_n hx hb dX12_does_99 rfl (lv_at hl 0 rfl) ?_
              refine rg_X12_numbers hx hb hts inX12 hown hK hW q25 dX12_does_100 ?_
              refine lv_iconst (v := 0) hx hb dX12_does_103 (by decide) ?_
              refine g_iald2 (k := 0) hx hb hK hW (gok_o (by decide)) (gad_lt (gok_o (by decide))) gE_O6 (gin (by decide)) (by decide) dX12_does_104 ?_
              obtain ⟨v_23, w_24, hq_22, hF⟩ := gC_some hF
              refine g_Vi (As := [.int (w 8 6 0)]) (rest := []) ⟨hx, hb, hml, hown, hts⟩ hK hW hL hl.1 (gok_o (by decide)) gE_O rfl (c_X12_scratch l X w ((w 8 6 0)) v_23 w_24 hq_22) k201 rfl rfl (Nat.le_of_ble_eq_true rfl) dX12_does_105 ⟨Nat.le_of_ble_eq_true rfl, Nat.le_of_ble_eq_true rfl⟩ (fun H locs hW hL => ?_)
              exact g_ri hx hb hr hlocks (gW2 hF hW) hL (gI2 hF).1 dX12_does_108
            · replace hF := gF hc_21 hF
              refine lv_lookup (off := 120) (tgt := 124) hx hb dX12_does_4 (by decide) ?_ (by decide) ?_
              · exact g_lkOut hc_1 hc_5 hc_9 hc_13 hc_17 hc_21
              · skip
                refine lv_aload_n hx hb dX12_does_124 rfl (lv_at hl 0 rfl) ?_
                obtain ⟨v_26, w_27, hq_25, hF⟩ := gC_some hF
                refine g_Vi (As := []) (rest := []) ⟨hx, hb, hml, hown, hts⟩ hK hW hL hl.1 (gok_o (by decide)) gE_O rfl (c_X12_next l X w  v_26 w_27 hq_25) k213 rfl rfl (Nat.le_of_ble_eq_true rfl) dX12_does_125 ⟨Nat.le_of_ble_eq_true rfl, Nat.le_of_ble_eq_true rfl⟩ (fun H locs hW hL => ?_)
                exact g_ri hx hb hr hlocks (gW2 hF hW) hL (gI2 hF).1 dX12_does_128
