abbrev rmL_scratch : Room := { frames := 0, cells := 0, slots := 0, locals := 0 }
abbrev wsL_scratch : List Cond := gws yL_scratch cL_scratch 9 (some .int)
set_option maxHeartbeats 4000000 in
set_option maxRecDepth 100000 in
theorem c_L_scratch (l : Launch) (X : gX) (w : gWd) (x5 : Int32) (r : Int32) (w' : gWd) (hF : F_L_scratch w x5 = some (r, w')) : Met l yL_scratch wsL_scratch rmL_scratch (gPc X [.ref (gA X 8 0), .ref (gA X 8 1), .ref (gA X 8 2), .ref (gA X 8 4), .ref (gA X 8 5), .int x5] w) (gQi X r w') 0 0 (gFr X) := by
  refine g_ofW (cc := cL_scratch) (maxL := 9) (ret := (some .int)) (by decide) rfl (Nat.le_of_ble_eq_true rfl) (fun p e s m args below meth c ls H hx hb hr hts hown hlocks hml hK hl hW => ?_)
  have hl : lv_has ls 9 [(0, .ref (gA X 8 0)), (1, .ref (gA X 8 1)), (2, .ref (gA X 8 2)), (3, .ref (gA X 8 4)), (4, .ref (gA X 8 5)), (5, .int x5)] := hl
  have hown : s.vm.findClass RL = some m.cls := hown
  have hL : gLo X [] := gLo_nil
  show W p l e rmL_scratch s m args below meth c H [] 0 0 _ _
  have L_69 : ∀ (fu : Nat) (w : gWd) (x6 : Int32) (x7 : Int32)  (ls : Array Slot) (hl : lv_has ls 9 [(0, .ref (gA X 8 0)), (2, .ref (gA X 8 2)), (3, .ref (gA X 8 4)), (4, .ref (gA X 8 5)), (6, .int x6), (7, .int x7)]) (hF : F_L_scratch_69 fu w x6 x7 = some (r, w')) (H : Heap) (locs : List Loc) (hW : gWo X 252 (gE X w) H) (hL : gLo X locs), W p l e rmL_scratch s m args below meth c H locs 0 0 (MQ below (gQi X r w') args s 0 0 (gFr X)) (F0 m 69 ls []) := by
    intro fu
    induction fu with
    | zero => intro w x6 x7 ls hl hF H locs hW hL; rw [F_L_scratch_69_z] at hF; cases hF
    | succ fu69 ih69 =>
      intro w x6 x7 ls hl hF H locs hW hL
      rw [F_L_scratch_69_s] at hF
      refine lv_iload hx hb dL_scratch_69 (lv_at hl 5 rfl) ?_
      refine lv_iconst (v := 4) hx hb dL_scratch_71 (by decide) ?_
      refine lv_icmp_ge (tgt := 139) hx hb dL_scratch_72 (by decide) (fun hc_10 => ?_) (fun hc_10 => ?_)
      · replace hF := gT hc_10 hF
        refine lv_bipush (v := 100) hx hb dL_scratch_139 (by decide) ?_
        exact g_ri hx hb hr hlocks (gW2 hF hW) hL (gI2 hF).1 dL_scratch_141
      · replace hF := gF hc_10 hF
        refine lv_iload hx hb dL_scratch_75 (lv_at hl 4 rfl) ?_
        refine lv_if_le (tgt := 139) hx hb dL_scratch_77 (by decide) (fun hc_11 => ?_) (fun hc_11 => ?_)
        · replace hF := gT hc_11 hF
          refine lv_bipush (v := 100) hx hb dL_scratch_139 (by decide) ?_
          exact g_ri hx hb hr hlocks (gW2 hF hW) hL (gI2 hF).1 dL_scratch_141
        · replace hF := gF hc_11 hF
          refine lv_aload_n hx hb dL_scratch_80 rfl (lv_at hl 2 rfl) ?_
          refine lv_iload hx hb dL_scratch_81 (lv_at hl 5 rfl) ?_
          obtain ⟨hin_12, hF⟩ := gB_some hF
          obtain ⟨k_13, ek_13⟩ : ∃ k, k = Int32.toNatClampNeg x7 := ⟨_, rfl⟩
          rw [← ek_13] at hF
          refine g_iald2 (k := k_13) hx hb hK hW (gok_o (by decide)) (gad_lt (gok_o (by decide))) gE_O4 hin_12 ek_13.symm dL_scratch_83 ?_
          refine lv_if_le (tgt := 133) hx hb dL_scratch_84 (by decide) (fun hc_14 => ?_) (fun hc_14 => ?_)
          · replace hF := gT hc_14 hF
            obtain ⟨x7_15, ex7_15, hF⟩ := gS_some hF
            refine lv_iinc (v := x7_15) (lv' := [(7, .int x7_15), (0, .ref (gA X 8 0)), (2, .ref (gA X 8 2)), (3, .ref (gA X 8 4)), (4, .ref (gA X 8 5)), (6, .int x6)]) hx hb dL_scratch_133 hl (k := 5) rfl (by rw [ex7_15]; rfl) (by decide) rfl (fun ls hl => ?_)
            refine lv_goto (tgt := 69) hx hb dL_scratch_136 (by decide) ?_
            exact ih69 w x6 x7_15 ls (lv_sub hl [1, 2, 3, 4, 5, 0] rfl) hF H locs hW hL
          · replace hF := gF hc_14 hF
            refine lv_aload_n hx hb dL_scratch_87 rfl (lv_at hl 0 rfl) ?_
            refine lv_iconst (v := 3) hx hb dL_scratch_88 (by decide) ?_
            refine lv_aload_n hx hb dL_scratch_89 rfl (lv_at hl 2 rfl) ?_
            refine lv_iload hx hb dL_scratch_90 (lv_at hl 5 rfl) ?_
            obtain ⟨hin_16, hF⟩ := gB_some hF
            obtain ⟨k_17, ek_17⟩ : ∃ k, k = Int32.toNatClampNeg x7 := ⟨_, rfl⟩
            rw [← ek_17] at hF
            refine g_iald2 (k := k_17) hx hb hK hW (gok_o (by decide)) (gad_lt (gok_o (by decide))) gE_O4 hin_16 ek_17.symm dL_scratch_92 ?_
            refine lv_imul hx hb dL_scratch_93 ?_
            refine lv_iconst (v := 1) hx hb dL_scratch_94 (by decide) ?_
            refine lv_isub hx hb dL_scratch_95 ?_
            obtain ⟨hin_18, hF⟩ := gB_some hF
            obtain ⟨k_19, ek_19⟩ : ∃ k, k = Int32.toNatClampNeg (((3 * (w 8 4 k_17)) - 1)) := ⟨_, rfl⟩
            rw [← ek_19] at hF
            refine g_iald2 (k := k_19) hx hb hK hW (gok_o (by decide)) (gad_lt (gok_o (by decide))) gE_O0 hin_18 ek_19.symm dL_scratch_96 ?_
            refine lv_if_ne (tgt := 133) hx hb dL_scratch_97 (by decide) (fun hc_20 => ?_) (fun hc_20 => ?_)
            · replace hF := gF hc_20 hF
              obtain ⟨x7_21, ex7_21, hF⟩ := gS_some hF
              refine lv_iinc (v := x7_21) (lv' := [(7, .int x7_21), (0, .ref (gA X 8 0)), (2, .ref (gA X 8 2)), (3, .ref (gA X 8 4)), (4, .ref (gA X 8 5)), (6, .int x6)]) hx hb dL_scratch_133 hl (k := 5) rfl (by rw [ex7_21]; rfl) (by decide) rfl (fun ls hl => ?_)
              refine lv_goto (tgt := 69) hx hb dL_scratch_136 (by decide) ?_
              exact ih69 w x6 x7_21 ls (lv_sub hl [1, 2, 3, 4, 5, 0] rfl) hF H locs hW hL
            · replace hF := gT hc_20 hF
              refine lv_aload_n hx hb dL_scratch_100 rfl (lv_at hl 2 rfl) ?_
              refine lv_iload hx hb dL_scratch_101 (lv_at hl 5 rfl) ?_
              obtain ⟨hin_22, hF⟩ := gB_some hF
              obtain ⟨k_23, ek_23⟩ : ∃ k, k = Int32.toNatClampNeg x7 := ⟨_, rfl⟩
              rw [← ek_23] at hF
              refine g_iald2 (k := k_23) hx hb hK hW (gok_o (by decide)) (gad_lt (gok_o (by decide))) gE_O4 hin_22 ek_23.symm dL_scratch_103 ?_
              refine lv_iconst (v := 1) hx hb dL_scratch_104 (by decide) ?_
              refine lv_isub hx hb dL_scratch_105 ?_
              obtain ⟨x8_24, ex8_24, hF⟩ := gS_some hF
              refine g_top ex8_24 ?_
              refine lv_istore (lv' := [(8, .int x8_24), (0, .ref (gA X 8 0)), (2, .ref (gA X 8 2)), (3, .ref (gA X 8 4)), (4, .ref (gA X 8 5)), (6, .int x6), (7, .int x7)]) hx hb dL_scratch_106 hl (by decide) rfl (fun ls hl => ?_)
              refine lv_aload_n hx hb dL_scratch_108 rfl (lv_at hl 3 rfl) ?_
              refine lv_iload hx hb dL_scratch_109 (lv_at hl 6 rfl) ?_
              refine lv_iconst (v := 0) hx hb dL_scratch_111 (by decide) ?_
              obtain ⟨hin_25, hF⟩ := gB_some hF
              obtain ⟨k_26, ek_26⟩ : ∃ k, k = Int32.toNatClampNeg x7 := ⟨_, rfl⟩
              rw [← ek_26] at hF
              obtain ⟨w_27, ew_27, hF⟩ := gS_some hF
              refine g_iast2 (k := k_26) hx hb hK hW hL (gok_o (by decide)) (fun w => gE_O4 (w := w)) hin_25 ek_26.symm dL_scratch_112 (fun H locs hW hL => ?_)
              rw [← ew_27] at hW
              refine lv_aload_n hx hb dL_scratch_113 rfl (lv_at hl 2 rfl) ?_
              refine lv_iconst (v := 3) hx hb dL_scratch_114 (by decide) ?_
              refine lv_iload hx hb dL_scratch_115 (lv_at hl 0 rfl) ?_
              refine lv_imul hx hb dL_scratch_117 ?_
              refine lv_iload hx hb dL_scratch_118 (lv_at hl 5 rfl) ?_
              obtain ⟨hin_28, hF⟩ := gB_some hF
              obtain ⟨k_29, ek_29⟩ : ∃ k, k = Int32.toNatClampNeg ((3 * x8_24)) := ⟨_, rfl⟩
              rw [← ek_29] at hF
              obtain ⟨w_30, ew_30, hF⟩ := gS_some hF
              refine g_iast2 (k := k_29) hx hb hK hW hL (gok_o (by decide)) (fun w => gE_O2 (w := w)) hin_28 ek_29.symm dL_scratch_120 (fun H locs hW hL => ?_)
              rw [← ew_30] at hW
              refine lv_aload hx hb dL_scratch_121 (lv_at hl 4 rfl) ?_
              refine lv_bipush (v := 6) hx hb dL_scratch_123 (by decide) ?_
              refine lv_dup2_11 hx hb dL_scratch_125 rfl rfl ?_
              refine g_iald2 (k := 6) hx hb hK hW (gok_o (by decide)) (gad_lt (gok_o (by decide))) gE_O5 (gin (by decide)) (by decide) dL_scratch_126 ?_
              refine lv_iconst (v := 1) hx hb dL_scratch_127 (by decide) ?_
              refine lv_iadd hx hb dL_scratch_128 ?_
              obtain ⟨w_31, ew_31, hF⟩ := gS_some hF
              refine g_iast2 (k := 6) hx hb hK hW hL (gok_o (by decide)) (fun w => gE_O5 (w := w)) (gin (by decide)) (by decide) dL_scratch_129 (fun H locs hW hL => ?_)
              rw [← ew_31] at hW
              refine lv_iload hx hb dL_scratch_130 (lv_at hl 0 rfl) ?_
              exact g_ri hx hb hr hlocks (gW2 hF hW) hL (gI2 hF).1 dL_scratch_132
  have B_42 : ∀ (w : gWd) (x5 : Int32)  (ls : Array Slot) (hl : lv_has ls 9 [(0, .ref (gA X 8 0)), (2, .ref (gA X 8 2)), (3, .ref (gA X 8 4)), (4, .ref (gA X 8 5)), (5, .int x5)]) (hF : F_L_scratch_42 w x5 = some (r, w')) (H : Heap) (locs : List Loc) (hW : gWo X 252 (gE X w) H) (hL : gLo X locs), W p l e rmL_scratch s m args below meth c H locs 0 0 (MQ below (gQi X r w') args s 0 0 (gFr X)) (F0 m 42 ls []) := by
    intro w x5 ls hl hF H locs hW hL
    rw [F_L_scratch_42] at hF
    refine lv_aload_n hx hb dL_scratch_42 rfl (lv_at hl 1 rfl) ?_
    refine lv_iconst (v := 3) hx hb dL_scratch_43 (by decide) ?_
    refine lv_iload hx hb dL_scratch_44 (lv_at hl 4 rfl) ?_
    refine lv_imul hx hb dL_scratch_46 ?_
    obtain ⟨hin_1, hF⟩ := gB_some hF
    obtain ⟨k_2, ek_2⟩ : ∃ k, k = Int32.toNatClampNeg ((3 * x5)) := ⟨_, rfl⟩
    rw [← ek_2] at hF
    refine g_iald2 (k := k_2) hx hb hK hW (gok_o (by decide)) (gad_lt (gok_o (by decide))) gE_O2 hin_1 ek_2.symm dL_scratch_47 ?_
    obtain ⟨x6_3, ex6_3, hF⟩ := gS_some hF
    refine g_top ex6_3 ?_
    refine lv_istore (lv' := [(6, .int x6_3), (0, .ref (gA X 8 0)), (2, .ref (gA X 8 2)), (3, .ref (gA X 8 4)), (4, .ref (gA X 8 5)), (5, .int x5)]) hx hb dL_scratch_48 hl (by decide) rfl (fun ls hl => ?_)
    refine lv_aload_n hx hb dL_scratch_50 rfl (lv_at hl 2 rfl) ?_
    refine lv_iconst (v := 3) hx hb dL_scratch_51 (by decide) ?_
    refine lv_iload hx hb dL_scratch_52 (lv_at hl 5 rfl) ?_
    refine lv_imul hx hb dL_scratch_54 ?_
    refine lv_iconst (v := 0) hx hb dL_scratch_55 (by decide) ?_
    obtain ⟨hin_4, hF⟩ := gB_some hF
    obtain ⟨k_5, ek_5⟩ : ∃ k, k = Int32.toNatClampNeg ((3 * x5)) := ⟨_, rfl⟩
    rw [← ek_5] at hF
    obtain ⟨w_6, ew_6, hF⟩ := gS_some hF
    refine g_iast2 (k := k_5) hx hb hK hW hL (gok_o (by decide)) (fun w => gE_O2 (w := w)) hin_4 ek_5.symm dL_scratch_56 (fun H locs hW hL => ?_)
    rw [← ew_6] at hW
    refine lv_aload_n hx hb dL_scratch_57 rfl (lv_at hl 2 rfl) ?_
    refine lv_iconst (v := 3) hx hb dL_scratch_58 (by decide) ?_
    refine lv_iload hx hb dL_scratch_59 (lv_at hl 5 rfl) ?_
    refine lv_imul hx hb dL_scratch_61 ?_
    refine lv_iconst (v := 1) hx hb dL_scratch_62 (by decide) ?_
    refine lv_iadd hx hb dL_scratch_63 ?_
    refine lv_iconst (v := 0) hx hb dL_scratch_64 (by decide) ?_
    obtain ⟨hin_7, hF⟩ := gB_some hF
    obtain ⟨k_8, ek_8⟩ : ∃ k, k = Int32.toNatClampNeg (((3 * x5) + 1)) := ⟨_, rfl⟩
    rw [← ek_8] at hF
    obtain ⟨w_9, ew_9, hF⟩ := gS_some hF
    refine g_iast2 (k := k_8) hx hb hK hW hL (gok_o (by decide)) (fun w => gE_O2 (w := w)) hin_7 ek_8.symm dL_scratch_65 (fun H locs hW hL => ?_)
    rw [← ew_9] at hW
    refine lv_iconst (v := 0) hx hb dL_scratch_66 (by decide) ?_
    refine lv_istore (lv' := [(7, .int 0), (6, .int x6_3), (0, .ref (gA X 8 0)), (2, .ref (gA X 8 2)), (3, .ref (gA X 8 4)), (4, .ref (gA X 8 5)), (5, .int x5)]) hx hb dL_scratch_67 hl (by decide) rfl (fun ls hl => ?_)
    exact L_69 gFU w_9 x6_3 0 ls (lv_sub hl [2, 3, 4, 5, 1, 0] rfl) hF H locs hW hL
  rw [F_L_scratch] at hF
  obtain ⟨locs, hlocs⟩ : ∃ locs : List Loc, locs = [] := ⟨_, rfl⟩
  rw [← hlocs] at hL ⊢
  refine lv_aload_n hx hb dL_scratch_0 rfl (lv_at hl 0 rfl) ?_
  refine lv_iconst (v := 3) hx hb dL_scratch_1 (by decide) ?_
  refine lv_iload hx hb dL_scratch_2 (lv_at hl 5 rfl) ?_
  refine lv_imul hx hb dL_scratch_4 ?_
  refine lv_iconst (v := 2) hx hb dL_scratch_5 (by decide) ?_
  refine lv_iadd hx hb dL_scratch_6 ?_
  refine lv_iconst (v := 1) hx hb dL_scratch_7 (by decide) ?_
  obtain ⟨hin_32, hF⟩ := gB_some hF
  obtain ⟨k_33, ek_33⟩ : ∃ k, k = Int32.toNatClampNeg (((3 * x5) + 2)) := ⟨_, rfl⟩
  rw [← ek_33] at hF
  obtain ⟨w_34, ew_34, hF⟩ := gS_some hF
  refine g_iast2 (k := k_33) hx hb hK hW hL (gok_o (by decide)) (fun w => gE_O0 (w := w)) hin_32 ek_33.symm dL_scratch_8 (fun H locs hW hL => ?_)
  rw [← ew_34] at hW
  refine lv_aload hx hb dL_scratch_9 (lv_at hl 4 rfl) ?_
  refine lv_iconst (v := 0) hx hb dL_scratch_11 (by decide) ?_
  refine g_iald2 (k := 0) hx hb hK hW (gok_o (by decide)) (gad_lt (gok_o (by decide))) gE_O5 (gin (by decide)) (by decide) dL_scratch_12 ?_
  refine lv_iconst (v := 1) hx hb dL_scratch_13 (by decide) ?_
  refine lv_icmp_ne (tgt := 42) hx hb dL_scratch_14 (by decide) (fun hc_35 => ?_) (fun hc_35 => ?_)
  · replace hF := gF hc_35 hF
    exact B_42 w_34 x5 ls (lv_sub hl [0, 2, 3, 4, 5] rfl) hF H locs hW hL
  · replace hF := gT hc_35 hF
    refine lv_aload_n hx hb dL_scratch_17 rfl (lv_at hl 1 rfl) ?_
    refine lv_iconst (v := 3) hx hb dL_scratch_18 (by decide) ?_
    refine lv_iload hx hb dL_scratch_19 (lv_at hl 5 rfl) ?_
    refine lv_imul hx hb dL_scratch_21 ?_
    refine lv_iconst (v := 0) hx hb dL_scratch_22 (by decide) ?_
    obtain ⟨hin_36, hF⟩ := gB_some hF
    obtain ⟨k_37, ek_37⟩ : ∃ k, k = Int32.toNatClampNeg ((3 * x5)) := ⟨_, rfl⟩
    rw [← ek_37] at hF
    obtain ⟨w_38, ew_38, hF⟩ := gS_some hF
    refine g_iast2 (k := k_37) hx hb hK hW hL (gok_o (by decide)) (fun w => gE_O1 (w := w)) hin_36 ek_37.symm dL_scratch_23 (fun H locs hW hL => ?_)
    rw [← ew_38] at hW
    refine lv_aload_n hx hb dL_scratch_24 rfl (lv_at hl 1 rfl) ?_
    refine lv_iconst (v := 3) hx hb dL_scratch_25 (by decide) ?_
    refine lv_iload hx hb dL_scratch_26 (lv_at hl 5 rfl) ?_
    refine lv_imul hx hb dL_scratch_28 ?_
    refine lv_iconst (v := 1) hx hb dL_scratch_29 (by decide) ?_
    refine lv_iadd hx hb dL_scratch_30 ?_
    refine lv_iconst (v := 0) hx hb dL_scratch_31 (by decide) ?_
    obtain ⟨hin_39, hF⟩ := gB_some hF
    obtain ⟨k_40, ek_40⟩ : ∃ k, k = Int32.toNatClampNeg (((3 * x5) + 1)) := ⟨_, rfl⟩
    rw [← ek_40] at hF
    obtain ⟨w_41, ew_41, hF⟩ := gS_some hF
    refine g_iast2 (k := k_40) hx hb hK hW hL (gok_o (by decide)) (fun w => gE_O1 (w := w)) hin_39 ek_40.symm dL_scratch_32 (fun H locs hW hL => ?_)
    rw [← ew_41] at hW
    refine lv_aload_n hx hb dL_scratch_33 rfl (lv_at hl 1 rfl) ?_
    refine lv_iconst (v := 3) hx hb dL_scratch_34 (by decide) ?_
    refine lv_iload hx hb dL_scratch_35 (lv_at hl 5 rfl) ?_
    refine lv_imul hx hb dL_scratch_37 ?_
    refine lv_iconst (v := 2) hx hb dL_scratch_38 (by decide) ?_
    refine lv_iadd hx hb dL_scratch_39 ?_
    refine lv_iconst (v := 0) hx hb dL_scratch_40 (by decide) ?_
    obtain ⟨hin_42, hF⟩ := gB_some hF
    obtain ⟨k_43, ek_43⟩ : ∃ k, k = Int32.toNatClampNeg (((3 * x5) + 2)) := ⟨_, rfl⟩
    rw [← ek_43] at hF
    obtain ⟨w_44, ew_44, hF⟩ := gS_some hF
    refine g_iast2 (k := k_43) hx hb hK hW hL (gok_o (by decide)) (fun w => gE_O1 (w := w)) hin_42 ek_43.symm dL_scratch_41 (fun H locs hW hL => ?_)
    rw [← ew_44] at hW
    exact B_42 w_44 x5 ls (lv_sub hl [0, 2, 3, 4, 5] rfl) hF H locs hW hL
abbrev rmL_finals : Room := { frames := 2, cells := 0, slots := 0, locals := 50 }
abbrev wsL_finals : List Cond := gws yL_finals cL_finals 8 (some .int)
set_option maxHeartbeats 4000000 in
set_option maxRecDepth 100000 in
theorem c_L_finals (l : Launch) (X : gX) (w : gWd)  (r : Int32) (w' : gWd) (hF : F_L_finals w = some (r, w')) : Met l yL_finals wsL_finals rmL_finals (gPc X [.ref (gA X 8 0), .ref (gA X 8 1), .ref (gA X 8 2), .ref (gA X 8 4), .ref (gA X 8 5)] w) (gQi X r w') 0 0 (gFr X) := by
  refine g_ofW (cc := cL_finals) (maxL := 8) (ret := (some .int)) (by decide) rfl (Nat.le_of_ble_eq_true rfl) (fun p e s m args below meth c ls H hx hb hr hts hown hlocks hml hK hl hW => ?_)
  have hl : lv_has ls 8 [(0, .ref (gA X 8 0)), (1, .ref (gA X 8 1)), (2, .ref (gA X 8 2)), (3, .ref (gA X 8 4)), (4, .ref (gA X 8 5))] := hl
  have hown : s.vm.findClass RL = some m.cls := hown
  have hL : gLo X [] := gLo_nil
  show W p l e rmL_finals s m args below meth c H [] 0 0 _ _
  have k19 : CallB rmL_finals s args RL 19 yL_lane cL_lane 4 (some .int) wsL_lane rmL_lane 0 0 2 ∧ (Cond.static yL_lane).before args s = true := va_cwS 2 hts (gGoodS (fun w h => List.mem_cons_of_mem _ h) wk_L_19) rfl rfl rfl (by decide +kernel) ⟨Nat.le_of_ble_eq_true rfl, Nat.le_of_ble_eq_true rfl⟩
  have k31 : CallB rmL_finals s args RL 31 yL_timeRank cL_timeRank 7 (some .int) wsL_timeRank rmL_timeRank 0 0 4 ∧ (Cond.static yL_timeRank).before args s = true := va_cwS 4 hts (gGoodS (fun w h => List.mem_cons_of_mem _ h) wk_L_31) rfl rfl rfl (by decide +kernel) ⟨Nat.le_of_ble_eq_true rfl, Nat.le_of_ble_eq_true rfl⟩
  have L_6 : ∀ (fu : Nat) (w : gWd) (x5 : Int32) (x6 : Int32)  (ls : Array Slot) (hl : lv_has ls 8 [(0, .ref (gA X 8 0)), (1, .ref (gA X 8 1)), (2, .ref (gA X 8 2)), (3, .ref (gA X 8 4)), (4, .ref (gA X 8 5)), (5, .int x5), (6, .int x6)]) (hF : F_L_finals_6 fu w x5 x6 = some (r, w')) (H : Heap) (locs : List Loc) (hW : gWo X 252 (gE X w) H) (hL : gLo X locs), W p l e rmL_finals s m args below meth c H locs 0 0 (MQ below (gQi X r w') args s 0 0 (gFr X)) (F0 m 6 ls []) := by
    intro fu
    induction fu with
    | zero => intro w x5 x6 ls hl hF H locs hW hL; rw [F_L_finals_6_z] at hF; cases hF
    | succ fu6 ih6 =>
      have B_88 : ∀ (w : gWd) (x6 : Int32) (x7 : Int32) (xs0 : Int32) (xs1 : Int32)  (ls : Array Slot) (hl : lv_has ls 8 [(0, .ref (gA X 8 0)), (1, .ref (gA X 8 1)), (2, .ref (gA X 8 2)), (3, .ref (gA X 8 4)), (4, .ref (gA X 8 5)), (6, .int x6), (7, .int x7)]) (hF : F_L_finals_88 (F_L_finals_6 fu6) w x6 x7 xs0 xs1 = some (r, w')) (H : Heap) (locs : List Loc) (hW : gWo X 252 (gE X w) H) (hL : gLo X locs), W p l e rmL_finals s m args below meth c H locs 0 0 (MQ below (gQi X r w') args s 0 0 (gFr X)) (F0 m 88 ls [.int xs0, .int xs1]) := by
        intro w x6 x7 xs0 xs1 ls hl hF H locs hW hL
        rw [F_L_finals_88] at hF
        refine lv_ior hx hb dL_finals_88 ?_
        obtain ⟨x5_16, ex5_16, hF⟩ := gS_some hF
        refine g_top ex5_16 ?_
        refine lv_istore (lv' := [(5, .int x5_16), (0, .ref (gA X 8 0)), (1, .ref (gA X 8 1)), (2, .ref (gA X 8 2)), (3, .ref (gA X 8 4)), (4, .ref (gA X 8 5)), (6, .int x6), (7, .int x7)]) hx hb dL_finals_89 hl (by decide) rfl (fun ls hl => ?_)
        refine lv_iload hx hb dL_finals_91 (lv_at hl 7 rfl) ?_
        refine lv_aload hx hb dL_finals_93 (lv_at hl 5 rfl) ?_
        refine lv_bipush (v := 7) hx hb dL_finals_95 (by decide) ?_
        refine g_iald2 (k := 7) hx hb hK hW (gok_o (by decide)) (gad_lt (gok_o (by decide))) gE_O5 (gin (by decide)) (by decide) dL_finals_97 ?_
        refine lv_icmp_lt (tgt := 131) hx hb dL_finals_98 (by decide) (fun hc_17 => ?_) (fun hc_17 => ?_)
        · replace hF := gT hc_17 hF
          obtain ⟨x6_18, ex6_18, hF⟩ := gS_some hF
          refine lv_iinc (v := x6_18) (lv' := [(6, .int x6_18), (5, .int x5_16), (0, .ref (gA X 8 0)), (1, .ref (gA X 8 1)), (2, .ref (gA X 8 2)), (3, .ref (gA X 8 4)), (4, .ref (gA X 8 5)), (7, .int x7)]) hx hb dL_finals_131 hl (k := 6) rfl (by rw [ex6_18]; rfl) (by decide) rfl (fun ls hl => ?_)
          refine lv_goto (tgt := 6) hx hb dL_finals_134 (by decide) ?_
          exact ih6 w x5_16 x6_18 ls (lv_sub hl [2, 3, 4, 5, 6, 1, 0] rfl) hF H locs hW hL
        · replace hF := gF hc_17 hF
          refine lv_iload hx hb dL_finals_101 (lv_at hl 7 rfl) ?_
          refine lv_aload hx hb dL_finals_103 (lv_at hl 5 rfl) ?_
          refine lv_bipush (v := 7) hx hb dL_finals_105 (by decide) ?_
          refine g_iald2 (k := 7) hx hb hK hW (gok_o (by decide)) (gad_lt (gok_o (by decide))) gE_O5 (gin (by decide)) (by decide) dL_finals_107 ?_
          refine lv_aload hx hb dL_finals_108 (lv_at hl 5 rfl) ?_
          refine lv_bipush (v := 9) hx hb dL_finals_110 (by decide) ?_
          refine g_iald2 (k := 9) hx hb hK hW (gok_o (by decide)) (gad_lt (gok_o (by decide))) gE_O5 (gin (by decide)) (by decide) dL_finals_112 ?_
          refine lv_iadd hx hb dL_finals_113 ?_
          refine lv_icmp_ge (tgt := 131) hx hb dL_finals_114 (by decide) (fun hc_19 => ?_) (fun hc_19 => ?_)
          · replace hF := gT hc_19 hF
            obtain ⟨x6_20, ex6_20, hF⟩ := gS_some hF
            refine lv_iinc (v := x6_20) (lv' := [(6, .int x6_20), (5, .int x5_16), (0, .ref (gA X 8 0)), (1, .ref (gA X 8 1)), (2, .ref (gA X 8 2)), (3, .ref (gA X 8 4)), (4, .ref (gA X 8 5)), (7, .int x7)]) hx hb dL_finals_131 hl (k := 6) rfl (by rw [ex6_20]; rfl) (by decide) rfl (fun ls hl => ?_)
            refine lv_goto (tgt := 6) hx hb dL_finals_134 (by decide) ?_
            exact ih6 w x5_16 x6_20 ls (lv_sub hl [2, 3, 4, 5, 6, 1, 0] rfl) hF H locs hW hL
          · replace hF := gF hc_19 hF
            refine lv_aload_n hx hb dL_finals_117 rfl (lv_at hl 4 rfl) ?_
            refine lv_iload hx hb dL_finals_118 (lv_at hl 7 rfl) ?_
            refine lv_aload hx hb dL_finals_120 (lv_at hl 5 rfl) ?_
            refine lv_bipush (v := 7) hx hb dL_finals_122 (by decide) ?_
            refine g_iald2 (k := 7) hx hb hK hW (gok_o (by decide)) (gad_lt (gok_o (by decide))) gE_O5 (gin (by decide)) (by decide) dL_finals_124 ?_
            refine lv_isub hx hb dL_finals_125 ?_
            refine lv_iload hx hb dL_finals_126 (lv_at hl 6 rfl) ?_
            refine lv_iconst (v := 1) hx hb dL_finals_128 (by decide) ?_
            refine lv_iadd hx hb dL_finals_129 ?_
            obtain ⟨hin_21, hF⟩ := gB_some hF
            obtain ⟨k_22, ek_22⟩ : ∃ k, k = Int32.toNatClampNeg ((x7 - (w 8 5 7))) := ⟨_, rfl⟩
            rw [← ek_22] at hF
            obtain ⟨w_23, ew_23, hF⟩ := gS_some hF
            refine g_iast2 (k := k_22) hx hb hK hW hL (gok_o (by decide)) (fun w => gE_O4 (w := w)) hin_21 ek_22.symm dL_finals_130 (fun H locs hW hL => ?_)
            rw [← ew_23] at hW
            obtain ⟨x6_24, ex6_24, hF⟩ := gS_some hF
            refine lv_iinc (v := x6_24) (lv' := [(6, .int x6_24), (5, .int x5_16), (0, .ref (gA X 8 0)), (1, .ref (gA X 8 1)), (2, .ref (gA X 8 2)), (3, .ref (gA X 8 4)), (4, .ref (gA X 8 5)), (7, .int x7)]) hx hb dL_finals_131 hl (k := 6) rfl (by rw [ex6_24]; rfl) (by decide) rfl (fun ls hl => ?_)
            refine lv_goto (tgt := 6) hx hb dL_finals_134 (by decide) ?_
            exact ih6 w_23 x5_16 x6_24 ls (lv_sub hl [2, 3, 4, 5, 6, 1, 0] rfl) hF H locs hW hL
      have B_67 : ∀ (w : gWd) (x5 : Int32) (x6 : Int32) (x7 : Int32) (xs0 : Int32) (xs1 : Int32)  (ls : Array Slot) (hl : lv_has ls 8 [(0, .ref (gA X 8 0)), (1, .ref (gA X 8 1)), (2, .ref (gA X 8 2)), (3, .ref (gA X 8 4)), (4, .ref (gA X 8 5)), (5, .int x5), (6, .int x6), (7, .int x7)]) (hF : F_L_finals_67 (F_L_finals_6 fu6) w x5 x6 x7 xs0 xs1 = some (r, w')) (H : Heap) (locs : List Loc) (hW : gWo X 252 (gE X w) H) (hL : gLo X locs), W p l e rmL_finals s m args below meth c H locs 0 0 (MQ below (gQi X r w') args s 0 0 (gFr X)) (F0 m 67 ls [.int xs0, .int xs1, .ref (gA X 8 2)]) := by
        intro w x5 x6 x7 xs0 xs1 ls hl hF H locs hW hL
        rw [F_L_finals_67] at hF
        obtain ⟨hin_12, hF⟩ := gB_some hF
        obtain ⟨k_13, ek_13⟩ : ∃ k, k = Int32.toNatClampNeg xs1 := ⟨_, rfl⟩
        rw [← ek_13] at hF
        obtain ⟨w_14, ew_14, hF⟩ := gS_some hF
        refine g_iast2 (k := k_13) hx hb hK hW hL (gok_o (by decide)) (fun w => gE_O2 (w := w)) hin_12 ek_13.symm dL_finals_67 (fun H locs hW hL => ?_)
        rw [← ew_14] at hW
        refine lv_iload hx hb dL_finals_68 (lv_at hl 5 rfl) ?_
        refine lv_iload hx hb dL_finals_70 (lv_at hl 7 rfl) ?_
        refine lv_aload hx hb dL_finals_72 (lv_at hl 4 rfl) ?_
        refine lv_bipush (v := 7) hx hb dL_finals_74 (by decide) ?_
        refine g_iald2 (k := 7) hx hb hK hW (gok_o (by decide)) (gad_lt (gok_o (by decide))) gE_O5 (gin (by decide)) (by decide) dL_finals_76 ?_
        refine lv_icmp_ge (tgt := 87) hx hb dL_finals_77 (by decide) (fun hc_15 => ?_) (fun hc_15 => ?_)
        · replace hF := gT hc_15 hF
          refine lv_iconst (v := 0) hx hb dL_finals_87 (by decide) ?_
          exact B_88 w_14 x6 x7 0 x5 ls (lv_sub hl [0, 1, 2, 3, 4, 6, 7] rfl) hF H locs hW hL
        · replace hF := gF hc_15 hF
          refine lv_iconst (v := 1) hx hb dL_finals_80 (by decide) ?_
          refine lv_iload hx hb dL_finals_81 (lv_at hl 6 rfl) ?_
          refine lv_ishl hx hb dL_finals_83 ?_
          refine lv_goto (tgt := 88) hx hb dL_finals_84 (by decide) ?_
          exact B_88 w_14 x6 x7 ((1 <<< (x6 &&& 31))) x5 ls (lv_sub hl [0, 1, 2, 3, 4, 6, 7] rfl) hF H locs hW hL
      intro w x5 x6 ls hl hF H locs hW hL
      rw [F_L_finals_6_s] at hF
      refine lv_iload hx hb dL_finals_6 (lv_at hl 6 rfl) ?_
      refine lv_aload hx hb dL_finals_8 (lv_at hl 4 rfl) ?_
      refine lv_iconst (v := 1) hx hb dL_finals_10 (by decide) ?_
      refine g_iald2 (k := 1) hx hb hK hW (gok_o (by decide)) (gad_lt (gok_o (by decide))) gE_O5 (gin (by decide)) (by decide) dL_finals_11 ?_
      refine lv_icmp_ge (tgt := 137) hx hb dL_finals_12 (by decide) (fun hc_1 => ?_) (fun hc_1 => ?_)
      · replace hF := gT hc_1 hF
        refine lv_aload hx hb dL_finals_137 (lv_at hl 4 rfl) ?_
        refine lv_iconst (v := 0) hx hb dL_finals_139 (by decide) ?_
        refine lv_iconst (v := 2) hx hb dL_finals_140 (by decide) ?_
        obtain ⟨w_2, ew_2, hF⟩ := gS_some hF
        refine g_iast2 (k := 0) hx hb hK hW hL (gok_o (by decide)) (fun w => gE_O5 (w := w)) (gin (by decide)) (by decide) dL_finals_141 (fun H locs hW hL => ?_)
        rw [← ew_2] at hW
        refine lv_iload hx hb dL_finals_142 (lv_at hl 5 rfl) ?_
        exact g_ri hx hb hr hlocks (gW2 hF hW) hL (gI2 hF).1 dL_finals_144
      · replace hF := gF hc_1 hF
        refine lv_aload_n hx hb dL_finals_15 rfl (lv_at hl 1 rfl) ?_
        refine lv_iconst (v := 3) hx hb dL_finals_16 (by decide) ?_
        refine lv_iload hx hb dL_finals_17 (lv_at hl 6 rfl) ?_
        refine lv_imul hx hb dL_finals_19 ?_
        refine lv_iconst (v := 2) hx hb dL_finals_20 (by decide) ?_
        refine lv_iadd hx hb dL_finals_21 ?_
        obtain ⟨hin_3, hF⟩ := gB_some hF
        obtain ⟨k_4, ek_4⟩ : ∃ k, k = Int32.toNatClampNeg (((3 * x6) + 2)) := ⟨_, rfl⟩
        rw [← ek_4] at hF
        refine g_iald2 (k := k_4) hx hb hK hW (gok_o (by decide)) (gad_lt (gok_o (by decide))) gE_O1 hin_3 ek_4.symm dL_finals_22 ?_
        refine lv_iconst (v := 1) hx hb dL_finals_23 (by decide) ?_
        refine lv_icmp_le (tgt := 131) hx hb dL_finals_24 (by decide) (fun hc_5 => ?_) (fun hc_5 => ?_)
        · replace hF := gT hc_5 hF
          obtain ⟨x6_6, ex6_6, hF⟩ := gS_some hF
          refine lv_iinc (v := x6_6) (lv' := [(6, .int x6_6), (0, .ref (gA X 8 0)), (1, .ref (gA X 8 1)), (2, .ref (gA X 8 2)), (3, .ref (gA X 8 4)), (4, .ref (gA X 8 5)), (5, .int x5)]) hx hb dL_finals_131 hl (k := 6) rfl (by rw [ex6_6]; rfl) (by decide) rfl (fun ls hl => ?_)
          refine lv_goto (tgt := 6) hx hb dL_finals_134 (by decide) ?_
          exact ih6 w x5 x6_6 ls (lv_sub hl [1, 2, 3, 4, 5, 6, 0] rfl) hF H locs hW hL
        · replace hF := gF hc_5 hF
          refine lv_aload_n hx hb dL_finals_27 rfl (lv_at hl 0 rfl) ?_
          refine lv_aload_n hx hb dL_finals_28 rfl (lv_at hl 1 rfl) ?_
          refine lv_aload hx hb dL_finals_29 (lv_at hl 4 rfl) ?_
          refine lv_iload hx hb dL_finals_31 (lv_at hl 6 rfl) ?_
          obtain ⟨v_8, hq_7, hF⟩ := gP_some hF
          refine g_Si (As := [.ref (gA X 8 0), .ref (gA X 8 1), .ref (gA X 8 5), .int x6]) (rest := []) ⟨hx, hb, hml, hown, hts⟩ hK hW hL hl.1 (c_L_timeRank l X w x6 v_8 hq_7) k31 rfl rfl (Nat.le_of_ble_eq_true rfl) dL_finals_33 ⟨Nat.le_of_ble_eq_true rfl, Nat.le_of_ble_eq_true rfl⟩ (fun H locs hW hL => ?_)
          refine lv_istore (lv' := [(7, .int v_8), (0, .ref (gA X 8 0)), (1, .ref (gA X 8 1)), (2, .ref (gA X 8 2)), (3, .ref (gA X 8 4)), (4, .ref (gA X 8 5)), (5, .int x5), (6, .int x6)]) hx hb dL_finals_36 hl (by decide) rfl (fun ls hl => ?_)
          refine lv_aload_n hx hb dL_finals_38 rfl (lv_at hl 3 rfl) ?_
          refine lv_iconst (v := 3) hx hb dL_finals_39 (by decide) ?_
          refine lv_iload hx hb dL_finals_40 (lv_at hl 7 rfl) ?_
          refine lv_imul hx hb dL_finals_42 ?_
          refine lv_iload hx hb dL_finals_43 (lv_at hl 0 rfl) ?_
          refine lv_aload hx hb dL_finals_45 (lv_at hl 5 rfl) ?_
          refine lv_bipush (v := 7) hx hb dL_finals_47 (by decide) ?_
          refine g_iald2 (k := 7) hx hb hK hW (gok_o (by decide)) (gad_lt (gok_o (by decide))) gE_O5 (gin (by decide)) (by decide) dL_finals_49 ?_
          refine lv_icmp_ge (tgt := 66) hx hb dL_finals_50 (by decide) (fun hc_9 => ?_) (fun hc_9 => ?_)
          · replace hF := gT hc_9 hF
            refine lv_iconst (v := 0) hx hb dL_finals_66 (by decide) ?_
            exact B_67 w x5 x6 v_8 0 ((3 * x6)) ls (lv_sub hl [1, 2, 3, 4, 5, 6, 7, 0] rfl) hF H locs hW hL
          · replace hF := gF hc_9 hF
            refine lv_aload hx hb dL_finals_53 (lv_at hl 5 rfl) ?_
            refine lv_bipush (v := 7) hx hb dL_finals_55 (by decide) ?_
            refine g_iald2 (k := 7) hx hb hK hW (gok_o (by decide)) (gad_lt (gok_o (by decide))) gE_O5 (gin (by decide)) (by decide) dL_finals_57 ?_
            refine lv_iload hx hb dL_finals_58 (lv_at hl 0 rfl) ?_
            obtain ⟨v_11, hq_10, hF⟩ := gP_some hF
            refine g_Si (As := [.int (w 8 5 7), .int v_8]) (rest := [.int (3 * x6), .ref (gA X 8 2)]) ⟨hx, hb, hml, hown, hts⟩ hK hW hL hl.1 (c_L_lane l X w ((w 8 5 7)) v_8 v_11 hq_10) k19 rfl rfl (Nat.le_of_ble_eq_true rfl) dL_finals_60 ⟨Nat.le_of_ble_eq_true rfl, Nat.le_of_ble_eq_true rfl⟩ (fun H locs hW hL => ?_)
            refine lv_goto (tgt := 67) hx hb dL_finals_63 (by decide) ?_
            exact B_67 w x5 x6 v_8 v_11 ((3 * x6)) ls (lv_sub hl [1, 2, 3, 4, 5, 6, 7, 0] rfl) hF H locs hW hL
  rw [F_L_finals] at hF
  obtain ⟨locs, hlocs⟩ : ∃ locs : List Loc, locs = [] := ⟨_, rfl⟩
  rw [← hlocs] at hL ⊢
  refine lv_iconst (v := 0) hx hb dL_finals_0 (by decide) ?_
  refine lv_istore (lv' := [(5, .int 0), (0, .ref (gA X 8 0)), (1, .ref (gA X 8 1)), (2, .ref (gA X 8 2)), (3, .ref (gA X 8 4)), (4, .ref (gA X 8 5))]) hx hb dL_finals_1 hl (by decide) rfl (fun ls hl => ?_)
  refine lv_iconst (v := 0) hx hb dL_finals_3 (by decide) ?_
  refine lv_istore (lv' := [(6, .int 0), (5, .int 0), (0, .ref (gA X 8 0)), (1, .ref (gA X 8 1)), (2, .ref (gA X 8 2)), (3, .ref (gA X 8 4)), (4, .ref (gA X 8 5))]) hx hb dL_finals_4 hl (by decide) rfl (fun ls hl => ?_)
  exact L_6 gFU w 0 0 ls (lv_sub hl [2, 3, 4, 5, 6, 1, 0] rfl) hF H locs hW hL
abbrev rmL_end : Room := { frames := 0, cells := 0, slots := 0, locals := 0 }
abbrev wsL_end : List Cond := gws yL_end cL_end 11 (some .int)
set_option maxHeartbeats 4000000 in
set_option maxRecDepth 100000 in
theorem c_L_end (l : Launch) (X : gX) (w : gWd)  (r : Int32) (w' : gWd) (hF : F_L_end w = some (r, w')) : Met l yL_end wsL_end rmL_end (gPc X [.ref (gA X 8 0), .ref (gA X 8 2), .ref (gA X 8 3), .ref (gA X 8 5), .ref (gA X 8 6)] w) (gQi X r w') 0 0 (gFr X) := by
  refine g_ofW (cc := cL_end) (maxL := 11) (ret := (some .int)) (by decide) rfl (Nat.le_of_ble_eq_true rfl) (fun p e s m args below meth c ls H hx hb hr hts hown hlocks hml hK hl hW => ?_)
  have hl : lv_has ls 11 [(0, .ref (gA X 8 0)), (1, .ref (gA X 8 2)), (2, .ref (gA X 8 3)), (3, .ref (gA X 8 5)), (4, .ref (gA X 8 6))] := hl
  have hown : s.vm.findClass RL = some m.cls := hown
  have hL : gLo X [] := gLo_nil
  show W p l e rmL_end s m args below meth c H [] 0 0 _ _
  have L_6 : ∀ (fu : Nat) (w : gWd) (x5 : Int32) (x6 : Int32)  (ls : Array Slot) (hl : lv_has ls 11 [(0, .ref (gA X 8 0)), (1, .ref (gA X 8 2)), (2, .ref (gA X 8 3)), (3, .ref (gA X 8 5)), (4, .ref (gA X 8 6)), (5, .int x5), (6, .int x6)]) (hF : F_L_end_6 fu w x5 x6 = some (r, w')) (H : Heap) (locs : List Loc) (hW : gWo X 252 (gE X w) H) (hL : gLo X locs), W p l e rmL_end s m args below meth c H locs 0 0 (MQ below (gQi X r w') args s 0 0 (gFr X)) (F0 m 6 ls []) := by
    intro fu
    induction fu with
    | zero => intro w x5 x6 ls hl hF H locs hW hL; rw [F_L_end_6_z] at hF; cases hF
    | succ fu6 ih6 =>
      have B_224 : ∀ (w : gWd) (x6 : Int32) (xs0 : Int32) (xs1 : Int32)  (ls : Array Slot) (hl : lv_has ls 11 [(0, .ref (gA X 8 0)), (1, .ref (gA X 8 2)), (2, .ref (gA X 8 3)), (3, .ref (gA X 8 5)), (4, .ref (gA X 8 6)), (6, .int x6)]) (hF : F_L_end_224 (F_L_end_6 fu6) w x6 xs0 xs1 = some (r, w')) (H : Heap) (locs : List Loc) (hW : gWo X 252 (gE X w) H) (hL : gLo X locs), W p l e rmL_end s m args below meth c H locs 0 0 (MQ below (gQi X r w') args s 0 0 (gFr X)) (F0 m 224 ls [.int xs0, .int xs1]) := by
        intro w x6 xs0 xs1 ls hl hF H locs hW hL
        rw [F_L_end_224] at hF
        refine lv_ior hx hb dL_end_224 ?_
        obtain ⟨x5_49, ex5_49, hF⟩ := gS_some hF
        refine g_top ex5_49 ?_
        refine lv_istore (lv' := [(5, .int x5_49), (0, .ref (gA X 8 0)), (1, .ref (gA X 8 2)), (2, .ref (gA X 8 3)), (3, .ref (gA X 8 5)), (4, .ref (gA X 8 6)), (6, .int x6)]) hx hb dL_end_225 hl (by decide) rfl (fun ls hl => ?_)
        obtain ⟨x6_50, ex6_50, hF⟩ := gS_some hF
        refine lv_iinc (v := x6_50) (lv' := [(6, .int x6_50), (5, .int x5_49), (0, .ref (gA X 8 0)), (1, .ref (gA X 8 2)), (2, .ref (gA X 8 3)), (3, .ref (gA X 8 5)), (4, .ref (gA X 8 6))]) hx hb dL_end_227 hl (k := 6) rfl (by rw [ex6_50]; rfl) (by decide) rfl (fun ls hl => ?_)
        refine lv_goto (tgt := 6) hx hb dL_end_230 (by decide) ?_
        exact ih6 w x5_49 x6_50 ls (lv_sub hl [2, 3, 4, 5, 6, 1, 0] rfl) hF H locs hW hL
      have L_135 : ∀ (fu : Nat) (w : gWd) (x5 : Int32) (x6 : Int32) (x7 : Int32) (x8 : Int32) (x9 : Int32) (x10 : Int32)  (ls : Array Slot) (hl : lv_has ls 11 [(0, .ref (gA X 8 0)), (1, .ref (gA X 8 2)), (2, .ref (gA X 8 3)), (3, .ref (gA X 8 5)), (4, .ref (gA X 8 6)), (5, .int x5), (6, .int x6), (7, .int x7), (8, .int x8), (9, .int x9), (10, .int x10)]) (hF : F_L_end_135 (F_L_end_6 fu6) fu w x5 x6 x7 x8 x9 x10 = some (r, w')) (H : Heap) (locs : List Loc) (hW : gWo X 252 (gE X w) H) (hL : gLo X locs), W p l e rmL_end s m args below meth c H locs 0 0 (MQ below (gQi X r w') args s 0 0 (gFr X)) (F0 m 135 ls []) := by
        intro fu
        induction fu with
        | zero => intro w x5 x6 x7 x8 x9 x10 ls hl hF H locs hW hL; rw [F_L_end_135_z] at hF; cases hF
        | succ fu135 ih135 =>
          intro w x5 x6 x7 x8 x9 x10 ls hl hF H locs hW hL
          rw [F_L_end_135_s] at hF
          refine lv_iload hx hb dL_end_135 (lv_at hl 10 rfl) ?_
          refine lv_iload hx hb dL_end_137 (lv_at hl 8 rfl) ?_
          refine lv_icmp_ge (tgt := 165) hx hb dL_end_139 (by decide) (fun hc_28 => ?_) (fun hc_28 => ?_)
          · replace hF := gT hc_28 hF
            refine lv_aload_n hx hb dL_end_165 rfl (lv_at hl 1 rfl) ?_
            refine lv_iconst (v := 3) hx hb dL_end_166 (by decide) ?_
            refine lv_iload hx hb dL_end_167 (lv_at hl 6 rfl) ?_
            refine lv_imul hx hb dL_end_169 ?_
            refine lv_iconst (v := 2) hx hb dL_end_170 (by decide) ?_
            refine lv_iadd hx hb dL_end_171 ?_
            refine lv_iload hx hb dL_end_172 (lv_at hl 7 rfl) ?_
            obtain ⟨hin_29, hF⟩ := gB_some hF
            obtain ⟨k_30, ek_30⟩ : ∃ k, k = Int32.toNatClampNeg (((3 * x6) + 2)) := ⟨_, rfl⟩
            rw [← ek_30] at hF
            obtain ⟨w_31, ew_31, hF⟩ := gS_some hF
            refine g_iast2 (k := k_30) hx hb hK hW hL (gok_o (by decide)) (fun w => gE_O2 (w := w)) hin_29 ek_30.symm dL_end_174 (fun H locs hW hL => ?_)
            rw [← ew_31] at hW
            refine lv_aload_n hx hb dL_end_175 rfl (lv_at hl 2 rfl) ?_
            refine lv_iload hx hb dL_end_176 (lv_at hl 6 rfl) ?_
            refine lv_dup2_11 hx hb dL_end_178 rfl rfl ?_
            obtain ⟨hin_32, hF⟩ := gB_some hF
            obtain ⟨k_33, ek_33⟩ : ∃ k, k = Int32.toNatClampNeg x6 := ⟨_, rfl⟩
            rw [← ek_33] at hF
            refine g_iald2 (k := k_33) hx hb hK hW (gok_o (by decide)) (gad_lt (gok_o (by decide))) gE_O3 hin_32 ek_33.symm dL_end_179 ?_
            refine lv_iload hx hb dL_end_180 (lv_at hl 9 rfl) ?_
            refine lv_iconst (v := 2) hx hb dL_end_182 (by decide) ?_
            refine lv_imul hx hb dL_end_183 ?_
            refine lv_iload hx hb dL_end_184 (lv_at hl 8 rfl) ?_
            obtain ⟨hd_34, hF⟩ := gD_some hF
            refine lv_idiv hx hb dL_end_186 hd_34 ?_
            refine lv_iadd hx hb dL_end_187 ?_
            obtain ⟨hin_35, hF⟩ := gB_some hF
            obtain ⟨k_36, ek_36⟩ : ∃ k, k = Int32.toNatClampNeg x6 := ⟨_, rfl⟩
            rw [← ek_36] at hF
            obtain ⟨w_37, ew_37, hF⟩ := gS_some hF
            refine g_iast2 (k := k_36) hx hb hK hW hL (gok_o (by decide)) (fun w => gE_O3 (w := w)) hin_35 ek_36.symm dL_end_188 (fun H locs hW hL => ?_)
            rw [← ew_37] at hW
            refine lv_aload hx hb dL_end_189 (lv_at hl 4 rfl) ?_
            refine lv_aload_n hx hb dL_end_191 rfl (lv_at hl 0 rfl) ?_
            refine lv_iconst (v := 3) hx hb dL_end_192 (by decide) ?_
            refine lv_iload hx hb dL_end_193 (lv_at hl 6 rfl) ?_
            refine lv_imul hx hb dL_end_195 ?_
            obtain ⟨hin_38, hF⟩ := gB_some hF
            obtain ⟨k_39, ek_39⟩ : ∃ k, k = Int32.toNatClampNeg ((3 * x6)) := ⟨_, rfl⟩
            rw [← ek_39] at hF
            refine g_iald2 (k := k_39) hx hb hK hW (gok_o (by decide)) (gad_lt (gok_o (by decide))) gE_O0 hin_38 ek_39.symm dL_end_196 ?_
            refine lv_dup2_11 hx hb dL_end_197 rfl rfl ?_
            obtain ⟨hin_40, hF⟩ := gB_some hF
            obtain ⟨k_41, ek_41⟩ : ∃ k, k = Int32.toNatClampNeg ((w_37 8 0 k_39)) := ⟨_, rfl⟩
            rw [← ek_41] at hF
            refine g_iald2 (k := k_41) hx hb hK hW (gok_o (by decide)) (gad_lt (gok_o (by decide))) gE_O6 hin_40 ek_41.symm dL_end_198 ?_
            refine lv_iload hx hb dL_end_199 (lv_at hl 9 rfl) ?_
            refine lv_iconst (v := 2) hx hb dL_end_201 (by decide) ?_
            refine lv_imul hx hb dL_end_202 ?_
            refine lv_iload hx hb dL_end_203 (lv_at hl 8 rfl) ?_
            obtain ⟨hd_42, hF⟩ := gD_some hF
            refine lv_idiv hx hb dL_end_205 hd_42 ?_
            refine lv_iadd hx hb dL_end_206 ?_
            obtain ⟨hin_43, hF⟩ := gB_some hF
            obtain ⟨k_44, ek_44⟩ : ∃ k, k = Int32.toNatClampNeg ((w_37 8 0 k_39)) := ⟨_, rfl⟩
            rw [← ek_44] at hF
            obtain ⟨w_45, ew_45, hF⟩ := gS_some hF
            refine g_iast2 (k := k_44) hx hb hK hW hL (gok_o (by decide)) (fun w => gE_O6 (w := w)) hin_43 ek_44.symm dL_end_207 (fun H locs hW hL => ?_)
            rw [← ew_45] at hW
            refine lv_iload hx hb dL_end_208 (lv_at hl 5 rfl) ?_
            refine lv_iload hx hb dL_end_210 (lv_at hl 7 rfl) ?_
            refine lv_iconst (v := 1) hx hb dL_end_212 (by decide) ?_
            refine lv_icmp_ne (tgt := 223) hx hb dL_end_213 (by decide) (fun hc_46 => ?_) (fun hc_46 => ?_)
            · replace hF := gF hc_46 hF
              refine lv_iconst (v := 0) hx hb dL_end_223 (by decide) ?_
              exact B_224 w_45 x6 0 x5 ls (lv_sub hl [0, 1, 2, 3, 4, 6] rfl) hF H locs hW hL
            · replace hF := gT hc_46 hF
              refine lv_iconst (v := 1) hx hb dL_end_216 (by decide) ?_
              refine lv_iload hx hb dL_end_217 (lv_at hl 6 rfl) ?_
              refine lv_ishl hx hb dL_end_219 ?_
              refine lv_goto (tgt := 224) hx hb dL_end_220 (by decide) ?_
              exact B_224 w_45 x6 ((1 <<< (x6 &&& 31))) x5 ls (lv_sub hl [0, 1, 2, 3, 4, 6] rfl) hF H locs hW hL
          · replace hF := gF hc_28 hF
            refine lv_iload hx hb dL_end_142 (lv_at hl 9 rfl) ?_
            refine lv_aload_n hx hb dL_end_144 rfl (lv_at hl 3 rfl) ?_
            refine lv_bipush (v := 7) hx hb dL_end_145 (by decide) ?_
            refine g_iald2 (k := 7) hx hb hK hW (gok_o (by decide)) (gad_lt (gok_o (by decide))) gE_O5 (gin (by decide)) (by decide) dL_end_147 ?_
            refine lv_iconst (v := 1) hx hb dL_end_148 (by decide) ?_
            refine lv_iadd hx hb dL_end_149 ?_
            refine lv_iload hx hb dL_end_150 (lv_at hl 7 rfl) ?_
            refine lv_isub hx hb dL_end_152 ?_
            refine lv_iload hx hb dL_end_153 (lv_at hl 10 rfl) ?_
            refine lv_isub hx hb dL_end_155 ?_
            refine lv_iadd hx hb dL_end_156 ?_
            obtain ⟨x9_47, ex9_47, hF⟩ := gS_some hF
            refine g_top ex9_47 ?_
            refine lv_istore (lv' := [(9, .int x9_47), (0, .ref (gA X 8 0)), (1, .ref (gA X 8 2)), (2, .ref (gA X 8 3)), (3, .ref (gA X 8 5)), (4, .ref (gA X 8 6)), (5, .int x5), (6, .int x6), (7, .int x7), (8, .int x8), (10, .int x10)]) hx hb dL_end_157 hl (by decide) rfl (fun ls hl => ?_)
            obtain ⟨x10_48, ex10_48, hF⟩ := gS_some hF
            refine lv_iinc (v := x10_48) (lv' := [(10, .int x10_48), (9, .int x9_47), (0, .ref (gA X 8 0)), (1, .ref (gA X 8 2)), (2, .ref (gA X 8 3)), (3, .ref (gA X 8 5)), (4, .ref (gA X 8 6)), (5, .int x5), (6, .int x6), (7, .int x7), (8, .int x8)]) hx hb dL_end_159 hl (k := 10) rfl (by rw [ex10_48]; rfl) (by decide) rfl (fun ls hl => ?_)
            refine lv_goto (tgt := 135) hx hb dL_end_162 (by decide) ?_
            exact ih135 w x5 x6 x7 x8 x9_47 x10_48 ls (lv_sub hl [2, 3, 4, 5, 6, 7, 8, 9, 10, 1, 0] rfl) hF H locs hW hL
      have L_23 : ∀ (fu : Nat) (w : gWd) (x5 : Int32) (x6 : Int32) (x7 : Int32) (x8 : Int32) (x9 : Int32)  (ls : Array Slot) (hl : lv_has ls 11 [(0, .ref (gA X 8 0)), (1, .ref (gA X 8 2)), (2, .ref (gA X 8 3)), (3, .ref (gA X 8 5)), (4, .ref (gA X 8 6)), (5, .int x5), (6, .int x6), (7, .int x7), (8, .int x8), (9, .int x9)]) (hF : F_L_end_23 (F_L_end_6 fu6) fu w x5 x6 x7 x8 x9 = some (r, w')) (H : Heap) (locs : List Loc) (hW : gWo X 252 (gE X w) H) (hL : gLo X locs), W p l e rmL_end s m args below meth c H locs 0 0 (MQ below (gQi X r w') args s 0 0 (gFr X)) (F0 m 23 ls []) := by
        intro fu
        induction fu with
        | zero => intro w x5 x6 x7 x8 x9 ls hl hF H locs hW hL; rw [F_L_end_23_z] at hF; cases hF
        | succ fu23 ih23 =>
          have B_69 : ∀ (w : gWd) (x5 : Int32) (x6 : Int32) (x8 : Int32) (x9 : Int32) (xs0 : Int32) (xs1 : Int32)  (ls : Array Slot) (hl : lv_has ls 11 [(0, .ref (gA X 8 0)), (1, .ref (gA X 8 2)), (2, .ref (gA X 8 3)), (3, .ref (gA X 8 5)), (4, .ref (gA X 8 6)), (5, .int x5), (6, .int x6), (8, .int x8), (9, .int x9)]) (hF : F_L_end_69 (F_L_end_6 fu6) (F_L_end_23 (F_L_end_6 fu6) fu23) w x5 x6 x8 x9 xs0 xs1 = some (r, w')) (H : Heap) (locs : List Loc) (hW : gWo X 252 (gE X w) H) (hL : gLo X locs), W p l e rmL_end s m args below meth c H locs 0 0 (MQ below (gQi X r w') args s 0 0 (gFr X)) (F0 m 69 ls [.int xs0, .int xs1]) := by
            intro w x5 x6 x8 x9 xs0 xs1 ls hl hF H locs hW hL
            rw [F_L_end_69] at hF
            refine lv_iadd hx hb dL_end_69 ?_
            obtain ⟨x7_18, ex7_18, hF⟩ := gS_some hF
            refine g_top ex7_18 ?_
            refine lv_istore (lv' := [(7, .int x7_18), (0, .ref (gA X 8 0)), (1, .ref (gA X 8 2)), (2, .ref (gA X 8 3)), (3, .ref (gA X 8 5)), (4, .ref (gA X 8 6)), (5, .int x5), (6, .int x6), (8, .int x8), (9, .int x9)]) hx hb dL_end_70 hl (by decide) rfl (fun ls hl => ?_)
            refine lv_iload hx hb dL_end_72 (lv_at hl 8 rfl) ?_
            refine lv_aload_n hx hb dL_end_74 rfl (lv_at hl 2 rfl) ?_
            refine lv_iconst (v := 3) hx hb dL_end_75 (by decide) ?_
            refine lv_iload hx hb dL_end_76 (lv_at hl 9 rfl) ?_
            refine lv_imul hx hb dL_end_78 ?_
            refine lv_iconst (v := 1) hx hb dL_end_79 (by decide) ?_
            refine lv_iadd hx hb dL_end_80 ?_
            obtain ⟨hin_19, hF⟩ := gB_some hF
            obtain ⟨k_20, ek_20⟩ : ∃ k, k = Int32.toNatClampNeg (((3 * x9) + 1)) := ⟨_, rfl⟩
            rw [← ek_20] at hF
            refine g_iald2 (k := k_20) hx hb hK hW (gok_o (by decide)) (gad_lt (gok_o (by decide))) gE_O2 hin_19 ek_20.symm dL_end_81 ?_
            refine lv_aload_n hx hb dL_end_82 rfl (lv_at hl 2 rfl) ?_
            refine lv_iconst (v := 3) hx hb dL_end_83 (by decide) ?_
            refine lv_iload hx hb dL_end_84 (lv_at hl 7 rfl) ?_
            refine lv_imul hx hb dL_end_86 ?_
            refine lv_iconst (v := 1) hx hb dL_end_87 (by decide) ?_
            refine lv_iadd hx hb dL_end_88 ?_
            obtain ⟨hin_21, hF⟩ := gB_some hF
            obtain ⟨k_22, ek_22⟩ : ∃ k, k = Int32.toNatClampNeg (((3 * x6) + 1)) := ⟨_, rfl⟩
            rw [← ek_22] at hF
            refine g_iald2 (k := k_22) hx hb hK hW (gok_o (by decide)) (gad_lt (gok_o (by decide))) gE_O2 hin_21 ek_22.symm dL_end_89 ?_
            refine lv_icmp_ne (tgt := 97) hx hb dL_end_90 (by decide) (fun hc_23 => ?_) (fun hc_23 => ?_)
            · replace hF := gF hc_23 hF
              refine lv_iconst (v := 0) hx hb dL_end_97 (by decide) ?_
              refine lv_iadd hx hb dL_end_98 ?_
              obtain ⟨x8_24, ex8_24, hF⟩ := gS_some hF
              refine g_top ex8_24 ?_
              refine lv_istore (lv' := [(8, .int x8_24), (7, .int x7_18), (0, .ref (gA X 8 0)), (1, .ref (gA X 8 2)), (2, .ref (gA X 8 3)), (3, .ref (gA X 8 5)), (4, .ref (gA X 8 6)), (5, .int x5), (6, .int x6), (9, .int x9)]) hx hb dL_end_99 hl (by decide) rfl (fun ls hl => ?_)
              obtain ⟨x9_25, ex9_25, hF⟩ := gS_some hF
              refine lv_iinc (v := x9_25) (lv' := [(9, .int x9_25), (8, .int x8_24), (7, .int x7_18), (0, .ref (gA X 8 0)), (1, .ref (gA X 8 2)), (2, .ref (gA X 8 3)), (3, .ref (gA X 8 5)), (4, .ref (gA X 8 6)), (5, .int x5), (6, .int x6)]) hx hb dL_end_101 hl (k := 9) rfl (by rw [ex9_25]; rfl) (by decide) rfl (fun ls hl => ?_)
              refine lv_goto (tgt := 23) hx hb dL_end_104 (by decide) ?_
              exact ih23 w x5 x6 x7_18 x8_24 x9_25 ls (lv_sub hl [3, 4, 5, 6, 7, 8, 9, 2, 1, 0] rfl) hF H locs hW hL
            · replace hF := gT hc_23 hF
              refine lv_iconst (v := 1) hx hb dL_end_93 (by decide) ?_
              refine lv_goto (tgt := 98) hx hb dL_end_94 (by decide) ?_
              refine lv_iadd hx hb dL_end_98 ?_
              obtain ⟨x8_26, ex8_26, hF⟩ := gS_some hF
              refine g_top ex8_26 ?_
              refine lv_istore (lv' := [(8, .int x8_26), (7, .int x7_18), (0, .ref (gA X 8 0)), (1, .ref (gA X 8 2)), (2, .ref (gA X 8 3)), (3, .ref (gA X 8 5)), (4, .ref (gA X 8 6)), (5, .int x5), (6, .int x6), (9, .int x9)]) hx hb dL_end_99 hl (by decide) rfl (fun ls hl => ?_)
              obtain ⟨x9_27, ex9_27, hF⟩ := gS_some hF
              refine lv_iinc (v := x9_27) (lv' := [(9, .int x9_27), (8, .int x8_26), (7, .int x7_18), (0, .ref (gA X 8 0)), (1, .ref (gA X 8 2)), (2, .ref (gA X 8 3)), (3, .ref (gA X 8 5)), (4, .ref (gA X 8 6)), (5, .int x5), (6, .int x6)]) hx hb dL_end_101 hl (k := 9) rfl (by rw [ex9_27]; rfl) (by decide) rfl (fun ls hl => ?_)
              refine lv_goto (tgt := 23) hx hb dL_end_104 (by decide) ?_
              exact ih23 w x5 x6 x7_18 x8_26 x9_27 ls (lv_sub hl [3, 4, 5, 6, 7, 8, 9, 2, 1, 0] rfl) hF H locs hW hL
          have B_68 : ∀ (w : gWd) (x5 : Int32) (x6 : Int32) (x8 : Int32) (x9 : Int32) (xs0 : Int32)  (ls : Array Slot) (hl : lv_has ls 11 [(0, .ref (gA X 8 0)), (1, .ref (gA X 8 2)), (2, .ref (gA X 8 3)), (3, .ref (gA X 8 5)), (4, .ref (gA X 8 6)), (5, .int x5), (6, .int x6), (8, .int x8), (9, .int x9)]) (hF : F_L_end_68 (F_L_end_6 fu6) (F_L_end_23 (F_L_end_6 fu6) fu23) w x5 x6 x8 x9 xs0 = some (r, w')) (H : Heap) (locs : List Loc) (hW : gWo X 252 (gE X w) H) (hL : gLo X locs), W p l e rmL_end s m args below meth c H locs 0 0 (MQ below (gQi X r w') args s 0 0 (gFr X)) (F0 m 68 ls [.int xs0]) := by
            intro w x5 x6 x8 x9 xs0 ls hl hF H locs hW hL
            rw [F_L_end_68] at hF
            refine lv_iconst (v := 0) hx hb dL_end_68 (by decide) ?_
            exact B_69 w x5 x6 x8 x9 0 xs0 ls (hl) hF H locs hW hL
          intro w x5 x6 x7 x8 x9 ls hl hF H locs hW hL
          rw [F_L_end_23_s] at hF
          refine lv_iload hx hb dL_end_23 (lv_at hl 9 rfl) ?_
          refine lv_aload_n hx hb dL_end_25 rfl (lv_at hl 3 rfl) ?_
          refine lv_iconst (v := 1) hx hb dL_end_26 (by decide) ?_
          refine g_iald2 (k := 1) hx hb hK hW (gok_o (by decide)) (gad_lt (gok_o (by decide))) gE_O5 (gin (by decide)) (by decide) dL_end_27 ?_
          refine lv_icmp_ge (tgt := 107) hx hb dL_end_28 (by decide) (fun hc_4 => ?_) (fun hc_4 => ?_)
          · replace hF := gT hc_4 hF
            refine lv_aload_n hx hb dL_end_107 rfl (lv_at hl 1 rfl) ?_
            refine lv_iconst (v := 3) hx hb dL_end_108 (by decide) ?_
            refine lv_iload hx hb dL_end_109 (lv_at hl 6 rfl) ?_
            refine lv_imul hx hb dL_end_111 ?_
            refine lv_iconst (v := 1) hx hb dL_end_112 (by decide) ?_
            refine lv_iadd hx hb dL_end_113 ?_
            obtain ⟨hin_5, hF⟩ := gB_some hF
            obtain ⟨k_6, ek_6⟩ : ∃ k, k = Int32.toNatClampNeg (((3 * x6) + 1)) := ⟨_, rfl⟩
            rw [← ek_6] at hF
            refine g_iald2 (k := k_6) hx hb hK hW (gok_o (by decide)) (gad_lt (gok_o (by decide))) gE_O2 hin_5 ek_6.symm dL_end_114 ?_
            refine lv_iconst (v := 1) hx hb dL_end_115 (by decide) ?_
            refine lv_icmp_le (tgt := 227) hx hb dL_end_116 (by decide) (fun hc_7 => ?_) (fun hc_7 => ?_)
            · replace hF := gT hc_7 hF
              obtain ⟨x6_8, ex6_8, hF⟩ := gS_some hF
              refine lv_iinc (v := x6_8) (lv' := [(6, .int x6_8), (0, .ref (gA X 8 0)), (1, .ref (gA X 8 2)), (2, .ref (gA X 8 3)), (3, .ref (gA X 8 5)), (4, .ref (gA X 8 6)), (5, .int x5), (7, .int x7), (8, .int x8), (9, .int x9)]) hx hb dL_end_227 hl (k := 6) rfl (by rw [ex6_8]; rfl) (by decide) rfl (fun ls hl => ?_)
              refine lv_goto (tgt := 6) hx hb dL_end_230 (by decide) ?_
              exact ih6 w x5 x6_8 ls (lv_sub hl [1, 2, 3, 4, 5, 6, 0] rfl) hF H locs hW hL
            · replace hF := gF hc_7 hF
              refine lv_iload hx hb dL_end_119 (lv_at hl 7 rfl) ?_
              refine lv_iconst (v := 1) hx hb dL_end_121 (by decide) ?_
              refine lv_icmp_ne (tgt := 129) hx hb dL_end_122 (by decide) (fun hc_9 => ?_) (fun hc_9 => ?_)
              · replace hF := gF hc_9 hF
                refine lv_iconst (v := 0) hx hb dL_end_129 (by decide) ?_
                refine lv_istore (lv' := [(9, .int 0), (0, .ref (gA X 8 0)), (1, .ref (gA X 8 2)), (2, .ref (gA X 8 3)), (3, .ref (gA X 8 5)), (4, .ref (gA X 8 6)), (5, .int x5), (6, .int x6), (7, .int x7), (8, .int x8)]) hx hb dL_end_130 hl (by decide) rfl (fun ls hl => ?_)
                refine lv_iconst (v := 0) hx hb dL_end_132 (by decide) ?_
                refine lv_istore (lv' := [(10, .int 0), (9, .int 0), (0, .ref (gA X 8 0)), (1, .ref (gA X 8 2)), (2, .ref (gA X 8 3)), (3, .ref (gA X 8 5)), (4, .ref (gA X 8 6)), (5, .int x5), (6, .int x6), (7, .int x7), (8, .int x8)]) hx hb dL_end_133 hl (by decide) rfl (fun ls hl => ?_)
                exact L_135 gFU w x5 x6 x7 x8 0 0 ls (lv_sub hl [2, 3, 4, 5, 6, 7, 8, 9, 10, 1, 0] rfl) hF H locs hW hL
              · replace hF := gT hc_9 hF
                refine lv_iconst (v := 1) hx hb dL_end_125 (by decide) ?_
                refine lv_goto (tgt := 130) hx hb dL_end_126 (by decide) ?_
                refine lv_istore (lv' := [(9, .int 1), (0, .ref (gA X 8 0)), (1, .ref (gA X 8 2)), (2, .ref (gA X 8 3)), (3, .ref (gA X 8 5)), (4, .ref (gA X 8 6)), (5, .int x5), (6, .int x6), (7, .int x7), (8, .int x8)]) hx hb dL_end_130 hl (by decide) rfl (fun ls hl => ?_)
                refine lv_iconst (v := 0) hx hb dL_end_132 (by decide) ?_
                refine lv_istore (lv' := [(10, .int 0), (9, .int 1), (0, .ref (gA X 8 0)), (1, .ref (gA X 8 2)), (2, .ref (gA X 8 3)), (3, .ref (gA X 8 5)), (4, .ref (gA X 8 6)), (5, .int x5), (6, .int x6), (7, .int x7), (8, .int x8)]) hx hb dL_end_133 hl (by decide) rfl (fun ls hl => ?_)
                exact L_135 gFU w x5 x6 x7 x8 1 0 ls (lv_sub hl [2, 3, 4, 5, 6, 7, 8, 9, 10, 1, 0] rfl) hF H locs hW hL
          · replace hF := gF hc_4 hF
            refine lv_iload hx hb dL_end_31 (lv_at hl 7 rfl) ?_
            refine lv_aload_n hx hb dL_end_33 rfl (lv_at hl 1 rfl) ?_
            refine lv_iconst (v := 3) hx hb dL_end_34 (by decide) ?_
            refine lv_iload hx hb dL_end_35 (lv_at hl 9 rfl) ?_
            refine lv_imul hx hb dL_end_37 ?_
            refine lv_iconst (v := 1) hx hb dL_end_38 (by decide) ?_
            refine lv_iadd hx hb dL_end_39 ?_
            obtain ⟨hin_10, hF⟩ := gB_some hF
            obtain ⟨k_11, ek_11⟩ : ∃ k, k = Int32.toNatClampNeg (((3 * x9) + 1)) := ⟨_, rfl⟩
            rw [← ek_11] at hF
            refine g_iald2 (k := k_11) hx hb hK hW (gok_o (by decide)) (gad_lt (gok_o (by decide))) gE_O2 hin_10 ek_11.symm dL_end_40 ?_
            refine lv_iconst (v := 1) hx hb dL_end_41 (by decide) ?_
            refine lv_icmp_le (tgt := 68) hx hb dL_end_42 (by decide) (fun hc_12 => ?_) (fun hc_12 => ?_)
            · replace hF := gT hc_12 hF
              exact B_68 w x5 x6 x8 x9 x7 ls (lv_sub hl [0, 1, 2, 3, 4, 5, 6, 8, 9] rfl) hF H locs hW hL
            · replace hF := gF hc_12 hF
              refine lv_aload_n hx hb dL_end_45 rfl (lv_at hl 1 rfl) ?_
              refine lv_iconst (v := 3) hx hb dL_end_46 (by decide) ?_
              refine lv_iload hx hb dL_end_47 (lv_at hl 9 rfl) ?_
              refine lv_imul hx hb dL_end_49 ?_
              refine lv_iconst (v := 1) hx hb dL_end_50 (by decide) ?_
              refine lv_iadd hx hb dL_end_51 ?_
              obtain ⟨hin_13, hF⟩ := gB_some hF
              obtain ⟨k_14, ek_14⟩ : ∃ k, k = Int32.toNatClampNeg (((3 * x9) + 1)) := ⟨_, rfl⟩
              rw [← ek_14] at hF
              refine g_iald2 (k := k_14) hx hb hK hW (gok_o (by decide)) (gad_lt (gok_o (by decide))) gE_O2 hin_13 ek_14.symm dL_end_52 ?_
              refine lv_aload_n hx hb dL_end_53 rfl (lv_at hl 1 rfl) ?_
              refine lv_iconst (v := 3) hx hb dL_end_54 (by decide) ?_
              refine lv_iload hx hb dL_end_55 (lv_at hl 6 rfl) ?_
              refine lv_imul hx hb dL_end_57 ?_
              refine lv_iconst (v := 1) hx hb dL_end_58 (by decide) ?_
              refine lv_iadd hx hb dL_end_59 ?_
              obtain ⟨hin_15, hF⟩ := gB_some hF
              obtain ⟨k_16, ek_16⟩ : ∃ k, k = Int32.toNatClampNeg (((3 * x6) + 1)) := ⟨_, rfl⟩
              rw [← ek_16] at hF
              refine g_iald2 (k := k_16) hx hb hK hW (gok_o (by decide)) (gad_lt (gok_o (by decide))) gE_O2 hin_15 ek_16.symm dL_end_60 ?_
              refine lv_icmp_ge (tgt := 68) hx hb dL_end_61 (by decide) (fun hc_17 => ?_) (fun hc_17 => ?_)
              · replace hF := gT hc_17 hF
                exact B_68 w x5 x6 x8 x9 x7 ls (lv_sub hl [0, 1, 2, 3, 4, 5, 6, 8, 9] rfl) hF H locs hW hL
              · replace hF := gF hc_17 hF
                refine lv_iconst (v := 1) hx hb dL_end_64 (by decide) ?_
                refine lv_goto (tgt := 69) hx hb dL_end_65 (by decide) ?_
                exact B_69 w x5 x6 x8 x9 1 x7 ls (lv_sub hl [0, 1, 2, 3, 4, 5, 6, 8, 9] rfl) hF H locs hW hL
      intro w x5 x6 ls hl hF H locs hW hL
      rw [F_L_end_6_s] at hF
      refine lv_iload hx hb dL_end_6 (lv_at hl 6 rfl) ?_
      refine lv_aload_n hx hb dL_end_8 rfl (lv_at hl 3 rfl) ?_
      refine lv_iconst (v := 1) hx hb dL_end_9 (by decide) ?_
      refine g_iald2 (k := 1) hx hb hK hW (gok_o (by decide)) (gad_lt (gok_o (by decide))) gE_O5 (gin (by decide)) (by decide) dL_end_10 ?_
      refine lv_icmp_ge (tgt := 233) hx hb dL_end_11 (by decide) (fun hc_1 => ?_) (fun hc_1 => ?_)
      · replace hF := gT hc_1 hF
        refine lv_aload_n hx hb dL_end_233 rfl (lv_at hl 3 rfl) ?_
        refine lv_iconst (v := 0) hx hb dL_end_234 (by decide) ?_
        refine lv_iconst (v := 3) hx hb dL_end_235 (by decide) ?_
        obtain ⟨w_2, ew_2, hF⟩ := gS_some hF
        refine g_iast2 (k := 0) hx hb hK hW hL (gok_o (by decide)) (fun w => gE_O5 (w := w)) (gin (by decide)) (by decide) dL_end_236 (fun H locs hW hL => ?_)
        rw [← ew_2] at hW
        refine lv_aload_n hx hb dL_end_237 rfl (lv_at hl 3 rfl) ?_
        refine lv_iconst (v := 3) hx hb dL_end_238 (by decide) ?_
        refine lv_dup2_11 hx hb dL_end_239 rfl rfl ?_
        refine g_iald2 (k := 3) hx hb hK hW (gok_o (by decide)) (gad_lt (gok_o (by decide))) gE_O5 (gin (by decide)) (by decide) dL_end_240 ?_
        refine lv_iconst (v := 1) hx hb dL_end_241 (by decide) ?_
        refine lv_iadd hx hb dL_end_242 ?_
        obtain ⟨w_3, ew_3, hF⟩ := gS_some hF
        refine g_iast2 (k := 3) hx hb hK hW hL (gok_o (by decide)) (fun w => gE_O5 (w := w)) (gin (by decide)) (by decide) dL_end_243 (fun H locs hW hL => ?_)
        rw [← ew_3] at hW
        refine lv_iload hx hb dL_end_244 (lv_at hl 5 rfl) ?_
        exact g_ri hx hb hr hlocks (gW2 hF hW) hL (gI2 hF).1 dL_end_246
      · replace hF := gF hc_1 hF
        refine lv_iconst (v := 1) hx hb dL_end_14 (by decide) ?_
        refine lv_istore (lv' := [(7, .int 1), (0, .ref (gA X 8 0)), (1, .ref (gA X 8 2)), (2, .ref (gA X 8 3)), (3, .ref (gA X 8 5)), (4, .ref (gA X 8 6)), (5, .int x5), (6, .int x6)]) hx hb dL_end_15 hl (by decide) rfl (fun ls hl => ?_)
        refine lv_iconst (v := 0) hx hb dL_end_17 (by decide) ?_
        refine lv_istore (lv' := [(8, .int 0), (7, .int 1), (0, .ref (gA X 8 0)), (1, .ref (gA X 8 2)), (2, .ref (gA X 8 3)), (3, .ref (gA X 8 5)), (4, .ref (gA X 8 6)), (5, .int x5), (6, .int x6)]) hx hb dL_end_18 hl (by decide) rfl (fun ls hl => ?_)
        refine lv_iconst (v := 0) hx hb dL_end_20 (by decide) ?_
        refine lv_istore (lv' := [(9, .int 0), (8, .int 0), (7, .int 1), (0, .ref (gA X 8 0)), (1, .ref (gA X 8 2)), (2, .ref (gA X 8 3)), (3, .ref (gA X 8 5)), (4, .ref (gA X 8 6)), (5, .int x5), (6, .int x6)]) hx hb dL_end_21 hl (by decide) rfl (fun ls hl => ?_)
        exact L_23 gFU w x5 x6 1 0 0 ls (lv_sub hl [3, 4, 5, 6, 7, 8, 9, 2, 1, 0] rfl) hF H locs hW hL
  rw [F_L_end] at hF
  obtain ⟨locs, hlocs⟩ : ∃ locs : List Loc, locs = [] := ⟨_, rfl⟩
  rw [← hlocs] at hL ⊢
  refine lv_iconst (v := 0) hx hb dL_end_0 (by decide) ?_
  refine lv_istore (lv' := [(5, .int 0), (0, .ref (gA X 8 0)), (1, .ref (gA X 8 2)), (2, .ref (gA X 8 3)), (3, .ref (gA X 8 5)), (4, .ref (gA X 8 6))]) hx hb dL_end_1 hl (by decide) rfl (fun ls hl => ?_)
  refine lv_iconst (v := 0) hx hb dL_end_3 (by decide) ?_
  refine lv_istore (lv' := [(6, .int 0), (5, .int 0), (0, .ref (gA X 8 0)), (1, .ref (gA X 8 2)), (2, .ref (gA X 8 3)), (3, .ref (gA X 8 5)), (4, .ref (gA X 8 6))]) hx hb dL_end_4 hl (by decide) rfl (fun ls hl => ?_)
  exact L_6 gFU w 0 0 ls (lv_sub hl [2, 3, 4, 5, 6, 1, 0] rfl) hF H locs hW hL
abbrev rmL_next : Room := { frames := 0, cells := 0, slots := 0, locals := 0 }
abbrev wsL_next : List Cond := gws yL_next cL_next 9 (some .int)
set_option maxHeartbeats 4000000 in
set_option maxRecDepth 100000 in
theorem c_L_next (l : Launch) (X : gX) (w : gWd)  (r : Int32) (w' : gWd) (hF : F_L_next w = some (r, w')) : Met l yL_next wsL_next rmL_next (gPc X [.ref (gA X 8 0), .ref (gA X 8 1), .ref (gA X 8 2), .ref (gA X 8 4), .ref (gA X 8 5)] w) (gQi X r w') 0 0 (gFr X) := by
  refine g_ofW (cc := cL_next) (maxL := 9) (ret := (some .int)) (by decide) rfl (Nat.le_of_ble_eq_true rfl) (fun p e s m args below meth c ls H hx hb hr hts hown hlocks hml hK hl hW => ?_)
  have hl : lv_has ls 9 [(0, .ref (gA X 8 0)), (1, .ref (gA X 8 1)), (2, .ref (gA X 8 2)), (3, .ref (gA X 8 4)), (4, .ref (gA X 8 5))] := hl
  have hown : s.vm.findClass RL = some m.cls := hown
  have hL : gLo X [] := gLo_nil
  show W p l e rmL_next s m args below meth c H [] 0 0 _ _
  have L_207 : ∀ (fu : Nat) (w : gWd) (x5 : Int32) (x6 : Int32)  (ls : Array Slot) (hl : lv_has ls 9 [(3, .ref (gA X 8 4)), (4, .ref (gA X 8 5)), (5, .int x5), (6, .int x6)]) (hF : F_L_next_207 fu w x5 x6 = some (r, w')) (H : Heap) (locs : List Loc) (hW : gWo X 252 (gE X w) H) (hL : gLo X locs), W p l e rmL_next s m args below meth c H locs 0 0 (MQ below (gQi X r w') args s 0 0 (gFr X)) (F0 m 207 ls []) := by
    intro fu
    induction fu with
    | zero => intro w x5 x6 ls hl hF H locs hW hL; rw [F_L_next_207_z] at hF; cases hF
    | succ fu207 ih207 =>
      intro w x5 x6 ls hl hF H locs hW hL
      rw [F_L_next_207_s] at hF
      refine lv_iload hx hb dL_next_207 (lv_at hl 3 rfl) ?_
      refine lv_iconst (v := 4) hx hb dL_next_209 (by decide) ?_
      refine lv_icmp_ge (tgt := 224) hx hb dL_next_210 (by decide) (fun hc_43 => ?_) (fun hc_43 => ?_)
      · replace hF := gT hc_43 hF
        refine lv_aload hx hb dL_next_224 (lv_at hl 1 rfl) ?_
        refine lv_iconst (v := 0) hx hb dL_next_226 (by decide) ?_
        refine lv_iconst (v := 0) hx hb dL_next_227 (by decide) ?_
        obtain ⟨w_44, ew_44, hF⟩ := gS_some hF
        refine g_iast2 (k := 0) hx hb hK hW hL (gok_o (by decide)) (fun w => gE_O5 (w := w)) (gin (by decide)) (by decide) dL_next_228 (fun H locs hW hL => ?_)
        rw [← ew_44] at hW
        refine lv_aload hx hb dL_next_229 (lv_at hl 1 rfl) ?_
        refine lv_iconst (v := 2) hx hb dL_next_231 (by decide) ?_
        refine lv_iconst (v := 0) hx hb dL_next_232 (by decide) ?_
        obtain ⟨w_45, ew_45, hF⟩ := gS_some hF
        refine g_iast2 (k := 2) hx hb hK hW hL (gok_o (by decide)) (fun w => gE_O5 (w := w)) (gin (by decide)) (by decide) dL_next_233 (fun H locs hW hL => ?_)
        rw [← ew_45] at hW
        refine lv_iload hx hb dL_next_234 (lv_at hl 2 rfl) ?_
        exact g_ri hx hb hr hlocks (gW2 hF hW) hL (gI2 hF).1 dL_next_236
      · replace hF := gF hc_43 hF
        refine lv_aload_n hx hb dL_next_213 rfl (lv_at hl 0 rfl) ?_
        refine lv_iload hx hb dL_next_214 (lv_at hl 3 rfl) ?_
        refine lv_iconst (v := 0) hx hb dL_next_216 (by decide) ?_
        obtain ⟨hin_46, hF⟩ := gB_some hF
        obtain ⟨k_47, ek_47⟩ : ∃ k, k = Int32.toNatClampNeg x6 := ⟨_, rfl⟩
        rw [← ek_47] at hF
        obtain ⟨w_48, ew_48, hF⟩ := gS_some hF
        refine g_iast2 (k := k_47) hx hb hK hW hL (gok_o (by decide)) (fun w => gE_O4 (w := w)) hin_46 ek_47.symm dL_next_217 (fun H locs hW hL => ?_)
        rw [← ew_48] at hW
        obtain ⟨x6_49, ex6_49, hF⟩ := gS_some hF
        refine lv_iinc (v := x6_49) (lv' := [(6, .int x6_49), (3, .ref (gA X 8 4)), (4, .ref (gA X 8 5)), (5, .int x5)]) hx hb dL_next_218 hl (k := 3) rfl (by rw [ex6_49]; rfl) (by decide) rfl (fun ls hl => ?_)
        refine lv_goto (tgt := 207) hx hb dL_next_221 (by decide) ?_
        exact ih207 w_48 x5 x6_49 ls (lv_sub hl [1, 2, 3, 0] rfl) hF H locs hW hL
  have L_6 : ∀ (fu : Nat) (w : gWd) (x5 : Int32) (x6 : Int32)  (ls : Array Slot) (hl : lv_has ls 9 [(0, .ref (gA X 8 0)), (1, .ref (gA X 8 1)), (2, .ref (gA X 8 2)), (3, .ref (gA X 8 4)), (4, .ref (gA X 8 5)), (5, .int x5), (6, .int x6)]) (hF : F_L_next_6 fu w x5 x6 = some (r, w')) (H : Heap) (locs : List Loc) (hW : gWo X 252 (gE X w) H) (hL : gLo X locs), W p l e rmL_next s m args below meth c H locs 0 0 (MQ below (gQi X r w') args s 0 0 (gFr X)) (F0 m 6 ls []) := by
    intro fu
    induction fu with
    | zero => intro w x5 x6 ls hl hF H locs hW hL; rw [F_L_next_6_z] at hF; cases hF
    | succ fu6 ih6 =>
      have L_171 : ∀ (fu : Nat) (w : gWd) (x5 : Int32) (x6 : Int32) (x8 : Int32)  (ls : Array Slot) (hl : lv_has ls 9 [(0, .ref (gA X 8 0)), (1, .ref (gA X 8 1)), (2, .ref (gA X 8 2)), (3, .ref (gA X 8 4)), (4, .ref (gA X 8 5)), (5, .int x5), (6, .int x6), (8, .int x8)]) (hF : F_L_next_171 (F_L_next_6 fu6) fu w x5 x6 x8 = some (r, w')) (H : Heap) (locs : List Loc) (hW : gWo X 252 (gE X w) H) (hL : gLo X locs), W p l e rmL_next s m args below meth c H locs 0 0 (MQ below (gQi X r w') args s 0 0 (gFr X)) (F0 m 171 ls []) := by
        intro fu
        induction fu with
        | zero => intro w x5 x6 x8 ls hl hF H locs hW hL; rw [F_L_next_171_z] at hF; cases hF
        | succ fu171 ih171 =>
          intro w x5 x6 x8 ls hl hF H locs hW hL
          rw [F_L_next_171_s] at hF
          refine lv_iload hx hb dL_next_171 (lv_at hl 7 rfl) ?_
          refine lv_iconst (v := 3) hx hb dL_next_173 (by decide) ?_
          refine lv_iload hx hb dL_next_174 (lv_at hl 6 rfl) ?_
          refine lv_imul hx hb dL_next_176 ?_
          refine lv_iconst (v := 3) hx hb dL_next_177 (by decide) ?_
          refine lv_iadd hx hb dL_next_178 ?_
          refine lv_icmp_ge (tgt := 198) hx hb dL_next_179 (by decide) (fun hc_34 => ?_) (fun hc_34 => ?_)
          · replace hF := gT hc_34 hF
            obtain ⟨x6_35, ex6_35, hF⟩ := gS_some hF
            refine lv_iinc (v := x6_35) (lv' := [(6, .int x6_35), (0, .ref (gA X 8 0)), (1, .ref (gA X 8 1)), (2, .ref (gA X 8 2)), (3, .ref (gA X 8 4)), (4, .ref (gA X 8 5)), (5, .int x5), (8, .int x8)]) hx hb dL_next_198 hl (k := 6) rfl (by rw [ex6_35]; rfl) (by decide) rfl (fun ls hl => ?_)
            refine lv_goto (tgt := 6) hx hb dL_next_201 (by decide) ?_
            exact ih6 w x5 x6_35 ls (lv_sub hl [1, 2, 3, 4, 5, 6, 0] rfl) hF H locs hW hL
          · replace hF := gF hc_34 hF
            refine lv_aload_n hx hb dL_next_182 rfl (lv_at hl 1 rfl) ?_
            refine lv_iload hx hb dL_next_183 (lv_at hl 7 rfl) ?_
            refine lv_iconst (v := 0) hx hb dL_next_185 (by decide) ?_
            obtain ⟨hin_36, hF⟩ := gB_some hF
            obtain ⟨k_37, ek_37⟩ : ∃ k, k = Int32.toNatClampNeg x8 := ⟨_, rfl⟩
            rw [← ek_37] at hF
            obtain ⟨w_38, ew_38, hF⟩ := gS_some hF
            refine g_iast2 (k := k_37) hx hb hK hW hL (gok_o (by decide)) (fun w => gE_O1 (w := w)) hin_36 ek_37.symm dL_next_186 (fun H locs hW hL => ?_)
            rw [← ew_38] at hW
            refine lv_aload_n hx hb dL_next_187 rfl (lv_at hl 2 rfl) ?_
            refine lv_iload hx hb dL_next_188 (lv_at hl 7 rfl) ?_
            refine lv_iconst (v := 0) hx hb dL_next_190 (by decide) ?_
            obtain ⟨hin_39, hF⟩ := gB_some hF
            obtain ⟨k_40, ek_40⟩ : ∃ k, k = Int32.toNatClampNeg x8 := ⟨_, rfl⟩
            rw [← ek_40] at hF
            obtain ⟨w_41, ew_41, hF⟩ := gS_some hF
            refine g_iast2 (k := k_40) hx hb hK hW hL (gok_o (by decide)) (fun w => gE_O2 (w := w)) hin_39 ek_40.symm dL_next_191 (fun H locs hW hL => ?_)
            rw [← ew_41] at hW
            obtain ⟨x8_42, ex8_42, hF⟩ := gS_some hF
            refine lv_iinc (v := x8_42) (lv' := [(8, .int x8_42), (0, .ref (gA X 8 0)), (1, .ref (gA X 8 1)), (2, .ref (gA X 8 2)), (3, .ref (gA X 8 4)), (4, .ref (gA X 8 5)), (5, .int x5), (6, .int x6)]) hx hb dL_next_192 hl (k := 7) rfl (by rw [ex8_42]; rfl) (by decide) rfl (fun ls hl => ?_)
            refine lv_goto (tgt := 171) hx hb dL_next_195 (by decide) ?_
            exact ih171 w_41 x5 x6 x8_42 ls (lv_sub hl [1, 2, 3, 4, 5, 6, 7, 0] rfl) hF H locs hW hL
      have B_143 : ∀ (w : gWd) (x6 : Int32) (x7 : Int32) (xs0 : Int32) (xs1 : Int32)  (ls : Array Slot) (hl : lv_has ls 9 [(0, .ref (gA X 8 0)), (1, .ref (gA X 8 1)), (2, .ref (gA X 8 2)), (3, .ref (gA X 8 4)), (4, .ref (gA X 8 5)), (6, .int x6), (7, .int x7)]) (hF : F_L_next_143 (F_L_next_6 fu6) w x6 x7 xs0 xs1 = some (r, w')) (H : Heap) (locs : List Loc) (hW : gWo X 252 (gE X w) H) (hL : gLo X locs), W p l e rmL_next s m args below meth c H locs 0 0 (MQ below (gQi X r w') args s 0 0 (gFr X)) (F0 m 143 ls [.int xs0, .int xs1]) := by
        intro w x6 x7 xs0 xs1 ls hl hF H locs hW hL
        rw [F_L_next_143] at hF
        refine lv_iadd hx hb dL_next_143 ?_
        obtain ⟨x5_26, ex5_26, hF⟩ := gS_some hF
        refine g_top ex5_26 ?_
        refine lv_istore (lv' := [(5, .int x5_26), (0, .ref (gA X 8 0)), (1, .ref (gA X 8 1)), (2, .ref (gA X 8 2)), (3, .ref (gA X 8 4)), (4, .ref (gA X 8 5)), (6, .int x6), (7, .int x7)]) hx hb dL_next_144 hl (by decide) rfl (fun ls hl => ?_)
        refine lv_aload_n hx hb dL_next_146 rfl (lv_at hl 1 rfl) ?_
        refine lv_iconst (v := 3) hx hb dL_next_147 (by decide) ?_
        refine lv_iload hx hb dL_next_148 (lv_at hl 6 rfl) ?_
        refine lv_imul hx hb dL_next_150 ?_
        refine lv_iconst (v := 1) hx hb dL_next_151 (by decide) ?_
        refine lv_iadd hx hb dL_next_152 ?_
        refine lv_iload hx hb dL_next_153 (lv_at hl 7 rfl) ?_
        obtain ⟨hin_27, hF⟩ := gB_some hF
        obtain ⟨k_28, ek_28⟩ : ∃ k, k = Int32.toNatClampNeg (((3 * x6) + 1)) := ⟨_, rfl⟩
        rw [← ek_28] at hF
        obtain ⟨w_29, ew_29, hF⟩ := gS_some hF
        refine g_iast2 (k := k_28) hx hb hK hW hL (gok_o (by decide)) (fun w => gE_O0 (w := w)) hin_27 ek_28.symm dL_next_155 (fun H locs hW hL => ?_)
        rw [← ew_29] at hW
        refine lv_aload_n hx hb dL_next_156 rfl (lv_at hl 1 rfl) ?_
        refine lv_iconst (v := 3) hx hb dL_next_157 (by decide) ?_
        refine lv_iload hx hb dL_next_158 (lv_at hl 6 rfl) ?_
        refine lv_imul hx hb dL_next_160 ?_
        refine lv_iconst (v := 2) hx hb dL_next_161 (by decide) ?_
        refine lv_iadd hx hb dL_next_162 ?_
        refine lv_iconst (v := 0) hx hb dL_next_163 (by decide) ?_
        obtain ⟨hin_30, hF⟩ := gB_some hF
        obtain ⟨k_31, ek_31⟩ : ∃ k, k = Int32.toNatClampNeg (((3 * x6) + 2)) := ⟨_, rfl⟩
        rw [← ek_31] at hF
        obtain ⟨w_32, ew_32, hF⟩ := gS_some hF
        refine g_iast2 (k := k_31) hx hb hK hW hL (gok_o (by decide)) (fun w => gE_O0 (w := w)) hin_30 ek_31.symm dL_next_164 (fun H locs hW hL => ?_)
        rw [← ew_32] at hW
        refine lv_iconst (v := 3) hx hb dL_next_165 (by decide) ?_
        refine lv_iload hx hb dL_next_166 (lv_at hl 6 rfl) ?_
        refine lv_imul hx hb dL_next_168 ?_
        obtain ⟨x8_33, ex8_33, hF⟩ := gS_some hF
        refine g_top ex8_33 ?_
        refine lv_istore (lv' := [(8, .int x8_33), (5, .int x5_26), (0, .ref (gA X 8 0)), (1, .ref (gA X 8 1)), (2, .ref (gA X 8 2)), (3, .ref (gA X 8 4)), (4, .ref (gA X 8 5)), (6, .int x6), (7, .int x7)]) hx hb dL_next_169 hl (by decide) rfl (fun ls hl => ?_)
        exact L_171 gFU w_32 x5_26 x6 x8_33 ls (lv_sub hl [2, 3, 4, 5, 6, 1, 7, 0] rfl) hF H locs hW hL
      have B_121 : ∀ (w : gWd) (x5 : Int32) (x6 : Int32) (xs0 : Int32)  (ls : Array Slot) (hl : lv_has ls 9 [(0, .ref (gA X 8 0)), (1, .ref (gA X 8 1)), (2, .ref (gA X 8 2)), (3, .ref (gA X 8 4)), (4, .ref (gA X 8 5)), (5, .int x5), (6, .int x6)]) (hF : F_L_next_121 (F_L_next_6 fu6) w x5 x6 xs0 = some (r, w')) (H : Heap) (locs : List Loc) (hW : gWo X 252 (gE X w) H) (hL : gLo X locs), W p l e rmL_next s m args below meth c H locs 0 0 (MQ below (gQi X r w') args s 0 0 (gFr X)) (F0 m 121 ls [.int xs0]) := by
        intro w x5 x6 xs0 ls hl hF H locs hW hL
        rw [F_L_next_121] at hF
        refine lv_istore (lv' := [(7, .int xs0), (0, .ref (gA X 8 0)), (1, .ref (gA X 8 1)), (2, .ref (gA X 8 2)), (3, .ref (gA X 8 4)), (4, .ref (gA X 8 5)), (5, .int x5), (6, .int x6)]) hx hb dL_next_121 hl (by decide) rfl (fun ls hl => ?_)
        refine lv_iload hx hb dL_next_123 (lv_at hl 6 rfl) ?_
        refine lv_iload hx hb dL_next_125 (lv_at hl 0 rfl) ?_
        refine lv_aload_n hx hb dL_next_127 rfl (lv_at hl 1 rfl) ?_
        refine lv_iconst (v := 3) hx hb dL_next_128 (by decide) ?_
        refine lv_iload hx hb dL_next_129 (lv_at hl 7 rfl) ?_
        refine lv_imul hx hb dL_next_131 ?_
        refine lv_iconst (v := 1) hx hb dL_next_132 (by decide) ?_
        refine lv_iadd hx hb dL_next_133 ?_
        obtain ⟨hin_23, hF⟩ := gB_some hF
        obtain ⟨k_24, ek_24⟩ : ∃ k, k = Int32.toNatClampNeg (((3 * x6) + 1)) := ⟨_, rfl⟩
        rw [← ek_24] at hF
        refine g_iald2 (k := k_24) hx hb hK hW (gok_o (by decide)) (gad_lt (gok_o (by decide))) gE_O0 hin_23 ek_24.symm dL_next_134 ?_
        refine lv_icmp_ne (tgt := 142) hx hb dL_next_135 (by decide) (fun hc_25 => ?_) (fun hc_25 => ?_)
        · replace hF := gF hc_25 hF
          refine lv_iconst (v := 1) hx hb dL_next_142 (by decide) ?_
          exact B_143 w x6 xs0 1 x5 ls (lv_sub hl [1, 2, 3, 4, 5, 7, 0] rfl) hF H locs hW hL
        · replace hF := gT hc_25 hF
          refine lv_iconst (v := 0) hx hb dL_next_138 (by decide) ?_
          refine lv_goto (tgt := 143) hx hb dL_next_139 (by decide) ?_
          exact B_143 w x6 xs0 0 x5 ls (lv_sub hl [1, 2, 3, 4, 5, 7, 0] rfl) hF H locs hW hL
      have B_106 : ∀ (w : gWd) (x5 : Int32) (x6 : Int32)  (ls : Array Slot) (hl : lv_has ls 9 [(0, .ref (gA X 8 0)), (1, .ref (gA X 8 1)), (2, .ref (gA X 8 2)), (3, .ref (gA X 8 4)), (4, .ref (gA X 8 5)), (5, .int x5), (6, .int x6)]) (hF : F_L_next_106 (F_L_next_6 fu6) w x5 x6 = some (r, w')) (H : Heap) (locs : List Loc) (hW : gWo X 252 (gE X w) H) (hL : gLo X locs), W p l e rmL_next s m args below meth c H locs 0 0 (MQ below (gQi X r w') args s 0 0 (gFr X)) (F0 m 106 ls []) := by
        intro w x5 x6 ls hl hF H locs hW hL
        rw [F_L_next_106] at hF
        refine lv_aload_n hx hb dL_next_106 rfl (lv_at hl 2 rfl) ?_
        refine lv_iconst (v := 3) hx hb dL_next_107 (by decide) ?_
        refine lv_iload hx hb dL_next_108 (lv_at hl 6 rfl) ?_
        refine lv_imul hx hb dL_next_110 ?_
        refine lv_iconst (v := 1) hx hb dL_next_111 (by decide) ?_
        refine lv_iadd hx hb dL_next_112 ?_
        obtain ⟨hin_21, hF⟩ := gB_some hF
        obtain ⟨k_22, ek_22⟩ : ∃ k, k = Int32.toNatClampNeg (((3 * x6) + 1)) := ⟨_, rfl⟩
        rw [← ek_22] at hF
        refine g_iald2 (k := k_22) hx hb hK hW (gok_o (by decide)) (gad_lt (gok_o (by decide))) gE_O2 hin_21 ek_22.symm dL_next_113 ?_
        refine lv_iconst (v := 1) hx hb dL_next_114 (by decide) ?_
        refine lv_isub hx hb dL_next_115 ?_
        refine lv_goto (tgt := 121) hx hb dL_next_116 (by decide) ?_
        exact B_121 w x5 x6 (((w 8 2 k_22) - 1)) ls (hl) hF H locs hW hL
      have B_119 : ∀ (w : gWd) (x5 : Int32) (x6 : Int32) (x7 : Int32)  (ls : Array Slot) (hl : lv_has ls 9 [(0, .ref (gA X 8 0)), (1, .ref (gA X 8 1)), (2, .ref (gA X 8 2)), (3, .ref (gA X 8 4)), (4, .ref (gA X 8 5)), (5, .int x5), (6, .int x6), (7, .int x7)]) (hF : F_L_next_119 (F_L_next_6 fu6) w x5 x6 x7 = some (r, w')) (H : Heap) (locs : List Loc) (hW : gWo X 252 (gE X w) H) (hL : gLo X locs), W p l e rmL_next s m args below meth c H locs 0 0 (MQ below (gQi X r w') args s 0 0 (gFr X)) (F0 m 119 ls []) := by
        intro w x5 x6 x7 ls hl hF H locs hW hL
        rw [F_L_next_119] at hF
        refine lv_iload hx hb dL_next_119 (lv_at hl 7 rfl) ?_
        exact B_121 w x5 x6 x7 ls (lv_sub hl [0, 1, 2, 3, 4, 5, 6] rfl) hF H locs hW hL
      have B_72 : ∀ (w : gWd) (x5 : Int32) (x6 : Int32) (xs0 : Int32)  (ls : Array Slot) (hl : lv_has ls 9 [(0, .ref (gA X 8 0)), (1, .ref (gA X 8 1)), (2, .ref (gA X 8 2)), (3, .ref (gA X 8 4)), (4, .ref (gA X 8 5)), (5, .int x5), (6, .int x6)]) (hF : F_L_next_72 (F_L_next_6 fu6) w x5 x6 xs0 = some (r, w')) (H : Heap) (locs : List Loc) (hW : gWo X 252 (gE X w) H) (hL : gLo X locs), W p l e rmL_next s m args below meth c H locs 0 0 (MQ below (gQi X r w') args s 0 0 (gFr X)) (F0 m 72 ls [.int xs0]) := by
        intro w x5 x6 xs0 ls hl hF H locs hW hL
        rw [F_L_next_72] at hF
        refine lv_istore (lv' := [(7, .int xs0), (0, .ref (gA X 8 0)), (1, .ref (gA X 8 1)), (2, .ref (gA X 8 2)), (3, .ref (gA X 8 4)), (4, .ref (gA X 8 5)), (5, .int x5), (6, .int x6)]) hx hb dL_next_72 hl (by decide) rfl (fun ls hl => ?_)
        refine lv_aload_n hx hb dL_next_74 rfl (lv_at hl 3 rfl) ?_
        refine lv_iconst (v := 3) hx hb dL_next_75 (by decide) ?_
        refine lv_iload hx hb dL_next_76 (lv_at hl 7 rfl) ?_
        refine lv_imul hx hb dL_next_78 ?_
        refine lv_iconst (v := 1) hx hb dL_next_79 (by decide) ?_
        refine lv_iadd hx hb dL_next_80 ?_
        obtain ⟨hin_14, hF⟩ := gB_some hF
        obtain ⟨k_15, ek_15⟩ : ∃ k, k = Int32.toNatClampNeg (((3 * x6) + 1)) := ⟨_, rfl⟩
        rw [← ek_15] at hF
        refine g_iald2 (k := k_15) hx hb hK hW (gok_o (by decide)) (gad_lt (gok_o (by decide))) gE_O2 hin_14 ek_15.symm dL_next_81 ?_
        refine lv_iconst (v := 1) hx hb dL_next_82 (by decide) ?_
        refine lv_icmp_le (tgt := 119) hx hb dL_next_83 (by decide) (fun hc_16 => ?_) (fun hc_16 => ?_)
        · replace hF := gT hc_16 hF
          exact B_119 w x5 x6 xs0 ls (lv_sub hl [1, 2, 3, 4, 5, 6, 7, 0] rfl) hF H locs hW hL
        · replace hF := gF hc_16 hF
          refine lv_iload hx hb dL_next_86 (lv_at hl 0 rfl) ?_
          refine lv_if_eq (tgt := 106) hx hb dL_next_88 (by decide) (fun hc_17 => ?_) (fun hc_17 => ?_)
          · replace hF := gT hc_17 hF
            exact B_106 w x5 x6 ls (lv_sub hl [1, 2, 3, 4, 5, 6, 7] rfl) hF H locs hW hL
          · replace hF := gF hc_17 hF
            refine lv_aload_n hx hb dL_next_91 rfl (lv_at hl 3 rfl) ?_
            refine lv_iconst (v := 3) hx hb dL_next_92 (by decide) ?_
            refine lv_iload hx hb dL_next_93 (lv_at hl 7 rfl) ?_
            refine lv_imul hx hb dL_next_95 ?_
            refine lv_iconst (v := 1) hx hb dL_next_96 (by decide) ?_
            refine lv_iadd hx hb dL_next_97 ?_
            obtain ⟨hin_18, hF⟩ := gB_some hF
            obtain ⟨k_19, ek_19⟩ : ∃ k, k = Int32.toNatClampNeg (((3 * x6) + 1)) := ⟨_, rfl⟩
            rw [← ek_19] at hF
            refine g_iald2 (k := k_19) hx hb hK hW (gok_o (by decide)) (gad_lt (gok_o (by decide))) gE_O2 hin_18 ek_19.symm dL_next_98 ?_
            refine lv_iconst (v := 1) hx hb dL_next_99 (by decide) ?_
            refine lv_isub hx hb dL_next_100 ?_
            refine lv_iload hx hb dL_next_101 (lv_at hl 0 rfl) ?_
            refine lv_icmp_ge (tgt := 119) hx hb dL_next_103 (by decide) (fun hc_20 => ?_) (fun hc_20 => ?_)
            · replace hF := gT hc_20 hF
              exact B_119 w x5 x6 xs0 ls (lv_sub hl [1, 2, 3, 4, 5, 6, 7, 0] rfl) hF H locs hW hL
            · replace hF := gF hc_20 hF
              exact B_106 w x5 x6 ls (lv_sub hl [1, 2, 3, 4, 5, 6, 7] rfl) hF H locs hW hL
      have B_57 : ∀ (w : gWd) (x5 : Int32) (x6 : Int32)  (ls : Array Slot) (hl : lv_has ls 9 [(0, .ref (gA X 8 0)), (1, .ref (gA X 8 1)), (2, .ref (gA X 8 2)), (3, .ref (gA X 8 4)), (4, .ref (gA X 8 5)), (5, .int x5), (6, .int x6)]) (hF : F_L_next_57 (F_L_next_6 fu6) w x5 x6 = some (r, w')) (H : Heap) (locs : List Loc) (hW : gWo X 252 (gE X w) H) (hL : gLo X locs), W p l e rmL_next s m args below meth c H locs 0 0 (MQ below (gQi X r w') args s 0 0 (gFr X)) (F0 m 57 ls []) := by
        intro w x5 x6 ls hl hF H locs hW hL
        rw [F_L_next_57] at hF
        refine lv_aload_n hx hb dL_next_57 rfl (lv_at hl 1 rfl) ?_
        refine lv_iconst (v := 3) hx hb dL_next_58 (by decide) ?_
        refine lv_iload hx hb dL_next_59 (lv_at hl 6 rfl) ?_
        refine lv_imul hx hb dL_next_61 ?_
        refine lv_iconst (v := 2) hx hb dL_next_62 (by decide) ?_
        refine lv_iadd hx hb dL_next_63 ?_
        obtain ⟨hin_12, hF⟩ := gB_some hF
        obtain ⟨k_13, ek_13⟩ : ∃ k, k = Int32.toNatClampNeg (((3 * x6) + 2)) := ⟨_, rfl⟩
        rw [← ek_13] at hF
        refine g_iald2 (k := k_13) hx hb hK hW (gok_o (by decide)) (gad_lt (gok_o (by decide))) gE_O1 hin_12 ek_13.symm dL_next_64 ?_
        refine lv_iconst (v := 1) hx hb dL_next_65 (by decide) ?_
        refine lv_isub hx hb dL_next_66 ?_
        refine lv_goto (tgt := 72) hx hb dL_next_67 (by decide) ?_
        exact B_72 w x5 x6 (((w 8 1 k_13) - 1)) ls (hl) hF H locs hW hL
      have B_70 : ∀ (w : gWd) (x5 : Int32) (x6 : Int32) (x7 : Int32)  (ls : Array Slot) (hl : lv_has ls 9 [(0, .ref (gA X 8 0)), (1, .ref (gA X 8 1)), (2, .ref (gA X 8 2)), (3, .ref (gA X 8 4)), (4, .ref (gA X 8 5)), (5, .int x5), (6, .int x6), (7, .int x7)]) (hF : F_L_next_70 (F_L_next_6 fu6) w x5 x6 x7 = some (r, w')) (H : Heap) (locs : List Loc) (hW : gWo X 252 (gE X w) H) (hL : gLo X locs), W p l e rmL_next s m args below meth c H locs 0 0 (MQ below (gQi X r w') args s 0 0 (gFr X)) (F0 m 70 ls []) := by
        intro w x5 x6 x7 ls hl hF H locs hW hL
        rw [F_L_next_70] at hF
        refine lv_iload hx hb dL_next_70 (lv_at hl 7 rfl) ?_
        exact B_72 w x5 x6 x7 ls (lv_sub hl [0, 1, 2, 3, 4, 5, 6] rfl) hF H locs hW hL
      intro w x5 x6 ls hl hF H locs hW hL
      rw [F_L_next_6_s] at hF
      refine lv_iload hx hb dL_next_6 (lv_at hl 6 rfl) ?_
      refine lv_aload hx hb dL_next_8 (lv_at hl 4 rfl) ?_
      refine lv_iconst (v := 1) hx hb dL_next_10 (by decide) ?_
      refine g_iald2 (k := 1) hx hb hK hW (gok_o (by decide)) (gad_lt (gok_o (by decide))) gE_O5 (gin (by decide)) (by decide) dL_next_11 ?_
      refine lv_icmp_ge (tgt := 204) hx hb dL_next_12 (by decide) (fun hc_1 => ?_) (fun hc_1 => ?_)
      · replace hF := gT hc_1 hF
        refine lv_iconst (v := 0) hx hb dL_next_204 (by decide) ?_
        refine lv_istore (lv' := [(6, .int 0), (0, .ref (gA X 8 0)), (1, .ref (gA X 8 1)), (2, .ref (gA X 8 2)), (3, .ref (gA X 8 4)), (4, .ref (gA X 8 5)), (5, .int x5)]) hx hb dL_next_205 hl (by decide) rfl (fun ls hl => ?_)
        exact L_207 gFU w x5 0 ls (lv_sub hl [4, 5, 6, 0] rfl) hF H locs hW hL
      · replace hF := gF hc_1 hF
        refine lv_aload_n hx hb dL_next_15 rfl (lv_at hl 0 rfl) ?_
        refine lv_iconst (v := 3) hx hb dL_next_16 (by decide) ?_
        refine lv_iload hx hb dL_next_17 (lv_at hl 6 rfl) ?_
        refine lv_imul hx hb dL_next_19 ?_
        refine lv_iconst (v := 1) hx hb dL_next_20 (by decide) ?_
        refine lv_iadd hx hb dL_next_21 ?_
        obtain ⟨hin_2, hF⟩ := gB_some hF
        obtain ⟨k_3, ek_3⟩ : ∃ k, k = Int32.toNatClampNeg (((3 * x6) + 1)) := ⟨_, rfl⟩
        rw [← ek_3] at hF
        refine g_iald2 (k := k_3) hx hb hK hW (gok_o (by decide)) (gad_lt (gok_o (by decide))) gE_O0 hin_2 ek_3.symm dL_next_22 ?_
        obtain ⟨x7_4, ex7_4, hF⟩ := gS_some hF
        refine g_top ex7_4 ?_
        refine lv_istore (lv' := [(7, .int x7_4), (0, .ref (gA X 8 0)), (1, .ref (gA X 8 1)), (2, .ref (gA X 8 2)), (3, .ref (gA X 8 4)), (4, .ref (gA X 8 5)), (5, .int x5), (6, .int x6)]) hx hb dL_next_23 hl (by decide) rfl (fun ls hl => ?_)
        refine lv_aload_n hx hb dL_next_25 rfl (lv_at hl 2 rfl) ?_
        refine lv_iconst (v := 3) hx hb dL_next_26 (by decide) ?_
        refine lv_iload hx hb dL_next_27 (lv_at hl 7 rfl) ?_
        refine lv_imul hx hb dL_next_29 ?_
        refine lv_iconst (v := 2) hx hb dL_next_30 (by decide) ?_
        refine lv_iadd hx hb dL_next_31 ?_
        obtain ⟨hin_5, hF⟩ := gB_some hF
        obtain ⟨k_6, ek_6⟩ : ∃ k, k = Int32.toNatClampNeg (((3 * x6) + 2)) := ⟨_, rfl⟩
        rw [← ek_6] at hF
        refine g_iald2 (k := k_6) hx hb hK hW (gok_o (by decide)) (gad_lt (gok_o (by decide))) gE_O1 hin_5 ek_6.symm dL_next_32 ?_
        refine lv_iconst (v := 1) hx hb dL_next_33 (by decide) ?_
        refine lv_icmp_le (tgt := 70) hx hb dL_next_34 (by decide) (fun hc_7 => ?_) (fun hc_7 => ?_)
        · replace hF := gT hc_7 hF
          exact B_70 w x5 x6 x7_4 ls (lv_sub hl [1, 2, 3, 4, 5, 6, 7, 0] rfl) hF H locs hW hL
        · replace hF := gF hc_7 hF
          refine lv_iload hx hb dL_next_37 (lv_at hl 0 rfl) ?_
          refine lv_if_eq (tgt := 57) hx hb dL_next_39 (by decide) (fun hc_8 => ?_) (fun hc_8 => ?_)
          · replace hF := gT hc_8 hF
            exact B_57 w x5 x6 ls (lv_sub hl [1, 2, 3, 4, 5, 6, 7] rfl) hF H locs hW hL
          · replace hF := gF hc_8 hF
            refine lv_aload_n hx hb dL_next_42 rfl (lv_at hl 2 rfl) ?_
            refine lv_iconst (v := 3) hx hb dL_next_43 (by decide) ?_
            refine lv_iload hx hb dL_next_44 (lv_at hl 7 rfl) ?_
            refine lv_imul hx hb dL_next_46 ?_
            refine lv_iconst (v := 2) hx hb dL_next_47 (by decide) ?_
            refine lv_iadd hx hb dL_next_48 ?_
            obtain ⟨hin_9, hF⟩ := gB_some hF
            obtain ⟨k_10, ek_10⟩ : ∃ k, k = Int32.toNatClampNeg (((3 * x6) + 2)) := ⟨_, rfl⟩
            rw [← ek_10] at hF
            refine g_iald2 (k := k_10) hx hb hK hW (gok_o (by decide)) (gad_lt (gok_o (by decide))) gE_O1 hin_9 ek_10.symm dL_next_49 ?_
            refine lv_iconst (v := 1) hx hb dL_next_50 (by decide) ?_
            refine lv_isub hx hb dL_next_51 ?_
            refine lv_iload hx hb dL_next_52 (lv_at hl 0 rfl) ?_
            refine lv_icmp_ge (tgt := 70) hx hb dL_next_54 (by decide) (fun hc_11 => ?_) (fun hc_11 => ?_)
            · replace hF := gT hc_11 hF
              exact B_70 w x5 x6 x7_4 ls (lv_sub hl [1, 2, 3, 4, 5, 6, 7, 0] rfl) hF H locs hW hL
            · replace hF := gF hc_11 hF
              exact B_57 w x5 x6 ls (lv_sub hl [1, 2, 3, 4, 5, 6, 7] rfl) hF H locs hW hL
  rw [F_L_next] at hF
  obtain ⟨locs, hlocs⟩ : ∃ locs : List Loc, locs = [] := ⟨_, rfl⟩
  rw [← hlocs] at hL ⊢
  refine lv_iconst (v := 0) hx hb dL_next_0 (by decide) ?_
  refine lv_istore (lv' := [(5, .int 0), (0, .ref (gA X 8 0)), (1, .ref (gA X 8 1)), (2, .ref (gA X 8 2)), (3, .ref (gA X 8 4)), (4, .ref (gA X 8 5))]) hx hb dL_next_1 hl (by decide) rfl (fun ls hl => ?_)
  refine lv_iconst (v := 0) hx hb dL_next_3 (by decide) ?_
  refine lv_istore (lv' := [(6, .int 0), (5, .int 0), (0, .ref (gA X 8 0)), (1, .ref (gA X 8 1)), (2, .ref (gA X 8 2)), (3, .ref (gA X 8 4)), (4, .ref (gA X 8 5))]) hx hb dL_next_4 hl (by decide) rfl (fun ls hl => ?_)
  exact L_6 gFU w 0 0 ls (lv_sub hl [2, 3, 4, 5, 6, 1, 0] rfl) hF H locs hW hL
