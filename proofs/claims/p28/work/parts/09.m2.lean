abbrev rmL_swum : Room := { frames := 1, cells := 0, slots := 0, locals := 23 }
abbrev wsL_swum : List Cond := gws yL_swum cL_swum 7 (some .int)
set_option maxHeartbeats 4000000 in
set_option maxRecDepth 100000 in
theorem c_L_swum (l : Launch) (X : gX) (w : gWd) (x3 : Int32) (x4 : Int32) (r : Int32) (w' : gWd) (hF : F_L_swum w x3 x4 = some (r, w')) : Met l yL_swum wsL_swum rmL_swum (gPc X [.ref (gA X 8 1), .ref (gA X 8 2), .ref (gA X 8 5), .int x3, .int x4] w) (gQi X r w') 0 0 (gFr X) := by
  refine g_ofW (cc := cL_swum) (maxL := 7) (ret := (some .int)) (by decide) rfl (Nat.le_of_ble_eq_true rfl) (fun p e s m args below meth c ls H hx hb hr hts hown hlocks hml hK hl hW => ?_)
  have hl : lv_has ls 7 [(0, .ref (gA X 8 1)), (1, .ref (gA X 8 2)), (2, .ref (gA X 8 5)), (3, .int x3), (4, .int x4)] := hl
  have hown : s.vm.findClass RL = some m.cls := hown
  have hL : gLo X [] := gLo_nil
  show W p l e rmL_swum s m args below meth c H [] 0 0 _ _
  have k27 : CallB rmL_swum s args RL 27 yL_time cL_time 4 (some .int) wsL_time rmL_time 0 0 4 ∧ (Cond.static yL_time).before args s = true := va_cwS 4 hts (gGoodS (fun w h => List.mem_cons_of_mem _ h) wk_L_27) rfl rfl rfl (by decide +kernel) ⟨Nat.le_of_ble_eq_true rfl, Nat.le_of_ble_eq_true rfl⟩
  have L_97 : ∀ (fu : Nat) (w : gWd) (x4 : Int32) (x5 : Int32) (x6 : Int32)  (ls : Array Slot) (hl : lv_has ls 7 [(0, .ref (gA X 8 1)), (1, .ref (gA X 8 2)), (2, .ref (gA X 8 5)), (4, .int x4), (5, .int x5), (6, .int x6)]) (hF : F_L_swum_97 fu w x4 x5 x6 = some (r, w')) (H : Heap) (locs : List Loc) (hW : gWo X 252 (gE X w) H) (hL : gLo X locs), W p l e rmL_swum s m args below meth c H locs 0 0 (MQ below (gQi X r w') args s 0 0 (gFr X)) (F0 m 97 ls []) := by
    intro fu
    induction fu with
    | zero => intro w x4 x5 x6 ls hl hF H locs hW hL; rw [F_L_swum_97_z] at hF; cases hF
    | succ fu97 ih97 =>
      have B_138 : ∀ (w : gWd) (x4 : Int32) (x6 : Int32) (xs0 : Int32)  (ls : Array Slot) (hl : lv_has ls 7 [(0, .ref (gA X 8 1)), (1, .ref (gA X 8 2)), (2, .ref (gA X 8 5)), (4, .int x4), (6, .int x6)]) (hF : F_L_swum_138 (F_L_swum_97 fu97) w x4 x6 xs0 = some (r, w')) (H : Heap) (locs : List Loc) (hW : gWo X 252 (gE X w) H) (hL : gLo X locs), W p l e rmL_swum s m args below meth c H locs 0 0 (MQ below (gQi X r w') args s 0 0 (gFr X)) (F0 m 138 ls [.int xs0]) := by
        intro w x4 x6 xs0 ls hl hF H locs hW hL
        rw [F_L_swum_138] at hF
        refine lv_iconst (v := 0) hx hb dL_swum_138 (by decide) ?_
        refine lv_iadd hx hb dL_swum_139 ?_
        obtain ⟨x5_23, ex5_23, hF⟩ := gS_some hF
        refine g_top ex5_23 ?_
        refine lv_istore (lv' := [(5, .int x5_23), (0, .ref (gA X 8 1)), (1, .ref (gA X 8 2)), (2, .ref (gA X 8 5)), (4, .int x4), (6, .int x6)]) hx hb dL_swum_140 hl (by decide) rfl (fun ls hl => ?_)
        obtain ⟨x6_24, ex6_24, hF⟩ := gS_some hF
        refine lv_iinc (v := x6_24) (lv' := [(6, .int x6_24), (5, .int x5_23), (0, .ref (gA X 8 1)), (1, .ref (gA X 8 2)), (2, .ref (gA X 8 5)), (4, .int x4)]) hx hb dL_swum_142 hl (k := 5) rfl (by rw [ex6_24]; rfl) (by decide) rfl (fun ls hl => ?_)
        refine lv_goto (tgt := 97) hx hb dL_swum_145 (by decide) ?_
        exact ih97 w x4 x5_23 x6_24 ls (lv_sub hl [2, 3, 4, 5, 1, 0] rfl) hF H locs hW hL
      intro w x4 x5 x6 ls hl hF H locs hW hL
      rw [F_L_swum_97_s] at hF
      refine lv_iload hx hb dL_swum_97 (lv_at hl 5 rfl) ?_
      refine lv_aload_n hx hb dL_swum_99 rfl (lv_at hl 2 rfl) ?_
      refine lv_iconst (v := 1) hx hb dL_swum_100 (by decide) ?_
      refine g_iald2 (k := 1) hx hb hK hW (gok_o (by decide)) (gad_lt (gok_o (by decide))) gE_O5 (gin (by decide)) (by decide) dL_swum_101 ?_
      refine lv_icmp_ge (tgt := 148) hx hb dL_swum_102 (by decide) (fun hc_13 => ?_) (fun hc_13 => ?_)
      · replace hF := gT hc_13 hF
        refine lv_iload hx hb dL_swum_148 (lv_at hl 3 rfl) ?_
        refine lv_if_ne (tgt := 158) hx hb dL_swum_150 (by decide) (fun hc_14 => ?_) (fun hc_14 => ?_)
        · replace hF := gF hc_14 hF
          refine lv_iload hx hb dL_swum_158 (lv_at hl 4 rfl) ?_
          exact g_ri hx hb hr hlocks (gW2 hF hW) hL (gI2 hF).1 dL_swum_160
        · replace hF := gT hc_14 hF
          refine lv_bipush (v := 100) hx hb dL_swum_153 (by decide) ?_
          refine lv_goto (tgt := 160) hx hb dL_swum_155 (by decide) ?_
          exact g_ri hx hb hr hlocks (gW2 hF hW) hL (gI2 hF).1 dL_swum_160
      · replace hF := gF hc_13 hF
        refine lv_iload hx hb dL_swum_105 (lv_at hl 4 rfl) ?_
        refine lv_aload_n hx hb dL_swum_107 rfl (lv_at hl 0 rfl) ?_
        refine lv_aload_n hx hb dL_swum_108 rfl (lv_at hl 1 rfl) ?_
        refine lv_aload_n hx hb dL_swum_109 rfl (lv_at hl 2 rfl) ?_
        refine lv_iload hx hb dL_swum_110 (lv_at hl 5 rfl) ?_
        obtain ⟨v_16, hq_15, hF⟩ := gP_some hF
        refine g_Si (As := [.ref (gA X 8 1), .ref (gA X 8 2), .ref (gA X 8 5), .int x6]) (rest := [.int x5]) ⟨hx, hb, hml, hown, hts⟩ hK hW hL hl.1 (c_L_time l X w x6 v_16 hq_15) k27 rfl rfl (Nat.le_of_ble_eq_true rfl) dL_swum_112 ⟨Nat.le_of_ble_eq_true rfl, Nat.le_of_ble_eq_true rfl⟩ (fun H locs hW hL => ?_)
        refine lv_iconst (v := 1) hx hb dL_swum_115 (by decide) ?_
        refine lv_icmp_le (tgt := 138) hx hb dL_swum_116 (by decide) (fun hc_17 => ?_) (fun hc_17 => ?_)
        · replace hF := gT hc_17 hF
          exact B_138 w x4 x6 x5 ls (lv_sub hl [0, 1, 2, 3, 5] rfl) hF H locs hW hL
        · replace hF := gF hc_17 hF
          refine lv_aload_n hx hb dL_swum_119 rfl (lv_at hl 0 rfl) ?_
          refine lv_aload_n hx hb dL_swum_120 rfl (lv_at hl 1 rfl) ?_
          refine lv_aload_n hx hb dL_swum_121 rfl (lv_at hl 2 rfl) ?_
          refine lv_iload hx hb dL_swum_122 (lv_at hl 5 rfl) ?_
          obtain ⟨v_19, hq_18, hF⟩ := gP_some hF
          refine g_Si (As := [.ref (gA X 8 1), .ref (gA X 8 2), .ref (gA X 8 5), .int x6]) (rest := [.int x5]) ⟨hx, hb, hml, hown, hts⟩ hK hW hL hl.1 (c_L_time l X w x6 v_19 hq_18) k27 rfl rfl (Nat.le_of_ble_eq_true rfl) dL_swum_124 ⟨Nat.le_of_ble_eq_true rfl, Nat.le_of_ble_eq_true rfl⟩ (fun H locs hW hL => ?_)
          refine lv_iconst (v := 1) hx hb dL_swum_127 (by decide) ?_
          refine lv_isub hx hb dL_swum_128 ?_
          refine lv_iload hx hb dL_swum_129 (lv_at hl 3 rfl) ?_
          refine lv_icmp_ge (tgt := 138) hx hb dL_swum_131 (by decide) (fun hc_20 => ?_) (fun hc_20 => ?_)
          · replace hF := gT hc_20 hF
            exact B_138 w x4 x6 x5 ls (lv_sub hl [0, 1, 2, 3, 5] rfl) hF H locs hW hL
          · replace hF := gF hc_20 hF
            refine lv_iconst (v := 1) hx hb dL_swum_134 (by decide) ?_
            refine lv_goto (tgt := 139) hx hb dL_swum_135 (by decide) ?_
            refine lv_iadd hx hb dL_swum_139 ?_
            obtain ⟨x5_21, ex5_21, hF⟩ := gS_some hF
            refine g_top ex5_21 ?_
            refine lv_istore (lv' := [(5, .int x5_21), (0, .ref (gA X 8 1)), (1, .ref (gA X 8 2)), (2, .ref (gA X 8 5)), (4, .int x4), (6, .int x6)]) hx hb dL_swum_140 hl (by decide) rfl (fun ls hl => ?_)
            obtain ⟨x6_22, ex6_22, hF⟩ := gS_some hF
            refine lv_iinc (v := x6_22) (lv' := [(6, .int x6_22), (5, .int x5_21), (0, .ref (gA X 8 1)), (1, .ref (gA X 8 2)), (2, .ref (gA X 8 5)), (4, .int x4)]) hx hb dL_swum_142 hl (k := 5) rfl (by rw [ex6_22]; rfl) (by decide) rfl (fun ls hl => ?_)
            refine lv_goto (tgt := 97) hx hb dL_swum_145 (by decide) ?_
            exact ih97 w x4 x5_21 x6_22 ls (lv_sub hl [2, 3, 4, 5, 1, 0] rfl) hF H locs hW hL
  have B_90 : ∀ (w : gWd) (x4 : Int32) (xs0 : Int32) (xs1 : Int32)  (ls : Array Slot) (hl : lv_has ls 7 [(0, .ref (gA X 8 1)), (1, .ref (gA X 8 2)), (2, .ref (gA X 8 5)), (4, .int x4)]) (hF : F_L_swum_90 w x4 xs0 xs1 = some (r, w')) (H : Heap) (locs : List Loc) (hW : gWo X 252 (gE X w) H) (hL : gLo X locs), W p l e rmL_swum s m args below meth c H locs 0 0 (MQ below (gQi X r w') args s 0 0 (gFr X)) (F0 m 90 ls [.int xs0, .int xs1, .ref (gA X 8 5)]) := by
    intro w x4 xs0 xs1 ls hl hF H locs hW hL
    rw [F_L_swum_90] at hF
    obtain ⟨hin_10, hF⟩ := gB_some hF
    obtain ⟨k_11, ek_11⟩ : ∃ k, k = Int32.toNatClampNeg xs1 := ⟨_, rfl⟩
    rw [← ek_11] at hF
    obtain ⟨w_12, ew_12, hF⟩ := gS_some hF
    refine g_iast2 (k := k_11) hx hb hK hW hL (gok_o (by decide)) (fun w => gE_O5 (w := w)) hin_10 ek_11.symm dL_swum_90 (fun H locs hW hL => ?_)
    rw [← ew_12] at hW
    refine lv_iconst (v := 0) hx hb dL_swum_91 (by decide) ?_
    refine lv_istore (lv' := [(5, .int 0), (0, .ref (gA X 8 1)), (1, .ref (gA X 8 2)), (2, .ref (gA X 8 5)), (4, .int x4)]) hx hb dL_swum_92 hl (by decide) rfl (fun ls hl => ?_)
    refine lv_iconst (v := 0) hx hb dL_swum_94 (by decide) ?_
    refine lv_istore (lv' := [(6, .int 0), (5, .int 0), (0, .ref (gA X 8 1)), (1, .ref (gA X 8 2)), (2, .ref (gA X 8 5)), (4, .int x4)]) hx hb dL_swum_95 hl (by decide) rfl (fun ls hl => ?_)
    exact L_97 gFU w_12 x4 0 0 ls (lv_sub hl [2, 3, 4, 5, 1, 0] rfl) hF H locs hW hL
  have B_82 : ∀ (w : gWd) (x4 : Int32) (xs0 : Int32)  (ls : Array Slot) (hl : lv_has ls 7 [(0, .ref (gA X 8 1)), (1, .ref (gA X 8 2)), (2, .ref (gA X 8 5)), (4, .int x4)]) (hF : F_L_swum_82 w x4 xs0 = some (r, w')) (H : Heap) (locs : List Loc) (hW : gWo X 252 (gE X w) H) (hL : gLo X locs), W p l e rmL_swum s m args below meth c H locs 0 0 (MQ below (gQi X r w') args s 0 0 (gFr X)) (F0 m 82 ls [.int xs0, .ref (gA X 8 5)]) := by
    intro w x4 xs0 ls hl hF H locs hW hL
    rw [F_L_swum_82] at hF
    refine lv_iload hx hb dL_swum_82 (lv_at hl 3 rfl) ?_
    refine lv_goto (tgt := 90) hx hb dL_swum_84 (by decide) ?_
    exact B_90 w x4 x4 xs0 ls (hl) hF H locs hW hL
  have B_87 : ∀ (w : gWd) (x4 : Int32) (xs0 : Int32)  (ls : Array Slot) (hl : lv_has ls 7 [(0, .ref (gA X 8 1)), (1, .ref (gA X 8 2)), (2, .ref (gA X 8 5)), (4, .int x4)]) (hF : F_L_swum_87 w x4 xs0 = some (r, w')) (H : Heap) (locs : List Loc) (hW : gWo X 252 (gE X w) H) (hL : gLo X locs), W p l e rmL_swum s m args below meth c H locs 0 0 (MQ below (gQi X r w') args s 0 0 (gFr X)) (F0 m 87 ls [.int xs0, .ref (gA X 8 5)]) := by
    intro w x4 xs0 ls hl hF H locs hW hL
    rw [F_L_swum_87] at hF
    refine lv_aload_n hx hb dL_swum_87 rfl (lv_at hl 2 rfl) ?_
    refine lv_iconst (v := 4) hx hb dL_swum_88 (by decide) ?_
    refine g_iald2 (k := 4) hx hb hK hW (gok_o (by decide)) (gad_lt (gok_o (by decide))) gE_O5 (gin (by decide)) (by decide) dL_swum_89 ?_
    exact B_90 w x4 ((w 8 5 4)) xs0 ls (hl) hF H locs hW hL
  have B_60 : ∀ (w : gWd) (x4 : Int32) (xs0 : Int32) (xs1 : Int32)  (ls : Array Slot) (hl : lv_has ls 7 [(0, .ref (gA X 8 1)), (1, .ref (gA X 8 2)), (2, .ref (gA X 8 5)), (4, .int x4)]) (hF : F_L_swum_60 w x4 xs0 xs1 = some (r, w')) (H : Heap) (locs : List Loc) (hW : gWo X 252 (gE X w) H) (hL : gLo X locs), W p l e rmL_swum s m args below meth c H locs 0 0 (MQ below (gQi X r w') args s 0 0 (gFr X)) (F0 m 60 ls [.int xs0, .int xs1, .ref (gA X 8 5)]) := by
    intro w x4 xs0 xs1 ls hl hF H locs hW hL
    rw [F_L_swum_60] at hF
    obtain ⟨hin_4, hF⟩ := gB_some hF
    obtain ⟨k_5, ek_5⟩ : ∃ k, k = Int32.toNatClampNeg xs1 := ⟨_, rfl⟩
    rw [← ek_5] at hF
    obtain ⟨w_6, ew_6, hF⟩ := gS_some hF
    refine g_iast2 (k := k_5) hx hb hK hW hL (gok_o (by decide)) (fun w => gE_O5 (w := w)) hin_4 ek_5.symm dL_swum_60 (fun H locs hW hL => ?_)
    rw [← ew_6] at hW
    refine lv_aload_n hx hb dL_swum_61 rfl (lv_at hl 2 rfl) ?_
    refine lv_iconst (v := 4) hx hb dL_swum_62 (by decide) ?_
    refine lv_iload hx hb dL_swum_63 (lv_at hl 3 rfl) ?_
    refine lv_if_le (tgt := 87) hx hb dL_swum_65 (by decide) (fun hc_7 => ?_) (fun hc_7 => ?_)
    · replace hF := gT hc_7 hF
      exact B_87 w_6 x4 4 ls (hl) hF H locs hW hL
    · replace hF := gF hc_7 hF
      refine lv_aload_n hx hb dL_swum_68 rfl (lv_at hl 2 rfl) ?_
      refine lv_iconst (v := 4) hx hb dL_swum_69 (by decide) ?_
      refine g_iald2 (k := 4) hx hb hK hW (gok_o (by decide)) (gad_lt (gok_o (by decide))) gE_O5 (gin (by decide)) (by decide) dL_swum_70 ?_
      refine lv_if_eq (tgt := 82) hx hb dL_swum_71 (by decide) (fun hc_8 => ?_) (fun hc_8 => ?_)
      · replace hF := gT hc_8 hF
        exact B_82 w_6 x4 4 ls (hl) hF H locs hW hL
      · replace hF := gF hc_8 hF
        refine lv_iload hx hb dL_swum_74 (lv_at hl 3 rfl) ?_
        refine lv_aload_n hx hb dL_swum_76 rfl (lv_at hl 2 rfl) ?_
        refine lv_iconst (v := 4) hx hb dL_swum_77 (by decide) ?_
        refine g_iald2 (k := 4) hx hb hK hW (gok_o (by decide)) (gad_lt (gok_o (by decide))) gE_O5 (gin (by decide)) (by decide) dL_swum_78 ?_
        refine lv_icmp_ge (tgt := 87) hx hb dL_swum_79 (by decide) (fun hc_9 => ?_) (fun hc_9 => ?_)
        · replace hF := gT hc_9 hF
          exact B_87 w_6 x4 4 ls (hl) hF H locs hW hL
        · replace hF := gF hc_9 hF
          exact B_82 w_6 x4 4 ls (hl) hF H locs hW hL
  have B_53 : ∀ (w : gWd) (x3 : Int32) (x4 : Int32) (xs0 : Int32)  (ls : Array Slot) (hl : lv_has ls 7 [(0, .ref (gA X 8 1)), (1, .ref (gA X 8 2)), (2, .ref (gA X 8 5)), (3, .int x3), (4, .int x4)]) (hF : F_L_swum_53 w x3 x4 xs0 = some (r, w')) (H : Heap) (locs : List Loc) (hW : gWo X 252 (gE X w) H) (hL : gLo X locs), W p l e rmL_swum s m args below meth c H locs 0 0 (MQ below (gQi X r w') args s 0 0 (gFr X)) (F0 m 53 ls [.int xs0, .ref (gA X 8 5)]) := by
    intro w x3 x4 xs0 ls hl hF H locs hW hL
    rw [F_L_swum_53] at hF
    refine lv_iload_n hx hb dL_swum_53 rfl (lv_at hl 3 rfl) ?_
    refine lv_goto (tgt := 60) hx hb dL_swum_54 (by decide) ?_
    exact B_60 w x4 x3 xs0 ls (lv_sub hl [0, 1, 2, 4] rfl) hF H locs hW hL
  have B_57 : ∀ (w : gWd) (x4 : Int32) (xs0 : Int32)  (ls : Array Slot) (hl : lv_has ls 7 [(0, .ref (gA X 8 1)), (1, .ref (gA X 8 2)), (2, .ref (gA X 8 5)), (4, .int x4)]) (hF : F_L_swum_57 w x4 xs0 = some (r, w')) (H : Heap) (locs : List Loc) (hW : gWo X 252 (gE X w) H) (hL : gLo X locs), W p l e rmL_swum s m args below meth c H locs 0 0 (MQ below (gQi X r w') args s 0 0 (gFr X)) (F0 m 57 ls [.int xs0, .ref (gA X 8 5)]) := by
    intro w x4 xs0 ls hl hF H locs hW hL
    rw [F_L_swum_57] at hF
    refine lv_aload_n hx hb dL_swum_57 rfl (lv_at hl 2 rfl) ?_
    refine lv_iconst (v := 5) hx hb dL_swum_58 (by decide) ?_
    refine g_iald2 (k := 5) hx hb hK hW (gok_o (by decide)) (gad_lt (gok_o (by decide))) gE_O5 (gin (by decide)) (by decide) dL_swum_59 ?_
    exact B_60 w x4 ((w 8 5 5)) xs0 ls (hl) hF H locs hW hL
  have B_32 : ∀ (w : gWd) (x3 : Int32) (x4 : Int32)  (ls : Array Slot) (hl : lv_has ls 7 [(0, .ref (gA X 8 1)), (1, .ref (gA X 8 2)), (2, .ref (gA X 8 5)), (3, .int x3), (4, .int x4)]) (hF : F_L_swum_32 w x3 x4 = some (r, w')) (H : Heap) (locs : List Loc) (hW : gWo X 252 (gE X w) H) (hL : gLo X locs), W p l e rmL_swum s m args below meth c H locs 0 0 (MQ below (gQi X r w') args s 0 0 (gFr X)) (F0 m 32 ls []) := by
    intro w x3 x4 ls hl hF H locs hW hL
    rw [F_L_swum_32] at hF
    refine lv_aload_n hx hb dL_swum_32 rfl (lv_at hl 2 rfl) ?_
    refine lv_iconst (v := 5) hx hb dL_swum_33 (by decide) ?_
    refine lv_iload hx hb dL_swum_34 (lv_at hl 4 rfl) ?_
    refine lv_if_le (tgt := 57) hx hb dL_swum_36 (by decide) (fun hc_1 => ?_) (fun hc_1 => ?_)
    · replace hF := gT hc_1 hF
      exact B_57 w x4 5 ls (lv_sub hl [0, 1, 2, 4] rfl) hF H locs hW hL
    · replace hF := gF hc_1 hF
      refine lv_aload_n hx hb dL_swum_39 rfl (lv_at hl 2 rfl) ?_
      refine lv_iconst (v := 4) hx hb dL_swum_40 (by decide) ?_
      refine g_iald2 (k := 4) hx hb hK hW (gok_o (by decide)) (gad_lt (gok_o (by decide))) gE_O5 (gin (by decide)) (by decide) dL_swum_41 ?_
      refine lv_if_eq (tgt := 53) hx hb dL_swum_42 (by decide) (fun hc_2 => ?_) (fun hc_2 => ?_)
      · replace hF := gT hc_2 hF
        exact B_53 w x3 x4 5 ls (hl) hF H locs hW hL
      · replace hF := gF hc_2 hF
        refine lv_iload hx hb dL_swum_45 (lv_at hl 4 rfl) ?_
        refine lv_aload_n hx hb dL_swum_47 rfl (lv_at hl 2 rfl) ?_
        refine lv_iconst (v := 4) hx hb dL_swum_48 (by decide) ?_
        refine g_iald2 (k := 4) hx hb hK hW (gok_o (by decide)) (gad_lt (gok_o (by decide))) gE_O5 (gin (by decide)) (by decide) dL_swum_49 ?_
        refine lv_icmp_ge (tgt := 57) hx hb dL_swum_50 (by decide) (fun hc_3 => ?_) (fun hc_3 => ?_)
        · replace hF := gT hc_3 hF
          exact B_57 w x4 5 ls (lv_sub hl [0, 1, 2, 4] rfl) hF H locs hW hL
        · replace hF := gF hc_3 hF
          exact B_53 w x3 x4 5 ls (hl) hF H locs hW hL
  rw [F_L_swum] at hF
  obtain ⟨locs, hlocs⟩ : ∃ locs : List Loc, locs = [] := ⟨_, rfl⟩
  rw [← hlocs] at hL ⊢
  refine lv_aload_n hx hb dL_swum_0 rfl (lv_at hl 2 rfl) ?_
  refine lv_iconst (v := 0) hx hb dL_swum_1 (by decide) ?_
  refine g_iald2 (k := 0) hx hb hK hW (gok_o (by decide)) (gad_lt (gok_o (by decide))) gE_O5 (gin (by decide)) (by decide) dL_swum_2 ?_
  refine lv_iconst (v := 1) hx hb dL_swum_3 (by decide) ?_
  refine lv_icmp_ne (tgt := 21) hx hb dL_swum_4 (by decide) (fun hc_25 => ?_) (fun hc_25 => ?_)
  · replace hF := gF hc_25 hF
    refine lv_aload_n hx hb dL_swum_21 rfl (lv_at hl 1 rfl) ?_
    refine lv_iconst (v := 3) hx hb dL_swum_22 (by decide) ?_
    refine lv_iload_n hx hb dL_swum_23 rfl (lv_at hl 3 rfl) ?_
    refine lv_imul hx hb dL_swum_24 ?_
    refine lv_iconst (v := 1) hx hb dL_swum_25 (by decide) ?_
    refine lv_iadd hx hb dL_swum_26 ?_
    refine lv_iload hx hb dL_swum_27 (lv_at hl 4 rfl) ?_
    refine lv_iconst (v := 1) hx hb dL_swum_29 (by decide) ?_
    refine lv_iadd hx hb dL_swum_30 ?_
    obtain ⟨hin_26, hF⟩ := gB_some hF
    obtain ⟨k_27, ek_27⟩ : ∃ k, k = Int32.toNatClampNeg (((3 * x3) + 1)) := ⟨_, rfl⟩
    rw [← ek_27] at hF
    obtain ⟨w_28, ew_28, hF⟩ := gS_some hF
    refine g_iast2 (k := k_27) hx hb hK hW hL (gok_o (by decide)) (fun w => gE_O2 (w := w)) hin_26 ek_27.symm dL_swum_31 (fun H locs hW hL => ?_)
    rw [← ew_28] at hW
    exact B_32 w_28 x3 x4 ls (hl) hF H locs hW hL
  · replace hF := gT hc_25 hF
    refine lv_aload_n hx hb dL_swum_7 rfl (lv_at hl 0 rfl) ?_
    refine lv_iconst (v := 3) hx hb dL_swum_8 (by decide) ?_
    refine lv_iload_n hx hb dL_swum_9 rfl (lv_at hl 3 rfl) ?_
    refine lv_imul hx hb dL_swum_10 ?_
    refine lv_iconst (v := 2) hx hb dL_swum_11 (by decide) ?_
    refine lv_iadd hx hb dL_swum_12 ?_
    refine lv_iload hx hb dL_swum_13 (lv_at hl 4 rfl) ?_
    refine lv_iconst (v := 1) hx hb dL_swum_15 (by decide) ?_
    refine lv_iadd hx hb dL_swum_16 ?_
    obtain ⟨hin_29, hF⟩ := gB_some hF
    obtain ⟨k_30, ek_30⟩ : ∃ k, k = Int32.toNatClampNeg (((3 * x3) + 2)) := ⟨_, rfl⟩
    rw [← ek_30] at hF
    obtain ⟨w_31, ew_31, hF⟩ := gS_some hF
    refine g_iast2 (k := k_30) hx hb hK hW hL (gok_o (by decide)) (fun w => gE_O1 (w := w)) hin_29 ek_30.symm dL_swum_17 (fun H locs hW hL => ?_)
    rw [← ew_31] at hW
    refine lv_goto (tgt := 32) hx hb dL_swum_18 (by decide) ?_
    exact B_32 w_31 x3 x4 ls (hl) hF H locs hW hL
abbrev rmL_areSwimmers : Room := { frames := 6, cells := 0, slots := 0, locals := 128 }
abbrev wsL_areSwimmers : List Cond := gws yL_areSwimmers cL_areSwimmers 11 (some .boolean)
set_option maxHeartbeats 4000000 in
set_option maxRecDepth 100000 in
theorem c_L_areSwimmers (l : Launch) (X : gX) (w : gWd)  (r : Int32) (hF : F_L_areSwimmers w = some r) : Met l yL_areSwimmers wsL_areSwimmers rmL_areSwimmers (gPc X [.ref (gA X 7 0), .ref (gA X 8 0), .ref (gA X 8 1), .ref (gA X 8 2), .ref (gA X 8 3), .ref (gA X 8 5)] w) (gQi X r w) 0 0 (gFr X) := by
  refine g_ofW (cc := cL_areSwimmers) (maxL := 11) (ret := (some .boolean)) (by decide) rfl (Nat.le_of_ble_eq_true rfl) (fun p e s m args below meth c ls H hx hb hr hts hown hlocks hml hK hl hW => ?_)
  have hl : lv_has ls 11 [(0, .ref (gA X 7 0)), (1, .ref (gA X 8 0)), (2, .ref (gA X 8 1)), (3, .ref (gA X 8 2)), (4, .ref (gA X 8 3)), (5, .ref (gA X 8 5))] := hl
  have hown : s.vm.findClass RL = some m.cls := hown
  have hL : gLo X [] := gLo_nil
  show W p l e rmL_areSwimmers s m args below meth c H [] 0 0 _ _
  have q39 := hts _ (List.mem_cons_of_mem _ wq_L_39)
  have q40 := hts _ (List.mem_cons_of_mem _ wq_L_40)
  have k15 : CallB rmL_areSwimmers s args RL 15 yL_rank cL_rank 5 (some .int) wsL_rank rmL_rank 0 0 3 ∧ (Cond.static yL_rank).before args s = true := va_cwS 3 hts (gGoodS (fun w h => List.mem_cons_of_mem _ h) wk_L_15) rfl rfl rfl (by decide +kernel) ⟨Nat.le_of_ble_eq_true rfl, Nat.le_of_ble_eq_true rfl⟩
  have k31 : CallB rmL_areSwimmers s args RL 31 yL_timeRank cL_timeRank 7 (some .int) wsL_timeRank rmL_timeRank 0 0 4 ∧ (Cond.static yL_timeRank).before args s = true := va_cwS 4 hts (gGoodS (fun w h => List.mem_cons_of_mem _ h) wk_L_31) rfl rfl rfl (by decide +kernel) ⟨Nat.le_of_ble_eq_true rfl, Nat.le_of_ble_eq_true rfl⟩
  have k34 : CallW rmL_areSwimmers s args RL RX11 34 yX11_swimmer cX11_swimmer 3 (some .int) wsX11_swimmer rmX11_swimmer 0 0 2 := cwV 2 hts (gGoodV (fun w h => List.mem_cons_of_mem _ h) wk_L_34) rfl rfl rfl (by decide +kernel) ⟨Nat.le_of_ble_eq_true rfl, Nat.le_of_ble_eq_true rfl⟩
  have k41 : CallW rmL_areSwimmers s args RL RX11 41 yX11_count cX11_count 2 (some .int) wsX11_count rmX11_count 0 0 1 := cwV 1 hts (gGoodV (fun w h => List.mem_cons_of_mem _ h) wk_L_41) rfl rfl rfl (by decide +kernel) ⟨Nat.le_of_ble_eq_true rfl, Nat.le_of_ble_eq_true rfl⟩
  have B_686 : ∀   (ls : Array Slot) (hl : lv_has ls 11 []) (hF : F_L_areSwimmers_686 w = some r) (H : Heap) (locs : List Loc) (hW : gWo X 252 (gE X w) H) (hL : gLo X locs), W p l e rmL_areSwimmers s m args below meth c H locs 0 0 (MQ below (gQi X r w) args s 0 0 (gFr X)) (F0 m 686 ls []) := by
    intro ls hl hF H locs hW hL
    rw [F_L_areSwimmers_686] at hF
    refine lv_iconst (v := 0) hx hb dL_areSwimmers_686 (by decide) ?_
    exact g_rz hx hb hr hlocks hW hL (Or.inl rfl) (Option.some.inj hF) dL_areSwimmers_687
  have B_623 : ∀ (xs0 : Int32) (xs1 : Int32)  (ls : Array Slot) (hl : lv_has ls 11 [(0, .ref (gA X 7 0)), (5, .ref (gA X 8 5))]) (hF : F_L_areSwimmers_623 w xs0 xs1 = some r) (H : Heap) (locs : List Loc) (hW : gWo X 252 (gE X w) H) (hL : gLo X locs), W p l e rmL_areSwimmers s m args below meth c H locs 0 0 (MQ below (gQi X r w) args s 0 0 (gFr X)) (F0 m 623 ls [.int xs0, .int xs1]) := by
    intro xs0 xs1 ls hl hF H locs hW hL
    rw [F_L_areSwimmers_623] at hF
    refine lv_icmp_ne (tgt := 686) hx hb dL_areSwimmers_623 (by decide) (fun hc_132 => ?_) (fun hc_132 => ?_)
    · replace hF := gF hc_132 hF
      exact B_686  ls (lv_sub hl [] rfl) hF H locs hW hL
    · replace hF := gT hc_132 hF
      refine lv_aload_n hx hb dL_areSwimmers_626 rfl (lv_at hl 0 rfl) ?_
      refine lv_bipush (v := 10) hx hb dL_areSwimmers_627 (by decide) ?_
      obtain ⟨v_134, hq_133, hF⟩ := gP_some hF
      refine g_Vi (As := [.int 10]) (rest := []) ⟨hx, hb, hml, hown, hts⟩ hK hW hL hl.1 (gok_c (by decide)) gE_G rfl (c_X11_count l X w 10 v_134 hq_133) k41 rfl rfl (Nat.le_of_ble_eq_true rfl) dL_areSwimmers_629 ⟨Nat.le_of_ble_eq_true rfl, Nat.le_of_ble_eq_true rfl⟩ (fun H locs hW hL => ?_)
      refine lv_aload hx hb dL_areSwimmers_632 (lv_at hl 1 rfl) ?_
      refine lv_bipush (v := 6) hx hb dL_areSwimmers_634 (by decide) ?_
      refine g_iald2 (k := 6) hx hb hK hW (gok_o (by decide)) (gad_lt (gok_o (by decide))) gE_O5 (gin (by decide)) (by decide) dL_areSwimmers_636 ?_
      refine lv_icmp_ne (tgt := 686) hx hb dL_areSwimmers_637 (by decide) (fun hc_135 => ?_) (fun hc_135 => ?_)
      · replace hF := gF hc_135 hF
        exact B_686  ls (lv_sub hl [] rfl) hF H locs hW hL
      · replace hF := gT hc_135 hF
        refine lv_aload_n hx hb dL_areSwimmers_640 rfl (lv_at hl 0 rfl) ?_
        refine lv_bipush (v := 20) hx hb dL_areSwimmers_641 (by decide) ?_
        obtain ⟨v_137, hq_136, hF⟩ := gP_some hF
        refine g_Vi (As := [.int 20]) (rest := []) ⟨hx, hb, hml, hown, hts⟩ hK hW hL hl.1 (gok_c (by decide)) gE_G rfl (c_X11_count l X w 20 v_137 hq_136) k41 rfl rfl (Nat.le_of_ble_eq_true rfl) dL_areSwimmers_643 ⟨Nat.le_of_ble_eq_true rfl, Nat.le_of_ble_eq_true rfl⟩ (fun H locs hW hL => ?_)
        refine lv_aload hx hb dL_areSwimmers_646 (lv_at hl 1 rfl) ?_
        refine lv_bipush (v := 7) hx hb dL_areSwimmers_648 (by decide) ?_
        refine g_iald2 (k := 7) hx hb hK hW (gok_o (by decide)) (gad_lt (gok_o (by decide))) gE_O5 (gin (by decide)) (by decide) dL_areSwimmers_650 ?_
        refine lv_icmp_ne (tgt := 686) hx hb dL_areSwimmers_651 (by decide) (fun hc_138 => ?_) (fun hc_138 => ?_)
        · replace hF := gF hc_138 hF
          exact B_686  ls (lv_sub hl [] rfl) hF H locs hW hL
        · replace hF := gT hc_138 hF
          refine lv_aload_n hx hb dL_areSwimmers_654 rfl (lv_at hl 0 rfl) ?_
          refine lv_bipush (v := 21) hx hb dL_areSwimmers_655 (by decide) ?_
          obtain ⟨v_140, hq_139, hF⟩ := gP_some hF
          refine g_Vi (As := [.int 21]) (rest := []) ⟨hx, hb, hml, hown, hts⟩ hK hW hL hl.1 (gok_c (by decide)) gE_G rfl (c_X11_count l X w 21 v_140 hq_139) k41 rfl rfl (Nat.le_of_ble_eq_true rfl) dL_areSwimmers_657 ⟨Nat.le_of_ble_eq_true rfl, Nat.le_of_ble_eq_true rfl⟩ (fun H locs hW hL => ?_)
          refine lv_aload hx hb dL_areSwimmers_660 (lv_at hl 1 rfl) ?_
          refine lv_bipush (v := 8) hx hb dL_areSwimmers_662 (by decide) ?_
          refine g_iald2 (k := 8) hx hb hK hW (gok_o (by decide)) (gad_lt (gok_o (by decide))) gE_O5 (gin (by decide)) (by decide) dL_areSwimmers_664 ?_
          refine lv_icmp_ne (tgt := 686) hx hb dL_areSwimmers_665 (by decide) (fun hc_141 => ?_) (fun hc_141 => ?_)
          · replace hF := gF hc_141 hF
            exact B_686  ls (lv_sub hl [] rfl) hF H locs hW hL
          · replace hF := gT hc_141 hF
            refine lv_aload_n hx hb dL_areSwimmers_668 rfl (lv_at hl 0 rfl) ?_
            refine lv_bipush (v := 22) hx hb dL_areSwimmers_669 (by decide) ?_
            obtain ⟨v_143, hq_142, hF⟩ := gP_some hF
            refine g_Vi (As := [.int 22]) (rest := []) ⟨hx, hb, hml, hown, hts⟩ hK hW hL hl.1 (gok_c (by decide)) gE_G rfl (c_X11_count l X w 22 v_143 hq_142) k41 rfl rfl (Nat.le_of_ble_eq_true rfl) dL_areSwimmers_671 ⟨Nat.le_of_ble_eq_true rfl, Nat.le_of_ble_eq_true rfl⟩ (fun H locs hW hL => ?_)
            refine lv_aload hx hb dL_areSwimmers_674 (lv_at hl 1 rfl) ?_
            refine lv_bipush (v := 9) hx hb dL_areSwimmers_676 (by decide) ?_
            refine g_iald2 (k := 9) hx hb hK hW (gok_o (by decide)) (gad_lt (gok_o (by decide))) gE_O5 (gin (by decide)) (by decide) dL_areSwimmers_678 ?_
            refine lv_icmp_ne (tgt := 686) hx hb dL_areSwimmers_679 (by decide) (fun hc_144 => ?_) (fun hc_144 => ?_)
            · replace hF := gF hc_144 hF
              exact B_686  ls (lv_sub hl [] rfl) hF H locs hW hL
            · replace hF := gT hc_144 hF
              refine lv_iconst (v := 1) hx hb dL_areSwimmers_682 (by decide) ?_
              refine lv_goto (tgt := 687) hx hb dL_areSwimmers_683 (by decide) ?_
              exact g_rz hx hb hr hlocks hW hL (Or.inr rfl) (Option.some.inj hF) dL_areSwimmers_687
  have B_598 : ∀ (xs0 : Int32) (xs1 : Int32)  (ls : Array Slot) (hl : lv_has ls 11 [(0, .ref (gA X 7 0)), (5, .ref (gA X 8 5))]) (hF : F_L_areSwimmers_598 w xs0 xs1 = some r) (H : Heap) (locs : List Loc) (hW : gWo X 252 (gE X w) H) (hL : gLo X locs), W p l e rmL_areSwimmers s m args below meth c H locs 0 0 (MQ below (gQi X r w) args s 0 0 (gFr X)) (F0 m 598 ls [.int xs0, .int xs1]) := by
    intro xs0 xs1 ls hl hF H locs hW hL
    rw [F_L_areSwimmers_598] at hF
    refine lv_icmp_ne (tgt := 686) hx hb dL_areSwimmers_598 (by decide) (fun hc_128 => ?_) (fun hc_128 => ?_)
    · replace hF := gF hc_128 hF
      exact B_686  ls (lv_sub hl [] rfl) hF H locs hW hL
    · replace hF := gT hc_128 hF
      refine lv_aload_n hx hb dL_areSwimmers_601 rfl (lv_at hl 0 rfl) ?_
      refine lv_bipush (v := 9) hx hb dL_areSwimmers_602 (by decide) ?_
      obtain ⟨v_130, hq_129, hF⟩ := gP_some hF
      refine g_Vi (As := [.int 9]) (rest := []) ⟨hx, hb, hml, hown, hts⟩ hK hW hL hl.1 (gok_c (by decide)) gE_G rfl (c_X11_count l X w 9 v_130 hq_129) k41 rfl rfl (Nat.le_of_ble_eq_true rfl) dL_areSwimmers_604 ⟨Nat.le_of_ble_eq_true rfl, Nat.le_of_ble_eq_true rfl⟩ (fun H locs hW hL => ?_)
      refine lv_aload hx hb dL_areSwimmers_607 (lv_at hl 1 rfl) ?_
      refine lv_iconst (v := 4) hx hb dL_areSwimmers_609 (by decide) ?_
      refine g_iald2 (k := 4) hx hb hK hW (gok_o (by decide)) (gad_lt (gok_o (by decide))) gE_O5 (gin (by decide)) (by decide) dL_areSwimmers_610 ?_
      refine lv_if_le (tgt := 621) hx hb dL_areSwimmers_611 (by decide) (fun hc_131 => ?_) (fun hc_131 => ?_)
      · replace hF := gT hc_131 hF
        refine lv_ldc hx hb hown q40 dL_areSwimmers_621 ?_
        exact B_623 (-1000004) v_130 ls (hl) hF H locs hW hL
      · replace hF := gF hc_131 hF
        refine lv_aload hx hb dL_areSwimmers_614 (lv_at hl 1 rfl) ?_
        refine lv_iconst (v := 5) hx hb dL_areSwimmers_616 (by decide) ?_
        refine g_iald2 (k := 5) hx hb hK hW (gok_o (by decide)) (gad_lt (gok_o (by decide))) gE_O5 (gin (by decide)) (by decide) dL_areSwimmers_617 ?_
        refine lv_goto (tgt := 623) hx hb dL_areSwimmers_618 (by decide) ?_
        exact B_623 ((w 8 5 5)) v_130 ls (hl) hF H locs hW hL
  have B_491 : ∀ (x6 : Int32) (x7 : Int32) (x8 : Int32) (x9 : Int32)  (ls : Array Slot) (hl : lv_has ls 11 [(0, .ref (gA X 7 0)), (5, .ref (gA X 8 5)), (6, .int x6), (7, .int x7), (8, .int x8), (9, .int x9)]) (hF : F_L_areSwimmers_491 w x6 x7 x8 x9 = some r) (H : Heap) (locs : List Loc) (hW : gWo X 252 (gE X w) H) (hL : gLo X locs), W p l e rmL_areSwimmers s m args below meth c H locs 0 0 (MQ below (gQi X r w) args s 0 0 (gFr X)) (F0 m 491 ls []) := by
    intro x6 x7 x8 x9 ls hl hF H locs hW hL
    rw [F_L_areSwimmers_491] at hF
    refine lv_iload hx hb dL_areSwimmers_491 (lv_at hl 5 rfl) ?_
    refine lv_if_eq (tgt := 686) hx hb dL_areSwimmers_493 (by decide) (fun hc_103 => ?_) (fun hc_103 => ?_)
    · replace hF := gT hc_103 hF
      exact B_686  ls (lv_sub hl [] rfl) hF H locs hW hL
    · replace hF := gF hc_103 hF
      refine lv_aload_n hx hb dL_areSwimmers_496 rfl (lv_at hl 0 rfl) ?_
      refine lv_iconst (v := 0) hx hb dL_areSwimmers_497 (by decide) ?_
      obtain ⟨v_105, hq_104, hF⟩ := gP_some hF
      refine g_Vi (As := [.int 0]) (rest := []) ⟨hx, hb, hml, hown, hts⟩ hK hW hL hl.1 (gok_c (by decide)) gE_G rfl (c_X11_count l X w 0 v_105 hq_104) k41 rfl rfl (Nat.le_of_ble_eq_true rfl) dL_areSwimmers_498 ⟨Nat.le_of_ble_eq_true rfl, Nat.le_of_ble_eq_true rfl⟩ (fun H locs hW hL => ?_)
      refine lv_aload hx hb dL_areSwimmers_501 (lv_at hl 1 rfl) ?_
      refine lv_iconst (v := 0) hx hb dL_areSwimmers_503 (by decide) ?_
      refine g_iald2 (k := 0) hx hb hK hW (gok_o (by decide)) (gad_lt (gok_o (by decide))) gE_O5 (gin (by decide)) (by decide) dL_areSwimmers_504 ?_
      refine lv_icmp_ne (tgt := 686) hx hb dL_areSwimmers_505 (by decide) (fun hc_106 => ?_) (fun hc_106 => ?_)
      · replace hF := gF hc_106 hF
        exact B_686  ls (lv_sub hl [] rfl) hF H locs hW hL
      · replace hF := gT hc_106 hF
        refine lv_aload_n hx hb dL_areSwimmers_508 rfl (lv_at hl 0 rfl) ?_
        refine lv_iconst (v := 1) hx hb dL_areSwimmers_509 (by decide) ?_
        obtain ⟨v_108, hq_107, hF⟩ := gP_some hF
        refine g_Vi (As := [.int 1]) (rest := []) ⟨hx, hb, hml, hown, hts⟩ hK hW hL hl.1 (gok_c (by decide)) gE_G rfl (c_X11_count l X w 1 v_108 hq_107) k41 rfl rfl (Nat.le_of_ble_eq_true rfl) dL_areSwimmers_510 ⟨Nat.le_of_ble_eq_true rfl, Nat.le_of_ble_eq_true rfl⟩ (fun H locs hW hL => ?_)
        refine lv_aload hx hb dL_areSwimmers_513 (lv_at hl 1 rfl) ?_
        refine lv_iconst (v := 1) hx hb dL_areSwimmers_515 (by decide) ?_
        refine g_iald2 (k := 1) hx hb hK hW (gok_o (by decide)) (gad_lt (gok_o (by decide))) gE_O5 (gin (by decide)) (by decide) dL_areSwimmers_516 ?_
        refine lv_icmp_ne (tgt := 686) hx hb dL_areSwimmers_517 (by decide) (fun hc_109 => ?_) (fun hc_109 => ?_)
        · replace hF := gF hc_109 hF
          exact B_686  ls (lv_sub hl [] rfl) hF H locs hW hL
        · replace hF := gT hc_109 hF
          refine lv_aload_n hx hb dL_areSwimmers_520 rfl (lv_at hl 0 rfl) ?_
          refine lv_iconst (v := 2) hx hb dL_areSwimmers_521 (by decide) ?_
          obtain ⟨v_111, hq_110, hF⟩ := gP_some hF
          refine g_Vi (As := [.int 2]) (rest := []) ⟨hx, hb, hml, hown, hts⟩ hK hW hL hl.1 (gok_c (by decide)) gE_G rfl (c_X11_count l X w 2 v_111 hq_110) k41 rfl rfl (Nat.le_of_ble_eq_true rfl) dL_areSwimmers_522 ⟨Nat.le_of_ble_eq_true rfl, Nat.le_of_ble_eq_true rfl⟩ (fun H locs hW hL => ?_)
          refine lv_iload hx hb dL_areSwimmers_525 (lv_at hl 2 rfl) ?_
          refine lv_icmp_ne (tgt := 686) hx hb dL_areSwimmers_527 (by decide) (fun hc_112 => ?_) (fun hc_112 => ?_)
          · replace hF := gF hc_112 hF
            exact B_686  ls (lv_sub hl [] rfl) hF H locs hW hL
          · replace hF := gT hc_112 hF
            refine lv_aload_n hx hb dL_areSwimmers_530 rfl (lv_at hl 0 rfl) ?_
            refine lv_iconst (v := 3) hx hb dL_areSwimmers_531 (by decide) ?_
            obtain ⟨v_114, hq_113, hF⟩ := gP_some hF
            refine g_Vi (As := [.int 3]) (rest := []) ⟨hx, hb, hml, hown, hts⟩ hK hW hL hl.1 (gok_c (by decide)) gE_G rfl (c_X11_count l X w 3 v_114 hq_113) k41 rfl rfl (Nat.le_of_ble_eq_true rfl) dL_areSwimmers_532 ⟨Nat.le_of_ble_eq_true rfl, Nat.le_of_ble_eq_true rfl⟩ (fun H locs hW hL => ?_)
            refine lv_aload hx hb dL_areSwimmers_535 (lv_at hl 1 rfl) ?_
            refine lv_iconst (v := 2) hx hb dL_areSwimmers_537 (by decide) ?_
            refine g_iald2 (k := 2) hx hb hK hW (gok_o (by decide)) (gad_lt (gok_o (by decide))) gE_O5 (gin (by decide)) (by decide) dL_areSwimmers_538 ?_
            refine lv_icmp_ne (tgt := 686) hx hb dL_areSwimmers_539 (by decide) (fun hc_115 => ?_) (fun hc_115 => ?_)
            · replace hF := gF hc_115 hF
              exact B_686  ls (lv_sub hl [] rfl) hF H locs hW hL
            · replace hF := gT hc_115 hF
              refine lv_aload_n hx hb dL_areSwimmers_542 rfl (lv_at hl 0 rfl) ?_
              refine lv_iconst (v := 4) hx hb dL_areSwimmers_543 (by decide) ?_
              obtain ⟨v_117, hq_116, hF⟩ := gP_some hF
              refine g_Vi (As := [.int 4]) (rest := []) ⟨hx, hb, hml, hown, hts⟩ hK hW hL hl.1 (gok_c (by decide)) gE_G rfl (c_X11_count l X w 4 v_117 hq_116) k41 rfl rfl (Nat.le_of_ble_eq_true rfl) dL_areSwimmers_544 ⟨Nat.le_of_ble_eq_true rfl, Nat.le_of_ble_eq_true rfl⟩ (fun H locs hW hL => ?_)
              refine lv_iload hx hb dL_areSwimmers_547 (lv_at hl 3 rfl) ?_
              refine lv_icmp_ne (tgt := 686) hx hb dL_areSwimmers_549 (by decide) (fun hc_118 => ?_) (fun hc_118 => ?_)
              · replace hF := gF hc_118 hF
                exact B_686  ls (lv_sub hl [] rfl) hF H locs hW hL
              · replace hF := gT hc_118 hF
                refine lv_aload_n hx hb dL_areSwimmers_552 rfl (lv_at hl 0 rfl) ?_
                refine lv_bipush (v := 6) hx hb dL_areSwimmers_553 (by decide) ?_
                obtain ⟨v_120, hq_119, hF⟩ := gP_some hF
                refine g_Vi (As := [.int 6]) (rest := []) ⟨hx, hb, hml, hown, hts⟩ hK hW hL hl.1 (gok_c (by decide)) gE_G rfl (c_X11_count l X w 6 v_120 hq_119) k41 rfl rfl (Nat.le_of_ble_eq_true rfl) dL_areSwimmers_555 ⟨Nat.le_of_ble_eq_true rfl, Nat.le_of_ble_eq_true rfl⟩ (fun H locs hW hL => ?_)
                refine lv_iload hx hb dL_areSwimmers_558 (lv_at hl 4 rfl) ?_
                refine lv_icmp_ne (tgt := 686) hx hb dL_areSwimmers_560 (by decide) (fun hc_121 => ?_) (fun hc_121 => ?_)
                · replace hF := gF hc_121 hF
                  exact B_686  ls (lv_sub hl [] rfl) hF H locs hW hL
                · replace hF := gT hc_121 hF
                  refine lv_aload_n hx hb dL_areSwimmers_563 rfl (lv_at hl 0 rfl) ?_
                  refine lv_bipush (v := 7) hx hb dL_areSwimmers_564 (by decide) ?_
                  obtain ⟨v_123, hq_122, hF⟩ := gP_some hF
                  refine g_Vi (As := [.int 7]) (rest := []) ⟨hx, hb, hml, hown, hts⟩ hK hW hL hl.1 (gok_c (by decide)) gE_G rfl (c_X11_count l X w 7 v_123 hq_122) k41 rfl rfl (Nat.le_of_ble_eq_true rfl) dL_areSwimmers_566 ⟨Nat.le_of_ble_eq_true rfl, Nat.le_of_ble_eq_true rfl⟩ (fun H locs hW hL => ?_)
                  refine lv_aload hx hb dL_areSwimmers_569 (lv_at hl 1 rfl) ?_
                  refine lv_iconst (v := 3) hx hb dL_areSwimmers_571 (by decide) ?_
                  refine g_iald2 (k := 3) hx hb hK hW (gok_o (by decide)) (gad_lt (gok_o (by decide))) gE_O5 (gin (by decide)) (by decide) dL_areSwimmers_572 ?_
                  refine lv_icmp_ne (tgt := 686) hx hb dL_areSwimmers_573 (by decide) (fun hc_124 => ?_) (fun hc_124 => ?_)
                  · replace hF := gF hc_124 hF
                    exact B_686  ls (lv_sub hl [] rfl) hF H locs hW hL
                  · replace hF := gT hc_124 hF
                    refine lv_aload_n hx hb dL_areSwimmers_576 rfl (lv_at hl 0 rfl) ?_
                    refine lv_bipush (v := 8) hx hb dL_areSwimmers_577 (by decide) ?_
                    obtain ⟨v_126, hq_125, hF⟩ := gP_some hF
                    refine g_Vi (As := [.int 8]) (rest := []) ⟨hx, hb, hml, hown, hts⟩ hK hW hL hl.1 (gok_c (by decide)) gE_G rfl (c_X11_count l X w 8 v_126 hq_125) k41 rfl rfl (Nat.le_of_ble_eq_true rfl) dL_areSwimmers_579 ⟨Nat.le_of_ble_eq_true rfl, Nat.le_of_ble_eq_true rfl⟩ (fun H locs hW hL => ?_)
                    refine lv_aload hx hb dL_areSwimmers_582 (lv_at hl 1 rfl) ?_
                    refine lv_iconst (v := 4) hx hb dL_areSwimmers_584 (by decide) ?_
                    refine g_iald2 (k := 4) hx hb hK hW (gok_o (by decide)) (gad_lt (gok_o (by decide))) gE_O5 (gin (by decide)) (by decide) dL_areSwimmers_585 ?_
                    refine lv_if_le (tgt := 596) hx hb dL_areSwimmers_586 (by decide) (fun hc_127 => ?_) (fun hc_127 => ?_)
                    · replace hF := gT hc_127 hF
                      refine lv_ldc hx hb hown q40 dL_areSwimmers_596 ?_
                      exact B_598 (-1000004) v_126 ls (lv_sub hl [0, 1] rfl) hF H locs hW hL
                    · replace hF := gF hc_127 hF
                      refine lv_aload hx hb dL_areSwimmers_589 (lv_at hl 1 rfl) ?_
                      refine lv_iconst (v := 4) hx hb dL_areSwimmers_591 (by decide) ?_
                      refine g_iald2 (k := 4) hx hb hK hW (gok_o (by decide)) (gad_lt (gok_o (by decide))) gE_O5 (gin (by decide)) (by decide) dL_areSwimmers_592 ?_
                      refine lv_goto (tgt := 598) hx hb dL_areSwimmers_593 (by decide) ?_
                      exact B_598 ((w 8 5 4)) v_126 ls (lv_sub hl [0, 1] rfl) hF H locs hW hL
  have L_44 : ∀ (fu : Nat) (x6 : Int32) (x7 : Int32) (x8 : Int32) (x9 : Int32) (x10 : Int32)  (ls : Array Slot) (hl : lv_has ls 11 [(0, .ref (gA X 7 0)), (1, .ref (gA X 8 0)), (2, .ref (gA X 8 1)), (3, .ref (gA X 8 2)), (4, .ref (gA X 8 3)), (5, .ref (gA X 8 5)), (6, .int x6), (7, .int x7), (8, .int x8), (9, .int x9), (10, .int x10)]) (hF : F_L_areSwimmers_44 fu w x6 x7 x8 x9 x10 = some r) (H : Heap) (locs : List Loc) (hW : gWo X 252 (gE X w) H) (hL : gLo X locs), W p l e rmL_areSwimmers s m args below meth c H locs 0 0 (MQ below (gQi X r w) args s 0 0 (gFr X)) (F0 m 44 ls []) := by
    intro fu
    induction fu with
    | zero => intro x6 x7 x8 x9 x10 ls hl hF H locs hW hL; rw [F_L_areSwimmers_44_z] at hF; cases hF
    | succ fu44 ih44 =>
      have B_482 : ∀ (x6 : Int32) (x7 : Int32) (x8 : Int32) (x10 : Int32)  (ls : Array Slot) (hl : lv_has ls 11 [(0, .ref (gA X 7 0)), (1, .ref (gA X 8 0)), (2, .ref (gA X 8 1)), (3, .ref (gA X 8 2)), (4, .ref (gA X 8 3)), (5, .ref (gA X 8 5)), (6, .int x6), (7, .int x7), (8, .int x8), (10, .int x10)]) (hF : F_L_areSwimmers_482 (F_L_areSwimmers_44 fu44) w x6 x7 x8 x10 = some r) (H : Heap) (locs : List Loc) (hW : gWo X 252 (gE X w) H) (hL : gLo X locs), W p l e rmL_areSwimmers s m args below meth c H locs 0 0 (MQ below (gQi X r w) args s 0 0 (gFr X)) (F0 m 482 ls []) := by
        intro x6 x7 x8 x10 ls hl hF H locs hW hL
        rw [F_L_areSwimmers_482] at hF
        refine lv_iconst (v := 0) hx hb dL_areSwimmers_482 (by decide) ?_
        refine lv_istore (lv' := [(9, .int 0), (0, .ref (gA X 7 0)), (1, .ref (gA X 8 0)), (2, .ref (gA X 8 1)), (3, .ref (gA X 8 2)), (4, .ref (gA X 8 3)), (5, .ref (gA X 8 5)), (6, .int x6), (7, .int x7), (8, .int x8), (10, .int x10)]) hx hb dL_areSwimmers_483 hl (by decide) rfl (fun ls hl => ?_)
        obtain ⟨x10_102, ex10_102, hF⟩ := gS_some hF
        refine lv_iinc (v := x10_102) (lv' := [(10, .int x10_102), (9, .int 0), (0, .ref (gA X 7 0)), (1, .ref (gA X 8 0)), (2, .ref (gA X 8 1)), (3, .ref (gA X 8 2)), (4, .ref (gA X 8 3)), (5, .ref (gA X 8 5)), (6, .int x6), (7, .int x7), (8, .int x8)]) hx hb dL_areSwimmers_485 hl (k := 10) rfl (by rw [ex10_102]; rfl) (by decide) rfl (fun ls hl => ?_)
        refine lv_goto (tgt := 44) hx hb dL_areSwimmers_488 (by decide) ?_
        exact ih44 x6 x7 x8 0 x10_102 ls (lv_sub hl [2, 3, 4, 5, 6, 7, 8, 9, 10, 1, 0] rfl) hF H locs hW hL
      have B_440 : ∀ (x6 : Int32) (x7 : Int32) (x8 : Int32) (x10 : Int32) (xs0 : Int32) (xs1 : Int32)  (ls : Array Slot) (hl : lv_has ls 11 [(0, .ref (gA X 7 0)), (1, .ref (gA X 8 0)), (2, .ref (gA X 8 1)), (3, .ref (gA X 8 2)), (4, .ref (gA X 8 3)), (5, .ref (gA X 8 5)), (6, .int x6), (7, .int x7), (8, .int x8), (10, .int x10)]) (hF : F_L_areSwimmers_440 (F_L_areSwimmers_44 fu44) w x6 x7 x8 x10 xs0 xs1 = some r) (H : Heap) (locs : List Loc) (hW : gWo X 252 (gE X w) H) (hL : gLo X locs), W p l e rmL_areSwimmers s m args below meth c H locs 0 0 (MQ below (gQi X r w) args s 0 0 (gFr X)) (F0 m 440 ls [.int xs0, .int xs1]) := by
        intro x6 x7 x8 x10 xs0 xs1 ls hl hF H locs hW hL
        rw [F_L_areSwimmers_440] at hF
        refine lv_icmp_ne (tgt := 482) hx hb dL_areSwimmers_440 (by decide) (fun hc_90 => ?_) (fun hc_90 => ?_)
        · replace hF := gF hc_90 hF
          exact B_482 x6 x7 x8 x10 ls (hl) hF H locs hW hL
        · replace hF := gT hc_90 hF
          refine lv_aload_n hx hb dL_areSwimmers_443 rfl (lv_at hl 0 rfl) ?_
          refine lv_iload hx hb dL_areSwimmers_444 (lv_at hl 9 rfl) ?_
          refine lv_bipush (v := 10) hx hb dL_areSwimmers_446 (by decide) ?_
          obtain ⟨v_92, hq_91, hF⟩ := gP_some hF
          refine g_Vi (As := [.int x10, .int 10]) (rest := []) ⟨hx, hb, hml, hown, hts⟩ hK hW hL hl.1 (gok_c (by decide)) gE_G rfl (c_X11_swimmer l X w x10 10 v_92 hq_91) k34 rfl rfl (Nat.le_of_ble_eq_true rfl) dL_areSwimmers_448 ⟨Nat.le_of_ble_eq_true rfl, Nat.le_of_ble_eq_true rfl⟩ (fun H locs hW hL => ?_)
          refine lv_aload_n hx hb dL_areSwimmers_451 rfl (lv_at hl 1 rfl) ?_
          refine lv_iconst (v := 3) hx hb dL_areSwimmers_452 (by decide) ?_
          refine lv_iload hx hb dL_areSwimmers_453 (lv_at hl 9 rfl) ?_
          refine lv_imul hx hb dL_areSwimmers_455 ?_
          refine lv_iconst (v := 2) hx hb dL_areSwimmers_456 (by decide) ?_
          refine lv_iadd hx hb dL_areSwimmers_457 ?_
          obtain ⟨hin_93, hF⟩ := gB_some hF
          obtain ⟨k_94, ek_94⟩ : ∃ k, k = Int32.toNatClampNeg (((3 * x10) + 2)) := ⟨_, rfl⟩
          rw [← ek_94] at hF
          refine g_iald2 (k := k_94) hx hb hK hW (gok_o (by decide)) (gad_lt (gok_o (by decide))) gE_O0 hin_93 ek_94.symm dL_areSwimmers_458 ?_
          refine lv_icmp_ne (tgt := 482) hx hb dL_areSwimmers_459 (by decide) (fun hc_95 => ?_) (fun hc_95 => ?_)
          · replace hF := gF hc_95 hF
            exact B_482 x6 x7 x8 x10 ls (hl) hF H locs hW hL
          · replace hF := gT hc_95 hF
            refine lv_aload_n hx hb dL_areSwimmers_462 rfl (lv_at hl 0 rfl) ?_
            refine lv_iload hx hb dL_areSwimmers_463 (lv_at hl 9 rfl) ?_
            refine lv_bipush (v := 11) hx hb dL_areSwimmers_465 (by decide) ?_
            obtain ⟨v_97, hq_96, hF⟩ := gP_some hF
            refine g_Vi (As := [.int x10, .int 11]) (rest := []) ⟨hx, hb, hml, hown, hts⟩ hK hW hL hl.1 (gok_c (by decide)) gE_G rfl (c_X11_swimmer l X w x10 11 v_97 hq_96) k34 rfl rfl (Nat.le_of_ble_eq_true rfl) dL_areSwimmers_467 ⟨Nat.le_of_ble_eq_true rfl, Nat.le_of_ble_eq_true rfl⟩ (fun H locs hW hL => ?_)
            refine lv_aload hx hb dL_areSwimmers_470 (lv_at hl 4 rfl) ?_
            refine lv_iload hx hb dL_areSwimmers_472 (lv_at hl 9 rfl) ?_
            obtain ⟨hin_98, hF⟩ := gB_some hF
            obtain ⟨k_99, ek_99⟩ : ∃ k, k = Int32.toNatClampNeg x10 := ⟨_, rfl⟩
            rw [← ek_99] at hF
            refine g_iald2 (k := k_99) hx hb hK hW (gok_o (by decide)) (gad_lt (gok_o (by decide))) gE_O3 hin_98 ek_99.symm dL_areSwimmers_474 ?_
            refine lv_icmp_ne (tgt := 482) hx hb dL_areSwimmers_475 (by decide) (fun hc_100 => ?_) (fun hc_100 => ?_)
            · replace hF := gF hc_100 hF
              exact B_482 x6 x7 x8 x10 ls (hl) hF H locs hW hL
            · replace hF := gT hc_100 hF
              refine lv_iconst (v := 1) hx hb dL_areSwimmers_478 (by decide) ?_
              refine lv_goto (tgt := 483) hx hb dL_areSwimmers_479 (by decide) ?_
              refine lv_istore (lv' := [(9, .int 1), (0, .ref (gA X 7 0)), (1, .ref (gA X 8 0)), (2, .ref (gA X 8 1)), (3, .ref (gA X 8 2)), (4, .ref (gA X 8 3)), (5, .ref (gA X 8 5)), (6, .int x6), (7, .int x7), (8, .int x8), (10, .int x10)]) hx hb dL_areSwimmers_483 hl (by decide) rfl (fun ls hl => ?_)
              obtain ⟨x10_101, ex10_101, hF⟩ := gS_some hF
              refine lv_iinc (v := x10_101) (lv' := [(10, .int x10_101), (9, .int 1), (0, .ref (gA X 7 0)), (1, .ref (gA X 8 0)), (2, .ref (gA X 8 1)), (3, .ref (gA X 8 2)), (4, .ref (gA X 8 3)), (5, .ref (gA X 8 5)), (6, .int x6), (7, .int x7), (8, .int x8)]) hx hb dL_areSwimmers_485 hl (k := 10) rfl (by rw [ex10_101]; rfl) (by decide) rfl (fun ls hl => ?_)
              refine lv_goto (tgt := 44) hx hb dL_areSwimmers_488 (by decide) ?_
              exact ih44 x6 x7 x8 1 x10_101 ls (lv_sub hl [2, 3, 4, 5, 6, 7, 8, 9, 10, 1, 0] rfl) hF H locs hW hL
      have B_405 : ∀ (x6 : Int32) (x7 : Int32) (x8 : Int32) (x10 : Int32) (xs0 : Int32) (xs1 : Int32)  (ls : Array Slot) (hl : lv_has ls 11 [(0, .ref (gA X 7 0)), (1, .ref (gA X 8 0)), (2, .ref (gA X 8 1)), (3, .ref (gA X 8 2)), (4, .ref (gA X 8 3)), (5, .ref (gA X 8 5)), (6, .int x6), (7, .int x7), (8, .int x8), (10, .int x10)]) (hF : F_L_areSwimmers_405 (F_L_areSwimmers_44 fu44) w x6 x7 x8 x10 xs0 xs1 = some r) (H : Heap) (locs : List Loc) (hW : gWo X 252 (gE X w) H) (hL : gLo X locs), W p l e rmL_areSwimmers s m args below meth c H locs 0 0 (MQ below (gQi X r w) args s 0 0 (gFr X)) (F0 m 405 ls [.int xs0, .int xs1]) := by
        intro x6 x7 x8 x10 xs0 xs1 ls hl hF H locs hW hL
        rw [F_L_areSwimmers_405] at hF
        refine lv_icmp_ne (tgt := 482) hx hb dL_areSwimmers_405 (by decide) (fun hc_82 => ?_) (fun hc_82 => ?_)
        · replace hF := gF hc_82 hF
          exact B_482 x6 x7 x8 x10 ls (hl) hF H locs hW hL
        · replace hF := gT hc_82 hF
          refine lv_aload_n hx hb dL_areSwimmers_408 rfl (lv_at hl 0 rfl) ?_
          refine lv_iload hx hb dL_areSwimmers_409 (lv_at hl 9 rfl) ?_
          refine lv_bipush (v := 9) hx hb dL_areSwimmers_411 (by decide) ?_
          obtain ⟨v_84, hq_83, hF⟩ := gP_some hF
          refine g_Vi (As := [.int x10, .int 9]) (rest := []) ⟨hx, hb, hml, hown, hts⟩ hK hW hL hl.1 (gok_c (by decide)) gE_G rfl (c_X11_swimmer l X w x10 9 v_84 hq_83) k34 rfl rfl (Nat.le_of_ble_eq_true rfl) dL_areSwimmers_413 ⟨Nat.le_of_ble_eq_true rfl, Nat.le_of_ble_eq_true rfl⟩ (fun H locs hW hL => ?_)
          refine lv_aload_n hx hb dL_areSwimmers_416 rfl (lv_at hl 3 rfl) ?_
          refine lv_iconst (v := 3) hx hb dL_areSwimmers_417 (by decide) ?_
          refine lv_iload hx hb dL_areSwimmers_418 (lv_at hl 9 rfl) ?_
          refine lv_imul hx hb dL_areSwimmers_420 ?_
          refine lv_iconst (v := 2) hx hb dL_areSwimmers_421 (by decide) ?_
          refine lv_iadd hx hb dL_areSwimmers_422 ?_
          obtain ⟨hin_85, hF⟩ := gB_some hF
          obtain ⟨k_86, ek_86⟩ : ∃ k, k = Int32.toNatClampNeg (((3 * x10) + 2)) := ⟨_, rfl⟩
          rw [← ek_86] at hF
          refine g_iald2 (k := k_86) hx hb hK hW (gok_o (by decide)) (gad_lt (gok_o (by decide))) gE_O2 hin_85 ek_86.symm dL_areSwimmers_423 ?_
          refine lv_if_le (tgt := 438) hx hb dL_areSwimmers_424 (by decide) (fun hc_87 => ?_) (fun hc_87 => ?_)
          · replace hF := gT hc_87 hF
            refine lv_ldc hx hb hown q40 dL_areSwimmers_438 ?_
            exact B_440 x6 x7 x8 x10 (-1000004) v_84 ls (hl) hF H locs hW hL
          · replace hF := gF hc_87 hF
            refine lv_aload_n hx hb dL_areSwimmers_427 rfl (lv_at hl 3 rfl) ?_
            refine lv_iconst (v := 3) hx hb dL_areSwimmers_428 (by decide) ?_
            refine lv_iload hx hb dL_areSwimmers_429 (lv_at hl 9 rfl) ?_
            refine lv_imul hx hb dL_areSwimmers_431 ?_
            refine lv_iconst (v := 2) hx hb dL_areSwimmers_432 (by decide) ?_
            refine lv_iadd hx hb dL_areSwimmers_433 ?_
            obtain ⟨hin_88, hF⟩ := gB_some hF
            obtain ⟨k_89, ek_89⟩ : ∃ k, k = Int32.toNatClampNeg (((3 * x10) + 2)) := ⟨_, rfl⟩
            rw [← ek_89] at hF
            refine g_iald2 (k := k_89) hx hb hK hW (gok_o (by decide)) (gad_lt (gok_o (by decide))) gE_O2 hin_88 ek_89.symm dL_areSwimmers_434 ?_
            refine lv_goto (tgt := 440) hx hb dL_areSwimmers_435 (by decide) ?_
            exact B_440 x6 x7 x8 x10 ((w 8 2 k_89)) v_84 ls (hl) hF H locs hW hL
      have B_368 : ∀ (x6 : Int32) (x7 : Int32) (x8 : Int32) (x10 : Int32) (xs0 : Int32) (xs1 : Int32)  (ls : Array Slot) (hl : lv_has ls 11 [(0, .ref (gA X 7 0)), (1, .ref (gA X 8 0)), (2, .ref (gA X 8 1)), (3, .ref (gA X 8 2)), (4, .ref (gA X 8 3)), (5, .ref (gA X 8 5)), (6, .int x6), (7, .int x7), (8, .int x8), (10, .int x10)]) (hF : F_L_areSwimmers_368 (F_L_areSwimmers_44 fu44) w x6 x7 x8 x10 xs0 xs1 = some r) (H : Heap) (locs : List Loc) (hW : gWo X 252 (gE X w) H) (hL : gLo X locs), W p l e rmL_areSwimmers s m args below meth c H locs 0 0 (MQ below (gQi X r w) args s 0 0 (gFr X)) (F0 m 368 ls [.int xs0, .int xs1]) := by
        intro x6 x7 x8 x10 xs0 xs1 ls hl hF H locs hW hL
        rw [F_L_areSwimmers_368] at hF
        refine lv_icmp_ne (tgt := 482) hx hb dL_areSwimmers_368 (by decide) (fun hc_74 => ?_) (fun hc_74 => ?_)
        · replace hF := gF hc_74 hF
          exact B_482 x6 x7 x8 x10 ls (hl) hF H locs hW hL
        · replace hF := gT hc_74 hF
          refine lv_aload_n hx hb dL_areSwimmers_371 rfl (lv_at hl 0 rfl) ?_
          refine lv_iload hx hb dL_areSwimmers_372 (lv_at hl 9 rfl) ?_
          refine lv_bipush (v := 8) hx hb dL_areSwimmers_374 (by decide) ?_
          obtain ⟨v_76, hq_75, hF⟩ := gP_some hF
          refine g_Vi (As := [.int x10, .int 8]) (rest := []) ⟨hx, hb, hml, hown, hts⟩ hK hW hL hl.1 (gok_c (by decide)) gE_G rfl (c_X11_swimmer l X w x10 8 v_76 hq_75) k34 rfl rfl (Nat.le_of_ble_eq_true rfl) dL_areSwimmers_376 ⟨Nat.le_of_ble_eq_true rfl, Nat.le_of_ble_eq_true rfl⟩ (fun H locs hW hL => ?_)
          refine lv_aload_n hx hb dL_areSwimmers_379 rfl (lv_at hl 3 rfl) ?_
          refine lv_iconst (v := 3) hx hb dL_areSwimmers_380 (by decide) ?_
          refine lv_iload hx hb dL_areSwimmers_381 (lv_at hl 9 rfl) ?_
          refine lv_imul hx hb dL_areSwimmers_383 ?_
          refine lv_iconst (v := 1) hx hb dL_areSwimmers_384 (by decide) ?_
          refine lv_iadd hx hb dL_areSwimmers_385 ?_
          obtain ⟨hin_77, hF⟩ := gB_some hF
          obtain ⟨k_78, ek_78⟩ : ∃ k, k = Int32.toNatClampNeg (((3 * x10) + 1)) := ⟨_, rfl⟩
          rw [← ek_78] at hF
          refine g_iald2 (k := k_78) hx hb hK hW (gok_o (by decide)) (gad_lt (gok_o (by decide))) gE_O2 hin_77 ek_78.symm dL_areSwimmers_386 ?_
          refine lv_if_le (tgt := 403) hx hb dL_areSwimmers_387 (by decide) (fun hc_79 => ?_) (fun hc_79 => ?_)
          · replace hF := gT hc_79 hF
            refine lv_ldc hx hb hown q40 dL_areSwimmers_403 ?_
            exact B_405 x6 x7 x8 x10 (-1000004) v_76 ls (hl) hF H locs hW hL
          · replace hF := gF hc_79 hF
            refine lv_aload_n hx hb dL_areSwimmers_390 rfl (lv_at hl 3 rfl) ?_
            refine lv_iconst (v := 3) hx hb dL_areSwimmers_391 (by decide) ?_
            refine lv_iload hx hb dL_areSwimmers_392 (lv_at hl 9 rfl) ?_
            refine lv_imul hx hb dL_areSwimmers_394 ?_
            refine lv_iconst (v := 1) hx hb dL_areSwimmers_395 (by decide) ?_
            refine lv_iadd hx hb dL_areSwimmers_396 ?_
            obtain ⟨hin_80, hF⟩ := gB_some hF
            obtain ⟨k_81, ek_81⟩ : ∃ k, k = Int32.toNatClampNeg (((3 * x10) + 1)) := ⟨_, rfl⟩
            rw [← ek_81] at hF
            refine g_iald2 (k := k_81) hx hb hK hW (gok_o (by decide)) (gad_lt (gok_o (by decide))) gE_O2 hin_80 ek_81.symm dL_areSwimmers_397 ?_
            refine lv_iconst (v := 1) hx hb dL_areSwimmers_398 (by decide) ?_
            refine lv_isub hx hb dL_areSwimmers_399 ?_
            refine lv_goto (tgt := 405) hx hb dL_areSwimmers_400 (by decide) ?_
            exact B_405 x6 x7 x8 x10 (((w 8 2 k_81) - 1)) v_76 ls (hl) hF H locs hW hL
      have B_337 : ∀ (x6 : Int32) (x7 : Int32) (x8 : Int32) (x10 : Int32) (xs0 : Int32) (xs1 : Int32)  (ls : Array Slot) (hl : lv_has ls 11 [(0, .ref (gA X 7 0)), (1, .ref (gA X 8 0)), (2, .ref (gA X 8 1)), (3, .ref (gA X 8 2)), (4, .ref (gA X 8 3)), (5, .ref (gA X 8 5)), (6, .int x6), (7, .int x7), (8, .int x8), (10, .int x10)]) (hF : F_L_areSwimmers_337 (F_L_areSwimmers_44 fu44) w x6 x7 x8 x10 xs0 xs1 = some r) (H : Heap) (locs : List Loc) (hW : gWo X 252 (gE X w) H) (hL : gLo X locs), W p l e rmL_areSwimmers s m args below meth c H locs 0 0 (MQ below (gQi X r w) args s 0 0 (gFr X)) (F0 m 337 ls [.int xs0, .int xs1]) := by
        intro x6 x7 x8 x10 xs0 xs1 ls hl hF H locs hW hL
        rw [F_L_areSwimmers_337] at hF
        refine lv_icmp_ne (tgt := 482) hx hb dL_areSwimmers_337 (by decide) (fun hc_66 => ?_) (fun hc_66 => ?_)
        · replace hF := gF hc_66 hF
          exact B_482 x6 x7 x8 x10 ls (hl) hF H locs hW hL
        · replace hF := gT hc_66 hF
          refine lv_aload_n hx hb dL_areSwimmers_340 rfl (lv_at hl 0 rfl) ?_
          refine lv_iload hx hb dL_areSwimmers_341 (lv_at hl 9 rfl) ?_
          refine lv_bipush (v := 7) hx hb dL_areSwimmers_343 (by decide) ?_
          obtain ⟨v_68, hq_67, hF⟩ := gP_some hF
          refine g_Vi (As := [.int x10, .int 7]) (rest := []) ⟨hx, hb, hml, hown, hts⟩ hK hW hL hl.1 (gok_c (by decide)) gE_G rfl (c_X11_swimmer l X w x10 7 v_68 hq_67) k34 rfl rfl (Nat.le_of_ble_eq_true rfl) dL_areSwimmers_345 ⟨Nat.le_of_ble_eq_true rfl, Nat.le_of_ble_eq_true rfl⟩ (fun H locs hW hL => ?_)
          refine lv_aload_n hx hb dL_areSwimmers_348 rfl (lv_at hl 3 rfl) ?_
          refine lv_iconst (v := 3) hx hb dL_areSwimmers_349 (by decide) ?_
          refine lv_iload hx hb dL_areSwimmers_350 (lv_at hl 9 rfl) ?_
          refine lv_imul hx hb dL_areSwimmers_352 ?_
          obtain ⟨hin_69, hF⟩ := gB_some hF
          obtain ⟨k_70, ek_70⟩ : ∃ k, k = Int32.toNatClampNeg ((3 * x10)) := ⟨_, rfl⟩
          rw [← ek_70] at hF
          refine g_iald2 (k := k_70) hx hb hK hW (gok_o (by decide)) (gad_lt (gok_o (by decide))) gE_O2 hin_69 ek_70.symm dL_areSwimmers_353 ?_
          refine lv_if_le (tgt := 366) hx hb dL_areSwimmers_354 (by decide) (fun hc_71 => ?_) (fun hc_71 => ?_)
          · replace hF := gT hc_71 hF
            refine lv_ldc hx hb hown q40 dL_areSwimmers_366 ?_
            exact B_368 x6 x7 x8 x10 (-1000004) v_68 ls (hl) hF H locs hW hL
          · replace hF := gF hc_71 hF
            refine lv_aload_n hx hb dL_areSwimmers_357 rfl (lv_at hl 3 rfl) ?_
            refine lv_iconst (v := 3) hx hb dL_areSwimmers_358 (by decide) ?_
            refine lv_iload hx hb dL_areSwimmers_359 (lv_at hl 9 rfl) ?_
            refine lv_imul hx hb dL_areSwimmers_361 ?_
            obtain ⟨hin_72, hF⟩ := gB_some hF
            obtain ⟨k_73, ek_73⟩ : ∃ k, k = Int32.toNatClampNeg ((3 * x10)) := ⟨_, rfl⟩
            rw [← ek_73] at hF
            refine g_iald2 (k := k_73) hx hb hK hW (gok_o (by decide)) (gad_lt (gok_o (by decide))) gE_O2 hin_72 ek_73.symm dL_areSwimmers_362 ?_
            refine lv_goto (tgt := 368) hx hb dL_areSwimmers_363 (by decide) ?_
            exact B_368 x6 x7 x8 x10 ((w 8 2 k_73)) v_68 ls (hl) hF H locs hW hL
      have B_300 : ∀ (x6 : Int32) (x7 : Int32) (x8 : Int32) (x10 : Int32) (xs0 : Int32) (xs1 : Int32)  (ls : Array Slot) (hl : lv_has ls 11 [(0, .ref (gA X 7 0)), (1, .ref (gA X 8 0)), (2, .ref (gA X 8 1)), (3, .ref (gA X 8 2)), (4, .ref (gA X 8 3)), (5, .ref (gA X 8 5)), (6, .int x6), (7, .int x7), (8, .int x8), (10, .int x10)]) (hF : F_L_areSwimmers_300 (F_L_areSwimmers_44 fu44) w x6 x7 x8 x10 xs0 xs1 = some r) (H : Heap) (locs : List Loc) (hW : gWo X 252 (gE X w) H) (hL : gLo X locs), W p l e rmL_areSwimmers s m args below meth c H locs 0 0 (MQ below (gQi X r w) args s 0 0 (gFr X)) (F0 m 300 ls [.int xs0, .int xs1]) := by
        intro x6 x7 x8 x10 xs0 xs1 ls hl hF H locs hW hL
        rw [F_L_areSwimmers_300] at hF
        refine lv_icmp_ne (tgt := 482) hx hb dL_areSwimmers_300 (by decide) (fun hc_58 => ?_) (fun hc_58 => ?_)
        · replace hF := gF hc_58 hF
          exact B_482 x6 x7 x8 x10 ls (hl) hF H locs hW hL
        · replace hF := gT hc_58 hF
          refine lv_aload_n hx hb dL_areSwimmers_303 rfl (lv_at hl 0 rfl) ?_
          refine lv_iload hx hb dL_areSwimmers_304 (lv_at hl 9 rfl) ?_
          refine lv_bipush (v := 6) hx hb dL_areSwimmers_306 (by decide) ?_
          obtain ⟨v_60, hq_59, hF⟩ := gP_some hF
          refine g_Vi (As := [.int x10, .int 6]) (rest := []) ⟨hx, hb, hml, hown, hts⟩ hK hW hL hl.1 (gok_c (by decide)) gE_G rfl (c_X11_swimmer l X w x10 6 v_60 hq_59) k34 rfl rfl (Nat.le_of_ble_eq_true rfl) dL_areSwimmers_308 ⟨Nat.le_of_ble_eq_true rfl, Nat.le_of_ble_eq_true rfl⟩ (fun H locs hW hL => ?_)
          refine lv_aload_n hx hb dL_areSwimmers_311 rfl (lv_at hl 2 rfl) ?_
          refine lv_iconst (v := 3) hx hb dL_areSwimmers_312 (by decide) ?_
          refine lv_iload hx hb dL_areSwimmers_313 (lv_at hl 9 rfl) ?_
          refine lv_imul hx hb dL_areSwimmers_315 ?_
          refine lv_iconst (v := 2) hx hb dL_areSwimmers_316 (by decide) ?_
          refine lv_iadd hx hb dL_areSwimmers_317 ?_
          obtain ⟨hin_61, hF⟩ := gB_some hF
          obtain ⟨k_62, ek_62⟩ : ∃ k, k = Int32.toNatClampNeg (((3 * x10) + 2)) := ⟨_, rfl⟩
          rw [← ek_62] at hF
          refine g_iald2 (k := k_62) hx hb hK hW (gok_o (by decide)) (gad_lt (gok_o (by decide))) gE_O1 hin_61 ek_62.symm dL_areSwimmers_318 ?_
          refine lv_iconst (v := 1) hx hb dL_areSwimmers_319 (by decide) ?_
          refine lv_icmp_le (tgt := 335) hx hb dL_areSwimmers_320 (by decide) (fun hc_63 => ?_) (fun hc_63 => ?_)
          · replace hF := gT hc_63 hF
            refine lv_ldc hx hb hown q40 dL_areSwimmers_335 ?_
            exact B_337 x6 x7 x8 x10 (-1000004) v_60 ls (hl) hF H locs hW hL
          · replace hF := gF hc_63 hF
            refine lv_aload_n hx hb dL_areSwimmers_323 rfl (lv_at hl 1 rfl) ?_
            refine lv_aload_n hx hb dL_areSwimmers_324 rfl (lv_at hl 2 rfl) ?_
            refine lv_aload hx hb dL_areSwimmers_325 (lv_at hl 5 rfl) ?_
            refine lv_iload hx hb dL_areSwimmers_327 (lv_at hl 9 rfl) ?_
            obtain ⟨v_65, hq_64, hF⟩ := gP_some hF
            refine g_Si (As := [.ref (gA X 8 0), .ref (gA X 8 1), .ref (gA X 8 5), .int x10]) (rest := [.int v_60]) ⟨hx, hb, hml, hown, hts⟩ hK hW hL hl.1 (c_L_timeRank l X w x10 v_65 hq_64) k31 rfl rfl (Nat.le_of_ble_eq_true rfl) dL_areSwimmers_329 ⟨Nat.le_of_ble_eq_true rfl, Nat.le_of_ble_eq_true rfl⟩ (fun H locs hW hL => ?_)
            refine lv_goto (tgt := 337) hx hb dL_areSwimmers_332 (by decide) ?_
            exact B_337 x6 x7 x8 x10 v_65 v_60 ls (hl) hF H locs hW hL
      have B_264 : ∀ (x6 : Int32) (x7 : Int32) (x8 : Int32) (x10 : Int32) (xs0 : Int32) (xs1 : Int32)  (ls : Array Slot) (hl : lv_has ls 11 [(0, .ref (gA X 7 0)), (1, .ref (gA X 8 0)), (2, .ref (gA X 8 1)), (3, .ref (gA X 8 2)), (4, .ref (gA X 8 3)), (5, .ref (gA X 8 5)), (6, .int x6), (7, .int x7), (8, .int x8), (10, .int x10)]) (hF : F_L_areSwimmers_264 (F_L_areSwimmers_44 fu44) w x6 x7 x8 x10 xs0 xs1 = some r) (H : Heap) (locs : List Loc) (hW : gWo X 252 (gE X w) H) (hL : gLo X locs), W p l e rmL_areSwimmers s m args below meth c H locs 0 0 (MQ below (gQi X r w) args s 0 0 (gFr X)) (F0 m 264 ls [.int xs0, .int xs1]) := by
        intro x6 x7 x8 x10 xs0 xs1 ls hl hF H locs hW hL
        rw [F_L_areSwimmers_264] at hF
        refine lv_icmp_ne (tgt := 482) hx hb dL_areSwimmers_264 (by decide) (fun hc_50 => ?_) (fun hc_50 => ?_)
        · replace hF := gF hc_50 hF
          exact B_482 x6 x7 x8 x10 ls (hl) hF H locs hW hL
        · replace hF := gT hc_50 hF
          refine lv_aload_n hx hb dL_areSwimmers_267 rfl (lv_at hl 0 rfl) ?_
          refine lv_iload hx hb dL_areSwimmers_268 (lv_at hl 9 rfl) ?_
          refine lv_iconst (v := 5) hx hb dL_areSwimmers_270 (by decide) ?_
          obtain ⟨v_52, hq_51, hF⟩ := gP_some hF
          refine g_Vi (As := [.int x10, .int 5]) (rest := []) ⟨hx, hb, hml, hown, hts⟩ hK hW hL hl.1 (gok_c (by decide)) gE_G rfl (c_X11_swimmer l X w x10 5 v_52 hq_51) k34 rfl rfl (Nat.le_of_ble_eq_true rfl) dL_areSwimmers_271 ⟨Nat.le_of_ble_eq_true rfl, Nat.le_of_ble_eq_true rfl⟩ (fun H locs hW hL => ?_)
          refine lv_aload_n hx hb dL_areSwimmers_274 rfl (lv_at hl 2 rfl) ?_
          refine lv_iconst (v := 3) hx hb dL_areSwimmers_275 (by decide) ?_
          refine lv_iload hx hb dL_areSwimmers_276 (lv_at hl 9 rfl) ?_
          refine lv_imul hx hb dL_areSwimmers_278 ?_
          refine lv_iconst (v := 2) hx hb dL_areSwimmers_279 (by decide) ?_
          refine lv_iadd hx hb dL_areSwimmers_280 ?_
          obtain ⟨hin_53, hF⟩ := gB_some hF
          obtain ⟨k_54, ek_54⟩ : ∃ k, k = Int32.toNatClampNeg (((3 * x10) + 2)) := ⟨_, rfl⟩
          rw [← ek_54] at hF
          refine g_iald2 (k := k_54) hx hb hK hW (gok_o (by decide)) (gad_lt (gok_o (by decide))) gE_O1 hin_53 ek_54.symm dL_areSwimmers_281 ?_
          refine lv_if_le (tgt := 298) hx hb dL_areSwimmers_282 (by decide) (fun hc_55 => ?_) (fun hc_55 => ?_)
          · replace hF := gT hc_55 hF
            refine lv_ldc hx hb hown q40 dL_areSwimmers_298 ?_
            exact B_300 x6 x7 x8 x10 (-1000004) v_52 ls (hl) hF H locs hW hL
          · replace hF := gF hc_55 hF
            refine lv_aload_n hx hb dL_areSwimmers_285 rfl (lv_at hl 2 rfl) ?_
            refine lv_iconst (v := 3) hx hb dL_areSwimmers_286 (by decide) ?_
            refine lv_iload hx hb dL_areSwimmers_287 (lv_at hl 9 rfl) ?_
            refine lv_imul hx hb dL_areSwimmers_289 ?_
            refine lv_iconst (v := 2) hx hb dL_areSwimmers_290 (by decide) ?_
            refine lv_iadd hx hb dL_areSwimmers_291 ?_
            obtain ⟨hin_56, hF⟩ := gB_some hF
            obtain ⟨k_57, ek_57⟩ : ∃ k, k = Int32.toNatClampNeg (((3 * x10) + 2)) := ⟨_, rfl⟩
            rw [← ek_57] at hF
            refine g_iald2 (k := k_57) hx hb hK hW (gok_o (by decide)) (gad_lt (gok_o (by decide))) gE_O1 hin_56 ek_57.symm dL_areSwimmers_292 ?_
            refine lv_iconst (v := 1) hx hb dL_areSwimmers_293 (by decide) ?_
            refine lv_isub hx hb dL_areSwimmers_294 ?_
            refine lv_goto (tgt := 300) hx hb dL_areSwimmers_295 (by decide) ?_
            exact B_300 x6 x7 x8 x10 (((w 8 1 k_57) - 1)) v_52 ls (hl) hF H locs hW hL
      have B_232 : ∀ (x6 : Int32) (x7 : Int32) (x8 : Int32) (x10 : Int32) (xs0 : Int32) (xs1 : Int32)  (ls : Array Slot) (hl : lv_has ls 11 [(0, .ref (gA X 7 0)), (1, .ref (gA X 8 0)), (2, .ref (gA X 8 1)), (3, .ref (gA X 8 2)), (4, .ref (gA X 8 3)), (5, .ref (gA X 8 5)), (6, .int x6), (7, .int x7), (8, .int x8), (10, .int x10)]) (hF : F_L_areSwimmers_232 (F_L_areSwimmers_44 fu44) w x6 x7 x8 x10 xs0 xs1 = some r) (H : Heap) (locs : List Loc) (hW : gWo X 252 (gE X w) H) (hL : gLo X locs), W p l e rmL_areSwimmers s m args below meth c H locs 0 0 (MQ below (gQi X r w) args s 0 0 (gFr X)) (F0 m 232 ls [.int xs0, .int xs1]) := by
        intro x6 x7 x8 x10 xs0 xs1 ls hl hF H locs hW hL
        rw [F_L_areSwimmers_232] at hF
        refine lv_icmp_ne (tgt := 482) hx hb dL_areSwimmers_232 (by decide) (fun hc_42 => ?_) (fun hc_42 => ?_)
        · replace hF := gF hc_42 hF
          exact B_482 x6 x7 x8 x10 ls (hl) hF H locs hW hL
        · replace hF := gT hc_42 hF
          refine lv_aload_n hx hb dL_areSwimmers_235 rfl (lv_at hl 0 rfl) ?_
          refine lv_iload hx hb dL_areSwimmers_236 (lv_at hl 9 rfl) ?_
          refine lv_iconst (v := 4) hx hb dL_areSwimmers_238 (by decide) ?_
          obtain ⟨v_44, hq_43, hF⟩ := gP_some hF
          refine g_Vi (As := [.int x10, .int 4]) (rest := []) ⟨hx, hb, hml, hown, hts⟩ hK hW hL hl.1 (gok_c (by decide)) gE_G rfl (c_X11_swimmer l X w x10 4 v_44 hq_43) k34 rfl rfl (Nat.le_of_ble_eq_true rfl) dL_areSwimmers_239 ⟨Nat.le_of_ble_eq_true rfl, Nat.le_of_ble_eq_true rfl⟩ (fun H locs hW hL => ?_)
          refine lv_aload_n hx hb dL_areSwimmers_242 rfl (lv_at hl 2 rfl) ?_
          refine lv_iconst (v := 3) hx hb dL_areSwimmers_243 (by decide) ?_
          refine lv_iload hx hb dL_areSwimmers_244 (lv_at hl 9 rfl) ?_
          refine lv_imul hx hb dL_areSwimmers_246 ?_
          obtain ⟨hin_45, hF⟩ := gB_some hF
          obtain ⟨k_46, ek_46⟩ : ∃ k, k = Int32.toNatClampNeg ((3 * x10)) := ⟨_, rfl⟩
          rw [← ek_46] at hF
          refine g_iald2 (k := k_46) hx hb hK hW (gok_o (by decide)) (gad_lt (gok_o (by decide))) gE_O1 hin_45 ek_46.symm dL_areSwimmers_247 ?_
          refine lv_if_le (tgt := 262) hx hb dL_areSwimmers_248 (by decide) (fun hc_47 => ?_) (fun hc_47 => ?_)
          · replace hF := gT hc_47 hF
            refine lv_ldc hx hb hown q40 dL_areSwimmers_262 ?_
            exact B_264 x6 x7 x8 x10 (-1000004) v_44 ls (hl) hF H locs hW hL
          · replace hF := gF hc_47 hF
            refine lv_aload_n hx hb dL_areSwimmers_251 rfl (lv_at hl 2 rfl) ?_
            refine lv_iconst (v := 3) hx hb dL_areSwimmers_252 (by decide) ?_
            refine lv_iload hx hb dL_areSwimmers_253 (lv_at hl 9 rfl) ?_
            refine lv_imul hx hb dL_areSwimmers_255 ?_
            refine lv_iconst (v := 1) hx hb dL_areSwimmers_256 (by decide) ?_
            refine lv_iadd hx hb dL_areSwimmers_257 ?_
            obtain ⟨hin_48, hF⟩ := gB_some hF
            obtain ⟨k_49, ek_49⟩ : ∃ k, k = Int32.toNatClampNeg (((3 * x10) + 1)) := ⟨_, rfl⟩
            rw [← ek_49] at hF
            refine g_iald2 (k := k_49) hx hb hK hW (gok_o (by decide)) (gad_lt (gok_o (by decide))) gE_O1 hin_48 ek_49.symm dL_areSwimmers_258 ?_
            refine lv_goto (tgt := 264) hx hb dL_areSwimmers_259 (by decide) ?_
            exact B_264 x6 x7 x8 x10 ((w 8 1 k_49)) v_44 ls (hl) hF H locs hW hL
      have B_200 : ∀ (x6 : Int32) (x7 : Int32) (x8 : Int32) (x10 : Int32) (xs0 : Int32) (xs1 : Int32)  (ls : Array Slot) (hl : lv_has ls 11 [(0, .ref (gA X 7 0)), (1, .ref (gA X 8 0)), (2, .ref (gA X 8 1)), (3, .ref (gA X 8 2)), (4, .ref (gA X 8 3)), (5, .ref (gA X 8 5)), (6, .int x6), (7, .int x7), (8, .int x8), (10, .int x10)]) (hF : F_L_areSwimmers_200 (F_L_areSwimmers_44 fu44) w x6 x7 x8 x10 xs0 xs1 = some r) (H : Heap) (locs : List Loc) (hW : gWo X 252 (gE X w) H) (hL : gLo X locs), W p l e rmL_areSwimmers s m args below meth c H locs 0 0 (MQ below (gQi X r w) args s 0 0 (gFr X)) (F0 m 200 ls [.int xs0, .int xs1]) := by
        intro x6 x7 x8 x10 xs0 xs1 ls hl hF H locs hW hL
        rw [F_L_areSwimmers_200] at hF
        refine lv_icmp_ne (tgt := 482) hx hb dL_areSwimmers_200 (by decide) (fun hc_34 => ?_) (fun hc_34 => ?_)
        · replace hF := gF hc_34 hF
          exact B_482 x6 x7 x8 x10 ls (hl) hF H locs hW hL
        · replace hF := gT hc_34 hF
          refine lv_aload_n hx hb dL_areSwimmers_203 rfl (lv_at hl 0 rfl) ?_
          refine lv_iload hx hb dL_areSwimmers_204 (lv_at hl 9 rfl) ?_
          refine lv_iconst (v := 3) hx hb dL_areSwimmers_206 (by decide) ?_
          obtain ⟨v_36, hq_35, hF⟩ := gP_some hF
          refine g_Vi (As := [.int x10, .int 3]) (rest := []) ⟨hx, hb, hml, hown, hts⟩ hK hW hL hl.1 (gok_c (by decide)) gE_G rfl (c_X11_swimmer l X w x10 3 v_36 hq_35) k34 rfl rfl (Nat.le_of_ble_eq_true rfl) dL_areSwimmers_207 ⟨Nat.le_of_ble_eq_true rfl, Nat.le_of_ble_eq_true rfl⟩ (fun H locs hW hL => ?_)
          refine lv_aload_n hx hb dL_areSwimmers_210 rfl (lv_at hl 2 rfl) ?_
          refine lv_iconst (v := 3) hx hb dL_areSwimmers_211 (by decide) ?_
          refine lv_iload hx hb dL_areSwimmers_212 (lv_at hl 9 rfl) ?_
          refine lv_imul hx hb dL_areSwimmers_214 ?_
          obtain ⟨hin_37, hF⟩ := gB_some hF
          obtain ⟨k_38, ek_38⟩ : ∃ k, k = Int32.toNatClampNeg ((3 * x10)) := ⟨_, rfl⟩
          rw [← ek_38] at hF
          refine g_iald2 (k := k_38) hx hb hK hW (gok_o (by decide)) (gad_lt (gok_o (by decide))) gE_O1 hin_37 ek_38.symm dL_areSwimmers_215 ?_
          refine lv_if_le (tgt := 230) hx hb dL_areSwimmers_216 (by decide) (fun hc_39 => ?_) (fun hc_39 => ?_)
          · replace hF := gT hc_39 hF
            refine lv_ldc hx hb hown q40 dL_areSwimmers_230 ?_
            exact B_232 x6 x7 x8 x10 (-1000004) v_36 ls (hl) hF H locs hW hL
          · replace hF := gF hc_39 hF
            refine lv_aload_n hx hb dL_areSwimmers_219 rfl (lv_at hl 2 rfl) ?_
            refine lv_iconst (v := 3) hx hb dL_areSwimmers_220 (by decide) ?_
            refine lv_iload hx hb dL_areSwimmers_221 (lv_at hl 9 rfl) ?_
            refine lv_imul hx hb dL_areSwimmers_223 ?_
            obtain ⟨hin_40, hF⟩ := gB_some hF
            obtain ⟨k_41, ek_41⟩ : ∃ k, k = Int32.toNatClampNeg ((3 * x10)) := ⟨_, rfl⟩
            rw [← ek_41] at hF
            refine g_iald2 (k := k_41) hx hb hK hW (gok_o (by decide)) (gad_lt (gok_o (by decide))) gE_O1 hin_40 ek_41.symm dL_areSwimmers_224 ?_
            refine lv_iconst (v := 1) hx hb dL_areSwimmers_225 (by decide) ?_
            refine lv_isub hx hb dL_areSwimmers_226 ?_
            refine lv_goto (tgt := 232) hx hb dL_areSwimmers_227 (by decide) ?_
            exact B_232 x6 x7 x8 x10 (((w 8 1 k_41) - 1)) v_36 ls (hl) hF H locs hW hL
      have B_130 : ∀ (x6 : Int32) (x7 : Int32) (x10 : Int32) (xs0 : Int32) (xs1 : Int32) (xs2 : Int32)  (ls : Array Slot) (hl : lv_has ls 11 [(0, .ref (gA X 7 0)), (1, .ref (gA X 8 0)), (2, .ref (gA X 8 1)), (3, .ref (gA X 8 2)), (4, .ref (gA X 8 3)), (5, .ref (gA X 8 5)), (6, .int x6), (7, .int x7), (10, .int x10)]) (hF : F_L_areSwimmers_130 (F_L_areSwimmers_44 fu44) w x6 x7 x10 xs0 xs1 xs2 = some r) (H : Heap) (locs : List Loc) (hW : gWo X 252 (gE X w) H) (hL : gLo X locs), W p l e rmL_areSwimmers s m args below meth c H locs 0 0 (MQ below (gQi X r w) args s 0 0 (gFr X)) (F0 m 130 ls [.int xs0, .int xs1, .int xs2]) := by
        intro x6 x7 x10 xs0 xs1 xs2 ls hl hF H locs hW hL
        rw [F_L_areSwimmers_130] at hF
        refine lv_iadd hx hb dL_areSwimmers_130 ?_
        refine lv_iadd hx hb dL_areSwimmers_131 ?_
        obtain ⟨x8_16, ex8_16, hF⟩ := gS_some hF
        refine g_top ex8_16 ?_
        refine lv_istore (lv' := [(8, .int x8_16), (0, .ref (gA X 7 0)), (1, .ref (gA X 8 0)), (2, .ref (gA X 8 1)), (3, .ref (gA X 8 2)), (4, .ref (gA X 8 3)), (5, .ref (gA X 8 5)), (6, .int x6), (7, .int x7), (10, .int x10)]) hx hb dL_areSwimmers_132 hl (by decide) rfl (fun ls hl => ?_)
        refine lv_aload_n hx hb dL_areSwimmers_134 rfl (lv_at hl 1 rfl) ?_
        refine lv_iload hx hb dL_areSwimmers_135 (lv_at hl 9 rfl) ?_
        refine lv_iconst (v := 0) hx hb dL_areSwimmers_137 (by decide) ?_
        obtain ⟨v_18, hq_17, hF⟩ := gP_some hF
        refine g_Vi (As := [.int x10, .int 0]) (rest := []) ⟨hx, hb, hml, hown, hts⟩ hK hW hL hl.1 (gok_c (by decide)) gE_G rfl (c_X11_swimmer l X w x10 0 v_18 hq_17) k34 rfl rfl (Nat.le_of_ble_eq_true rfl) dL_areSwimmers_138 ⟨Nat.le_of_ble_eq_true rfl, Nat.le_of_ble_eq_true rfl⟩ (fun H locs hW hL => ?_)
        refine lv_aload_n hx hb dL_areSwimmers_141 rfl (lv_at hl 2 rfl) ?_
        refine lv_iconst (v := 3) hx hb dL_areSwimmers_142 (by decide) ?_
        refine lv_iload hx hb dL_areSwimmers_143 (lv_at hl 9 rfl) ?_
        refine lv_imul hx hb dL_areSwimmers_145 ?_
        obtain ⟨hin_19, hF⟩ := gB_some hF
        obtain ⟨k_20, ek_20⟩ : ∃ k, k = Int32.toNatClampNeg ((3 * x10)) := ⟨_, rfl⟩
        rw [← ek_20] at hF
        refine g_iald2 (k := k_20) hx hb hK hW (gok_o (by decide)) (gad_lt (gok_o (by decide))) gE_O0 hin_19 ek_20.symm dL_areSwimmers_146 ?_
        refine lv_icmp_ne (tgt := 482) hx hb dL_areSwimmers_147 (by decide) (fun hc_21 => ?_) (fun hc_21 => ?_)
        · replace hF := gF hc_21 hF
          exact B_482 x6 x7 x8_16 x10 ls (lv_sub hl [1, 2, 3, 4, 5, 6, 7, 8, 0, 9] rfl) hF H locs hW hL
        · replace hF := gT hc_21 hF
          refine lv_aload_n hx hb dL_areSwimmers_150 rfl (lv_at hl 1 rfl) ?_
          refine lv_iload hx hb dL_areSwimmers_151 (lv_at hl 9 rfl) ?_
          refine lv_iconst (v := 1) hx hb dL_areSwimmers_153 (by decide) ?_
          obtain ⟨v_23, hq_22, hF⟩ := gP_some hF
          refine g_Vi (As := [.int x10, .int 1]) (rest := []) ⟨hx, hb, hml, hown, hts⟩ hK hW hL hl.1 (gok_c (by decide)) gE_G rfl (c_X11_swimmer l X w x10 1 v_23 hq_22) k34 rfl rfl (Nat.le_of_ble_eq_true rfl) dL_areSwimmers_154 ⟨Nat.le_of_ble_eq_true rfl, Nat.le_of_ble_eq_true rfl⟩ (fun H locs hW hL => ?_)
          refine lv_aload_n hx hb dL_areSwimmers_157 rfl (lv_at hl 2 rfl) ?_
          refine lv_iconst (v := 3) hx hb dL_areSwimmers_158 (by decide) ?_
          refine lv_iload hx hb dL_areSwimmers_159 (lv_at hl 9 rfl) ?_
          refine lv_imul hx hb dL_areSwimmers_161 ?_
          refine lv_iconst (v := 1) hx hb dL_areSwimmers_162 (by decide) ?_
          refine lv_iadd hx hb dL_areSwimmers_163 ?_
          obtain ⟨hin_24, hF⟩ := gB_some hF
          obtain ⟨k_25, ek_25⟩ : ∃ k, k = Int32.toNatClampNeg (((3 * x10) + 1)) := ⟨_, rfl⟩
          rw [← ek_25] at hF
          refine g_iald2 (k := k_25) hx hb hK hW (gok_o (by decide)) (gad_lt (gok_o (by decide))) gE_O0 hin_24 ek_25.symm dL_areSwimmers_164 ?_
          refine lv_icmp_ne (tgt := 482) hx hb dL_areSwimmers_165 (by decide) (fun hc_26 => ?_) (fun hc_26 => ?_)
          · replace hF := gF hc_26 hF
            exact B_482 x6 x7 x8_16 x10 ls (lv_sub hl [1, 2, 3, 4, 5, 6, 7, 8, 0, 9] rfl) hF H locs hW hL
          · replace hF := gT hc_26 hF
            refine lv_aload_n hx hb dL_areSwimmers_168 rfl (lv_at hl 1 rfl) ?_
            refine lv_iload hx hb dL_areSwimmers_169 (lv_at hl 9 rfl) ?_
            refine lv_iconst (v := 2) hx hb dL_areSwimmers_171 (by decide) ?_
            obtain ⟨v_28, hq_27, hF⟩ := gP_some hF
            refine g_Vi (As := [.int x10, .int 2]) (rest := []) ⟨hx, hb, hml, hown, hts⟩ hK hW hL hl.1 (gok_c (by decide)) gE_G rfl (c_X11_swimmer l X w x10 2 v_28 hq_27) k34 rfl rfl (Nat.le_of_ble_eq_true rfl) dL_areSwimmers_172 ⟨Nat.le_of_ble_eq_true rfl, Nat.le_of_ble_eq_true rfl⟩ (fun H locs hW hL => ?_)
            refine lv_aload_n hx hb dL_areSwimmers_175 rfl (lv_at hl 2 rfl) ?_
            refine lv_iconst (v := 3) hx hb dL_areSwimmers_176 (by decide) ?_
            refine lv_iload hx hb dL_areSwimmers_177 (lv_at hl 9 rfl) ?_
            refine lv_imul hx hb dL_areSwimmers_179 ?_
            refine lv_iconst (v := 2) hx hb dL_areSwimmers_180 (by decide) ?_
            refine lv_iadd hx hb dL_areSwimmers_181 ?_
            obtain ⟨hin_29, hF⟩ := gB_some hF
            obtain ⟨k_30, ek_30⟩ : ∃ k, k = Int32.toNatClampNeg (((3 * x10) + 2)) := ⟨_, rfl⟩
            rw [← ek_30] at hF
            refine g_iald2 (k := k_30) hx hb hK hW (gok_o (by decide)) (gad_lt (gok_o (by decide))) gE_O0 hin_29 ek_30.symm dL_areSwimmers_182 ?_
            refine lv_iconst (v := 1) hx hb dL_areSwimmers_183 (by decide) ?_
            refine lv_icmp_ne (tgt := 192) hx hb dL_areSwimmers_184 (by decide) (fun hc_31 => ?_) (fun hc_31 => ?_)
            · replace hF := gF hc_31 hF
              refine lv_aload_n hx hb dL_areSwimmers_192 rfl (lv_at hl 2 rfl) ?_
              refine lv_aload hx hb dL_areSwimmers_193 (lv_at hl 6 rfl) ?_
              refine lv_iload hx hb dL_areSwimmers_195 (lv_at hl 9 rfl) ?_
              obtain ⟨v_33, hq_32, hF⟩ := gP_some hF
              refine g_Si (As := [.ref (gA X 8 0), .ref (gA X 8 5), .int x10]) (rest := [.int v_28]) ⟨hx, hb, hml, hown, hts⟩ hK hW hL hl.1 (c_L_rank l X w x10 v_33 hq_32) k15 rfl rfl (Nat.le_of_ble_eq_true rfl) dL_areSwimmers_197 ⟨Nat.le_of_ble_eq_true rfl, Nat.le_of_ble_eq_true rfl⟩ (fun H locs hW hL => ?_)
              exact B_200 x6 x7 x8_16 x10 v_33 v_28 ls (lv_sub hl [1, 2, 3, 4, 5, 6, 7, 8, 0, 9] rfl) hF H locs hW hL
            · replace hF := gT hc_31 hF
              refine lv_ldc hx hb hown q40 dL_areSwimmers_187 ?_
              refine lv_goto (tgt := 200) hx hb dL_areSwimmers_189 (by decide) ?_
              exact B_200 x6 x7 x8_16 x10 (-1000004) v_28 ls (lv_sub hl [1, 2, 3, 4, 5, 6, 7, 8, 0, 9] rfl) hF H locs hW hL
      have B_114 : ∀ (x6 : Int32) (x7 : Int32) (x10 : Int32) (xs0 : Int32) (xs1 : Int32)  (ls : Array Slot) (hl : lv_has ls 11 [(0, .ref (gA X 7 0)), (1, .ref (gA X 8 0)), (2, .ref (gA X 8 1)), (3, .ref (gA X 8 2)), (4, .ref (gA X 8 3)), (5, .ref (gA X 8 5)), (6, .int x6), (7, .int x7), (10, .int x10)]) (hF : F_L_areSwimmers_114 (F_L_areSwimmers_44 fu44) w x6 x7 x10 xs0 xs1 = some r) (H : Heap) (locs : List Loc) (hW : gWo X 252 (gE X w) H) (hL : gLo X locs), W p l e rmL_areSwimmers s m args below meth c H locs 0 0 (MQ below (gQi X r w) args s 0 0 (gFr X)) (F0 m 114 ls [.int xs0, .int xs1]) := by
        intro x6 x7 x10 xs0 xs1 ls hl hF H locs hW hL
        rw [F_L_areSwimmers_114] at hF
        refine lv_aload_n hx hb dL_areSwimmers_114 rfl (lv_at hl 3 rfl) ?_
        refine lv_iconst (v := 3) hx hb dL_areSwimmers_115 (by decide) ?_
        refine lv_iload hx hb dL_areSwimmers_116 (lv_at hl 8 rfl) ?_
        refine lv_imul hx hb dL_areSwimmers_118 ?_
        refine lv_iconst (v := 1) hx hb dL_areSwimmers_119 (by decide) ?_
        refine lv_iadd hx hb dL_areSwimmers_120 ?_
        obtain ⟨hin_13, hF⟩ := gB_some hF
        obtain ⟨k_14, ek_14⟩ : ∃ k, k = Int32.toNatClampNeg (((3 * x10) + 1)) := ⟨_, rfl⟩
        rw [← ek_14] at hF
        refine g_iald2 (k := k_14) hx hb hK hW (gok_o (by decide)) (gad_lt (gok_o (by decide))) gE_O2 hin_13 ek_14.symm dL_areSwimmers_121 ?_
        refine lv_if_le (tgt := 129) hx hb dL_areSwimmers_122 (by decide) (fun hc_15 => ?_) (fun hc_15 => ?_)
        · replace hF := gT hc_15 hF
          refine lv_iconst (v := 0) hx hb dL_areSwimmers_129 (by decide) ?_
          exact B_130 x6 x7 x10 0 xs0 xs1 ls (hl) hF H locs hW hL
        · replace hF := gF hc_15 hF
          refine lv_iconst (v := 1) hx hb dL_areSwimmers_125 (by decide) ?_
          refine lv_goto (tgt := 130) hx hb dL_areSwimmers_126 (by decide) ?_
          exact B_130 x6 x7 x10 1 xs0 xs1 ls (hl) hF H locs hW hL
      have B_93 : ∀ (x6 : Int32) (x8 : Int32) (x10 : Int32) (xs0 : Int32) (xs1 : Int32)  (ls : Array Slot) (hl : lv_has ls 11 [(0, .ref (gA X 7 0)), (1, .ref (gA X 8 0)), (2, .ref (gA X 8 1)), (3, .ref (gA X 8 2)), (4, .ref (gA X 8 3)), (5, .ref (gA X 8 5)), (6, .int x6), (8, .int x8), (10, .int x10)]) (hF : F_L_areSwimmers_93 (F_L_areSwimmers_44 fu44) w x6 x8 x10 xs0 xs1 = some r) (H : Heap) (locs : List Loc) (hW : gWo X 252 (gE X w) H) (hL : gLo X locs), W p l e rmL_areSwimmers s m args below meth c H locs 0 0 (MQ below (gQi X r w) args s 0 0 (gFr X)) (F0 m 93 ls [.int xs0, .int xs1]) := by
        intro x6 x8 x10 xs0 xs1 ls hl hF H locs hW hL
        rw [F_L_areSwimmers_93] at hF
        refine lv_ior hx hb dL_areSwimmers_93 ?_
        obtain ⟨x7_9, ex7_9, hF⟩ := gS_some hF
        refine g_top ex7_9 ?_
        refine lv_istore (lv' := [(7, .int x7_9), (0, .ref (gA X 7 0)), (1, .ref (gA X 8 0)), (2, .ref (gA X 8 1)), (3, .ref (gA X 8 2)), (4, .ref (gA X 8 3)), (5, .ref (gA X 8 5)), (6, .int x6), (8, .int x8), (10, .int x10)]) hx hb dL_areSwimmers_94 hl (by decide) rfl (fun ls hl => ?_)
        refine lv_iload hx hb dL_areSwimmers_96 (lv_at hl 8 rfl) ?_
        refine lv_aload_n hx hb dL_areSwimmers_98 rfl (lv_at hl 3 rfl) ?_
        refine lv_iconst (v := 3) hx hb dL_areSwimmers_99 (by decide) ?_
        refine lv_iload hx hb dL_areSwimmers_100 (lv_at hl 9 rfl) ?_
        refine lv_imul hx hb dL_areSwimmers_102 ?_
        refine lv_iconst (v := 2) hx hb dL_areSwimmers_103 (by decide) ?_
        refine lv_iadd hx hb dL_areSwimmers_104 ?_
        obtain ⟨hin_10, hF⟩ := gB_some hF
        obtain ⟨k_11, ek_11⟩ : ∃ k, k = Int32.toNatClampNeg (((3 * x10) + 2)) := ⟨_, rfl⟩
        rw [← ek_11] at hF
        refine g_iald2 (k := k_11) hx hb hK hW (gok_o (by decide)) (gad_lt (gok_o (by decide))) gE_O1 hin_10 ek_11.symm dL_areSwimmers_105 ?_
        refine lv_if_le (tgt := 113) hx hb dL_areSwimmers_106 (by decide) (fun hc_12 => ?_) (fun hc_12 => ?_)
        · replace hF := gT hc_12 hF
          refine lv_iconst (v := 0) hx hb dL_areSwimmers_113 (by decide) ?_
          exact B_114 x6 x7_9 x10 0 x8 ls (lv_sub hl [1, 2, 3, 4, 5, 6, 7, 0, 9] rfl) hF H locs hW hL
        · replace hF := gF hc_12 hF
          refine lv_iconst (v := 1) hx hb dL_areSwimmers_109 (by decide) ?_
          refine lv_goto (tgt := 114) hx hb dL_areSwimmers_110 (by decide) ?_
          exact B_114 x6 x7_9 x10 1 x8 ls (lv_sub hl [1, 2, 3, 4, 5, 6, 7, 0, 9] rfl) hF H locs hW hL
      intro x6 x7 x8 x9 x10 ls hl hF H locs hW hL
      rw [F_L_areSwimmers_44_s] at hF
      refine lv_iload hx hb dL_areSwimmers_44 (lv_at hl 10 rfl) ?_
      refine lv_aload hx hb dL_areSwimmers_46 (lv_at hl 5 rfl) ?_
      refine lv_iconst (v := 1) hx hb dL_areSwimmers_48 (by decide) ?_
      refine g_iald2 (k := 1) hx hb hK hW (gok_o (by decide)) (gad_lt (gok_o (by decide))) gE_O5 (gin (by decide)) (by decide) dL_areSwimmers_49 ?_
      refine lv_icmp_ge (tgt := 491) hx hb dL_areSwimmers_50 (by decide) (fun hc_1 => ?_) (fun hc_1 => ?_)
      · replace hF := gT hc_1 hF
        exact B_491 x6 x7 x8 x9 ls (lv_sub hl [0, 5, 6, 7, 8, 9] rfl) hF H locs hW hL
      · replace hF := gF hc_1 hF
        refine lv_iload hx hb dL_areSwimmers_53 (lv_at hl 9 rfl) ?_
        refine lv_if_eq (tgt := 491) hx hb dL_areSwimmers_55 (by decide) (fun hc_2 => ?_) (fun hc_2 => ?_)
        · replace hF := gT hc_2 hF
          exact B_491 x6 x7 x8 x9 ls (lv_sub hl [0, 5, 6, 7, 8, 9] rfl) hF H locs hW hL
        · replace hF := gF hc_2 hF
          refine lv_iload hx hb dL_areSwimmers_58 (lv_at hl 6 rfl) ?_
          refine lv_aload_n hx hb dL_areSwimmers_60 rfl (lv_at hl 1 rfl) ?_
          refine lv_iconst (v := 3) hx hb dL_areSwimmers_61 (by decide) ?_
          refine lv_iload hx hb dL_areSwimmers_62 (lv_at hl 10 rfl) ?_
          refine lv_imul hx hb dL_areSwimmers_64 ?_
          refine lv_iconst (v := 2) hx hb dL_areSwimmers_65 (by decide) ?_
          refine lv_iadd hx hb dL_areSwimmers_66 ?_
          obtain ⟨hin_3, hF⟩ := gB_some hF
          obtain ⟨k_4, ek_4⟩ : ∃ k, k = Int32.toNatClampNeg (((3 * x10) + 2)) := ⟨_, rfl⟩
          rw [← ek_4] at hF
          refine g_iald2 (k := k_4) hx hb hK hW (gok_o (by decide)) (gad_lt (gok_o (by decide))) gE_O0 hin_3 ek_4.symm dL_areSwimmers_67 ?_
          refine lv_iload hx hb dL_areSwimmers_68 (lv_at hl 10 rfl) ?_
          refine lv_ishl hx hb dL_areSwimmers_70 ?_
          refine lv_ior hx hb dL_areSwimmers_71 ?_
          obtain ⟨x6_5, ex6_5, hF⟩ := gS_some hF
          refine g_top ex6_5 ?_
          refine lv_istore (lv' := [(6, .int x6_5), (0, .ref (gA X 7 0)), (1, .ref (gA X 8 0)), (2, .ref (gA X 8 1)), (3, .ref (gA X 8 2)), (4, .ref (gA X 8 3)), (5, .ref (gA X 8 5)), (7, .int x7), (8, .int x8), (9, .int x9), (10, .int x10)]) hx hb dL_areSwimmers_72 hl (by decide) rfl (fun ls hl => ?_)
          refine lv_iload hx hb dL_areSwimmers_74 (lv_at hl 7 rfl) ?_
          refine lv_aload_n hx hb dL_areSwimmers_76 rfl (lv_at hl 4 rfl) ?_
          refine lv_iconst (v := 3) hx hb dL_areSwimmers_77 (by decide) ?_
          refine lv_iload hx hb dL_areSwimmers_78 (lv_at hl 10 rfl) ?_
          refine lv_imul hx hb dL_areSwimmers_80 ?_
          obtain ⟨hin_6, hF⟩ := gB_some hF
          obtain ⟨k_7, ek_7⟩ : ∃ k, k = Int32.toNatClampNeg ((3 * x10)) := ⟨_, rfl⟩
          rw [← ek_7] at hF
          refine g_iald2 (k := k_7) hx hb hK hW (gok_o (by decide)) (gad_lt (gok_o (by decide))) gE_O2 hin_6 ek_7.symm dL_areSwimmers_81 ?_
          refine lv_if_le (tgt := 92) hx hb dL_areSwimmers_82 (by decide) (fun hc_8 => ?_) (fun hc_8 => ?_)
          · replace hF := gT hc_8 hF
            refine lv_iconst (v := 0) hx hb dL_areSwimmers_92 (by decide) ?_
            exact B_93 x6_5 x8 x10 0 x7 ls (lv_sub hl [1, 2, 3, 4, 5, 6, 0, 8, 10] rfl) hF H locs hW hL
          · replace hF := gF hc_8 hF
            refine lv_iconst (v := 1) hx hb dL_areSwimmers_85 (by decide) ?_
            refine lv_iload hx hb dL_areSwimmers_86 (lv_at hl 10 rfl) ?_
            refine lv_ishl hx hb dL_areSwimmers_88 ?_
            refine lv_goto (tgt := 93) hx hb dL_areSwimmers_89 (by decide) ?_
            exact B_93 x6_5 x8 x10 ((1 <<< (x10 &&& 31))) x7 ls (lv_sub hl [1, 2, 3, 4, 5, 6, 0, 8, 10] rfl) hF H locs hW hL
  have B_38 : ∀ (x6 : Int32) (x7 : Int32) (x8 : Int32)  (ls : Array Slot) (hl : lv_has ls 11 [(0, .ref (gA X 7 0)), (1, .ref (gA X 8 0)), (2, .ref (gA X 8 1)), (3, .ref (gA X 8 2)), (4, .ref (gA X 8 3)), (5, .ref (gA X 8 5)), (6, .int x6), (7, .int x7), (8, .int x8)]) (hF : F_L_areSwimmers_38 w x6 x7 x8 = some r) (H : Heap) (locs : List Loc) (hW : gWo X 252 (gE X w) H) (hL : gLo X locs), W p l e rmL_areSwimmers s m args below meth c H locs 0 0 (MQ below (gQi X r w) args s 0 0 (gFr X)) (F0 m 38 ls []) := by
    intro x6 x7 x8 ls hl hF H locs hW hL
    rw [F_L_areSwimmers_38] at hF
    refine lv_iconst (v := 0) hx hb dL_areSwimmers_38 (by decide) ?_
    refine lv_istore (lv' := [(9, .int 0), (0, .ref (gA X 7 0)), (1, .ref (gA X 8 0)), (2, .ref (gA X 8 1)), (3, .ref (gA X 8 2)), (4, .ref (gA X 8 3)), (5, .ref (gA X 8 5)), (6, .int x6), (7, .int x7), (8, .int x8)]) hx hb dL_areSwimmers_39 hl (by decide) rfl (fun ls hl => ?_)
    refine lv_iconst (v := 0) hx hb dL_areSwimmers_41 (by decide) ?_
    refine lv_istore (lv' := [(10, .int 0), (9, .int 0), (0, .ref (gA X 7 0)), (1, .ref (gA X 8 0)), (2, .ref (gA X 8 1)), (3, .ref (gA X 8 2)), (4, .ref (gA X 8 3)), (5, .ref (gA X 8 5)), (6, .int x6), (7, .int x7), (8, .int x8)]) hx hb dL_areSwimmers_42 hl (by decide) rfl (fun ls hl => ?_)
    exact L_44 gFU x6 x7 x8 0 0 ls (lv_sub hl [2, 3, 4, 5, 6, 7, 8, 9, 10, 1, 0] rfl) hF H locs hW hL
  rw [F_L_areSwimmers] at hF
  obtain ⟨locs, hlocs⟩ : ∃ locs : List Loc, locs = [] := ⟨_, rfl⟩
  rw [← hlocs] at hL ⊢
  refine lv_iconst (v := 0) hx hb dL_areSwimmers_0 (by decide) ?_
  refine lv_istore (lv' := [(6, .int 0), (0, .ref (gA X 7 0)), (1, .ref (gA X 8 0)), (2, .ref (gA X 8 1)), (3, .ref (gA X 8 2)), (4, .ref (gA X 8 3)), (5, .ref (gA X 8 5))]) hx hb dL_areSwimmers_1 hl (by decide) rfl (fun ls hl => ?_)
  refine lv_iconst (v := 0) hx hb dL_areSwimmers_3 (by decide) ?_
  refine lv_istore (lv' := [(7, .int 0), (6, .int 0), (0, .ref (gA X 7 0)), (1, .ref (gA X 8 0)), (2, .ref (gA X 8 1)), (3, .ref (gA X 8 2)), (4, .ref (gA X 8 3)), (5, .ref (gA X 8 5))]) hx hb dL_areSwimmers_4 hl (by decide) rfl (fun ls hl => ?_)
  refine lv_iconst (v := 0) hx hb dL_areSwimmers_6 (by decide) ?_
  refine lv_istore (lv' := [(8, .int 0), (7, .int 0), (6, .int 0), (0, .ref (gA X 7 0)), (1, .ref (gA X 8 0)), (2, .ref (gA X 8 1)), (3, .ref (gA X 8 2)), (4, .ref (gA X 8 3)), (5, .ref (gA X 8 5))]) hx hb dL_areSwimmers_7 hl (by decide) rfl (fun ls hl => ?_)
  refine lv_aload_n hx hb dL_areSwimmers_9 rfl (lv_at hl 3 rfl) ?_
  refine lv_aload hx hb dL_areSwimmers_10 (lv_at hl 8 rfl) ?_
  refine lv_iconst (v := 1) hx hb dL_areSwimmers_12 (by decide) ?_
  refine g_iald2 (k := 1) hx hb hK hW (gok_o (by decide)) (gad_lt (gok_o (by decide))) gE_O5 (gin (by decide)) (by decide) dL_areSwimmers_13 ?_
  refine lv_iconst (v := 0) hx hb dL_areSwimmers_14 (by decide) ?_
  obtain ⟨v_146, hq_145, hF⟩ := gP_some hF
  refine g_Vi (As := [.int (w 8 5 1), .int 0]) (rest := []) ⟨hx, hb, hml, hown, hts⟩ hK hW hL hl.1 (gok_c (by decide)) gE_G rfl (c_X11_swimmer l X w ((w 8 5 1)) 0 v_146 hq_145) k34 rfl rfl (Nat.le_of_ble_eq_true rfl) dL_areSwimmers_15 ⟨Nat.le_of_ble_eq_true rfl, Nat.le_of_ble_eq_true rfl⟩ (fun H locs hW hL => ?_)
  refine lv_ldc hx hb hown q39 dL_areSwimmers_18 ?_
  refine lv_icmp_ne (tgt := 38) hx hb dL_areSwimmers_20 (by decide) (fun hc_147 => ?_) (fun hc_147 => ?_)
  · replace hF := gF hc_147 hF
    exact B_38 0 0 0 ls (lv_sub hl [3, 4, 5, 6, 7, 8, 2, 1, 0] rfl) hF H locs hW hL
  · replace hF := gT hc_147 hF
    refine lv_aload_n hx hb dL_areSwimmers_23 rfl (lv_at hl 3 rfl) ?_
    refine lv_iconst (v := (-1)) hx hb dL_areSwimmers_24 (by decide) ?_
    refine lv_iconst (v := 0) hx hb dL_areSwimmers_25 (by decide) ?_
    obtain ⟨v_149, hq_148, hF⟩ := gP_some hF
    refine g_Vi (As := [.int (-1), .int 0]) (rest := []) ⟨hx, hb, hml, hown, hts⟩ hK hW hL hl.1 (gok_c (by decide)) gE_G rfl (c_X11_swimmer l X w (-1) 0 v_149 hq_148) k34 rfl rfl (Nat.le_of_ble_eq_true rfl) dL_areSwimmers_26 ⟨Nat.le_of_ble_eq_true rfl, Nat.le_of_ble_eq_true rfl⟩ (fun H locs hW hL => ?_)
    refine lv_ldc hx hb hown q39 dL_areSwimmers_29 ?_
    refine lv_icmp_ne (tgt := 38) hx hb dL_areSwimmers_31 (by decide) (fun hc_150 => ?_) (fun hc_150 => ?_)
    · replace hF := gF hc_150 hF
      exact B_38 0 0 0 ls (lv_sub hl [3, 4, 5, 6, 7, 8, 2, 1, 0] rfl) hF H locs hW hL
    · replace hF := gT hc_150 hF
      refine lv_iconst (v := 1) hx hb dL_areSwimmers_34 (by decide) ?_
      refine lv_goto (tgt := 39) hx hb dL_areSwimmers_35 (by decide) ?_
      refine lv_istore (lv' := [(9, .int 1), (8, .int 0), (7, .int 0), (6, .int 0), (0, .ref (gA X 7 0)), (1, .ref (gA X 8 0)), (2, .ref (gA X 8 1)), (3, .ref (gA X 8 2)), (4, .ref (gA X 8 3)), (5, .ref (gA X 8 5))]) hx hb dL_areSwimmers_39 hl (by decide) rfl (fun ls hl => ?_)
      refine lv_iconst (v := 0) hx hb dL_areSwimmers_41 (by decide) ?_
      refine lv_istore (lv' := [(10, .int 0), (9, .int 1), (8, .int 0), (7, .int 0), (6, .int 0), (0, .ref (gA X 7 0)), (1, .ref (gA X 8 0)), (2, .ref (gA X 8 1)), (3, .ref (gA X 8 2)), (4, .ref (gA X 8 3)), (5, .ref (gA X 8 5))]) hx hb dL_areSwimmers_42 hl (by decide) rfl (fun ls hl => ?_)
      exact L_44 gFU 0 0 0 1 0 ls (lv_sub hl [5, 6, 7, 8, 9, 10, 4, 3, 2, 1, 0] rfl) hF H locs hW hL
