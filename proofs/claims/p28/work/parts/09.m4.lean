abbrev rmL_isActed : Room := { frames := 7, cells := 0, slots := 0, locals := 160 }
abbrev wsL_isActed : List Cond := gws yL_isActed cL_isActed 16 (some .boolean)
set_option maxHeartbeats 4000000 in
set_option maxRecDepth 100000 in
theorem c_L_isActed (l : Launch) (X : gX) (w : gWd) (x9 : Int32) (x10 : Int32) (r : Int32) (w' : gWd) (hF : F_L_isActed w x9 x10 = some (r, w')) : Met l yL_isActed wsL_isActed rmL_isActed (gPc X [.ref (gA X 7 0), .ref (gA X 8 0), .ref (gA X 8 1), .ref (gA X 8 2), .ref (gA X 8 3), .ref (gA X 8 4), .ref (gA X 8 5), .ref (gA X 8 6), .ref (gA X 8 7), .int x9, .int x10] w) (gQi X r w') 0 0 (gFr X) := by
  refine g_ofW (cc := cL_isActed) (maxL := 16) (ret := (some .boolean)) (by decide) rfl (Nat.le_of_ble_eq_true rfl) (fun p e s m args below meth c ls H hx hb hr hts hown hlocks hml hK hl hW => ?_)
  have hl : lv_has ls 16 [(0, .ref (gA X 7 0)), (1, .ref (gA X 8 0)), (2, .ref (gA X 8 1)), (3, .ref (gA X 8 2)), (4, .ref (gA X 8 3)), (5, .ref (gA X 8 4)), (6, .ref (gA X 8 5)), (7, .ref (gA X 8 6)), (8, .ref (gA X 8 7)), (9, .int x9), (10, .int x10)] := hl
  have hown : s.vm.findClass RL = some m.cls := hown
  have hL : gLo X [] := gLo_nil
  show W p l e rmL_isActed s m args below meth c H [] 0 0 _ _
  have q39 := hts _ (List.mem_cons_of_mem _ wq_L_39)
  have q71 := hts _ (List.mem_cons_of_mem _ wq_L_71)
  have k102 : CallW rmL_isActed s args RL RX11 102 yX11_scratch cX11_scratch 2 (some .int) wsX11_scratch rmX11_scratch 0 0 1 := cwV 1 hts (gGoodV (fun w h => List.mem_cons_of_mem _ h) wk_L_102) rfl rfl rfl (by decide +kernel) ⟨Nat.le_of_ble_eq_true rfl, Nat.le_of_ble_eq_true rfl⟩
  have k104 : CallW rmL_isActed s args RL RX11 104 yX11_set cX11_set 3 (some .int) wsX11_set rmX11_set 0 0 2 := cwV 2 hts (gGoodV (fun w h => List.mem_cons_of_mem _ h) wk_L_104) rfl rfl rfl (by decide +kernel) ⟨Nat.le_of_ble_eq_true rfl, Nat.le_of_ble_eq_true rfl⟩
  have k107 : CallB rmL_isActed s args RL 107 yL_isSwum cL_isSwum 8 (some .boolean) wsL_isSwum rmL_isSwum 0 0 7 ∧ (Cond.static yL_isSwum).before args s = true := va_cwS 7 hts (gGoodS (fun w h => List.mem_cons_of_mem _ h) wk_L_107) rfl rfl rfl (by decide +kernel) ⟨Nat.le_of_ble_eq_true rfl, Nat.le_of_ble_eq_true rfl⟩
  have k111 : CallB rmL_isActed s args RL 111 yL_isStage cL_isStage 12 (some .boolean) wsL_isStage rmL_isStage 0 0 9 ∧ (Cond.static yL_isStage).before args s = true := va_cwS 9 hts (gGoodS (fun w h => List.mem_cons_of_mem _ h) wk_L_111) rfl rfl rfl (by decide +kernel) ⟨Nat.le_of_ble_eq_true rfl, Nat.le_of_ble_eq_true rfl⟩
  have k23 : CallB rmL_isActed s args RL 23 yL_isAsked cL_isAsked 5 (some .boolean) wsL_isAsked rmL_isAsked 0 0 5 ∧ (Cond.static yL_isAsked).before args s = true := va_cwS 5 hts (gGoodS (fun w h => List.mem_cons_of_mem _ h) wk_L_23) rfl rfl rfl (by decide +kernel) ⟨Nat.le_of_ble_eq_true rfl, Nat.le_of_ble_eq_true rfl⟩
  have k27 : CallB rmL_isActed s args RL 27 yL_time cL_time 4 (some .int) wsL_time rmL_time 0 0 4 ∧ (Cond.static yL_time).before args s = true := va_cwS 4 hts (gGoodS (fun w h => List.mem_cons_of_mem _ h) wk_L_27) rfl rfl rfl (by decide +kernel) ⟨Nat.le_of_ble_eq_true rfl, Nat.le_of_ble_eq_true rfl⟩
  have k95 : CallW rmL_isActed s args RL RX11 95 yX11_enter cX11_enter 3 (some .int) wsX11_enter rmX11_enter 0 0 2 := cwV 2 hts (gGoodV (fun w h => List.mem_cons_of_mem _ h) wk_L_95) rfl rfl rfl (by decide +kernel) ⟨Nat.le_of_ble_eq_true rfl, Nat.le_of_ble_eq_true rfl⟩
  have k98 : CallB rmL_isActed s args RL 98 yL_scratch cL_scratch 9 (some .int) wsL_scratch rmL_scratch 0 0 6 ∧ (Cond.static yL_scratch).before args s = true := va_cwS 6 hts (gGoodS (fun w h => List.mem_cons_of_mem _ h) wk_L_98) rfl rfl rfl (by decide +kernel) ⟨Nat.le_of_ble_eq_true rfl, Nat.le_of_ble_eq_true rfl⟩
  have B_68 : ∀ (w : gWd) (x10 : Int32) (xs0 : Int32)  (ls : Array Slot) (hl : lv_has ls 16 [(0, .ref (gA X 7 0)), (1, .ref (gA X 8 0)), (6, .ref (gA X 8 5)), (10, .int x10)]) (hF : F_L_isActed_68 w x10 xs0 = some (r, w')) (H : Heap) (locs : List Loc) (hW : gWo X 252 (gE X w) H) (hL : gLo X locs), W p l e rmL_isActed s m args below meth c H locs 0 0 (MQ below (gQi X r w') args s 0 0 (gFr X)) (F0 m 68 ls [.int xs0]) := by
    intro w x10 xs0 ls hl hF H locs hW hL
    rw [F_L_isActed_68] at hF
    refine lv_istore (lv' := [(13, .int xs0), (0, .ref (gA X 7 0)), (1, .ref (gA X 8 0)), (6, .ref (gA X 8 5)), (10, .int x10)]) hx hb dL_isActed_68 hl (by decide) rfl (fun ls hl => ?_)
    refine lv_aload_n hx hb dL_isActed_70 rfl (lv_at hl 2 rfl) ?_
    refine lv_iconst (v := 3) hx hb dL_isActed_71 (by decide) ?_
    refine lv_aload hx hb dL_isActed_72 (lv_at hl 3 rfl) ?_
    refine lv_iconst (v := 1) hx hb dL_isActed_74 (by decide) ?_
    refine g_iald2 (k := 1) hx hb hK hW (gok_o (by decide)) (gad_lt (gok_o (by decide))) gE_O5 (gin (by decide)) (by decide) dL_isActed_75 ?_
    refine lv_imul hx hb dL_isActed_76 ?_
    refine lv_iload hx hb dL_isActed_77 (lv_at hl 4 rfl) ?_
    refine lv_bipush (v := 6) hx hb dL_isActed_79 (by decide) ?_
    refine lv_irem hx hb dL_isActed_81 (by decide) ?_
    obtain ⟨hin_2, hF⟩ := gB_some hF
    obtain ⟨k_3, ek_3⟩ : ∃ k, k = Int32.toNatClampNeg ((3 * (w 8 5 1))) := ⟨_, rfl⟩
    rw [← ek_3] at hF
    obtain ⟨w_4, ew_4, hF⟩ := gS_some hF
    refine g_iast2 (k := k_3) hx hb hK hW hL (gok_o (by decide)) (fun w => gE_O0 (w := w)) hin_2 ek_3.symm dL_isActed_82 (fun H locs hW hL => ?_)
    rw [← ew_4] at hW
    refine lv_aload_n hx hb dL_isActed_83 rfl (lv_at hl 2 rfl) ?_
    refine lv_iconst (v := 3) hx hb dL_isActed_84 (by decide) ?_
    refine lv_aload hx hb dL_isActed_85 (lv_at hl 3 rfl) ?_
    refine lv_iconst (v := 1) hx hb dL_isActed_87 (by decide) ?_
    refine g_iald2 (k := 1) hx hb hK hW (gok_o (by decide)) (gad_lt (gok_o (by decide))) gE_O5 (gin (by decide)) (by decide) dL_isActed_88 ?_
    refine lv_imul hx hb dL_isActed_89 ?_
    refine lv_iconst (v := 1) hx hb dL_isActed_90 (by decide) ?_
    refine lv_iadd hx hb dL_isActed_91 ?_
    refine lv_iload hx hb dL_isActed_92 (lv_at hl 0 rfl) ?_
    obtain ⟨hin_5, hF⟩ := gB_some hF
    obtain ⟨k_6, ek_6⟩ : ∃ k, k = Int32.toNatClampNeg (((3 * (w_4 8 5 1)) + 1)) := ⟨_, rfl⟩
    rw [← ek_6] at hF
    obtain ⟨w_7, ew_7, hF⟩ := gS_some hF
    refine g_iast2 (k := k_6) hx hb hK hW hL (gok_o (by decide)) (fun w => gE_O0 (w := w)) hin_5 ek_6.symm dL_isActed_94 (fun H locs hW hL => ?_)
    rw [← ew_7] at hW
    refine lv_aload hx hb dL_isActed_95 (lv_at hl 3 rfl) ?_
    refine lv_iconst (v := 1) hx hb dL_isActed_97 (by decide) ?_
    refine lv_dup2_11 hx hb dL_isActed_98 rfl rfl ?_
    refine g_iald2 (k := 1) hx hb hK hW (gok_o (by decide)) (gad_lt (gok_o (by decide))) gE_O5 (gin (by decide)) (by decide) dL_isActed_99 ?_
    refine lv_iconst (v := 1) hx hb dL_isActed_100 (by decide) ?_
    refine lv_iadd hx hb dL_isActed_101 ?_
    obtain ⟨w_8, ew_8, hF⟩ := gS_some hF
    refine g_iast2 (k := 1) hx hb hK hW hL (gok_o (by decide)) (fun w => gE_O5 (w := w)) (gin (by decide)) (by decide) dL_isActed_102 (fun H locs hW hL => ?_)
    rw [← ew_8] at hW
    refine lv_aload_n hx hb dL_isActed_103 rfl (lv_at hl 1 rfl) ?_
    refine lv_iload hx hb dL_isActed_104 (lv_at hl 4 rfl) ?_
    refine lv_bipush (v := 6) hx hb dL_isActed_106 (by decide) ?_
    refine lv_irem hx hb dL_isActed_108 (by decide) ?_
    refine lv_iload hx hb dL_isActed_109 (lv_at hl 0 rfl) ?_
    obtain ⟨v_10, w_11, hq_9, hF⟩ := gC_some hF
    refine g_Vi (As := [.int (x10 - x10 / 6 * 6), .int xs0]) (rest := []) ⟨hx, hb, hml, hown, hts⟩ hK hW hL hl.1 (gok_c (by decide)) gE_G rfl (c_X11_enter l X w_8 ((x10 - x10 / 6 * 6)) xs0 v_10 w_11 hq_9) k95 rfl rfl (Nat.le_of_ble_eq_true rfl) dL_isActed_111 ⟨Nat.le_of_ble_eq_true rfl, Nat.le_of_ble_eq_true rfl⟩ (fun H locs hW hL => ?_)
    refine lv_aload hx hb dL_isActed_114 (lv_at hl 3 rfl) ?_
    refine lv_iconst (v := 1) hx hb dL_isActed_116 (by decide) ?_
    refine g_iald2 (k := 1) hx hb hK hW (gok_o (by decide)) (gad_lt (gok_o (by decide))) gE_O5 (gin (by decide)) (by decide) dL_isActed_117 ?_
    refine lv_iconst (v := 1) hx hb dL_isActed_118 (by decide) ?_
    refine lv_isub hx hb dL_isActed_119 ?_
    refine lv_icmp_ne (tgt := 127) hx hb dL_isActed_120 (by decide) (fun hc_12 => ?_) (fun hc_12 => ?_)
    · replace hF := gF hc_12 hF
      refine lv_iconst (v := 0) hx hb dL_isActed_127 (by decide) ?_
      exact g_rz hx hb hr hlocks (gW2 hF hW) hL (Or.inl rfl) (gI2 hF).1 dL_isActed_128
    · replace hF := gT hc_12 hF
      refine lv_iconst (v := 1) hx hb dL_isActed_123 (by decide) ?_
      refine lv_goto (tgt := 128) hx hb dL_isActed_124 (by decide) ?_
      exact g_rz hx hb hr hlocks (gW2 hF hW) hL (Or.inr rfl) (gI2 hF).1 dL_isActed_128
  have B_66 : ∀ (w : gWd) (x10 : Int32) (xs0 : Int32) (xs1 : Int32) (xs2 : Int32)  (ls : Array Slot) (hl : lv_has ls 16 [(0, .ref (gA X 7 0)), (1, .ref (gA X 8 0)), (6, .ref (gA X 8 5)), (10, .int x10)]) (hF : F_L_isActed_66 w x10 xs0 xs1 xs2 = some (r, w')) (H : Heap) (locs : List Loc) (hW : gWo X 252 (gE X w) H) (hL : gLo X locs), W p l e rmL_isActed s m args below meth c H locs 0 0 (MQ below (gQi X r w') args s 0 0 (gFr X)) (F0 m 66 ls [.int xs0, .int xs1, .int xs2]) := by
    intro w x10 xs0 xs1 xs2 ls hl hF H locs hW hL
    rw [F_L_isActed_66] at hF
    obtain ⟨hd_1, hF⟩ := gD_some hF
    refine lv_irem hx hb dL_isActed_66 hd_1 ?_
    refine lv_iadd hx hb dL_isActed_67 ?_
    exact B_68 w x10 ((xs2 + (xs1 - xs1 / xs0 * xs0))) ls (hl) hF H locs hW hL
  have B_186 : ∀ (w : gWd) (x11 : Int32) (xs0 : Int32)  (ls : Array Slot) (hl : lv_has ls 16 [(0, .ref (gA X 7 0)), (11, .int x11)]) (hF : F_L_isActed_186 w x11 xs0 = some (r, w')) (H : Heap) (locs : List Loc) (hW : gWo X 252 (gE X w) H) (hL : gLo X locs), W p l e rmL_isActed s m args below meth c H locs 0 0 (MQ below (gQi X r w') args s 0 0 (gFr X)) (F0 m 186 ls [.int xs0]) := by
    intro w x11 xs0 ls hl hF H locs hW hL
    rw [F_L_isActed_186] at hF
    refine lv_istore (lv' := [(13, .int xs0), (0, .ref (gA X 7 0)), (11, .int x11)]) hx hb dL_isActed_186 hl (by decide) rfl (fun ls hl => ?_)
    refine lv_aload_n hx hb dL_isActed_188 rfl (lv_at hl 1 rfl) ?_
    refine lv_iload hx hb dL_isActed_189 (lv_at hl 2 rfl) ?_
    obtain ⟨v_33, w_34, hq_32, hF⟩ := gC_some hF
    refine g_Vi (As := [.int x11]) (rest := []) ⟨hx, hb, hml, hown, hts⟩ hK hW hL hl.1 (gok_c (by decide)) gE_G rfl (c_X11_scratch l X w x11 v_33 w_34 hq_32) k102 rfl rfl (Nat.le_of_ble_eq_true rfl) dL_isActed_191 ⟨Nat.le_of_ble_eq_true rfl, Nat.le_of_ble_eq_true rfl⟩ (fun H locs hW hL => ?_)
    refine lv_iload hx hb dL_isActed_194 (lv_at hl 0 rfl) ?_
    refine lv_icmp_ne (tgt := 203) hx hb dL_isActed_196 (by decide) (fun hc_35 => ?_) (fun hc_35 => ?_)
    · replace hF := gF hc_35 hF
      refine lv_iconst (v := 0) hx hb dL_isActed_203 (by decide) ?_
      exact g_rz hx hb hr hlocks (gW2 hF hW) hL (Or.inl rfl) (gI2 hF).1 dL_isActed_204
    · replace hF := gT hc_35 hF
      refine lv_iconst (v := 1) hx hb dL_isActed_199 (by decide) ?_
      refine lv_goto (tgt := 204) hx hb dL_isActed_200 (by decide) ?_
      exact g_rz hx hb hr hlocks (gW2 hF hW) hL (Or.inr rfl) (gI2 hF).1 dL_isActed_204
  have B_169 : ∀ (w : gWd) (x11 : Int32)  (ls : Array Slot) (hl : lv_has ls 16 [(0, .ref (gA X 7 0)), (11, .int x11)]) (hF : F_L_isActed_169 w x11 = some (r, w')) (H : Heap) (locs : List Loc) (hW : gWo X 252 (gE X w) H) (hL : gLo X locs), W p l e rmL_isActed s m args below meth c H locs 0 0 (MQ below (gQi X r w') args s 0 0 (gFr X)) (F0 m 169 ls []) := by
    intro w x11 ls hl hF H locs hW hL
    rw [F_L_isActed_169] at hF
    refine lv_ldc hx hb hown q71 dL_isActed_169 ?_
    refine lv_goto (tgt := 186) hx hb dL_isActed_171 (by decide) ?_
    exact B_186 w x11 (-1000002) ls (hl) hF H locs hW hL
  have B_302 : ∀ (w : gWd) (x13 : Int32) (x14 : Int32) (x15 : Int32) (xs0 : Int32) (xs1 : Int32)  (ls : Array Slot) (hl : lv_has ls 16 [(0, .ref (gA X 7 0)), (13, .int x13), (14, .int x14), (15, .int x15)]) (hF : F_L_isActed_302 w x13 x14 x15 xs0 xs1 = some (r, w')) (H : Heap) (locs : List Loc) (hW : gWo X 252 (gE X w) H) (hL : gLo X locs), W p l e rmL_isActed s m args below meth c H locs 0 0 (MQ below (gQi X r w') args s 0 0 (gFr X)) (F0 m 302 ls [.int xs0, .int xs1, .ref (gA X 8 5)]) := by
    intro w x13 x14 x15 xs0 xs1 ls hl hF H locs hW hL
    rw [F_L_isActed_302] at hF
    obtain ⟨hin_42, hF⟩ := gB_some hF
    obtain ⟨k_43, ek_43⟩ : ∃ k, k = Int32.toNatClampNeg xs1 := ⟨_, rfl⟩
    rw [← ek_43] at hF
    obtain ⟨w_44, ew_44, hF⟩ := gS_some hF
    refine g_iast2 (k := k_43) hx hb hK hW hL (gok_o (by decide)) (fun w => gE_O5 (w := w)) hin_42 ek_43.symm dL_isActed_302 (fun H locs hW hL => ?_)
    rw [← ew_44] at hW
    refine lv_aload_n hx hb dL_isActed_303 rfl (lv_at hl 0 rfl) ?_
    refine lv_iload hx hb dL_isActed_304 (lv_at hl 1 rfl) ?_
    refine lv_iload hx hb dL_isActed_306 (lv_at hl 2 rfl) ?_
    obtain ⟨v_46, w_47, hq_45, hF⟩ := gC_some hF
    refine g_Vi (As := [.int x13, .int x14]) (rest := []) ⟨hx, hb, hml, hown, hts⟩ hK hW hL hl.1 (gok_c (by decide)) gE_G rfl (c_X11_set l X w_44 x13 x14 v_46 w_47 hq_45) k104 rfl rfl (Nat.le_of_ble_eq_true rfl) dL_isActed_308 ⟨Nat.le_of_ble_eq_true rfl, Nat.le_of_ble_eq_true rfl⟩ (fun H locs hW hL => ?_)
    refine lv_iload hx hb dL_isActed_311 (lv_at hl 3 rfl) ?_
    refine lv_icmp_ne (tgt := 320) hx hb dL_isActed_313 (by decide) (fun hc_48 => ?_) (fun hc_48 => ?_)
    · replace hF := gF hc_48 hF
      refine lv_iconst (v := 0) hx hb dL_isActed_320 (by decide) ?_
      exact g_rz hx hb hr hlocks (gW2 hF hW) hL (Or.inl rfl) (gI2 hF).1 dL_isActed_321
    · replace hF := gT hc_48 hF
      refine lv_iconst (v := 1) hx hb dL_isActed_316 (by decide) ?_
      refine lv_goto (tgt := 321) hx hb dL_isActed_317 (by decide) ?_
      exact g_rz hx hb hr hlocks (gW2 hF hW) hL (Or.inr rfl) (gI2 hF).1 dL_isActed_321
  have B_273 : ∀ (w : gWd) (x13 : Int32) (x14 : Int32) (xs0 : Int32)  (ls : Array Slot) (hl : lv_has ls 16 [(0, .ref (gA X 7 0)), (6, .ref (gA X 8 5)), (13, .int x13), (14, .int x14)]) (hF : F_L_isActed_273 w x13 x14 xs0 = some (r, w')) (H : Heap) (locs : List Loc) (hW : gWo X 252 (gE X w) H) (hL : gLo X locs), W p l e rmL_isActed s m args below meth c H locs 0 0 (MQ below (gQi X r w') args s 0 0 (gFr X)) (F0 m 273 ls [.int xs0]) := by
    intro w x13 x14 xs0 ls hl hF H locs hW hL
    rw [F_L_isActed_273] at hF
    refine lv_istore (lv' := [(15, .int xs0), (0, .ref (gA X 7 0)), (6, .ref (gA X 8 5)), (13, .int x13), (14, .int x14)]) hx hb dL_isActed_273 hl (by decide) rfl (fun ls hl => ?_)
    refine lv_aload hx hb dL_isActed_275 (lv_at hl 2 rfl) ?_
    refine lv_bipush (v := 7) hx hb dL_isActed_277 (by decide) ?_
    refine lv_iload hx hb dL_isActed_279 (lv_at hl 3 rfl) ?_
    refine lv_iadd hx hb dL_isActed_281 ?_
    refine lv_aload hx hb dL_isActed_282 (lv_at hl 2 rfl) ?_
    refine lv_iconst (v := 0) hx hb dL_isActed_284 (by decide) ?_
    refine g_iald2 (k := 0) hx hb hK hW (gok_o (by decide)) (gad_lt (gok_o (by decide))) gE_O5 (gin (by decide)) (by decide) dL_isActed_285 ?_
    refine lv_if_ne (tgt := 294) hx hb dL_isActed_286 (by decide) (fun hc_39 => ?_) (fun hc_39 => ?_)
    · replace hF := gF hc_39 hF
      refine lv_aload hx hb dL_isActed_294 (lv_at hl 2 rfl) ?_
      refine lv_bipush (v := 7) hx hb dL_isActed_296 (by decide) ?_
      refine lv_iload hx hb dL_isActed_298 (lv_at hl 3 rfl) ?_
      refine lv_iadd hx hb dL_isActed_300 ?_
      obtain ⟨hin_40, hF⟩ := gB_some hF
      obtain ⟨k_41, ek_41⟩ : ∃ k, k = Int32.toNatClampNeg ((7 + x13)) := ⟨_, rfl⟩
      rw [← ek_41] at hF
      refine g_iald2 (k := k_41) hx hb hK hW (gok_o (by decide)) (gad_lt (gok_o (by decide))) gE_O5 hin_40 ek_41.symm dL_isActed_301 ?_
      exact B_302 w x13 x14 xs0 ((w 8 5 k_41)) ((7 + x13)) ls (lv_sub hl [1, 3, 4, 0] rfl) hF H locs hW hL
    · replace hF := gT hc_39 hF
      refine lv_iload hx hb dL_isActed_289 (lv_at hl 4 rfl) ?_
      refine lv_goto (tgt := 302) hx hb dL_isActed_291 (by decide) ?_
      exact B_302 w x13 x14 xs0 x14 ((7 + x13)) ls (lv_sub hl [1, 3, 4, 0] rfl) hF H locs hW hL
  have B_251 : ∀ (w : gWd) (x13 : Int32) (xs0 : Int32)  (ls : Array Slot) (hl : lv_has ls 16 [(0, .ref (gA X 7 0)), (6, .ref (gA X 8 5)), (13, .int x13)]) (hF : F_L_isActed_251 w x13 xs0 = some (r, w')) (H : Heap) (locs : List Loc) (hW : gWo X 252 (gE X w) H) (hL : gLo X locs), W p l e rmL_isActed s m args below meth c H locs 0 0 (MQ below (gQi X r w') args s 0 0 (gFr X)) (F0 m 251 ls [.int xs0]) := by
    intro w x13 xs0 ls hl hF H locs hW hL
    rw [F_L_isActed_251] at hF
    refine lv_istore (lv' := [(14, .int xs0), (0, .ref (gA X 7 0)), (6, .ref (gA X 8 5)), (13, .int x13)]) hx hb dL_isActed_251 hl (by decide) rfl (fun ls hl => ?_)
    refine lv_aload hx hb dL_isActed_253 (lv_at hl 2 rfl) ?_
    refine lv_iconst (v := 0) hx hb dL_isActed_255 (by decide) ?_
    refine g_iald2 (k := 0) hx hb hK hW (gok_o (by decide)) (gad_lt (gok_o (by decide))) gE_O5 (gin (by decide)) (by decide) dL_isActed_256 ?_
    refine lv_if_ne (tgt := 271) hx hb dL_isActed_257 (by decide) (fun hc_36 => ?_) (fun hc_36 => ?_)
    · replace hF := gF hc_36 hF
      refine lv_ldc hx hb hown q71 dL_isActed_271 ?_
      exact B_273 w x13 xs0 (-1000002) ls (lv_sub hl [1, 2, 3, 0] rfl) hF H locs hW hL
    · replace hF := gT hc_36 hF
      refine lv_aload hx hb dL_isActed_260 (lv_at hl 2 rfl) ?_
      refine lv_bipush (v := 7) hx hb dL_isActed_262 (by decide) ?_
      refine lv_iload hx hb dL_isActed_264 (lv_at hl 3 rfl) ?_
      refine lv_iadd hx hb dL_isActed_266 ?_
      obtain ⟨hin_37, hF⟩ := gB_some hF
      obtain ⟨k_38, ek_38⟩ : ∃ k, k = Int32.toNatClampNeg ((7 + x13)) := ⟨_, rfl⟩
      rw [← ek_38] at hF
      refine g_iald2 (k := k_38) hx hb hK hW (gok_o (by decide)) (gad_lt (gok_o (by decide))) gE_O5 hin_37 ek_38.symm dL_isActed_267 ?_
      refine lv_goto (tgt := 273) hx hb dL_isActed_268 (by decide) ?_
      exact B_273 w x13 xs0 ((w 8 5 k_38)) ls (lv_sub hl [1, 2, 3, 0] rfl) hF H locs hW hL
  have B_370 : ∀ (w : gWd) (xs0 : Int32) (xs1 : Int32)  (ls : Array Slot) (hl : lv_has ls 16 []) (hF : F_L_isActed_370 w xs0 xs1 = some (r, w')) (H : Heap) (locs : List Loc) (hW : gWo X 252 (gE X w) H) (hL : gLo X locs), W p l e rmL_isActed s m args below meth c H locs 0 0 (MQ below (gQi X r w') args s 0 0 (gFr X)) (F0 m 370 ls [.int xs0, .int xs1, .ref (gA X 8 5), .ref (gA X 8 2), .ref (gA X 8 1), .ref (gA X 8 0), .ref (gA X 7 0)]) := by
    intro w xs0 xs1 ls hl hF H locs hW hL
    rw [F_L_isActed_370] at hF
    obtain ⟨v_51, w_52, hq_50, hF⟩ := gC_some hF
    refine g_Si (As := [.ref (gA X 7 0), .ref (gA X 8 0), .ref (gA X 8 1), .ref (gA X 8 2), .ref (gA X 8 5), .int xs1, .int xs0]) (rest := []) ⟨hx, hb, hml, hown, hts⟩ hK hW hL hl.1 (c_L_isSwum l X w xs1 xs0 v_51 w_52 hq_50) k107 rfl rfl (Nat.le_of_ble_eq_true rfl) dL_isActed_370 ⟨Nat.le_of_ble_eq_true rfl, Nat.le_of_ble_eq_true rfl⟩ (fun H locs hW hL => ?_)
    obtain ⟨hz_53, hF⟩ := gZ_some hF
    exact g_rz hx hb hr hlocks (gW2 hF hW) hL hz_53 (gI2 hF).1 dL_isActed_373
  have B_368 : ∀ (w : gWd) (xs0 : Int32) (xs1 : Int32) (xs2 : Int32) (xs3 : Int32)  (ls : Array Slot) (hl : lv_has ls 16 []) (hF : F_L_isActed_368 w xs0 xs1 xs2 xs3 = some (r, w')) (H : Heap) (locs : List Loc) (hW : gWo X 252 (gE X w) H) (hL : gLo X locs), W p l e rmL_isActed s m args below meth c H locs 0 0 (MQ below (gQi X r w') args s 0 0 (gFr X)) (F0 m 368 ls [.int xs0, .int xs1, .int xs2, .int xs3, .ref (gA X 8 5), .ref (gA X 8 2), .ref (gA X 8 1), .ref (gA X 8 0), .ref (gA X 7 0)]) := by
    intro w xs0 xs1 xs2 xs3 ls hl hF H locs hW hL
    rw [F_L_isActed_368] at hF
    obtain ⟨hd_49, hF⟩ := gD_some hF
    refine lv_irem hx hb dL_isActed_368 hd_49 ?_
    refine lv_iadd hx hb dL_isActed_369 ?_
    exact B_370 w ((xs2 + (xs1 - xs1 / xs0 * xs0))) xs3 ls (hl) hF H locs hW hL
  have L_403 : ∀ (fu : Nat) (w : gWd) (x12 : Int32) (x13 : Int32) (x14 : Int32)  (ls : Array Slot) (hl : lv_has ls 16 [(0, .ref (gA X 7 0)), (1, .ref (gA X 8 0)), (2, .ref (gA X 8 1)), (3, .ref (gA X 8 2)), (6, .ref (gA X 8 5)), (12, .int x12), (13, .int x13), (14, .int x14)]) (hF : F_L_isActed_403 fu w x12 x13 x14 = some (r, w')) (H : Heap) (locs : List Loc) (hW : gWo X 252 (gE X w) H) (hL : gLo X locs), W p l e rmL_isActed s m args below meth c H locs 0 0 (MQ below (gQi X r w') args s 0 0 (gFr X)) (F0 m 403 ls []) := by
    intro fu
    induction fu with
    | zero => intro w x12 x13 x14 ls hl hF H locs hW hL; rw [F_L_isActed_403_z] at hF; cases hF
    | succ fu403 ih403 =>
      have B_488 : ∀ (w : gWd) (x12 : Int32) (x14 : Int32)  (ls : Array Slot) (hl : lv_has ls 16 [(0, .ref (gA X 7 0)), (1, .ref (gA X 8 0)), (2, .ref (gA X 8 1)), (3, .ref (gA X 8 2)), (6, .ref (gA X 8 5)), (12, .int x12), (14, .int x14)]) (hF : F_L_isActed_488 (F_L_isActed_403 fu403) w x12 x14 = some (r, w')) (H : Heap) (locs : List Loc) (hW : gWo X 252 (gE X w) H) (hL : gLo X locs), W p l e rmL_isActed s m args below meth c H locs 0 0 (MQ below (gQi X r w') args s 0 0 (gFr X)) (F0 m 488 ls []) := by
        intro w x12 x14 ls hl hF H locs hW hL
        rw [F_L_isActed_488] at hF
        refine lv_iconst (v := 1) hx hb dL_isActed_488 (by decide) ?_
        refine lv_goto (tgt := 493) hx hb dL_isActed_489 (by decide) ?_
        refine lv_istore (lv' := [(13, .int 1), (0, .ref (gA X 7 0)), (1, .ref (gA X 8 0)), (2, .ref (gA X 8 1)), (3, .ref (gA X 8 2)), (6, .ref (gA X 8 5)), (12, .int x12), (14, .int x14)]) hx hb dL_isActed_493 hl (by decide) rfl (fun ls hl => ?_)
        obtain ⟨x14_70, ex14_70, hF⟩ := gS_some hF
        refine lv_iinc (v := x14_70) (lv' := [(14, .int x14_70), (13, .int 1), (0, .ref (gA X 7 0)), (1, .ref (gA X 8 0)), (2, .ref (gA X 8 1)), (3, .ref (gA X 8 2)), (6, .ref (gA X 8 5)), (12, .int x12)]) hx hb dL_isActed_495 hl (k := 7) rfl (by rw [ex14_70]; rfl) (by decide) rfl (fun ls hl => ?_)
        refine lv_goto (tgt := 403) hx hb dL_isActed_498 (by decide) ?_
        exact ih403 w x12 1 x14_70 ls (lv_sub hl [2, 3, 4, 5, 6, 7, 1, 0] rfl) hF H locs hW hL
      have B_482 : ∀ (w : gWd) (x12 : Int32) (x14 : Int32) (xs0 : Int32) (xs1 : Int32)  (ls : Array Slot) (hl : lv_has ls 16 [(0, .ref (gA X 7 0)), (1, .ref (gA X 8 0)), (2, .ref (gA X 8 1)), (3, .ref (gA X 8 2)), (6, .ref (gA X 8 5)), (12, .int x12), (14, .int x14)]) (hF : F_L_isActed_482 (F_L_isActed_403 fu403) w x12 x14 xs0 xs1 = some (r, w')) (H : Heap) (locs : List Loc) (hW : gWo X 252 (gE X w) H) (hL : gLo X locs), W p l e rmL_isActed s m args below meth c H locs 0 0 (MQ below (gQi X r w') args s 0 0 (gFr X)) (F0 m 482 ls [.int xs0, .int xs1, .ref (gA X 8 5), .ref (gA X 8 2), .ref (gA X 8 1), .ref (gA X 8 0), .ref (gA X 7 0)]) := by
        intro w x12 x14 xs0 xs1 ls hl hF H locs hW hL
        rw [F_L_isActed_482] at hF
        obtain ⟨v_66, w_67, hq_65, hF⟩ := gC_some hF
        refine g_Si (As := [.ref (gA X 7 0), .ref (gA X 8 0), .ref (gA X 8 1), .ref (gA X 8 2), .ref (gA X 8 5), .int xs1, .int xs0]) (rest := []) ⟨hx, hb, hml, hown, hts⟩ hK hW hL hl.1 (c_L_isSwum l X w xs1 xs0 v_66 w_67 hq_65) k107 rfl rfl (Nat.le_of_ble_eq_true rfl) dL_isActed_482 ⟨Nat.le_of_ble_eq_true rfl, Nat.le_of_ble_eq_true rfl⟩ (fun H locs hW hL => ?_)
        refine lv_if_eq (tgt := 492) hx hb dL_isActed_485 (by decide) (fun hc_68 => ?_) (fun hc_68 => ?_)
        · replace hF := gT hc_68 hF
          refine lv_iconst (v := 0) hx hb dL_isActed_492 (by decide) ?_
          refine lv_istore (lv' := [(13, .int 0), (0, .ref (gA X 7 0)), (1, .ref (gA X 8 0)), (2, .ref (gA X 8 1)), (3, .ref (gA X 8 2)), (6, .ref (gA X 8 5)), (12, .int x12), (14, .int x14)]) hx hb dL_isActed_493 hl (by decide) rfl (fun ls hl => ?_)
          obtain ⟨x14_69, ex14_69, hF⟩ := gS_some hF
          refine lv_iinc (v := x14_69) (lv' := [(14, .int x14_69), (13, .int 0), (0, .ref (gA X 7 0)), (1, .ref (gA X 8 0)), (2, .ref (gA X 8 1)), (3, .ref (gA X 8 2)), (6, .ref (gA X 8 5)), (12, .int x12)]) hx hb dL_isActed_495 hl (k := 7) rfl (by rw [ex14_69]; rfl) (by decide) rfl (fun ls hl => ?_)
          refine lv_goto (tgt := 403) hx hb dL_isActed_498 (by decide) ?_
          exact ih403 w_67 x12 0 x14_69 ls (lv_sub hl [2, 3, 4, 5, 6, 7, 1, 0] rfl) hF H locs hW hL
        · replace hF := gF hc_68 hF
          exact B_488 w_67 x12 x14 ls (hl) hF H locs hW hL
      intro w x12 x13 x14 ls hl hF H locs hW hL
      rw [F_L_isActed_403_s] at hF
      refine lv_iload hx hb dL_isActed_403 (lv_at hl 7 rfl) ?_
      refine lv_aload hx hb dL_isActed_405 (lv_at hl 4 rfl) ?_
      refine lv_iconst (v := 1) hx hb dL_isActed_407 (by decide) ?_
      refine g_iald2 (k := 1) hx hb hK hW (gok_o (by decide)) (gad_lt (gok_o (by decide))) gE_O5 (gin (by decide)) (by decide) dL_isActed_408 ?_
      refine lv_icmp_ge (tgt := 501) hx hb dL_isActed_409 (by decide) (fun hc_54 => ?_) (fun hc_54 => ?_)
      · replace hF := gT hc_54 hF
        refine lv_iload hx hb dL_isActed_501 (lv_at hl 6 rfl) ?_
        obtain ⟨hz_55, hF⟩ := gZ_some hF
        exact g_rz hx hb hr hlocks (gW2 hF hW) hL hz_55 (gI2 hF).1 dL_isActed_503
      · replace hF := gF hc_54 hF
        refine lv_iload hx hb dL_isActed_412 (lv_at hl 6 rfl) ?_
        refine lv_if_eq (tgt := 501) hx hb dL_isActed_414 (by decide) (fun hc_56 => ?_) (fun hc_56 => ?_)
        · replace hF := gT hc_56 hF
          refine lv_iload hx hb dL_isActed_501 (lv_at hl 6 rfl) ?_
          obtain ⟨hz_57, hF⟩ := gZ_some hF
          exact g_rz hx hb hr hlocks (gW2 hF hW) hL hz_57 (gI2 hF).1 dL_isActed_503
        · replace hF := gF hc_56 hF
          refine lv_aload_n hx hb dL_isActed_417 rfl (lv_at hl 1 rfl) ?_
          refine lv_aload_n hx hb dL_isActed_418 rfl (lv_at hl 2 rfl) ?_
          refine lv_aload_n hx hb dL_isActed_419 rfl (lv_at hl 3 rfl) ?_
          refine lv_aload hx hb dL_isActed_420 (lv_at hl 4 rfl) ?_
          refine lv_iload hx hb dL_isActed_422 (lv_at hl 7 rfl) ?_
          obtain ⟨v_59, hq_58, hF⟩ := gP_some hF
          refine g_Si (As := [.ref (gA X 8 0), .ref (gA X 8 1), .ref (gA X 8 2), .ref (gA X 8 5), .int x14]) (rest := []) ⟨hx, hb, hml, hown, hts⟩ hK hW hL hl.1 (c_L_isAsked l X w x14 v_59 hq_58) k23 rfl rfl (Nat.le_of_ble_eq_true rfl) dL_isActed_424 ⟨Nat.le_of_ble_eq_true rfl, Nat.le_of_ble_eq_true rfl⟩ (fun H locs hW hL => ?_)
          refine lv_if_eq (tgt := 488) hx hb dL_isActed_427 (by decide) (fun hc_60 => ?_) (fun hc_60 => ?_)
          · replace hF := gT hc_60 hF
            exact B_488 w x12 x14 ls (lv_sub hl [0, 1, 2, 3, 4, 5, 7] rfl) hF H locs hW hL
          · replace hF := gF hc_60 hF
            refine lv_aload_n hx hb dL_isActed_430 rfl (lv_at hl 2 rfl) ?_
            refine lv_aload_n hx hb dL_isActed_431 rfl (lv_at hl 3 rfl) ?_
            refine lv_aload hx hb dL_isActed_432 (lv_at hl 4 rfl) ?_
            refine lv_iload hx hb dL_isActed_434 (lv_at hl 7 rfl) ?_
            obtain ⟨v_62, hq_61, hF⟩ := gP_some hF
            refine g_Si (As := [.ref (gA X 8 1), .ref (gA X 8 2), .ref (gA X 8 5), .int x14]) (rest := []) ⟨hx, hb, hml, hown, hts⟩ hK hW hL hl.1 (c_L_time l X w x14 v_62 hq_61) k27 rfl rfl (Nat.le_of_ble_eq_true rfl) dL_isActed_436 ⟨Nat.le_of_ble_eq_true rfl, Nat.le_of_ble_eq_true rfl⟩ (fun H locs hW hL => ?_)
            refine lv_if_gt (tgt := 488) hx hb dL_isActed_439 (by decide) (fun hc_63 => ?_) (fun hc_63 => ?_)
            · replace hF := gT hc_63 hF
              exact B_488 w x12 x14 ls (lv_sub hl [0, 1, 2, 3, 4, 5, 7] rfl) hF H locs hW hL
            · replace hF := gF hc_63 hF
              refine lv_aload_n hx hb dL_isActed_442 rfl (lv_at hl 0 rfl) ?_
              refine lv_aload_n hx hb dL_isActed_443 rfl (lv_at hl 1 rfl) ?_
              refine lv_aload_n hx hb dL_isActed_444 rfl (lv_at hl 2 rfl) ?_
              refine lv_aload_n hx hb dL_isActed_445 rfl (lv_at hl 3 rfl) ?_
              refine lv_aload hx hb dL_isActed_446 (lv_at hl 4 rfl) ?_
              refine lv_iload hx hb dL_isActed_448 (lv_at hl 7 rfl) ?_
              refine lv_iload hx hb dL_isActed_450 (lv_at hl 5 rfl) ?_
              refine lv_iload hx hb dL_isActed_452 (lv_at hl 7 rfl) ?_
              refine lv_iadd hx hb dL_isActed_454 ?_
              refine lv_bipush (v := 7) hx hb dL_isActed_455 (by decide) ?_
              refine lv_irem hx hb dL_isActed_457 (by decide) ?_
              refine lv_if_ne (tgt := 465) hx hb dL_isActed_458 (by decide) (fun hc_64 => ?_) (fun hc_64 => ?_)
              · replace hF := gF hc_64 hF
                refine lv_bipush (v := 100) hx hb dL_isActed_465 (by decide) ?_
                refine lv_iload hx hb dL_isActed_467 (lv_at hl 5 rfl) ?_
                refine lv_bipush (v := 97) hx hb dL_isActed_469 (by decide) ?_
                refine lv_irem hx hb dL_isActed_471 (by decide) ?_
                refine lv_bipush (v := 31) hx hb dL_isActed_472 (by decide) ?_
                refine lv_iload hx hb dL_isActed_474 (lv_at hl 7 rfl) ?_
                refine lv_imul hx hb dL_isActed_476 ?_
                refine lv_iadd hx hb dL_isActed_477 ?_
                refine lv_bipush (v := 40) hx hb dL_isActed_478 (by decide) ?_
                refine lv_irem hx hb dL_isActed_480 (by decide) ?_
                refine lv_iadd hx hb dL_isActed_481 ?_
                exact B_482 w x12 x14 ((100 + (((x12 - x12 / 97 * 97) + (31 * x14)) - ((x12 - x12 / 97 * 97) + (31 * x14)) / 40 * 40))) x14 ls (lv_sub hl [0, 1, 2, 3, 4, 5, 7] rfl) hF H locs hW hL
              · replace hF := gT hc_64 hF
                refine lv_iconst (v := 0) hx hb dL_isActed_461 (by decide) ?_
                refine lv_goto (tgt := 482) hx hb dL_isActed_462 (by decide) ?_
                exact B_482 w x12 x14 0 x14 ls (lv_sub hl [0, 1, 2, 3, 4, 5, 7] rfl) hF H locs hW hL
  have B_504 : ∀ (w : gWd)   (ls : Array Slot) (hl : lv_has ls 16 [(0, .ref (gA X 7 0)), (1, .ref (gA X 8 0)), (2, .ref (gA X 8 1)), (3, .ref (gA X 8 2)), (4, .ref (gA X 8 3)), (5, .ref (gA X 8 4)), (6, .ref (gA X 8 5)), (7, .ref (gA X 8 6)), (8, .ref (gA X 8 7))]) (hF : F_L_isActed_504 w = some (r, w')) (H : Heap) (locs : List Loc) (hW : gWo X 252 (gE X w) H) (hL : gLo X locs), W p l e rmL_isActed s m args below meth c H locs 0 0 (MQ below (gQi X r w') args s 0 0 (gFr X)) (F0 m 504 ls []) := by
    intro w ls hl hF H locs hW hL
    rw [F_L_isActed_504] at hF
    refine lv_aload_n hx hb dL_isActed_504 rfl (lv_at hl 0 rfl) ?_
    refine lv_aload_n hx hb dL_isActed_505 rfl (lv_at hl 1 rfl) ?_
    refine lv_aload_n hx hb dL_isActed_506 rfl (lv_at hl 2 rfl) ?_
    refine lv_aload_n hx hb dL_isActed_507 rfl (lv_at hl 3 rfl) ?_
    refine lv_aload hx hb dL_isActed_508 (lv_at hl 4 rfl) ?_
    refine lv_aload hx hb dL_isActed_510 (lv_at hl 5 rfl) ?_
    refine lv_aload hx hb dL_isActed_512 (lv_at hl 6 rfl) ?_
    refine lv_aload hx hb dL_isActed_514 (lv_at hl 7 rfl) ?_
    refine lv_aload hx hb dL_isActed_516 (lv_at hl 8 rfl) ?_
    obtain ⟨v_72, w_73, hq_71, hF⟩ := gC_some hF
    refine g_Si (As := [.ref (gA X 7 0), .ref (gA X 8 0), .ref (gA X 8 1), .ref (gA X 8 2), .ref (gA X 8 3), .ref (gA X 8 4), .ref (gA X 8 5), .ref (gA X 8 6), .ref (gA X 8 7)]) (rest := []) ⟨hx, hb, hml, hown, hts⟩ hK hW hL hl.1 (c_L_isStage l X w  v_72 w_73 hq_71) k111 rfl rfl (Nat.le_of_ble_eq_true rfl) dL_isActed_518 ⟨Nat.le_of_ble_eq_true rfl, Nat.le_of_ble_eq_true rfl⟩ (fun H locs hW hL => ?_)
    obtain ⟨hz_74, hF⟩ := gZ_some hF
    exact g_rz hx hb hr hlocks (gW2 hF hW) hL hz_74 (gI2 hF).1 dL_isActed_521
  have B_129 : ∀ (w : gWd) (x9 : Int32) (x10 : Int32) (x11 : Int32) (x12 : Int32)  (ls : Array Slot) (hl : lv_has ls 16 [(0, .ref (gA X 7 0)), (1, .ref (gA X 8 0)), (2, .ref (gA X 8 1)), (3, .ref (gA X 8 2)), (4, .ref (gA X 8 3)), (5, .ref (gA X 8 4)), (6, .ref (gA X 8 5)), (7, .ref (gA X 8 6)), (8, .ref (gA X 8 7)), (9, .int x9), (10, .int x10), (11, .int x11), (12, .int x12)]) (hF : F_L_isActed_129 w x9 x10 x11 x12 = some (r, w')) (H : Heap) (locs : List Loc) (hW : gWo X 252 (gE X w) H) (hL : gLo X locs), W p l e rmL_isActed s m args below meth c H locs 0 0 (MQ below (gQi X r w') args s 0 0 (gFr X)) (F0 m 129 ls []) := by
    intro w x9 x10 x11 x12 ls hl hF H locs hW hL
    rw [F_L_isActed_129] at hF
    refine lv_iload hx hb dL_isActed_129 (lv_at hl 9 rfl) ?_
    refine lv_iconst (v := 5) hx hb dL_isActed_131 (by decide) ?_
    refine lv_icmp_ne (tgt := 205) hx hb dL_isActed_132 (by decide) (fun hc_13 => ?_) (fun hc_13 => ?_)
    · replace hF := gF hc_13 hF
      refine lv_iload hx hb dL_isActed_205 (lv_at hl 9 rfl) ?_
      refine lv_bipush (v := 7) hx hb dL_isActed_207 (by decide) ?_
      refine lv_icmp_ne (tgt := 322) hx hb dL_isActed_209 (by decide) (fun hc_14 => ?_) (fun hc_14 => ?_)
      · replace hF := gF hc_14 hF
        refine lv_iload hx hb dL_isActed_322 (lv_at hl 9 rfl) ?_
        refine lv_bipush (v := 10) hx hb dL_isActed_324 (by decide) ?_
        refine lv_icmp_ge (tgt := 374) hx hb dL_isActed_326 (by decide) (fun hc_15 => ?_) (fun hc_15 => ?_)
        · replace hF := gT hc_15 hF
          refine lv_iload hx hb dL_isActed_374 (lv_at hl 9 rfl) ?_
          refine lv_bipush (v := 13) hx hb dL_isActed_376 (by decide) ?_
          refine lv_icmp_ge (tgt := 504) hx hb dL_isActed_378 (by decide) (fun hc_16 => ?_) (fun hc_16 => ?_)
          · replace hF := gT hc_16 hF
            exact B_504 w  ls (lv_sub hl [0, 1, 2, 3, 4, 5, 6, 7, 8] rfl) hF H locs hW hL
          · replace hF := gF hc_16 hF
            refine lv_aload hx hb dL_isActed_381 (lv_at hl 6 rfl) ?_
            refine lv_iconst (v := 0) hx hb dL_isActed_383 (by decide) ?_
            refine g_iald2 (k := 0) hx hb hK hW (gok_o (by decide)) (gad_lt (gok_o (by decide))) gE_O5 (gin (by decide)) (by decide) dL_isActed_384 ?_
            refine lv_iconst (v := 1) hx hb dL_isActed_385 (by decide) ?_
            refine lv_icmp_eq (tgt := 397) hx hb dL_isActed_386 (by decide) (fun hc_17 => ?_) (fun hc_17 => ?_)
            · replace hF := gT hc_17 hF
              refine lv_iconst (v := 1) hx hb dL_isActed_397 (by decide) ?_
              refine lv_istore (lv' := [(13, .int 1), (0, .ref (gA X 7 0)), (1, .ref (gA X 8 0)), (2, .ref (gA X 8 1)), (3, .ref (gA X 8 2)), (4, .ref (gA X 8 3)), (5, .ref (gA X 8 4)), (6, .ref (gA X 8 5)), (7, .ref (gA X 8 6)), (8, .ref (gA X 8 7)), (9, .int x9), (10, .int x10), (11, .int x11), (12, .int x12)]) hx hb dL_isActed_398 hl (by decide) rfl (fun ls hl => ?_)
              refine lv_iconst (v := 0) hx hb dL_isActed_400 (by decide) ?_
              refine lv_istore (lv' := [(14, .int 0), (13, .int 1), (0, .ref (gA X 7 0)), (1, .ref (gA X 8 0)), (2, .ref (gA X 8 1)), (3, .ref (gA X 8 2)), (4, .ref (gA X 8 3)), (5, .ref (gA X 8 4)), (6, .ref (gA X 8 5)), (7, .ref (gA X 8 6)), (8, .ref (gA X 8 7)), (9, .int x9), (10, .int x10), (11, .int x11), (12, .int x12)]) hx hb dL_isActed_401 hl (by decide) rfl (fun ls hl => ?_)
              exact L_403 gFU w x12 1 0 ls (lv_sub hl [2, 3, 4, 5, 8, 14, 1, 0] rfl) hF H locs hW hL
            · replace hF := gF hc_17 hF
              refine lv_aload hx hb dL_isActed_389 (lv_at hl 6 rfl) ?_
              refine lv_iconst (v := 0) hx hb dL_isActed_391 (by decide) ?_
              refine g_iald2 (k := 0) hx hb hK hW (gok_o (by decide)) (gad_lt (gok_o (by decide))) gE_O5 (gin (by decide)) (by decide) dL_isActed_392 ?_
              refine lv_iconst (v := 2) hx hb dL_isActed_393 (by decide) ?_
              refine lv_icmp_ne (tgt := 504) hx hb dL_isActed_394 (by decide) (fun hc_18 => ?_) (fun hc_18 => ?_)
              · replace hF := gF hc_18 hF
                exact B_504 w  ls (lv_sub hl [0, 1, 2, 3, 4, 5, 6, 7, 8] rfl) hF H locs hW hL
              · replace hF := gT hc_18 hF
                refine lv_iconst (v := 1) hx hb dL_isActed_397 (by decide) ?_
                refine lv_istore (lv' := [(13, .int 1), (0, .ref (gA X 7 0)), (1, .ref (gA X 8 0)), (2, .ref (gA X 8 1)), (3, .ref (gA X 8 2)), (4, .ref (gA X 8 3)), (5, .ref (gA X 8 4)), (6, .ref (gA X 8 5)), (7, .ref (gA X 8 6)), (8, .ref (gA X 8 7)), (9, .int x9), (10, .int x10), (11, .int x11), (12, .int x12)]) hx hb dL_isActed_398 hl (by decide) rfl (fun ls hl => ?_)
                refine lv_iconst (v := 0) hx hb dL_isActed_400 (by decide) ?_
                refine lv_istore (lv' := [(14, .int 0), (13, .int 1), (0, .ref (gA X 7 0)), (1, .ref (gA X 8 0)), (2, .ref (gA X 8 1)), (3, .ref (gA X 8 2)), (4, .ref (gA X 8 3)), (5, .ref (gA X 8 4)), (6, .ref (gA X 8 5)), (7, .ref (gA X 8 6)), (8, .ref (gA X 8 7)), (9, .int x9), (10, .int x10), (11, .int x11), (12, .int x12)]) hx hb dL_isActed_401 hl (by decide) rfl (fun ls hl => ?_)
                exact L_403 gFU w x12 1 0 ls (lv_sub hl [2, 3, 4, 5, 8, 14, 1, 0] rfl) hF H locs hW hL
        · replace hF := gF hc_15 hF
          refine lv_aload_n hx hb dL_isActed_329 rfl (lv_at hl 0 rfl) ?_
          refine lv_aload_n hx hb dL_isActed_330 rfl (lv_at hl 1 rfl) ?_
          refine lv_aload_n hx hb dL_isActed_331 rfl (lv_at hl 2 rfl) ?_
          refine lv_aload_n hx hb dL_isActed_332 rfl (lv_at hl 3 rfl) ?_
          refine lv_aload hx hb dL_isActed_333 (lv_at hl 6 rfl) ?_
          refine lv_iload hx hb dL_isActed_335 (lv_at hl 11 rfl) ?_
          refine lv_iload hx hb dL_isActed_337 (lv_at hl 12 rfl) ?_
          refine lv_bipush (v := 6) hx hb dL_isActed_339 (by decide) ?_
          refine lv_irem hx hb dL_isActed_341 (by decide) ?_
          refine lv_if_ne (tgt := 349) hx hb dL_isActed_342 (by decide) (fun hc_19 => ?_) (fun hc_19 => ?_)
          · replace hF := gF hc_19 hF
            refine lv_bipush (v := 100) hx hb dL_isActed_349 (by decide) ?_
            refine lv_iload hx hb dL_isActed_351 (lv_at hl 12 rfl) ?_
            refine lv_iload hx hb dL_isActed_353 (lv_at hl 12 rfl) ?_
            refine lv_iconst (v := 2) hx hb dL_isActed_355 (by decide) ?_
            refine lv_irem hx hb dL_isActed_356 (by decide) ?_
            refine lv_if_ne (tgt := 366) hx hb dL_isActed_357 (by decide) (fun hc_20 => ?_) (fun hc_20 => ?_)
            · replace hF := gF hc_20 hF
              refine lv_bipush (v := 7) hx hb dL_isActed_366 (by decide) ?_
              exact B_368 w 7 x12 100 x11 ls (lv_sub hl [] rfl) hF H locs hW hL
            · replace hF := gT hc_20 hF
              refine lv_sipush (v := 900) hx hb dL_isActed_360 (by decide) ?_
              refine lv_goto (tgt := 368) hx hb dL_isActed_363 (by decide) ?_
              exact B_368 w 900 x12 100 x11 ls (lv_sub hl [] rfl) hF H locs hW hL
          · replace hF := gT hc_19 hF
            refine lv_iconst (v := 0) hx hb dL_isActed_345 (by decide) ?_
            refine lv_goto (tgt := 370) hx hb dL_isActed_346 (by decide) ?_
            exact B_370 w 0 x11 ls (lv_sub hl [] rfl) hF H locs hW hL
      · replace hF := gT hc_14 hF
        refine lv_iload hx hb dL_isActed_212 (lv_at hl 10 rfl) ?_
        refine lv_iconst (v := 3) hx hb dL_isActed_214 (by decide) ?_
        refine lv_irem hx hb dL_isActed_215 (by decide) ?_
        obtain ⟨x13_21, ex13_21, hF⟩ := gS_some hF
        refine g_top ex13_21 ?_
        refine lv_istore (lv' := [(13, .int x13_21), (0, .ref (gA X 7 0)), (1, .ref (gA X 8 0)), (2, .ref (gA X 8 1)), (3, .ref (gA X 8 2)), (4, .ref (gA X 8 3)), (5, .ref (gA X 8 4)), (6, .ref (gA X 8 5)), (7, .ref (gA X 8 6)), (8, .ref (gA X 8 7)), (9, .int x9), (10, .int x10), (11, .int x11), (12, .int x12)]) hx hb dL_isActed_216 hl (by decide) rfl (fun ls hl => ?_)
        refine lv_iload hx hb dL_isActed_218 (lv_at hl 0 rfl) ?_
        refine lv_if_ne (tgt := 232) hx hb dL_isActed_220 (by decide) (fun hc_22 => ?_) (fun hc_22 => ?_)
        · replace hF := gF hc_22 hF
          refine lv_iload hx hb dL_isActed_232 (lv_at hl 0 rfl) ?_
          refine lv_iconst (v := 1) hx hb dL_isActed_234 (by decide) ?_
          refine lv_icmp_ne (tgt := 247) hx hb dL_isActed_235 (by decide) (fun hc_23 => ?_) (fun hc_23 => ?_)
          · replace hF := gF hc_23 hF
            refine lv_iload hx hb dL_isActed_247 (lv_at hl 13 rfl) ?_
            refine lv_iconst (v := 5) hx hb dL_isActed_249 (by decide) ?_
            refine lv_irem hx hb dL_isActed_250 (by decide) ?_
            exact B_251 w x13_21 ((x12 - x12 / 5 * 5)) ls (lv_sub hl [1, 7, 0] rfl) hF H locs hW hL
          · replace hF := gT hc_23 hF
            refine lv_iconst (v := 1) hx hb dL_isActed_238 (by decide) ?_
            refine lv_iload hx hb dL_isActed_239 (lv_at hl 13 rfl) ?_
            refine lv_iconst (v := 3) hx hb dL_isActed_241 (by decide) ?_
            refine lv_irem hx hb dL_isActed_242 (by decide) ?_
            refine lv_iadd hx hb dL_isActed_243 ?_
            refine lv_goto (tgt := 251) hx hb dL_isActed_244 (by decide) ?_
            exact B_251 w x13_21 ((1 + (x12 - x12 / 3 * 3))) ls (lv_sub hl [1, 7, 0] rfl) hF H locs hW hL
        · replace hF := gT hc_22 hF
          refine lv_iconst (v := 4) hx hb dL_isActed_223 (by decide) ?_
          refine lv_iload hx hb dL_isActed_224 (lv_at hl 13 rfl) ?_
          refine lv_iconst (v := 4) hx hb dL_isActed_226 (by decide) ?_
          refine lv_irem hx hb dL_isActed_227 (by decide) ?_
          refine lv_iadd hx hb dL_isActed_228 ?_
          refine lv_goto (tgt := 251) hx hb dL_isActed_229 (by decide) ?_
          exact B_251 w x13_21 ((4 + (x12 - x12 / 4 * 4))) ls (lv_sub hl [1, 7, 0] rfl) hF H locs hW hL
    · replace hF := gT hc_13 hF
      refine lv_iload hx hb dL_isActed_135 (lv_at hl 11 rfl) ?_
      refine lv_aload hx hb dL_isActed_137 (lv_at hl 6 rfl) ?_
      refine lv_iconst (v := 1) hx hb dL_isActed_139 (by decide) ?_
      refine g_iald2 (k := 1) hx hb hK hW (gok_o (by decide)) (gad_lt (gok_o (by decide))) gE_O5 (gin (by decide)) (by decide) dL_isActed_140 ?_
      refine lv_icmp_lt (tgt := 149) hx hb dL_isActed_141 (by decide) (fun hc_24 => ?_) (fun hc_24 => ?_)
      · replace hF := gT hc_24 hF
        refine lv_aload_n hx hb dL_isActed_149 rfl (lv_at hl 1 rfl) ?_
        refine lv_iconst (v := 3) hx hb dL_isActed_150 (by decide) ?_
        refine lv_iload hx hb dL_isActed_151 (lv_at hl 11 rfl) ?_
        refine lv_imul hx hb dL_isActed_153 ?_
        refine lv_iconst (v := 2) hx hb dL_isActed_154 (by decide) ?_
        refine lv_iadd hx hb dL_isActed_155 ?_
        obtain ⟨hin_25, hF⟩ := gB_some hF
        obtain ⟨k_26, ek_26⟩ : ∃ k, k = Int32.toNatClampNeg (((3 * x11) + 2)) := ⟨_, rfl⟩
        rw [← ek_26] at hF
        refine g_iald2 (k := k_26) hx hb hK hW (gok_o (by decide)) (gad_lt (gok_o (by decide))) gE_O0 hin_25 ek_26.symm dL_isActed_156 ?_
        refine lv_iconst (v := 1) hx hb dL_isActed_157 (by decide) ?_
        refine lv_icmp_eq (tgt := 169) hx hb dL_isActed_158 (by decide) (fun hc_27 => ?_) (fun hc_27 => ?_)
        · replace hF := gT hc_27 hF
          exact B_169 w x11 ls (lv_sub hl [0, 11] rfl) hF H locs hW hL
        · replace hF := gF hc_27 hF
          refine lv_aload hx hb dL_isActed_161 (lv_at hl 6 rfl) ?_
          refine lv_iconst (v := 0) hx hb dL_isActed_163 (by decide) ?_
          refine g_iald2 (k := 0) hx hb hK hW (gok_o (by decide)) (gad_lt (gok_o (by decide))) gE_O5 (gin (by decide)) (by decide) dL_isActed_164 ?_
          refine lv_iconst (v := 3) hx hb dL_isActed_165 (by decide) ?_
          refine lv_icmp_ne (tgt := 174) hx hb dL_isActed_166 (by decide) (fun hc_28 => ?_) (fun hc_28 => ?_)
          · replace hF := gF hc_28 hF
            refine lv_aload_n hx hb dL_isActed_174 rfl (lv_at hl 1 rfl) ?_
            refine lv_aload_n hx hb dL_isActed_175 rfl (lv_at hl 2 rfl) ?_
            refine lv_aload_n hx hb dL_isActed_176 rfl (lv_at hl 3 rfl) ?_
            refine lv_aload hx hb dL_isActed_177 (lv_at hl 5 rfl) ?_
            refine lv_aload hx hb dL_isActed_179 (lv_at hl 6 rfl) ?_
            refine lv_iload hx hb dL_isActed_181 (lv_at hl 11 rfl) ?_
            obtain ⟨v_30, w_31, hq_29, hF⟩ := gC_some hF
            refine g_Si (As := [.ref (gA X 8 0), .ref (gA X 8 1), .ref (gA X 8 2), .ref (gA X 8 4), .ref (gA X 8 5), .int x11]) (rest := []) ⟨hx, hb, hml, hown, hts⟩ hK hW hL hl.1 (c_L_scratch l X w x11 v_30 w_31 hq_29) k98 rfl rfl (Nat.le_of_ble_eq_true rfl) dL_isActed_183 ⟨Nat.le_of_ble_eq_true rfl, Nat.le_of_ble_eq_true rfl⟩ (fun H locs hW hL => ?_)
            exact B_186 w_31 x11 v_30 ls (lv_sub hl [0, 11] rfl) hF H locs hW hL
          · replace hF := gT hc_28 hF
            exact B_169 w x11 ls (lv_sub hl [0, 11] rfl) hF H locs hW hL
      · replace hF := gF hc_24 hF
        refine lv_ldc hx hb hown q39 dL_isActed_144 ?_
        refine lv_goto (tgt := 186) hx hb dL_isActed_146 (by decide) ?_
        exact B_186 w x11 (-1000001) ls (lv_sub hl [0, 11] rfl) hF H locs hW hL
  rw [F_L_isActed] at hF
  obtain ⟨locs, hlocs⟩ : ∃ locs : List Loc, locs = [] := ⟨_, rfl⟩
  rw [← hlocs] at hL ⊢
  refine lv_iload hx hb dL_isActed_0 (lv_at hl 10 rfl) ?_
  refine lv_bipush (v := 20) hx hb dL_isActed_2 (by decide) ?_
  refine lv_irem hx hb dL_isActed_4 (by decide) ?_
  obtain ⟨x11_75, ex11_75, hF⟩ := gS_some hF
  refine g_top ex11_75 ?_
  refine lv_istore (lv' := [(11, .int x11_75), (0, .ref (gA X 7 0)), (1, .ref (gA X 8 0)), (2, .ref (gA X 8 1)), (3, .ref (gA X 8 2)), (4, .ref (gA X 8 3)), (5, .ref (gA X 8 4)), (6, .ref (gA X 8 5)), (7, .ref (gA X 8 6)), (8, .ref (gA X 8 7)), (9, .int x9), (10, .int x10)]) hx hb dL_isActed_5 hl (by decide) rfl (fun ls hl => ?_)
  refine lv_iload hx hb dL_isActed_7 (lv_at hl 11 rfl) ?_
  refine lv_bipush (v := 20) hx hb dL_isActed_9 (by decide) ?_
  refine lv_idiv hx hb dL_isActed_11 (by decide) ?_
  obtain ⟨x12_76, ex12_76, hF⟩ := gS_some hF
  refine g_top ex12_76 ?_
  refine lv_istore (lv' := [(12, .int x12_76), (11, .int x11_75), (0, .ref (gA X 7 0)), (1, .ref (gA X 8 0)), (2, .ref (gA X 8 1)), (3, .ref (gA X 8 2)), (4, .ref (gA X 8 3)), (5, .ref (gA X 8 4)), (6, .ref (gA X 8 5)), (7, .ref (gA X 8 6)), (8, .ref (gA X 8 7)), (9, .int x9), (10, .int x10)]) hx hb dL_isActed_12 hl (by decide) rfl (fun ls hl => ?_)
  refine lv_iload hx hb dL_isActed_14 (lv_at hl 11 rfl) ?_
  refine lv_iconst (v := 5) hx hb dL_isActed_16 (by decide) ?_
  refine lv_icmp_ge (tgt := 129) hx hb dL_isActed_17 (by decide) (fun hc_77 => ?_) (fun hc_77 => ?_)
  · replace hF := gT hc_77 hF
    exact B_129 w x9 x10 x11_75 x12_76 ls (lv_sub hl [2, 3, 4, 5, 6, 7, 8, 9, 10, 11, 12, 1, 0] rfl) hF H locs hW hL
  · replace hF := gF hc_77 hF
    refine lv_aload hx hb dL_isActed_20 (lv_at hl 8 rfl) ?_
    refine lv_iconst (v := 0) hx hb dL_isActed_22 (by decide) ?_
    refine g_iald2 (k := 0) hx hb hK hW (gok_o (by decide)) (gad_lt (gok_o (by decide))) gE_O5 (gin (by decide)) (by decide) dL_isActed_23 ?_
    refine lv_if_ne (tgt := 129) hx hb dL_isActed_24 (by decide) (fun hc_78 => ?_) (fun hc_78 => ?_)
    · replace hF := gF hc_78 hF
      exact B_129 w x9 x10 x11_75 x12_76 ls (lv_sub hl [2, 3, 4, 5, 6, 7, 8, 9, 10, 11, 12, 1, 0] rfl) hF H locs hW hL
    · replace hF := gT hc_78 hF
      refine lv_aload hx hb dL_isActed_27 (lv_at hl 8 rfl) ?_
      refine lv_iconst (v := 1) hx hb dL_isActed_29 (by decide) ?_
      refine g_iald2 (k := 1) hx hb hK hW (gok_o (by decide)) (gad_lt (gok_o (by decide))) gE_O5 (gin (by decide)) (by decide) dL_isActed_30 ?_
      refine lv_bipush (v := 20) hx hb dL_isActed_31 (by decide) ?_
      refine lv_icmp_ge (tgt := 129) hx hb dL_isActed_33 (by decide) (fun hc_79 => ?_) (fun hc_79 => ?_)
      · replace hF := gT hc_79 hF
        exact B_129 w x9 x10 x11_75 x12_76 ls (lv_sub hl [2, 3, 4, 5, 6, 7, 8, 9, 10, 11, 12, 1, 0] rfl) hF H locs hW hL
      · replace hF := gF hc_79 hF
        refine lv_iload hx hb dL_isActed_36 (lv_at hl 0 rfl) ?_
        refine lv_iconst (v := 5) hx hb dL_isActed_38 (by decide) ?_
        refine lv_irem hx hb dL_isActed_39 (by decide) ?_
        refine lv_if_ne (tgt := 47) hx hb dL_isActed_40 (by decide) (fun hc_80 => ?_) (fun hc_80 => ?_)
        · replace hF := gF hc_80 hF
          refine lv_bipush (v := 100) hx hb dL_isActed_47 (by decide) ?_
          refine lv_iload hx hb dL_isActed_49 (lv_at hl 0 rfl) ?_
          refine lv_iload hx hb dL_isActed_51 (lv_at hl 0 rfl) ?_
          refine lv_iconst (v := 2) hx hb dL_isActed_53 (by decide) ?_
          refine lv_irem hx hb dL_isActed_54 (by decide) ?_
          refine lv_if_ne (tgt := 64) hx hb dL_isActed_55 (by decide) (fun hc_81 => ?_) (fun hc_81 => ?_)
          · replace hF := gF hc_81 hF
            refine lv_bipush (v := 9) hx hb dL_isActed_64 (by decide) ?_
            exact B_66 w x10 9 x12_76 100 ls (lv_sub hl [2, 3, 8, 12] rfl) hF H locs hW hL
          · replace hF := gT hc_81 hF
            refine lv_sipush (v := 900) hx hb dL_isActed_58 (by decide) ?_
            refine lv_goto (tgt := 66) hx hb dL_isActed_61 (by decide) ?_
            exact B_66 w x10 900 x12_76 100 ls (lv_sub hl [2, 3, 8, 12] rfl) hF H locs hW hL
        · replace hF := gT hc_80 hF
          refine lv_iconst (v := 0) hx hb dL_isActed_43 (by decide) ?_
          refine lv_goto (tgt := 68) hx hb dL_isActed_44 (by decide) ?_
          exact B_68 w x10 0 ls (lv_sub hl [2, 3, 8, 12] rfl) hF H locs hW hL
