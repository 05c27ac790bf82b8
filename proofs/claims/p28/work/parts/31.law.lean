def F_L_law_128 (L : Nat) (xs : Nat → Int32) (rec75 : gWd → Int32 → Option (Int32 × gWd)) (w : gWd) (x10 : Int32) (x11 : Int32) (xs0 : Int32) : Option (Int32 × gWd) := gC (F_L_isActed w xs0 ((x11 / 17))) (fun v_7 w_8 => if v_7 = 0 then (some (0, w_8)) else (gP (F_L_areSwimmers w_8) (fun v_11 => if v_11 = 0 then (some (0, w_8)) else (gP (F_L_areRest w_8) (fun v_14 => if v_14 = 0 then (some (0, w_8)) else (gS (x10 + 1) (fun x10_16 => rec75 w_8 x10_16)))))))
def F_L_law_75 (L : Nat) (xs : Nat → Int32) : Nat → gWd → Int32 → Option (Int32 × gWd)
  | 0 => fun _ _ => none
  | fu + 1 => fun w x10 => (fun rec75 : gWd → Int32 → Option (Int32 × gWd) => if 60 ≤ x10 then (some (1, w)) else (gP (F_L_cell L xs w x10) (fun v_3 => gS ((v_3 &&& 2147483647)) (fun x11_4 => if 9 ≤ x10 then (F_L_law_128 L xs rec75 w x10 x11_4 ((x11_4 - x11_4 / 17 * 17))) else (F_L_law_128 L xs rec75 w x10 x11_4 ((x11_4 - x11_4 / 8 * 8))))))) (F_L_law_75 L xs fu)
theorem F_L_law_75_s (L : Nat) (xs : Nat → Int32) (fu : Nat) (w : gWd) (x10 : Int32) : F_L_law_75 L xs (fu + 1) w x10 = (if 60 ≤ x10 then (some (1, w)) else (gP (F_L_cell L xs w x10) (fun v_3 => gS ((v_3 &&& 2147483647)) (fun x11_4 => if 9 ≤ x10 then (F_L_law_128 L xs (F_L_law_75 L xs fu) w x10 x11_4 ((x11_4 - x11_4 / 17 * 17))) else (F_L_law_128 L xs (F_L_law_75 L xs fu) w x10 x11_4 ((x11_4 - x11_4 / 8 * 8))))))) := rfl
theorem F_L_law_75_z (L : Nat) (xs : Nat → Int32) (w : gWd) (x10 : Int32) : F_L_law_75 L xs 0 w x10 = none := rfl
def F_L_law (L : Nat) (xs : Nat → Int32) (w : gWd) (x10 : Int32) : Option (Int32 × gWd) := F_L_law_75 L xs gFU w x10
set_option maxHeartbeats 8000000 in
set_option maxRecDepth 100000 in
theorem law_walk {p : Program} {e : Env} {s : State} {m : MethodId} {below : List Frame} {meth : Method} {c : Code} (l : Launch) {b : Nat} (X : gX) (w' : gWd) (hBs : X.B = s.heap.size) (hx : p.tables.exec = Jvm.exec) (hb : c.code = code) (hr : meth.sig.returnType = ret) (hml : c.maxLocals = 12) (hown : s.vm.findClass RL = some m.cls) (hts : ∀ w ∈ wsL_law, w.before #[Value.ref b] s = true) (hlocks : meth.locks = false) (hK : gKt X s) : ∀ (fu : Nat) (w : gWd) (x10 : Int32)  (ls : Array Slot) (hl : lv_has ls 12 [(0, .ref X.sB), (1, .ref (gA X 7 0)), (2, .ref (gA X 8 0)), (3, .ref (gA X 8 1)), (4, .ref (gA X 8 2)), (5, .ref (gA X 8 3)), (6, .ref (gA X 8 4)), (7, .ref (gA X 8 5)), (8, .ref (gA X 8 6)), (9, .ref (gA X 8 7)), (10, .int x10)]) (hF : F_L_law_75 X.sL X.sx fu w x10 = some (1, w')) (H : Heap) (locs : List Loc) (hW : gWo X 252 (gE X w) H) (hL : gLo X locs), W p l e room_1 s m #[Value.ref b] below meth c H locs 600000 7302250 (lw_Z below #[Value.ref b] s) (F0 m 75 ls []) := by
  have q8 := hts _ (wq_L_8)
  have k116 : CallB room_1 s #[Value.ref b] RL 116 yL_cell cL_cell 2 (some .int) wsL_cell rmL_cell 0 0 2 ∧ (Cond.static yL_cell).before #[Value.ref b] s = true := va_cwS 2 hts (gGoodS (fun w h => h) wk_L_116) rfl rfl rfl (by decide +kernel) ⟨Nat.le_of_ble_eq_true rfl, Nat.le_of_ble_eq_true rfl⟩
  have k120 : CallB room_1 s #[Value.ref b] RL 120 yL_isActed cL_isActed 16 (some .boolean) wsL_isActed rmL_isActed 0 0 11 ∧ (Cond.static yL_isActed).before #[Value.ref b] s = true := va_cwS 11 hts (gGoodS (fun w h => h) wk_L_120) rfl rfl rfl (by decide +kernel) ⟨Nat.le_of_ble_eq_true rfl, Nat.le_of_ble_eq_true rfl⟩
  have k124 : CallB room_1 s #[Value.ref b] RL 124 yL_areSwimmers cL_areSwimmers 11 (some .boolean) wsL_areSwimmers rmL_areSwimmers 0 0 6 ∧ (Cond.static yL_areSwimmers).before #[Value.ref b] s = true := va_cwS 6 hts (gGoodS (fun w h => h) wk_L_124) rfl rfl rfl (by decide +kernel) ⟨Nat.le_of_ble_eq_true rfl, Nat.le_of_ble_eq_true rfl⟩
  have k128 : CallB room_1 s #[Value.ref b] RL 128 yL_areRest cL_areRest 12 (some .boolean) wsL_areRest rmL_areRest 0 0 7 ∧ (Cond.static yL_areRest).before #[Value.ref b] s = true := va_cwS 7 hts (gGoodS (fun w h => h) wk_L_128) rfl rfl rfl (by decide +kernel) ⟨Nat.le_of_ble_eq_true rfl, Nat.le_of_ble_eq_true rfl⟩
  have L_75 : ∀ (fu : Nat) (w : gWd) (x10 : Int32)  (ls : Array Slot) (hl : lv_has ls 12 [(0, .ref X.sB), (1, .ref (gA X 7 0)), (2, .ref (gA X 8 0)), (3, .ref (gA X 8 1)), (4, .ref (gA X 8 2)), (5, .ref (gA X 8 3)), (6, .ref (gA X 8 4)), (7, .ref (gA X 8 5)), (8, .ref (gA X 8 6)), (9, .ref (gA X 8 7)), (10, .int x10)]) (hF : F_L_law_75 X.sL X.sx fu w x10 = some (1, w')) (H : Heap) (locs : List Loc) (hW : gWo X 252 (gE X w) H) (hL : gLo X locs), W p l e room_1 s m #[Value.ref b] below meth c H locs 600000 7302250 (lw_Z below #[Value.ref b] s) (F0 m 75 ls []) := by
    intro fu
    induction fu with
    | zero => intro w x10 ls hl hF H locs hW hL; rw [F_L_law_75_z] at hF; cases hF
    | succ fu75 ih75 =>
      have B_128 : ∀ (w : gWd) (x10 : Int32) (x11 : Int32) (xs0 : Int32)  (ls : Array Slot) (hl : lv_has ls 12 [(0, .ref X.sB), (1, .ref (gA X 7 0)), (2, .ref (gA X 8 0)), (3, .ref (gA X 8 1)), (4, .ref (gA X 8 2)), (5, .ref (gA X 8 3)), (6, .ref (gA X 8 4)), (7, .ref (gA X 8 5)), (8, .ref (gA X 8 6)), (9, .ref (gA X 8 7)), (10, .int x10), (11, .int x11)]) (hF : F_L_law_128 X.sL X.sx (F_L_law_75 X.sL X.sx fu75) w x10 x11 xs0 = some (1, w')) (H : Heap) (locs : List Loc) (hW : gWo X 252 (gE X w) H) (hL : gLo X locs), W p l e room_1 s m #[Value.ref b] below meth c H locs 600000 7302250 (lw_Z below #[Value.ref b] s) (F0 m 128 ls [.int xs0, .ref (gA X 8 7), .ref (gA X 8 6), .ref (gA X 8 5), .ref (gA X 8 4), .ref (gA X 8 3), .ref (gA X 8 2), .ref (gA X 8 1), .ref (gA X 8 0), .ref (gA X 7 0)]) := by
        intro w x10 x11 xs0 ls hl hF H locs hW hL
        rw [F_L_law_128] at hF
        refine lv_iload hx hb dL_law_128 (lv_at hl 11 rfl) ?_
        refine lv_bipush (v := 17) hx hb dL_law_130 (by decide) ?_
        refine lv_idiv hx hb dL_law_132 (by decide) ?_
        obtain ⟨v_7, w_8, hq_6, hF⟩ := gC_some hF
        refine g_Si (As := [.ref (gA X 7 0), .ref (gA X 8 0), .ref (gA X 8 1), .ref (gA X 8 2), .ref (gA X 8 3), .ref (gA X 8 4), .ref (gA X 8 5), .ref (gA X 8 6), .ref (gA X 8 7), .int xs0, .int (x11 / 17)]) (rest := []) ⟨hx, hb, hml, hown, hts⟩ hK hW hL hl.1 (c_L_isActed l X w xs0 ((x11 / 17)) v_7 w_8 hq_6) k120 rfl rfl (Nat.le_of_ble_eq_true rfl) dL_law_133 ⟨Nat.le_of_ble_eq_true rfl, Nat.le_of_ble_eq_true rfl⟩ (fun H locs hW hL => ?_)
        refine lv_if_eq (tgt := 171) hx hb dL_law_136 (by decide) (fun hc_9 => ?_) (fun hc_9 => ?_)
        · replace hF := gT hc_9 hF
          refine lv_iconst (v := 0) hx hb dL_law_171 (by decide) ?_
          exact absurd (gI2 hF).1 (by decide)
        · replace hF := gF hc_9 hF
          refine lv_aload_n hx hb dL_law_139 rfl (lv_at hl 1 rfl) ?_
          refine lv_aload_n hx hb dL_law_140 rfl (lv_at hl 2 rfl) ?_
          refine lv_aload_n hx hb dL_law_141 rfl (lv_at hl 3 rfl) ?_
          refine lv_aload hx hb dL_law_142 (lv_at hl 4 rfl) ?_
          refine lv_aload hx hb dL_law_144 (lv_at hl 5 rfl) ?_
          refine lv_aload hx hb dL_law_146 (lv_at hl 7 rfl) ?_
          obtain ⟨v_11, hq_10, hF⟩ := gP_some hF
          refine g_Si (As := [.ref (gA X 7 0), .ref (gA X 8 0), .ref (gA X 8 1), .ref (gA X 8 2), .ref (gA X 8 3), .ref (gA X 8 5)]) (rest := []) ⟨hx, hb, hml, hown, hts⟩ hK hW hL hl.1 (c_L_areSwimmers l X w_8  v_11 hq_10) k124 rfl rfl (Nat.le_of_ble_eq_true rfl) dL_law_148 ⟨Nat.le_of_ble_eq_true rfl, Nat.le_of_ble_eq_true rfl⟩ (fun H locs hW hL => ?_)
          refine lv_if_eq (tgt := 171) hx hb dL_law_151 (by decide) (fun hc_12 => ?_) (fun hc_12 => ?_)
          · replace hF := gT hc_12 hF
            refine lv_iconst (v := 0) hx hb dL_law_171 (by decide) ?_
            exact absurd (gI2 hF).1 (by decide)
          · replace hF := gF hc_12 hF
            refine lv_aload_n hx hb dL_law_154 rfl (lv_at hl 1 rfl) ?_
            refine lv_aload_n hx hb dL_law_155 rfl (lv_at hl 2 rfl) ?_
            refine lv_aload_n hx hb dL_law_156 rfl (lv_at hl 3 rfl) ?_
            refine lv_aload hx hb dL_law_157 (lv_at hl 4 rfl) ?_
            refine lv_aload hx hb dL_law_159 (lv_at hl 6 rfl) ?_
            refine lv_aload hx hb dL_law_161 (lv_at hl 7 rfl) ?_
            refine lv_aload hx hb dL_law_163 (lv_at hl 8 rfl) ?_
            obtain ⟨v_14, hq_13, hF⟩ := gP_some hF
            refine g_Si (As := [.ref (gA X 7 0), .ref (gA X 8 0), .ref (gA X 8 1), .ref (gA X 8 2), .ref (gA X 8 4), .ref (gA X 8 5), .ref (gA X 8 6)]) (rest := []) ⟨hx, hb, hml, hown, hts⟩ hK hW hL hl.1 (c_L_areRest l X w_8  v_14 hq_13) k128 rfl rfl (Nat.le_of_ble_eq_true rfl) dL_law_165 ⟨Nat.le_of_ble_eq_true rfl, Nat.le_of_ble_eq_true rfl⟩ (fun H locs hW hL => ?_)
            refine lv_if_ne (tgt := 173) hx hb dL_law_168 (by decide) (fun hc_15 => ?_) (fun hc_15 => ?_)
            · replace hF := gF hc_15 hF
              obtain ⟨x10_16, ex10_16, hF⟩ := gS_some hF
              refine lv_iinc (v := x10_16) (lv' := [(10, .int x10_16), (0, .ref X.sB), (1, .ref (gA X 7 0)), (2, .ref (gA X 8 0)), (3, .ref (gA X 8 1)), (4, .ref (gA X 8 2)), (5, .ref (gA X 8 3)), (6, .ref (gA X 8 4)), (7, .ref (gA X 8 5)), (8, .ref (gA X 8 6)), (9, .ref (gA X 8 7)), (11, .int x11)]) hx hb dL_law_173 hl (k := 10) rfl (by rw [ex10_16]; rfl) (by decide) rfl (fun ls hl => ?_)
              refine lv_goto (tgt := 75) hx hb dL_law_176 (by decide) ?_
              exact ih75 w_8 x10_16 ls (lv_sub hl [1, 2, 3, 4, 5, 6, 7, 8, 9, 10, 0] rfl) hF H locs hW hL
            · replace hF := gT hc_15 hF
              refine lv_iconst (v := 0) hx hb dL_law_171 (by decide) ?_
              exact absurd (gI2 hF).1 (by decide)
      intro w x10 ls hl hF H locs hW hL
      rw [F_L_law_75_s] at hF
      refine lv_iload hx hb dL_law_75 (lv_at hl 10 rfl) ?_
      refine lv_bipush (v := 60) hx hb dL_law_77 (by decide) ?_
      refine lv_icmp_ge (tgt := 179) hx hb dL_law_79 (by decide) (fun hc_1 => ?_) (fun hc_1 => ?_)
      · replace hF := gT hc_1 hF
        refine lv_iconst (v := 1) hx hb dL_law_179 (by decide) ?_
        refine va_forget (fun q hq => Nat.le_trans (Nat.le_of_eq hBs.symm) (hL q hq)) ?_
        exact lw_ret hx hb hr hlocks dL_law_180
      · replace hF := gF hc_1 hF
        refine lv_aload_n hx hb dL_law_82 rfl (lv_at hl 0 rfl) ?_
        refine lv_iload hx hb dL_law_83 (lv_at hl 10 rfl) ?_
        obtain ⟨v_3, hq_2, hF⟩ := gP_some hF
        refine g_Si (As := [.ref X.sB, .int x10]) (rest := []) ⟨hx, hb, hml, hown, hts⟩ hK hW hL hl.1 (c_L_cell l X w x10 v_3 hq_2) k116 rfl rfl (Nat.le_of_ble_eq_true rfl) dL_law_85 ⟨Nat.le_of_ble_eq_true rfl, Nat.le_of_ble_eq_true rfl⟩ (fun H locs hW hL => ?_)
        refine lv_ldc hx hb hown q8 dL_law_88 ?_
        refine lv_iand hx hb dL_law_90 ?_
        obtain ⟨x11_4, ex11_4, hF⟩ := gS_some hF
        refine g_top ex11_4 ?_
        refine lv_istore (lv' := [(11, .int x11_4), (0, .ref X.sB), (1, .ref (gA X 7 0)), (2, .ref (gA X 8 0)), (3, .ref (gA X 8 1)), (4, .ref (gA X 8 2)), (5, .ref (gA X 8 3)), (6, .ref (gA X 8 4)), (7, .ref (gA X 8 5)), (8, .ref (gA X 8 6)), (9, .ref (gA X 8 7)), (10, .int x10)]) hx hb dL_law_91 hl (by decide) rfl (fun ls hl => ?_)
        refine lv_aload_n hx hb dL_law_93 rfl (lv_at hl 2 rfl) ?_
        refine lv_aload_n hx hb dL_law_94 rfl (lv_at hl 3 rfl) ?_
        refine lv_aload_n hx hb dL_law_95 rfl (lv_at hl 4 rfl) ?_
        refine lv_aload hx hb dL_law_96 (lv_at hl 5 rfl) ?_
        refine lv_aload hx hb dL_law_98 (lv_at hl 6 rfl) ?_
        refine lv_aload hx hb dL_law_100 (lv_at hl 7 rfl) ?_
        refine lv_aload hx hb dL_law_102 (lv_at hl 8 rfl) ?_
        refine lv_aload hx hb dL_law_104 (lv_at hl 9 rfl) ?_
        refine lv_aload hx hb dL_law_106 (lv_at hl 10 rfl) ?_
        refine lv_iload hx hb dL_law_108 (lv_at hl 11 rfl) ?_
        refine lv_bipush (v := 9) hx hb dL_law_110 (by decide) ?_
        refine lv_icmp_ge (tgt := 123) hx hb dL_law_112 (by decide) (fun hc_5 => ?_) (fun hc_5 => ?_)
        · replace hF := gT hc_5 hF
          refine lv_iload hx hb dL_law_123 (lv_at hl 0 rfl) ?_
          refine lv_bipush (v := 17) hx hb dL_law_125 (by decide) ?_
          refine lv_irem hx hb dL_law_127 (by decide) ?_
          exact B_128 w x10 x11_4 ((x11_4 - x11_4 / 17 * 17)) ls (lv_sub hl [1, 2, 3, 4, 5, 6, 7, 8, 9, 10, 11, 0] rfl) hF H locs hW hL
        · replace hF := gF hc_5 hF
          refine lv_iload hx hb dL_law_115 (lv_at hl 0 rfl) ?_
          refine lv_bipush (v := 8) hx hb dL_law_117 (by decide) ?_
          refine lv_irem hx hb dL_law_119 (by decide) ?_
          refine lv_goto (tgt := 128) hx hb dL_law_120 (by decide) ?_
          exact B_128 w x10 x11_4 ((x11_4 - x11_4 / 8 * 8)) ls (lv_sub hl [1, 2, 3, 4, 5, 6, 7, 8, 9, 10, 11, 0] rfl) hF H locs hW hL
  exact L_75
