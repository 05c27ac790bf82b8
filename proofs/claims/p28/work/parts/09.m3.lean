abbrev rmL_areRest : Room := { frames := 6, cells := 0, slots := 0, locals := 128 }
abbrev wsL_areRest : List Cond := gws yL_areRest cL_areRest 12 (some .boolean)
set_option maxHeartbeats 4000000 in
set_option maxRecDepth 100000 in
theorem c_L_areRest (l : Launch) (X : gX) (w : gWd)  (r : Int32) (hF : F_L_areRest w = some r) : Met l yL_areRest wsL_areRest rmL_areRest (gPc X [.ref (gA X 7 0), .ref (gA X 8 0), .ref (gA X 8 1), .ref (gA X 8 2), .ref (gA X 8 4), .ref (gA X 8 5), .ref (gA X 8 6)] w) (gQi X r w) 0 0 (gFr X) := by
  refine g_ofW (cc := cL_areRest) (maxL := 12) (ret := (some .boolean)) (by decide) rfl (Nat.le_of_ble_eq_true rfl) (fun p e s m args below meth c ls H hx hb hr hts hown hlocks hml hK hl hW => ?_)
  have hl : lv_has ls 12 [(0, .ref (gA X 7 0)), (1, .ref (gA X 8 0)), (2, .ref (gA X 8 1)), (3, .ref (gA X 8 2)), (4, .ref (gA X 8 4)), (5, .ref (gA X 8 5)), (6, .ref (gA X 8 6))] := hl
  have hown : s.vm.findClass RL = some m.cls := hown
  have hL : gLo X [] := gLo_nil
  show W p l e rmL_areRest s m args below meth c H [] 0 0 _ _
  have q39 := hts _ (List.mem_cons_of_mem _ wq_L_39)
  have q40 := hts _ (List.mem_cons_of_mem _ wq_L_40)
  have k23 : CallB rmL_areRest s args RL 23 yL_isAsked cL_isAsked 5 (some .boolean) wsL_isAsked rmL_isAsked 0 0 5 ∧ (Cond.static yL_isAsked).before args s = true := va_cwS 5 hts (gGoodS (fun w h => List.mem_cons_of_mem _ h) wk_L_23) rfl rfl rfl (by decide +kernel) ⟨Nat.le_of_ble_eq_true rfl, Nat.le_of_ble_eq_true rfl⟩
  have k27 : CallB rmL_areRest s args RL 27 yL_time cL_time 4 (some .int) wsL_time rmL_time 0 0 4 ∧ (Cond.static yL_time).before args s = true := va_cwS 4 hts (gGoodS (fun w h => List.mem_cons_of_mem _ h) wk_L_27) rfl rfl rfl (by decide +kernel) ⟨Nat.le_of_ble_eq_true rfl, Nat.le_of_ble_eq_true rfl⟩
  have k41 : CallW rmL_areRest s args RL RX11 41 yX11_count cX11_count 2 (some .int) wsX11_count rmX11_count 0 0 1 := cwV 1 hts (gGoodV (fun w h => List.mem_cons_of_mem _ h) wk_L_41) rfl rfl rfl (by decide +kernel) ⟨Nat.le_of_ble_eq_true rfl, Nat.le_of_ble_eq_true rfl⟩
  have k45 : CallW rmL_areRest s args RL RX11 45 yX11_why cX11_why 1 (some .int) wsX11_why rmX11_why 0 0 0 := cwV 0 hts (gGoodV (fun w h => List.mem_cons_of_mem _ h) wk_L_45) rfl rfl rfl (by decide +kernel) ⟨Nat.le_of_ble_eq_true rfl, Nat.le_of_ble_eq_true rfl⟩
  have k49 : CallB rmL_areRest s args RL 49 yL_why cL_why 8 (some .int) wsL_why rmL_why 0 0 4 ∧ (Cond.static yL_why).before args s = true := va_cwS 4 hts (gGoodS (fun w h => List.mem_cons_of_mem _ h) wk_L_49) rfl rfl rfl (by decide +kernel) ⟨Nat.le_of_ble_eq_true rfl, Nat.le_of_ble_eq_true rfl⟩
  have k52 : CallW rmL_areRest s args RL RX11 52 yX11_reserve cX11_reserve 2 (some .int) wsX11_reserve rmX11_reserve 0 0 1 := cwV 1 hts (gGoodV (fun w h => List.mem_cons_of_mem _ h) wk_L_52) rfl rfl rfl (by decide +kernel) ⟨Nat.le_of_ble_eq_true rfl, Nat.le_of_ble_eq_true rfl⟩
  have k55 : CallW rmL_areRest s args RL RX11 55 yX11_missing cX11_missing 2 (some .int) wsX11_missing rmX11_missing 0 0 1 := cwV 1 hts (gGoodV (fun w h => List.mem_cons_of_mem _ h) wk_L_55) rfl rfl rfl (by decide +kernel) ⟨Nat.le_of_ble_eq_true rfl, Nat.le_of_ble_eq_true rfl⟩
  have k58 : CallW rmL_areRest s args RL RX11 58 yX11_points cX11_points 2 (some .int) wsX11_points rmX11_points 0 0 1 := cwV 1 hts (gGoodV (fun w h => List.mem_cons_of_mem _ h) wk_L_58) rfl rfl rfl (by decide +kernel) ⟨Nat.le_of_ble_eq_true rfl, Nat.le_of_ble_eq_true rfl⟩
  have B_303 : ∀   (ls : Array Slot) (hl : lv_has ls 12 []) (hF : F_L_areRest_303 w = some r) (H : Heap) (locs : List Loc) (hW : gWo X 252 (gE X w) H) (hL : gLo X locs), W p l e rmL_areRest s m args below meth c H locs 0 0 (MQ below (gQi X r w) args s 0 0 (gFr X)) (F0 m 303 ls []) := by
    intro ls hl hF H locs hW hL
    rw [F_L_areRest_303] at hF
    refine lv_iconst (v := 0) hx hb dL_areRest_303 (by decide) ?_
    exact g_rz hx hb hr hlocks hW hL (Or.inl rfl) (Option.some.inj hF) dL_areRest_304
  have L_191 : ∀ (fu : Nat) (x7 : Int32) (x8 : Int32) (x9 : Int32) (x10 : Int32) (x11 : Int32)  (ls : Array Slot) (hl : lv_has ls 12 [(0, .ref (gA X 7 0)), (6, .ref (gA X 8 6)), (7, .int x7), (8, .int x8), (9, .int x9), (10, .int x10), (11, .int x11)]) (hF : F_L_areRest_191 fu w x7 x8 x9 x10 x11 = some r) (H : Heap) (locs : List Loc) (hW : gWo X 252 (gE X w) H) (hL : gLo X locs), W p l e rmL_areRest s m args below meth c H locs 0 0 (MQ below (gQi X r w) args s 0 0 (gFr X)) (F0 m 191 ls []) := by
    intro fu
    induction fu with
    | zero => intro x7 x8 x9 x10 x11 ls hl hF H locs hW hL; rw [F_L_areRest_191_z] at hF; cases hF
    | succ fu191 ih191 =>
      have B_231 : ∀ (x7 : Int32) (x8 : Int32) (x9 : Int32) (x11 : Int32)  (ls : Array Slot) (hl : lv_has ls 12 [(0, .ref (gA X 7 0)), (6, .ref (gA X 8 6)), (7, .int x7), (8, .int x8), (9, .int x9), (11, .int x11)]) (hF : F_L_areRest_231 (F_L_areRest_191 fu191) w x7 x8 x9 x11 = some r) (H : Heap) (locs : List Loc) (hW : gWo X 252 (gE X w) H) (hL : gLo X locs), W p l e rmL_areRest s m args below meth c H locs 0 0 (MQ below (gQi X r w) args s 0 0 (gFr X)) (F0 m 231 ls []) := by
        intro x7 x8 x9 x11 ls hl hF H locs hW hL
        rw [F_L_areRest_231] at hF
        refine lv_iconst (v := 0) hx hb dL_areRest_231 (by decide) ?_
        refine lv_istore (lv' := [(10, .int 0), (0, .ref (gA X 7 0)), (6, .ref (gA X 8 6)), (7, .int x7), (8, .int x8), (9, .int x9), (11, .int x11)]) hx hb dL_areRest_232 hl (by decide) rfl (fun ls hl => ?_)
        obtain ⟨x11_62, ex11_62, hF⟩ := gS_some hF
        refine lv_iinc (v := x11_62) (lv' := [(11, .int x11_62), (10, .int 0), (0, .ref (gA X 7 0)), (6, .ref (gA X 8 6)), (7, .int x7), (8, .int x8), (9, .int x9)]) hx hb dL_areRest_234 hl (k := 6) rfl (by rw [ex11_62]; rfl) (by decide) rfl (fun ls hl => ?_)
        refine lv_goto (tgt := 191) hx hb dL_areRest_237 (by decide) ?_
        exact ih191 x7 x8 x9 0 x11_62 ls (lv_sub hl [2, 3, 4, 5, 6, 1, 0] rfl) hF H locs hW hL
      intro x7 x8 x9 x10 x11 ls hl hF H locs hW hL
      rw [F_L_areRest_191_s] at hF
      refine lv_iload hx hb dL_areRest_191 (lv_at hl 6 rfl) ?_
      refine lv_bipush (v := 6) hx hb dL_areRest_193 (by decide) ?_
      refine lv_icmp_ge (tgt := 240) hx hb dL_areRest_195 (by decide) (fun hc_35 => ?_) (fun hc_35 => ?_)
      · replace hF := gT hc_35 hF
        refine lv_iload hx hb dL_areRest_240 (lv_at hl 5 rfl) ?_
        refine lv_if_eq (tgt := 303) hx hb dL_areRest_242 (by decide) (fun hc_36 => ?_) (fun hc_36 => ?_)
        · replace hF := gT hc_36 hF
          exact B_303  ls (lv_sub hl [] rfl) hF H locs hW hL
        · replace hF := gF hc_36 hF
          refine lv_aload_n hx hb dL_areRest_245 rfl (lv_at hl 0 rfl) ?_
          refine lv_iload hx hb dL_areRest_246 (lv_at hl 2 rfl) ?_
          obtain ⟨v_38, hq_37, hF⟩ := gP_some hF
          refine g_Vi (As := [.int x7]) (rest := []) ⟨hx, hb, hml, hown, hts⟩ hK hW hL hl.1 (gok_c (by decide)) gE_G rfl (c_X11_reserve l X w x7 v_38 hq_37) k52 rfl rfl (Nat.le_of_ble_eq_true rfl) dL_areRest_248 ⟨Nat.le_of_ble_eq_true rfl, Nat.le_of_ble_eq_true rfl⟩ (fun H locs hW hL => ?_)
          refine lv_ldc hx hb hown q40 dL_areRest_251 ?_
          refine lv_icmp_ne (tgt := 303) hx hb dL_areRest_253 (by decide) (fun hc_39 => ?_) (fun hc_39 => ?_)
          · replace hF := gF hc_39 hF
            exact B_303  ls (lv_sub hl [] rfl) hF H locs hW hL
          · replace hF := gT hc_39 hF
            refine lv_aload_n hx hb dL_areRest_256 rfl (lv_at hl 0 rfl) ?_
            refine lv_iload hx hb dL_areRest_257 (lv_at hl 3 rfl) ?_
            obtain ⟨v_41, hq_40, hF⟩ := gP_some hF
            refine g_Vi (As := [.int x8]) (rest := []) ⟨hx, hb, hml, hown, hts⟩ hK hW hL hl.1 (gok_c (by decide)) gE_G rfl (c_X11_missing l X w x8 v_41 hq_40) k55 rfl rfl (Nat.le_of_ble_eq_true rfl) dL_areRest_259 ⟨Nat.le_of_ble_eq_true rfl, Nat.le_of_ble_eq_true rfl⟩ (fun H locs hW hL => ?_)
            refine lv_ldc hx hb hown q40 dL_areRest_262 ?_
            refine lv_icmp_ne (tgt := 303) hx hb dL_areRest_264 (by decide) (fun hc_42 => ?_) (fun hc_42 => ?_)
            · replace hF := gF hc_42 hF
              exact B_303  ls (lv_sub hl [] rfl) hF H locs hW hL
            · replace hF := gT hc_42 hF
              refine lv_aload_n hx hb dL_areRest_267 rfl (lv_at hl 0 rfl) ?_
              refine lv_iconst (v := 5) hx hb dL_areRest_268 (by decide) ?_
              obtain ⟨v_44, hq_43, hF⟩ := gP_some hF
              refine g_Vi (As := [.int 5]) (rest := []) ⟨hx, hb, hml, hown, hts⟩ hK hW hL hl.1 (gok_c (by decide)) gE_G rfl (c_X11_count l X w 5 v_44 hq_43) k41 rfl rfl (Nat.le_of_ble_eq_true rfl) dL_areRest_269 ⟨Nat.le_of_ble_eq_true rfl, Nat.le_of_ble_eq_true rfl⟩ (fun H locs hW hL => ?_)
              refine lv_iload hx hb dL_areRest_272 (lv_at hl 2 rfl) ?_
              refine lv_icmp_ne (tgt := 303) hx hb dL_areRest_274 (by decide) (fun hc_45 => ?_) (fun hc_45 => ?_)
              · replace hF := gF hc_45 hF
                exact B_303  ls (lv_sub hl [] rfl) hF H locs hW hL
              · replace hF := gT hc_45 hF
                refine lv_aload_n hx hb dL_areRest_277 rfl (lv_at hl 0 rfl) ?_
                refine lv_bipush (v := 11) hx hb dL_areRest_278 (by decide) ?_
                obtain ⟨v_47, hq_46, hF⟩ := gP_some hF
                refine g_Vi (As := [.int 11]) (rest := []) ⟨hx, hb, hml, hown, hts⟩ hK hW hL hl.1 (gok_c (by decide)) gE_G rfl (c_X11_count l X w 11 v_47 hq_46) k41 rfl rfl (Nat.le_of_ble_eq_true rfl) dL_areRest_280 ⟨Nat.le_of_ble_eq_true rfl, Nat.le_of_ble_eq_true rfl⟩ (fun H locs hW hL => ?_)
                refine lv_iload hx hb dL_areRest_283 (lv_at hl 4 rfl) ?_
                refine lv_icmp_ne (tgt := 303) hx hb dL_areRest_285 (by decide) (fun hc_48 => ?_) (fun hc_48 => ?_)
                · replace hF := gF hc_48 hF
                  exact B_303  ls (lv_sub hl [] rfl) hF H locs hW hL
                · replace hF := gT hc_48 hF
                  refine lv_aload_n hx hb dL_areRest_288 rfl (lv_at hl 0 rfl) ?_
                  refine lv_bipush (v := 6) hx hb dL_areRest_289 (by decide) ?_
                  obtain ⟨v_50, hq_49, hF⟩ := gP_some hF
                  refine g_Vi (As := [.int 6]) (rest := []) ⟨hx, hb, hml, hown, hts⟩ hK hW hL hl.1 (gok_c (by decide)) gE_G rfl (c_X11_points l X w 6 v_50 hq_49) k58 rfl rfl (Nat.le_of_ble_eq_true rfl) dL_areRest_291 ⟨Nat.le_of_ble_eq_true rfl, Nat.le_of_ble_eq_true rfl⟩ (fun H locs hW hL => ?_)
                  refine lv_ldc hx hb hown q39 dL_areRest_294 ?_
                  refine lv_icmp_ne (tgt := 303) hx hb dL_areRest_296 (by decide) (fun hc_51 => ?_) (fun hc_51 => ?_)
                  · replace hF := gF hc_51 hF
                    exact B_303  ls (lv_sub hl [] rfl) hF H locs hW hL
                  · replace hF := gT hc_51 hF
                    refine lv_iconst (v := 1) hx hb dL_areRest_299 (by decide) ?_
                    refine lv_goto (tgt := 304) hx hb dL_areRest_300 (by decide) ?_
                    exact g_rz hx hb hr hlocks hW hL (Or.inr rfl) (Option.some.inj hF) dL_areRest_304
      · replace hF := gF hc_35 hF
        refine lv_iload hx hb dL_areRest_198 (lv_at hl 4 rfl) ?_
        refine lv_aload hx hb dL_areRest_200 (lv_at hl 1 rfl) ?_
        refine lv_iload hx hb dL_areRest_202 (lv_at hl 6 rfl) ?_
        obtain ⟨hin_52, hF⟩ := gB_some hF
        obtain ⟨k_53, ek_53⟩ : ∃ k, k = Int32.toNatClampNeg x11 := ⟨_, rfl⟩
        rw [← ek_53] at hF
        refine g_iald2 (k := k_53) hx hb hK hW (gok_o (by decide)) (gad_lt (gok_o (by decide))) gE_O6 hin_52 ek_53.symm dL_areRest_204 ?_
        refine lv_iadd hx hb dL_areRest_205 ?_
        obtain ⟨x9_54, ex9_54, hF⟩ := gS_some hF
        refine g_top ex9_54 ?_
        refine lv_istore (lv' := [(9, .int x9_54), (0, .ref (gA X 7 0)), (6, .ref (gA X 8 6)), (7, .int x7), (8, .int x8), (10, .int x10), (11, .int x11)]) hx hb dL_areRest_206 hl (by decide) rfl (fun ls hl => ?_)
        refine lv_iload hx hb dL_areRest_208 (lv_at hl 5 rfl) ?_
        refine lv_if_eq (tgt := 231) hx hb dL_areRest_210 (by decide) (fun hc_55 => ?_) (fun hc_55 => ?_)
        · replace hF := gT hc_55 hF
          exact B_231 x7 x8 x9_54 x11 ls (lv_sub hl [1, 2, 3, 4, 0, 6] rfl) hF H locs hW hL
        · replace hF := gF hc_55 hF
          refine lv_aload_n hx hb dL_areRest_213 rfl (lv_at hl 1 rfl) ?_
          refine lv_iload hx hb dL_areRest_214 (lv_at hl 6 rfl) ?_
          obtain ⟨v_57, hq_56, hF⟩ := gP_some hF
          refine g_Vi (As := [.int x11]) (rest := []) ⟨hx, hb, hml, hown, hts⟩ hK hW hL hl.1 (gok_c (by decide)) gE_G rfl (c_X11_points l X w x11 v_57 hq_56) k58 rfl rfl (Nat.le_of_ble_eq_true rfl) dL_areRest_216 ⟨Nat.le_of_ble_eq_true rfl, Nat.le_of_ble_eq_true rfl⟩ (fun H locs hW hL => ?_)
          refine lv_aload hx hb dL_areRest_219 (lv_at hl 2 rfl) ?_
          refine lv_iload hx hb dL_areRest_221 (lv_at hl 6 rfl) ?_
          obtain ⟨hin_58, hF⟩ := gB_some hF
          obtain ⟨k_59, ek_59⟩ : ∃ k, k = Int32.toNatClampNeg x11 := ⟨_, rfl⟩
          rw [← ek_59] at hF
          refine g_iald2 (k := k_59) hx hb hK hW (gok_o (by decide)) (gad_lt (gok_o (by decide))) gE_O6 hin_58 ek_59.symm dL_areRest_223 ?_
          refine lv_icmp_ne (tgt := 231) hx hb dL_areRest_224 (by decide) (fun hc_60 => ?_) (fun hc_60 => ?_)
          · replace hF := gF hc_60 hF
            exact B_231 x7 x8 x9_54 x11 ls (lv_sub hl [1, 2, 3, 4, 0, 6] rfl) hF H locs hW hL
          · replace hF := gT hc_60 hF
            refine lv_iconst (v := 1) hx hb dL_areRest_227 (by decide) ?_
            refine lv_goto (tgt := 232) hx hb dL_areRest_228 (by decide) ?_
            refine lv_istore (lv' := [(10, .int 1), (9, .int x9_54), (0, .ref (gA X 7 0)), (6, .ref (gA X 8 6)), (7, .int x7), (8, .int x8), (11, .int x11)]) hx hb dL_areRest_232 hl (by decide) rfl (fun ls hl => ?_)
            obtain ⟨x11_61, ex11_61, hF⟩ := gS_some hF
            refine lv_iinc (v := x11_61) (lv' := [(11, .int x11_61), (10, .int 1), (9, .int x9_54), (0, .ref (gA X 7 0)), (6, .ref (gA X 8 6)), (7, .int x7), (8, .int x8)]) hx hb dL_areRest_234 hl (k := 6) rfl (by rw [ex11_61]; rfl) (by decide) rfl (fun ls hl => ?_)
            refine lv_goto (tgt := 191) hx hb dL_areRest_237 (by decide) ?_
            exact ih191 x7 x8 x9_54 1 x11_61 ls (lv_sub hl [3, 4, 5, 6, 2, 1, 0] rfl) hF H locs hW hL
  have L_122 : ∀ (fu : Nat) (x7 : Int32) (x8 : Int32) (x9 : Int32) (x10 : Int32) (x11 : Int32)  (ls : Array Slot) (hl : lv_has ls 12 [(0, .ref (gA X 7 0)), (1, .ref (gA X 8 0)), (2, .ref (gA X 8 1)), (3, .ref (gA X 8 2)), (5, .ref (gA X 8 5)), (6, .ref (gA X 8 6)), (7, .int x7), (8, .int x8), (9, .int x9), (10, .int x10), (11, .int x11)]) (hF : F_L_areRest_122 fu w x7 x8 x9 x10 x11 = some r) (H : Heap) (locs : List Loc) (hW : gWo X 252 (gE X w) H) (hL : gLo X locs), W p l e rmL_areRest s m args below meth c H locs 0 0 (MQ below (gQi X r w) args s 0 0 (gFr X)) (F0 m 122 ls []) := by
    intro fu
    induction fu with
    | zero => intro x7 x8 x9 x10 x11 ls hl hF H locs hW hL; rw [F_L_areRest_122_z] at hF; cases hF
    | succ fu122 ih122 =>
      have B_177 : ∀ (x7 : Int32) (x8 : Int32) (x9 : Int32) (x11 : Int32) (xs0 : Int32)  (ls : Array Slot) (hl : lv_has ls 12 [(0, .ref (gA X 7 0)), (1, .ref (gA X 8 0)), (2, .ref (gA X 8 1)), (3, .ref (gA X 8 2)), (5, .ref (gA X 8 5)), (6, .ref (gA X 8 6)), (7, .int x7), (8, .int x8), (9, .int x9), (11, .int x11)]) (hF : F_L_areRest_177 (F_L_areRest_122 fu122) w x7 x8 x9 x11 xs0 = some r) (H : Heap) (locs : List Loc) (hW : gWo X 252 (gE X w) H) (hL : gLo X locs), W p l e rmL_areRest s m args below meth c H locs 0 0 (MQ below (gQi X r w) args s 0 0 (gFr X)) (F0 m 177 ls [.int xs0]) := by
        intro x7 x8 x9 x11 xs0 ls hl hF H locs hW hL
        rw [F_L_areRest_177] at hF
        refine lv_istore (lv' := [(10, .int xs0), (0, .ref (gA X 7 0)), (1, .ref (gA X 8 0)), (2, .ref (gA X 8 1)), (3, .ref (gA X 8 2)), (5, .ref (gA X 8 5)), (6, .ref (gA X 8 6)), (7, .int x7), (8, .int x8), (9, .int x9), (11, .int x11)]) hx hb dL_areRest_177 hl (by decide) rfl (fun ls hl => ?_)
        obtain ⟨x8_33, ex8_33, hF⟩ := gS_some hF
        refine lv_iinc (v := x8_33) (lv' := [(8, .int x8_33), (10, .int xs0), (0, .ref (gA X 7 0)), (1, .ref (gA X 8 0)), (2, .ref (gA X 8 1)), (3, .ref (gA X 8 2)), (5, .ref (gA X 8 5)), (6, .ref (gA X 8 6)), (7, .int x7), (9, .int x9), (11, .int x11)]) hx hb dL_areRest_179 hl (k := 8) rfl (by rw [ex8_33]; rfl) (by decide) rfl (fun ls hl => ?_)
        obtain ⟨x11_34, ex11_34, hF⟩ := gS_some hF
        refine lv_iinc (v := x11_34) (lv' := [(11, .int x11_34), (8, .int x8_33), (10, .int xs0), (0, .ref (gA X 7 0)), (1, .ref (gA X 8 0)), (2, .ref (gA X 8 1)), (3, .ref (gA X 8 2)), (5, .ref (gA X 8 5)), (6, .ref (gA X 8 6)), (7, .int x7), (9, .int x9)]) hx hb dL_areRest_182 hl (k := 10) rfl (by rw [ex11_34]; rfl) (by decide) rfl (fun ls hl => ?_)
        refine lv_goto (tgt := 122) hx hb dL_areRest_185 (by decide) ?_
        exact ih122 x7 x8_33 x9 xs0 x11_34 ls (lv_sub hl [3, 4, 5, 6, 7, 8, 9, 1, 10, 2, 0] rfl) hF H locs hW hL
      have B_176 : ∀ (x7 : Int32) (x8 : Int32) (x9 : Int32) (x11 : Int32)  (ls : Array Slot) (hl : lv_has ls 12 [(0, .ref (gA X 7 0)), (1, .ref (gA X 8 0)), (2, .ref (gA X 8 1)), (3, .ref (gA X 8 2)), (5, .ref (gA X 8 5)), (6, .ref (gA X 8 6)), (7, .int x7), (8, .int x8), (9, .int x9), (11, .int x11)]) (hF : F_L_areRest_176 (F_L_areRest_122 fu122) w x7 x8 x9 x11 = some r) (H : Heap) (locs : List Loc) (hW : gWo X 252 (gE X w) H) (hL : gLo X locs), W p l e rmL_areRest s m args below meth c H locs 0 0 (MQ below (gQi X r w) args s 0 0 (gFr X)) (F0 m 176 ls []) := by
        intro x7 x8 x9 x11 ls hl hF H locs hW hL
        rw [F_L_areRest_176] at hF
        refine lv_iconst (v := 0) hx hb dL_areRest_176 (by decide) ?_
        exact B_177 x7 x8 x9 x11 0 ls (hl) hF H locs hW hL
      intro x7 x8 x9 x10 x11 ls hl hF H locs hW hL
      rw [F_L_areRest_122_s] at hF
      refine lv_iload hx hb dL_areRest_122 (lv_at hl 10 rfl) ?_
      refine lv_aload hx hb dL_areRest_124 (lv_at hl 4 rfl) ?_
      refine lv_iconst (v := 1) hx hb dL_areRest_126 (by decide) ?_
      refine g_iald2 (k := 1) hx hb hK hW (gok_o (by decide)) (gad_lt (gok_o (by decide))) gE_O5 (gin (by decide)) (by decide) dL_areRest_127 ?_
      refine lv_icmp_ge (tgt := 188) hx hb dL_areRest_128 (by decide) (fun hc_20 => ?_) (fun hc_20 => ?_)
      · replace hF := gT hc_20 hF
        refine lv_iconst (v := 0) hx hb dL_areRest_188 (by decide) ?_
        refine lv_istore (lv' := [(11, .int 0), (0, .ref (gA X 7 0)), (1, .ref (gA X 8 0)), (2, .ref (gA X 8 1)), (3, .ref (gA X 8 2)), (5, .ref (gA X 8 5)), (6, .ref (gA X 8 6)), (7, .int x7), (8, .int x8), (9, .int x9), (10, .int x10)]) hx hb dL_areRest_189 hl (by decide) rfl (fun ls hl => ?_)
        exact L_191 gFU x7 x8 x9 x10 0 ls (lv_sub hl [1, 6, 7, 8, 9, 10, 0] rfl) hF H locs hW hL
      · replace hF := gF hc_20 hF
        refine lv_aload_n hx hb dL_areRest_131 rfl (lv_at hl 1 rfl) ?_
        refine lv_aload_n hx hb dL_areRest_132 rfl (lv_at hl 2 rfl) ?_
        refine lv_aload_n hx hb dL_areRest_133 rfl (lv_at hl 3 rfl) ?_
        refine lv_aload hx hb dL_areRest_134 (lv_at hl 4 rfl) ?_
        refine lv_iload hx hb dL_areRest_136 (lv_at hl 10 rfl) ?_
        obtain ⟨v_22, hq_21, hF⟩ := gP_some hF
        refine g_Si (As := [.ref (gA X 8 0), .ref (gA X 8 1), .ref (gA X 8 2), .ref (gA X 8 5), .int x11]) (rest := []) ⟨hx, hb, hml, hown, hts⟩ hK hW hL hl.1 (c_L_isAsked l X w x11 v_22 hq_21) k23 rfl rfl (Nat.le_of_ble_eq_true rfl) dL_areRest_138 ⟨Nat.le_of_ble_eq_true rfl, Nat.le_of_ble_eq_true rfl⟩ (fun H locs hW hL => ?_)
        refine lv_if_eq (tgt := 182) hx hb dL_areRest_141 (by decide) (fun hc_23 => ?_) (fun hc_23 => ?_)
        · replace hF := gT hc_23 hF
          obtain ⟨x11_24, ex11_24, hF⟩ := gS_some hF
          refine lv_iinc (v := x11_24) (lv' := [(11, .int x11_24), (0, .ref (gA X 7 0)), (1, .ref (gA X 8 0)), (2, .ref (gA X 8 1)), (3, .ref (gA X 8 2)), (5, .ref (gA X 8 5)), (6, .ref (gA X 8 6)), (7, .int x7), (8, .int x8), (9, .int x9), (10, .int x10)]) hx hb dL_areRest_182 hl (k := 10) rfl (by rw [ex11_24]; rfl) (by decide) rfl (fun ls hl => ?_)
          refine lv_goto (tgt := 122) hx hb dL_areRest_185 (by decide) ?_
          exact ih122 x7 x8 x9 x10 x11_24 ls (lv_sub hl [1, 2, 3, 4, 5, 6, 7, 8, 9, 10, 0] rfl) hF H locs hW hL
        · replace hF := gF hc_23 hF
          refine lv_aload_n hx hb dL_areRest_144 rfl (lv_at hl 2 rfl) ?_
          refine lv_aload_n hx hb dL_areRest_145 rfl (lv_at hl 3 rfl) ?_
          refine lv_aload hx hb dL_areRest_146 (lv_at hl 4 rfl) ?_
          refine lv_iload hx hb dL_areRest_148 (lv_at hl 10 rfl) ?_
          obtain ⟨v_26, hq_25, hF⟩ := gP_some hF
          refine g_Si (As := [.ref (gA X 8 1), .ref (gA X 8 2), .ref (gA X 8 5), .int x11]) (rest := []) ⟨hx, hb, hml, hown, hts⟩ hK hW hL hl.1 (c_L_time l X w x11 v_26 hq_25) k27 rfl rfl (Nat.le_of_ble_eq_true rfl) dL_areRest_150 ⟨Nat.le_of_ble_eq_true rfl, Nat.le_of_ble_eq_true rfl⟩ (fun H locs hW hL => ?_)
          refine lv_if_ne (tgt := 182) hx hb dL_areRest_153 (by decide) (fun hc_27 => ?_) (fun hc_27 => ?_)
          · replace hF := gF hc_27 hF
            obtain ⟨x11_28, ex11_28, hF⟩ := gS_some hF
            refine lv_iinc (v := x11_28) (lv' := [(11, .int x11_28), (0, .ref (gA X 7 0)), (1, .ref (gA X 8 0)), (2, .ref (gA X 8 1)), (3, .ref (gA X 8 2)), (5, .ref (gA X 8 5)), (6, .ref (gA X 8 6)), (7, .int x7), (8, .int x8), (9, .int x9), (10, .int x10)]) hx hb dL_areRest_182 hl (k := 10) rfl (by rw [ex11_28]; rfl) (by decide) rfl (fun ls hl => ?_)
            refine lv_goto (tgt := 122) hx hb dL_areRest_185 (by decide) ?_
            exact ih122 x7 x8 x9 x10 x11_28 ls (lv_sub hl [1, 2, 3, 4, 5, 6, 7, 8, 9, 10, 0] rfl) hF H locs hW hL
          · replace hF := gT hc_27 hF
            refine lv_iload hx hb dL_areRest_156 (lv_at hl 9 rfl) ?_
            refine lv_if_eq (tgt := 176) hx hb dL_areRest_158 (by decide) (fun hc_29 => ?_) (fun hc_29 => ?_)
            · replace hF := gT hc_29 hF
              exact B_176 x7 x8 x9 x11 ls (lv_sub hl [0, 1, 2, 3, 4, 5, 6, 7, 8, 10] rfl) hF H locs hW hL
            · replace hF := gF hc_29 hF
              refine lv_aload_n hx hb dL_areRest_161 rfl (lv_at hl 0 rfl) ?_
              refine lv_iload hx hb dL_areRest_162 (lv_at hl 7 rfl) ?_
              obtain ⟨v_31, hq_30, hF⟩ := gP_some hF
              refine g_Vi (As := [.int x8]) (rest := []) ⟨hx, hb, hml, hown, hts⟩ hK hW hL hl.1 (gok_c (by decide)) gE_G rfl (c_X11_missing l X w x8 v_31 hq_30) k55 rfl rfl (Nat.le_of_ble_eq_true rfl) dL_areRest_164 ⟨Nat.le_of_ble_eq_true rfl, Nat.le_of_ble_eq_true rfl⟩ (fun H locs hW hL => ?_)
              refine lv_iload hx hb dL_areRest_167 (lv_at hl 10 rfl) ?_
              refine lv_icmp_ne (tgt := 176) hx hb dL_areRest_169 (by decide) (fun hc_32 => ?_) (fun hc_32 => ?_)
              · replace hF := gF hc_32 hF
                exact B_176 x7 x8 x9 x11 ls (lv_sub hl [0, 1, 2, 3, 4, 5, 6, 7, 8, 10] rfl) hF H locs hW hL
              · replace hF := gT hc_32 hF
                refine lv_iconst (v := 1) hx hb dL_areRest_172 (by decide) ?_
                refine lv_goto (tgt := 177) hx hb dL_areRest_173 (by decide) ?_
                exact B_177 x7 x8 x9 x11 1 ls (lv_sub hl [0, 1, 2, 3, 4, 5, 6, 7, 8, 10] rfl) hF H locs hW hL
  have L_54 : ∀ (fu : Nat) (x7 : Int32) (x8 : Int32) (x9 : Int32) (x10 : Int32) (x11 : Int32)  (ls : Array Slot) (hl : lv_has ls 12 [(0, .ref (gA X 7 0)), (1, .ref (gA X 8 0)), (2, .ref (gA X 8 1)), (3, .ref (gA X 8 2)), (4, .ref (gA X 8 4)), (5, .ref (gA X 8 5)), (6, .ref (gA X 8 6)), (7, .int x7), (8, .int x8), (9, .int x9), (10, .int x10), (11, .int x11)]) (hF : F_L_areRest_54 fu w x7 x8 x9 x10 x11 = some r) (H : Heap) (locs : List Loc) (hW : gWo X 252 (gE X w) H) (hL : gLo X locs), W p l e rmL_areRest s m args below meth c H locs 0 0 (MQ below (gQi X r w) args s 0 0 (gFr X)) (F0 m 54 ls []) := by
    intro fu
    induction fu with
    | zero => intro x7 x8 x9 x10 x11 ls hl hF H locs hW hL; rw [F_L_areRest_54_z] at hF; cases hF
    | succ fu54 ih54 =>
      have B_108 : ∀ (x7 : Int32) (x8 : Int32) (x9 : Int32) (x11 : Int32) (xs0 : Int32)  (ls : Array Slot) (hl : lv_has ls 12 [(0, .ref (gA X 7 0)), (1, .ref (gA X 8 0)), (2, .ref (gA X 8 1)), (3, .ref (gA X 8 2)), (4, .ref (gA X 8 4)), (5, .ref (gA X 8 5)), (6, .ref (gA X 8 6)), (7, .int x7), (8, .int x8), (9, .int x9), (11, .int x11)]) (hF : F_L_areRest_108 (F_L_areRest_54 fu54) w x7 x8 x9 x11 xs0 = some r) (H : Heap) (locs : List Loc) (hW : gWo X 252 (gE X w) H) (hL : gLo X locs), W p l e rmL_areRest s m args below meth c H locs 0 0 (MQ below (gQi X r w) args s 0 0 (gFr X)) (F0 m 108 ls [.int xs0]) := by
        intro x7 x8 x9 x11 xs0 ls hl hF H locs hW hL
        rw [F_L_areRest_108] at hF
        refine lv_istore (lv' := [(10, .int xs0), (0, .ref (gA X 7 0)), (1, .ref (gA X 8 0)), (2, .ref (gA X 8 1)), (3, .ref (gA X 8 2)), (4, .ref (gA X 8 4)), (5, .ref (gA X 8 5)), (6, .ref (gA X 8 6)), (7, .int x7), (8, .int x8), (9, .int x9), (11, .int x11)]) hx hb dL_areRest_108 hl (by decide) rfl (fun ls hl => ?_)
        obtain ⟨x7_18, ex7_18, hF⟩ := gS_some hF
        refine lv_iinc (v := x7_18) (lv' := [(7, .int x7_18), (10, .int xs0), (0, .ref (gA X 7 0)), (1, .ref (gA X 8 0)), (2, .ref (gA X 8 1)), (3, .ref (gA X 8 2)), (4, .ref (gA X 8 4)), (5, .ref (gA X 8 5)), (6, .ref (gA X 8 6)), (8, .int x8), (9, .int x9), (11, .int x11)]) hx hb dL_areRest_110 hl (k := 8) rfl (by rw [ex7_18]; rfl) (by decide) rfl (fun ls hl => ?_)
        obtain ⟨x11_19, ex11_19, hF⟩ := gS_some hF
        refine lv_iinc (v := x11_19) (lv' := [(11, .int x11_19), (7, .int x7_18), (10, .int xs0), (0, .ref (gA X 7 0)), (1, .ref (gA X 8 0)), (2, .ref (gA X 8 1)), (3, .ref (gA X 8 2)), (4, .ref (gA X 8 4)), (5, .ref (gA X 8 5)), (6, .ref (gA X 8 6)), (8, .int x8), (9, .int x9)]) hx hb dL_areRest_113 hl (k := 11) rfl (by rw [ex11_19]; rfl) (by decide) rfl (fun ls hl => ?_)
        refine lv_goto (tgt := 54) hx hb dL_areRest_116 (by decide) ?_
        exact ih54 x7_18 x8 x9 xs0 x11_19 ls (lv_sub hl [3, 4, 5, 6, 7, 8, 9, 1, 10, 11, 2, 0] rfl) hF H locs hW hL
      have B_107 : ∀ (x7 : Int32) (x8 : Int32) (x9 : Int32) (x11 : Int32)  (ls : Array Slot) (hl : lv_has ls 12 [(0, .ref (gA X 7 0)), (1, .ref (gA X 8 0)), (2, .ref (gA X 8 1)), (3, .ref (gA X 8 2)), (4, .ref (gA X 8 4)), (5, .ref (gA X 8 5)), (6, .ref (gA X 8 6)), (7, .int x7), (8, .int x8), (9, .int x9), (11, .int x11)]) (hF : F_L_areRest_107 (F_L_areRest_54 fu54) w x7 x8 x9 x11 = some r) (H : Heap) (locs : List Loc) (hW : gWo X 252 (gE X w) H) (hL : gLo X locs), W p l e rmL_areRest s m args below meth c H locs 0 0 (MQ below (gQi X r w) args s 0 0 (gFr X)) (F0 m 107 ls []) := by
        intro x7 x8 x9 x11 ls hl hF H locs hW hL
        rw [F_L_areRest_107] at hF
        refine lv_iconst (v := 0) hx hb dL_areRest_107 (by decide) ?_
        exact B_108 x7 x8 x9 x11 0 ls (hl) hF H locs hW hL
      intro x7 x8 x9 x10 x11 ls hl hF H locs hW hL
      rw [F_L_areRest_54_s] at hF
      refine lv_iload hx hb dL_areRest_54 (lv_at hl 11 rfl) ?_
      refine lv_iconst (v := 4) hx hb dL_areRest_56 (by decide) ?_
      refine lv_icmp_ge (tgt := 119) hx hb dL_areRest_57 (by decide) (fun hc_1 => ?_) (fun hc_1 => ?_)
      · replace hF := gT hc_1 hF
        refine lv_iconst (v := 0) hx hb dL_areRest_119 (by decide) ?_
        refine lv_istore (lv' := [(11, .int 0), (0, .ref (gA X 7 0)), (1, .ref (gA X 8 0)), (2, .ref (gA X 8 1)), (3, .ref (gA X 8 2)), (4, .ref (gA X 8 4)), (5, .ref (gA X 8 5)), (6, .ref (gA X 8 6)), (7, .int x7), (8, .int x8), (9, .int x9), (10, .int x10)]) hx hb dL_areRest_120 hl (by decide) rfl (fun ls hl => ?_)
        exact L_122 gFU x7 x8 x9 x10 0 ls (lv_sub hl [1, 2, 3, 4, 6, 7, 8, 9, 10, 11, 0] rfl) hF H locs hW hL
      · replace hF := gF hc_1 hF
        refine lv_aload hx hb dL_areRest_60 (lv_at hl 4 rfl) ?_
        refine lv_iload hx hb dL_areRest_62 (lv_at hl 11 rfl) ?_
        obtain ⟨hin_2, hF⟩ := gB_some hF
        obtain ⟨k_3, ek_3⟩ : ∃ k, k = Int32.toNatClampNeg x11 := ⟨_, rfl⟩
        rw [← ek_3] at hF
        refine g_iald2 (k := k_3) hx hb hK hW (gok_o (by decide)) (gad_lt (gok_o (by decide))) gE_O4 hin_2 ek_3.symm dL_areRest_64 ?_
        refine lv_if_le (tgt := 113) hx hb dL_areRest_65 (by decide) (fun hc_4 => ?_) (fun hc_4 => ?_)
        · replace hF := gT hc_4 hF
          obtain ⟨x11_5, ex11_5, hF⟩ := gS_some hF
          refine lv_iinc (v := x11_5) (lv' := [(11, .int x11_5), (0, .ref (gA X 7 0)), (1, .ref (gA X 8 0)), (2, .ref (gA X 8 1)), (3, .ref (gA X 8 2)), (4, .ref (gA X 8 4)), (5, .ref (gA X 8 5)), (6, .ref (gA X 8 6)), (7, .int x7), (8, .int x8), (9, .int x9), (10, .int x10)]) hx hb dL_areRest_113 hl (k := 11) rfl (by rw [ex11_5]; rfl) (by decide) rfl (fun ls hl => ?_)
          refine lv_goto (tgt := 54) hx hb dL_areRest_116 (by decide) ?_
          exact ih54 x7 x8 x9 x10 x11_5 ls (lv_sub hl [1, 2, 3, 4, 5, 6, 7, 8, 9, 10, 11, 0] rfl) hF H locs hW hL
        · replace hF := gF hc_4 hF
          refine lv_aload_n hx hb dL_areRest_68 rfl (lv_at hl 1 rfl) ?_
          refine lv_iconst (v := 3) hx hb dL_areRest_69 (by decide) ?_
          refine lv_aload hx hb dL_areRest_70 (lv_at hl 4 rfl) ?_
          refine lv_iload hx hb dL_areRest_72 (lv_at hl 11 rfl) ?_
          obtain ⟨hin_6, hF⟩ := gB_some hF
          obtain ⟨k_7, ek_7⟩ : ∃ k, k = Int32.toNatClampNeg x11 := ⟨_, rfl⟩
          rw [← ek_7] at hF
          refine g_iald2 (k := k_7) hx hb hK hW (gok_o (by decide)) (gad_lt (gok_o (by decide))) gE_O4 hin_6 ek_7.symm dL_areRest_74 ?_
          refine lv_imul hx hb dL_areRest_75 ?_
          refine lv_iconst (v := 1) hx hb dL_areRest_76 (by decide) ?_
          refine lv_isub hx hb dL_areRest_77 ?_
          obtain ⟨hin_8, hF⟩ := gB_some hF
          obtain ⟨k_9, ek_9⟩ : ∃ k, k = Int32.toNatClampNeg (((3 * (w 8 4 k_7)) - 1)) := ⟨_, rfl⟩
          rw [← ek_9] at hF
          refine g_iald2 (k := k_9) hx hb hK hW (gok_o (by decide)) (gad_lt (gok_o (by decide))) gE_O0 hin_8 ek_9.symm dL_areRest_78 ?_
          refine lv_if_ne (tgt := 113) hx hb dL_areRest_79 (by decide) (fun hc_10 => ?_) (fun hc_10 => ?_)
          · replace hF := gF hc_10 hF
            obtain ⟨x11_11, ex11_11, hF⟩ := gS_some hF
            refine lv_iinc (v := x11_11) (lv' := [(11, .int x11_11), (0, .ref (gA X 7 0)), (1, .ref (gA X 8 0)), (2, .ref (gA X 8 1)), (3, .ref (gA X 8 2)), (4, .ref (gA X 8 4)), (5, .ref (gA X 8 5)), (6, .ref (gA X 8 6)), (7, .int x7), (8, .int x8), (9, .int x9), (10, .int x10)]) hx hb dL_areRest_113 hl (k := 11) rfl (by rw [ex11_11]; rfl) (by decide) rfl (fun ls hl => ?_)
            refine lv_goto (tgt := 54) hx hb dL_areRest_116 (by decide) ?_
            exact ih54 x7 x8 x9 x10 x11_11 ls (lv_sub hl [1, 2, 3, 4, 5, 6, 7, 8, 9, 10, 11, 0] rfl) hF H locs hW hL
          · replace hF := gT hc_10 hF
            refine lv_iload hx hb dL_areRest_82 (lv_at hl 10 rfl) ?_
            refine lv_if_eq (tgt := 107) hx hb dL_areRest_84 (by decide) (fun hc_12 => ?_) (fun hc_12 => ?_)
            · replace hF := gT hc_12 hF
              exact B_107 x7 x8 x9 x11 ls (lv_sub hl [0, 1, 2, 3, 4, 5, 6, 7, 8, 9, 11] rfl) hF H locs hW hL
            · replace hF := gF hc_12 hF
              refine lv_aload_n hx hb dL_areRest_87 rfl (lv_at hl 0 rfl) ?_
              refine lv_iload hx hb dL_areRest_88 (lv_at hl 7 rfl) ?_
              obtain ⟨v_14, hq_13, hF⟩ := gP_some hF
              refine g_Vi (As := [.int x7]) (rest := []) ⟨hx, hb, hml, hown, hts⟩ hK hW hL hl.1 (gok_c (by decide)) gE_G rfl (c_X11_reserve l X w x7 v_14 hq_13) k52 rfl rfl (Nat.le_of_ble_eq_true rfl) dL_areRest_90 ⟨Nat.le_of_ble_eq_true rfl, Nat.le_of_ble_eq_true rfl⟩ (fun H locs hW hL => ?_)
              refine lv_aload hx hb dL_areRest_93 (lv_at hl 4 rfl) ?_
              refine lv_iload hx hb dL_areRest_95 (lv_at hl 11 rfl) ?_
              obtain ⟨hin_15, hF⟩ := gB_some hF
              obtain ⟨k_16, ek_16⟩ : ∃ k, k = Int32.toNatClampNeg x11 := ⟨_, rfl⟩
              rw [← ek_16] at hF
              refine g_iald2 (k := k_16) hx hb hK hW (gok_o (by decide)) (gad_lt (gok_o (by decide))) gE_O4 hin_15 ek_16.symm dL_areRest_97 ?_
              refine lv_iconst (v := 1) hx hb dL_areRest_98 (by decide) ?_
              refine lv_isub hx hb dL_areRest_99 ?_
              refine lv_icmp_ne (tgt := 107) hx hb dL_areRest_100 (by decide) (fun hc_17 => ?_) (fun hc_17 => ?_)
              · replace hF := gF hc_17 hF
                exact B_107 x7 x8 x9 x11 ls (lv_sub hl [0, 1, 2, 3, 4, 5, 6, 7, 8, 9, 11] rfl) hF H locs hW hL
              · replace hF := gT hc_17 hF
                refine lv_iconst (v := 1) hx hb dL_areRest_103 (by decide) ?_
                refine lv_goto (tgt := 108) hx hb dL_areRest_104 (by decide) ?_
                exact B_108 x7 x8 x9 x11 1 ls (lv_sub hl [0, 1, 2, 3, 4, 5, 6, 7, 8, 9, 11] rfl) hF H locs hW hL
  have B_48 : ∀ (x7 : Int32) (x8 : Int32) (x9 : Int32)  (ls : Array Slot) (hl : lv_has ls 12 [(0, .ref (gA X 7 0)), (1, .ref (gA X 8 0)), (2, .ref (gA X 8 1)), (3, .ref (gA X 8 2)), (4, .ref (gA X 8 4)), (5, .ref (gA X 8 5)), (6, .ref (gA X 8 6)), (7, .int x7), (8, .int x8), (9, .int x9)]) (hF : F_L_areRest_48 w x7 x8 x9 = some r) (H : Heap) (locs : List Loc) (hW : gWo X 252 (gE X w) H) (hL : gLo X locs), W p l e rmL_areRest s m args below meth c H locs 0 0 (MQ below (gQi X r w) args s 0 0 (gFr X)) (F0 m 48 ls []) := by
    intro x7 x8 x9 ls hl hF H locs hW hL
    rw [F_L_areRest_48] at hF
    refine lv_iconst (v := 0) hx hb dL_areRest_48 (by decide) ?_
    refine lv_istore (lv' := [(10, .int 0), (0, .ref (gA X 7 0)), (1, .ref (gA X 8 0)), (2, .ref (gA X 8 1)), (3, .ref (gA X 8 2)), (4, .ref (gA X 8 4)), (5, .ref (gA X 8 5)), (6, .ref (gA X 8 6)), (7, .int x7), (8, .int x8), (9, .int x9)]) hx hb dL_areRest_49 hl (by decide) rfl (fun ls hl => ?_)
    refine lv_iconst (v := 0) hx hb dL_areRest_51 (by decide) ?_
    refine lv_istore (lv' := [(11, .int 0), (10, .int 0), (0, .ref (gA X 7 0)), (1, .ref (gA X 8 0)), (2, .ref (gA X 8 1)), (3, .ref (gA X 8 2)), (4, .ref (gA X 8 4)), (5, .ref (gA X 8 5)), (6, .ref (gA X 8 6)), (7, .int x7), (8, .int x8), (9, .int x9)]) hx hb dL_areRest_52 hl (by decide) rfl (fun ls hl => ?_)
    exact L_54 gFU x7 x8 x9 0 0 ls (lv_sub hl [2, 3, 4, 5, 6, 7, 8, 9, 10, 11, 1, 0] rfl) hF H locs hW hL
  rw [F_L_areRest] at hF
  obtain ⟨locs, hlocs⟩ : ∃ locs : List Loc, locs = [] := ⟨_, rfl⟩
  rw [← hlocs] at hL ⊢
  refine lv_iconst (v := 0) hx hb dL_areRest_0 (by decide) ?_
  refine lv_istore (lv' := [(7, .int 0), (0, .ref (gA X 7 0)), (1, .ref (gA X 8 0)), (2, .ref (gA X 8 1)), (3, .ref (gA X 8 2)), (4, .ref (gA X 8 4)), (5, .ref (gA X 8 5)), (6, .ref (gA X 8 6))]) hx hb dL_areRest_1 hl (by decide) rfl (fun ls hl => ?_)
  refine lv_iconst (v := 0) hx hb dL_areRest_3 (by decide) ?_
  refine lv_istore (lv' := [(8, .int 0), (7, .int 0), (0, .ref (gA X 7 0)), (1, .ref (gA X 8 0)), (2, .ref (gA X 8 1)), (3, .ref (gA X 8 2)), (4, .ref (gA X 8 4)), (5, .ref (gA X 8 5)), (6, .ref (gA X 8 6))]) hx hb dL_areRest_4 hl (by decide) rfl (fun ls hl => ?_)
  refine lv_iconst (v := 0) hx hb dL_areRest_6 (by decide) ?_
  refine lv_istore (lv' := [(9, .int 0), (8, .int 0), (7, .int 0), (0, .ref (gA X 7 0)), (1, .ref (gA X 8 0)), (2, .ref (gA X 8 1)), (3, .ref (gA X 8 2)), (4, .ref (gA X 8 4)), (5, .ref (gA X 8 5)), (6, .ref (gA X 8 6))]) hx hb dL_areRest_7 hl (by decide) rfl (fun ls hl => ?_)
  refine lv_aload_n hx hb dL_areRest_9 rfl (lv_at hl 3 rfl) ?_
  obtain ⟨v_64, hq_63, hF⟩ := gP_some hF
  refine g_Vi (As := []) (rest := []) ⟨hx, hb, hml, hown, hts⟩ hK hW hL hl.1 (gok_c (by decide)) gE_G rfl (c_X11_why l X w  v_64 hq_63) k45 rfl rfl (Nat.le_of_ble_eq_true rfl) dL_areRest_10 ⟨Nat.le_of_ble_eq_true rfl, Nat.le_of_ble_eq_true rfl⟩ (fun H locs hW hL => ?_)
  refine lv_aload_n hx hb dL_areRest_13 rfl (lv_at hl 4 rfl) ?_
  refine lv_aload_n hx hb dL_areRest_14 rfl (lv_at hl 5 rfl) ?_
  refine lv_aload_n hx hb dL_areRest_15 rfl (lv_at hl 6 rfl) ?_
  refine lv_aload hx hb dL_areRest_16 (lv_at hl 8 rfl) ?_
  obtain ⟨v_66, hq_65, hF⟩ := gP_some hF
  refine g_Si (As := [.ref (gA X 8 0), .ref (gA X 8 1), .ref (gA X 8 2), .ref (gA X 8 5)]) (rest := [.int v_64]) ⟨hx, hb, hml, hown, hts⟩ hK hW hL hl.1 (c_L_why l X w  v_66 hq_65) k49 rfl rfl (Nat.le_of_ble_eq_true rfl) dL_areRest_18 ⟨Nat.le_of_ble_eq_true rfl, Nat.le_of_ble_eq_true rfl⟩ (fun H locs hW hL => ?_)
  refine lv_icmp_ne (tgt := 48) hx hb dL_areRest_21 (by decide) (fun hc_67 => ?_) (fun hc_67 => ?_)
  · replace hF := gF hc_67 hF
    exact B_48 0 0 0 ls (lv_sub hl [3, 4, 5, 6, 7, 8, 9, 2, 1, 0] rfl) hF H locs hW hL
  · replace hF := gT hc_67 hF
    refine lv_aload_n hx hb dL_areRest_24 rfl (lv_at hl 3 rfl) ?_
    refine lv_iconst (v := (-1)) hx hb dL_areRest_25 (by decide) ?_
    obtain ⟨v_69, hq_68, hF⟩ := gP_some hF
    refine g_Vi (As := [.int (-1)]) (rest := []) ⟨hx, hb, hml, hown, hts⟩ hK hW hL hl.1 (gok_c (by decide)) gE_G rfl (c_X11_reserve l X w (-1) v_69 hq_68) k52 rfl rfl (Nat.le_of_ble_eq_true rfl) dL_areRest_26 ⟨Nat.le_of_ble_eq_true rfl, Nat.le_of_ble_eq_true rfl⟩ (fun H locs hW hL => ?_)
    refine lv_ldc hx hb hown q39 dL_areRest_29 ?_
    refine lv_icmp_ne (tgt := 48) hx hb dL_areRest_31 (by decide) (fun hc_70 => ?_) (fun hc_70 => ?_)
    · replace hF := gF hc_70 hF
      exact B_48 0 0 0 ls (lv_sub hl [3, 4, 5, 6, 7, 8, 9, 2, 1, 0] rfl) hF H locs hW hL
    · replace hF := gT hc_70 hF
      refine lv_aload_n hx hb dL_areRest_34 rfl (lv_at hl 3 rfl) ?_
      refine lv_iconst (v := (-1)) hx hb dL_areRest_35 (by decide) ?_
      obtain ⟨v_72, hq_71, hF⟩ := gP_some hF
      refine g_Vi (As := [.int (-1)]) (rest := []) ⟨hx, hb, hml, hown, hts⟩ hK hW hL hl.1 (gok_c (by decide)) gE_G rfl (c_X11_missing l X w (-1) v_72 hq_71) k55 rfl rfl (Nat.le_of_ble_eq_true rfl) dL_areRest_36 ⟨Nat.le_of_ble_eq_true rfl, Nat.le_of_ble_eq_true rfl⟩ (fun H locs hW hL => ?_)
      refine lv_ldc hx hb hown q39 dL_areRest_39 ?_
      refine lv_icmp_ne (tgt := 48) hx hb dL_areRest_41 (by decide) (fun hc_73 => ?_) (fun hc_73 => ?_)
      · replace hF := gF hc_73 hF
        exact B_48 0 0 0 ls (lv_sub hl [3, 4, 5, 6, 7, 8, 9, 2, 1, 0] rfl) hF H locs hW hL
      · replace hF := gT hc_73 hF
        refine lv_iconst (v := 1) hx hb dL_areRest_44 (by decide) ?_
        refine lv_goto (tgt := 49) hx hb dL_areRest_45 (by decide) ?_
        refine lv_istore (lv' := [(10, .int 1), (9, .int 0), (8, .int 0), (7, .int 0), (0, .ref (gA X 7 0)), (1, .ref (gA X 8 0)), (2, .ref (gA X 8 1)), (3, .ref (gA X 8 2)), (4, .ref (gA X 8 4)), (5, .ref (gA X 8 5)), (6, .ref (gA X 8 6))]) hx hb dL_areRest_49 hl (by decide) rfl (fun ls hl => ?_)
        refine lv_iconst (v := 0) hx hb dL_areRest_51 (by decide) ?_
        refine lv_istore (lv' := [(11, .int 0), (10, .int 1), (9, .int 0), (8, .int 0), (7, .int 0), (0, .ref (gA X 7 0)), (1, .ref (gA X 8 0)), (2, .ref (gA X 8 1)), (3, .ref (gA X 8 2)), (4, .ref (gA X 8 4)), (5, .ref (gA X 8 5)), (6, .ref (gA X 8 6))]) hx hb dL_areRest_52 hl (by decide) rfl (fun ls hl => ?_)
        exact L_54 gFU 0 0 0 1 0 ls (lv_sub hl [5, 6, 7, 8, 9, 10, 11, 4, 3, 2, 1, 0] rfl) hF H locs hW hL
abbrev rmL_isStage : Room := { frames := 6, cells := 0, slots := 0, locals := 129 }
abbrev wsL_isStage : List Cond := gws yL_isStage cL_isStage 12 (some .boolean)
set_option maxHeartbeats 4000000 in
set_option maxRecDepth 100000 in
theorem c_L_isStage (l : Launch) (X : gX) (w : gWd)  (r : Int32) (w' : gWd) (hF : F_L_isStage w = some (r, w')) : Met l yL_isStage wsL_isStage rmL_isStage (gPc X [.ref (gA X 7 0), .ref (gA X 8 0), .ref (gA X 8 1), .ref (gA X 8 2), .ref (gA X 8 3), .ref (gA X 8 4), .ref (gA X 8 5), .ref (gA X 8 6), .ref (gA X 8 7)] w) (gQi X r w') 0 0 (gFr X) := by
  refine g_ofW (cc := cL_isStage) (maxL := 12) (ret := (some .boolean)) (by decide) rfl (Nat.le_of_ble_eq_true rfl) (fun p e s m args below meth c ls H hx hb hr hts hown hlocks hml hK hl hW => ?_)
  have hl : lv_has ls 12 [(0, .ref (gA X 7 0)), (1, .ref (gA X 8 0)), (2, .ref (gA X 8 1)), (3, .ref (gA X 8 2)), (4, .ref (gA X 8 3)), (5, .ref (gA X 8 4)), (6, .ref (gA X 8 5)), (7, .ref (gA X 8 6)), (8, .ref (gA X 8 7))] := hl
  have hown : s.vm.findClass RL = some m.cls := hown
  have hL : gLo X [] := gLo_nil
  show W p l e rmL_isStage s m args below meth c H [] 0 0 _ _
  have q71 := hts _ (List.mem_cons_of_mem _ wq_L_71)
  have k15 : CallB rmL_isStage s args RL 15 yL_rank cL_rank 5 (some .int) wsL_rank rmL_rank 0 0 3 ∧ (Cond.static yL_rank).before args s = true := va_cwS 3 hts (gGoodS (fun w h => List.mem_cons_of_mem _ h) wk_L_15) rfl rfl rfl (by decide +kernel) ⟨Nat.le_of_ble_eq_true rfl, Nat.le_of_ble_eq_true rfl⟩
  have k49 : CallB rmL_isStage s args RL 49 yL_why cL_why 8 (some .int) wsL_why rmL_why 0 0 4 ∧ (Cond.static yL_why).before args s = true := va_cwS 4 hts (gGoodS (fun w h => List.mem_cons_of_mem _ h) wk_L_49) rfl rfl rfl (by decide +kernel) ⟨Nat.le_of_ble_eq_true rfl, Nat.le_of_ble_eq_true rfl⟩
  have k61 : CallB rmL_isStage s args RL 61 yL_plan cL_plan 9 (some .int) wsL_plan rmL_plan 0 0 3 ∧ (Cond.static yL_plan).before args s = true := va_cwS 3 hts (gGoodS (fun w h => List.mem_cons_of_mem _ h) wk_L_61) rfl rfl rfl (by decide +kernel) ⟨Nat.le_of_ble_eq_true rfl, Nat.le_of_ble_eq_true rfl⟩
  have k65 : CallB rmL_isStage s args RL 65 yL_planLane cL_planLane 5 (some .int) wsL_planLane rmL_planLane 0 0 3 ∧ (Cond.static yL_planLane).before args s = true := va_cwS 3 hts (gGoodS (fun w h => List.mem_cons_of_mem _ h) wk_L_65) rfl rfl rfl (by decide +kernel) ⟨Nat.le_of_ble_eq_true rfl, Nat.le_of_ble_eq_true rfl⟩
  have k68 : CallW rmL_isStage s args RL RX11 68 yX11_draw cX11_draw 1 (some .int) wsX11_draw rmX11_draw 0 0 0 := cwV 0 hts (gGoodV (fun w h => List.mem_cons_of_mem _ h) wk_L_68) rfl rfl rfl (by decide +kernel) ⟨Nat.le_of_ble_eq_true rfl, Nat.le_of_ble_eq_true rfl⟩
  have k72 : CallB rmL_isStage s args RL 72 yL_finals cL_finals 8 (some .int) wsL_finals rmL_finals 0 0 5 ∧ (Cond.static yL_finals).before args s = true := va_cwS 5 hts (gGoodS (fun w h => List.mem_cons_of_mem _ h) wk_L_72) rfl rfl rfl (by decide +kernel) ⟨Nat.le_of_ble_eq_true rfl, Nat.le_of_ble_eq_true rfl⟩
  have k76 : CallW rmL_isStage s args RL RX11 76 yX11_finals cX11_finals 1 (some .int) wsX11_finals rmX11_finals 0 0 0 := cwV 0 hts (gGoodV (fun w h => List.mem_cons_of_mem _ h) wk_L_76) rfl rfl rfl (by decide +kernel) ⟨Nat.le_of_ble_eq_true rfl, Nat.le_of_ble_eq_true rfl⟩
  have k78 : CallB rmL_isStage s args RL 78 yL_end cL_end 11 (some .int) wsL_end rmL_end 0 0 5 ∧ (Cond.static yL_end).before args s = true := va_cwS 5 hts (gGoodS (fun w h => List.mem_cons_of_mem _ h) wk_L_78) rfl rfl rfl (by decide +kernel) ⟨Nat.le_of_ble_eq_true rfl, Nat.le_of_ble_eq_true rfl⟩
  have k81 : CallW rmL_isStage s args RL RX11 81 yX11_end cX11_end 1 (some .int) wsX11_end rmX11_end 0 0 0 := cwV 0 hts (gGoodV (fun w h => List.mem_cons_of_mem _ h) wk_L_81) rfl rfl rfl (by decide +kernel) ⟨Nat.le_of_ble_eq_true rfl, Nat.le_of_ble_eq_true rfl⟩
  have k83 : CallB rmL_isStage s args RL 83 yL_next cL_next 9 (some .int) wsL_next rmL_next 0 0 5 ∧ (Cond.static yL_next).before args s = true := va_cwS 5 hts (gGoodS (fun w h => List.mem_cons_of_mem _ h) wk_L_83) rfl rfl rfl (by decide +kernel) ⟨Nat.le_of_ble_eq_true rfl, Nat.le_of_ble_eq_true rfl⟩
  have k86 : CallW rmL_isStage s args RL RX11 86 yX11_next cX11_next 1 (some .int) wsX11_next rmX11_next 0 0 0 := cwV 0 hts (gGoodV (fun w h => List.mem_cons_of_mem _ h) wk_L_86) rfl rfl rfl (by decide +kernel) ⟨Nat.le_of_ble_eq_true rfl, Nat.le_of_ble_eq_true rfl⟩
  have B_129 : ∀ (w : gWd) (xs0 : Int32) (xs1 : Int32)  (ls : Array Slot) (hl : lv_has ls 12 []) (hF : F_L_isStage_129 w xs0 xs1 = some (r, w')) (H : Heap) (locs : List Loc) (hW : gWo X 252 (gE X w) H) (hL : gLo X locs), W p l e rmL_isStage s m args below meth c H locs 0 0 (MQ below (gQi X r w') args s 0 0 (gFr X)) (F0 m 129 ls [.int xs0, .int xs1]) := by
    intro w xs0 xs1 ls hl hF H locs hW hL
    rw [F_L_isStage_129] at hF
    refine lv_icmp_ne (tgt := 136) hx hb dL_isStage_129 (by decide) (fun hc_24 => ?_) (fun hc_24 => ?_)
    · replace hF := gF hc_24 hF
      refine lv_iconst (v := 0) hx hb dL_isStage_136 (by decide) ?_
      exact g_rz hx hb hr hlocks (gW2 hF hW) hL (Or.inl rfl) (gI2 hF).1 dL_isStage_137
    · replace hF := gT hc_24 hF
      refine lv_iconst (v := 1) hx hb dL_isStage_132 (by decide) ?_
      refine lv_goto (tgt := 137) hx hb dL_isStage_133 (by decide) ?_
      exact g_rz hx hb hr hlocks (gW2 hF hW) hL (Or.inr rfl) (gI2 hF).1 dL_isStage_137
  have B_111 : ∀ (w : gWd) (x9 : Int32)  (ls : Array Slot) (hl : lv_has ls 12 [(0, .ref (gA X 7 0)), (6, .ref (gA X 8 5)), (9, .int x9)]) (hF : F_L_isStage_111 w x9 = some (r, w')) (H : Heap) (locs : List Loc) (hW : gWo X 252 (gE X w) H) (hL : gLo X locs), W p l e rmL_isStage s m args below meth c H locs 0 0 (MQ below (gQi X r w') args s 0 0 (gFr X)) (F0 m 111 ls []) := by
    intro w x9 ls hl hF H locs hW hL
    rw [F_L_isStage_111] at hF
    refine lv_aload_n hx hb dL_isStage_111 rfl (lv_at hl 0 rfl) ?_
    obtain ⟨v_21, w_22, hq_20, hF⟩ := gC_some hF
    refine g_Vi (As := []) (rest := []) ⟨hx, hb, hml, hown, hts⟩ hK hW hL hl.1 (gok_c (by decide)) gE_G rfl (c_X11_draw l X w  v_21 w_22 hq_20) k68 rfl rfl (Nat.le_of_ble_eq_true rfl) dL_isStage_112 ⟨Nat.le_of_ble_eq_true rfl, Nat.le_of_ble_eq_true rfl⟩ (fun H locs hW hL => ?_)
    refine lv_iload hx hb dL_isStage_115 (lv_at hl 2 rfl) ?_
    refine lv_if_ne (tgt := 127) hx hb dL_isStage_117 (by decide) (fun hc_23 => ?_) (fun hc_23 => ?_)
    · replace hF := gF hc_23 hF
      refine lv_ldc hx hb hown q71 dL_isStage_127 ?_
      exact B_129 w_22 (-1000002) v_21 ls (lv_sub hl [] rfl) hF H locs hW hL
    · replace hF := gT hc_23 hF
      refine lv_aload hx hb dL_isStage_120 (lv_at hl 1 rfl) ?_
      refine lv_iconst (v := 2) hx hb dL_isStage_122 (by decide) ?_
      refine g_iald2 (k := 2) hx hb hK hW (gok_o (by decide)) (gad_lt (gok_o (by decide))) gE_O5 (gin (by decide)) (by decide) dL_isStage_123 ?_
      refine lv_goto (tgt := 129) hx hb dL_isStage_124 (by decide) ?_
      exact B_129 w_22 ((w_22 8 5 2)) v_21 ls (lv_sub hl [] rfl) hF H locs hW hL
  have L_37 : ∀ (fu : Nat) (w : gWd) (x9 : Int32) (x10 : Int32)  (ls : Array Slot) (hl : lv_has ls 12 [(0, .ref (gA X 7 0)), (1, .ref (gA X 8 0)), (2, .ref (gA X 8 1)), (6, .ref (gA X 8 5)), (8, .ref (gA X 8 7)), (9, .int x9), (10, .int x10)]) (hF : F_L_isStage_37 fu w x9 x10 = some (r, w')) (H : Heap) (locs : List Loc) (hW : gWo X 252 (gE X w) H) (hL : gLo X locs), W p l e rmL_isStage s m args below meth c H locs 0 0 (MQ below (gQi X r w') args s 0 0 (gFr X)) (F0 m 37 ls []) := by
    intro fu
    induction fu with
    | zero => intro w x9 x10 ls hl hF H locs hW hL; rw [F_L_isStage_37_z] at hF; cases hF
    | succ fu37 ih37 =>
      intro w x9 x10 ls hl hF H locs hW hL
      rw [F_L_isStage_37_s] at hF
      refine lv_iload hx hb dL_isStage_37 (lv_at hl 6 rfl) ?_
      refine lv_aload hx hb dL_isStage_39 (lv_at hl 3 rfl) ?_
      refine lv_iconst (v := 1) hx hb dL_isStage_41 (by decide) ?_
      refine g_iald2 (k := 1) hx hb hK hW (gok_o (by decide)) (gad_lt (gok_o (by decide))) gE_O5 (gin (by decide)) (by decide) dL_isStage_42 ?_
      refine lv_icmp_ge (tgt := 106) hx hb dL_isStage_43 (by decide) (fun hc_1 => ?_) (fun hc_1 => ?_)
      · replace hF := gT hc_1 hF
        refine lv_aload hx hb dL_isStage_106 (lv_at hl 3 rfl) ?_
        refine lv_iconst (v := 0) hx hb dL_isStage_108 (by decide) ?_
        refine lv_iconst (v := 1) hx hb dL_isStage_109 (by decide) ?_
        obtain ⟨w_2, ew_2, hF⟩ := gS_some hF
        refine g_iast2 (k := 0) hx hb hK hW hL (gok_o (by decide)) (fun w => gE_O5 (w := w)) (gin (by decide)) (by decide) dL_isStage_110 (fun H locs hW hL => ?_)
        rw [← ew_2] at hW
        exact B_111 w_2 x9 ls (lv_sub hl [0, 3, 5] rfl) hF H locs hW hL
      · replace hF := gF hc_1 hF
        refine lv_aload_n hx hb dL_isStage_46 rfl (lv_at hl 1 rfl) ?_
        refine lv_iconst (v := 3) hx hb dL_isStage_47 (by decide) ?_
        refine lv_iload hx hb dL_isStage_48 (lv_at hl 6 rfl) ?_
        refine lv_imul hx hb dL_isStage_50 ?_
        refine lv_iconst (v := 2) hx hb dL_isStage_51 (by decide) ?_
        refine lv_iadd hx hb dL_isStage_52 ?_
        obtain ⟨hin_3, hF⟩ := gB_some hF
        obtain ⟨k_4, ek_4⟩ : ∃ k, k = Int32.toNatClampNeg (((3 * x10) + 2)) := ⟨_, rfl⟩
        rw [← ek_4] at hF
        refine g_iald2 (k := k_4) hx hb hK hW (gok_o (by decide)) (gad_lt (gok_o (by decide))) gE_O0 hin_3 ek_4.symm dL_isStage_53 ?_
        refine lv_if_ne (tgt := 100) hx hb dL_isStage_54 (by decide) (fun hc_5 => ?_) (fun hc_5 => ?_)
        · replace hF := gF hc_5 hF
          obtain ⟨x10_6, ex10_6, hF⟩ := gS_some hF
          refine lv_iinc (v := x10_6) (lv' := [(10, .int x10_6), (0, .ref (gA X 7 0)), (1, .ref (gA X 8 0)), (2, .ref (gA X 8 1)), (6, .ref (gA X 8 5)), (8, .ref (gA X 8 7)), (9, .int x9)]) hx hb dL_isStage_100 hl (k := 6) rfl (by rw [ex10_6]; rfl) (by decide) rfl (fun ls hl => ?_)
          refine lv_goto (tgt := 37) hx hb dL_isStage_103 (by decide) ?_
          exact ih37 w x9 x10_6 ls (lv_sub hl [1, 2, 3, 4, 5, 6, 0] rfl) hF H locs hW hL
        · replace hF := gT hc_5 hF
          refine lv_aload_n hx hb dL_isStage_57 rfl (lv_at hl 1 rfl) ?_
          refine lv_aload hx hb dL_isStage_58 (lv_at hl 3 rfl) ?_
          refine lv_iload hx hb dL_isStage_60 (lv_at hl 6 rfl) ?_
          obtain ⟨v_8, hq_7, hF⟩ := gP_some hF
          refine g_Si (As := [.ref (gA X 8 0), .ref (gA X 8 5), .int x10]) (rest := []) ⟨hx, hb, hml, hown, hts⟩ hK hW hL hl.1 (c_L_rank l X w x10 v_8 hq_7) k15 rfl rfl (Nat.le_of_ble_eq_true rfl) dL_isStage_62 ⟨Nat.le_of_ble_eq_true rfl, Nat.le_of_ble_eq_true rfl⟩ (fun H locs hW hL => ?_)
          refine lv_istore (lv' := [(11, .int v_8), (0, .ref (gA X 7 0)), (1, .ref (gA X 8 0)), (2, .ref (gA X 8 1)), (6, .ref (gA X 8 5)), (8, .ref (gA X 8 7)), (9, .int x9), (10, .int x10)]) hx hb dL_isStage_65 hl (by decide) rfl (fun ls hl => ?_)
          refine lv_aload_n hx hb dL_isStage_67 rfl (lv_at hl 3 rfl) ?_
          refine lv_iconst (v := 3) hx hb dL_isStage_68 (by decide) ?_
          refine lv_iload hx hb dL_isStage_69 (lv_at hl 7 rfl) ?_
          refine lv_imul hx hb dL_isStage_71 ?_
          refine lv_aload hx hb dL_isStage_72 (lv_at hl 5 rfl) ?_
          refine lv_bipush (v := 20) hx hb dL_isStage_74 (by decide) ?_
          refine lv_iload hx hb dL_isStage_76 (lv_at hl 0 rfl) ?_
          refine lv_iadd hx hb dL_isStage_78 ?_
          obtain ⟨hin_9, hF⟩ := gB_some hF
          obtain ⟨k_10, ek_10⟩ : ∃ k, k = Int32.toNatClampNeg ((20 + v_8)) := ⟨_, rfl⟩
          rw [← ek_10] at hF
          refine g_iald2 (k := k_10) hx hb hK hW (gok_o (by decide)) (gad_lt (gok_o (by decide))) gE_O7 hin_9 ek_10.symm dL_isStage_79 ?_
          refine lv_iconst (v := 1) hx hb dL_isStage_80 (by decide) ?_
          refine lv_iadd hx hb dL_isStage_81 ?_
          obtain ⟨hin_11, hF⟩ := gB_some hF
          obtain ⟨k_12, ek_12⟩ : ∃ k, k = Int32.toNatClampNeg ((3 * x10)) := ⟨_, rfl⟩
          rw [← ek_12] at hF
          obtain ⟨w_13, ew_13, hF⟩ := gS_some hF
          refine g_iast2 (k := k_12) hx hb hK hW hL (gok_o (by decide)) (fun w => gE_O1 (w := w)) hin_11 ek_12.symm dL_isStage_82 (fun H locs hW hL => ?_)
          rw [← ew_13] at hW
          refine lv_aload_n hx hb dL_isStage_83 rfl (lv_at hl 3 rfl) ?_
          refine lv_iconst (v := 3) hx hb dL_isStage_84 (by decide) ?_
          refine lv_iload hx hb dL_isStage_85 (lv_at hl 7 rfl) ?_
          refine lv_imul hx hb dL_isStage_87 ?_
          refine lv_iconst (v := 1) hx hb dL_isStage_88 (by decide) ?_
          refine lv_iadd hx hb dL_isStage_89 ?_
          refine lv_aload hx hb dL_isStage_90 (lv_at hl 4 rfl) ?_
          refine lv_aload hx hb dL_isStage_92 (lv_at hl 5 rfl) ?_
          refine lv_iload hx hb dL_isStage_94 (lv_at hl 0 rfl) ?_
          obtain ⟨v_15, hq_14, hF⟩ := gP_some hF
          refine g_Si (As := [.ref (gA X 8 5), .ref (gA X 8 7), .int v_8]) (rest := [.int ((3 * x10) + 1), .ref (gA X 8 1)]) ⟨hx, hb, hml, hown, hts⟩ hK hW hL hl.1 (c_L_planLane l X w_13 v_8 v_15 hq_14) k65 rfl rfl (Nat.le_of_ble_eq_true rfl) dL_isStage_96 ⟨Nat.le_of_ble_eq_true rfl, Nat.le_of_ble_eq_true rfl⟩ (fun H locs hW hL => ?_)
          obtain ⟨hin_16, hF⟩ := gB_some hF
          obtain ⟨k_17, ek_17⟩ : ∃ k, k = Int32.toNatClampNeg (((3 * x10) + 1)) := ⟨_, rfl⟩
          rw [← ek_17] at hF
          obtain ⟨w_18, ew_18, hF⟩ := gS_some hF
          refine g_iast2 (k := k_17) hx hb hK hW hL (gok_o (by decide)) (fun w => gE_O1 (w := w)) hin_16 ek_17.symm dL_isStage_99 (fun H locs hW hL => ?_)
          rw [← ew_18] at hW
          obtain ⟨x10_19, ex10_19, hF⟩ := gS_some hF
          refine lv_iinc (v := x10_19) (lv' := [(10, .int x10_19), (11, .int v_8), (0, .ref (gA X 7 0)), (1, .ref (gA X 8 0)), (2, .ref (gA X 8 1)), (6, .ref (gA X 8 5)), (8, .ref (gA X 8 7)), (9, .int x9)]) hx hb dL_isStage_100 hl (k := 7) rfl (by rw [ex10_19]; rfl) (by decide) rfl (fun ls hl => ?_)
          refine lv_goto (tgt := 37) hx hb dL_isStage_103 (by decide) ?_
          exact ih37 w_18 x9 x10_19 ls (lv_sub hl [2, 3, 4, 5, 6, 7, 0] rfl) hF H locs hW hL
  have B_166 : ∀ (w : gWd) (xs0 : Int32)  (ls : Array Slot) (hl : lv_has ls 12 [(0, .ref (gA X 7 0))]) (hF : F_L_isStage_166 w xs0 = some (r, w')) (H : Heap) (locs : List Loc) (hW : gWo X 252 (gE X w) H) (hL : gLo X locs), W p l e rmL_isStage s m args below meth c H locs 0 0 (MQ below (gQi X r w') args s 0 0 (gFr X)) (F0 m 166 ls [.int xs0]) := by
    intro w xs0 ls hl hF H locs hW hL
    rw [F_L_isStage_166] at hF
    refine lv_istore (lv' := [(10, .int xs0), (0, .ref (gA X 7 0))]) hx hb dL_isStage_166 hl (by decide) rfl (fun ls hl => ?_)
    refine lv_aload_n hx hb dL_isStage_168 rfl (lv_at hl 1 rfl) ?_
    obtain ⟨v_26, w_27, hq_25, hF⟩ := gC_some hF
    refine g_Vi (As := []) (rest := []) ⟨hx, hb, hml, hown, hts⟩ hK hW hL hl.1 (gok_c (by decide)) gE_G rfl (c_X11_finals l X w  v_26 w_27 hq_25) k76 rfl rfl (Nat.le_of_ble_eq_true rfl) dL_isStage_169 ⟨Nat.le_of_ble_eq_true rfl, Nat.le_of_ble_eq_true rfl⟩ (fun H locs hW hL => ?_)
    refine lv_iload hx hb dL_isStage_172 (lv_at hl 0 rfl) ?_
    refine lv_icmp_ne (tgt := 181) hx hb dL_isStage_174 (by decide) (fun hc_28 => ?_) (fun hc_28 => ?_)
    · replace hF := gF hc_28 hF
      refine lv_iconst (v := 0) hx hb dL_isStage_181 (by decide) ?_
      exact g_rz hx hb hr hlocks (gW2 hF hW) hL (Or.inl rfl) (gI2 hF).1 dL_isStage_182
    · replace hF := gT hc_28 hF
      refine lv_iconst (v := 1) hx hb dL_isStage_177 (by decide) ?_
      refine lv_goto (tgt := 182) hx hb dL_isStage_178 (by decide) ?_
      exact g_rz hx hb hr hlocks (gW2 hF hW) hL (Or.inr rfl) (gI2 hF).1 dL_isStage_182
  have B_212 : ∀ (w : gWd) (xs0 : Int32)  (ls : Array Slot) (hl : lv_has ls 12 [(0, .ref (gA X 7 0))]) (hF : F_L_isStage_212 w xs0 = some (r, w')) (H : Heap) (locs : List Loc) (hW : gWo X 252 (gE X w) H) (hL : gLo X locs), W p l e rmL_isStage s m args below meth c H locs 0 0 (MQ below (gQi X r w') args s 0 0 (gFr X)) (F0 m 212 ls [.int xs0]) := by
    intro w xs0 ls hl hF H locs hW hL
    rw [F_L_isStage_212] at hF
    refine lv_istore (lv' := [(10, .int xs0), (0, .ref (gA X 7 0))]) hx hb dL_isStage_212 hl (by decide) rfl (fun ls hl => ?_)
    refine lv_aload_n hx hb dL_isStage_214 rfl (lv_at hl 1 rfl) ?_
    obtain ⟨v_30, w_31, hq_29, hF⟩ := gC_some hF
    refine g_Vi (As := []) (rest := []) ⟨hx, hb, hml, hown, hts⟩ hK hW hL hl.1 (gok_c (by decide)) gE_G rfl (c_X11_end l X w  v_30 w_31 hq_29) k81 rfl rfl (Nat.le_of_ble_eq_true rfl) dL_isStage_215 ⟨Nat.le_of_ble_eq_true rfl, Nat.le_of_ble_eq_true rfl⟩ (fun H locs hW hL => ?_)
    refine lv_iload hx hb dL_isStage_218 (lv_at hl 0 rfl) ?_
    refine lv_icmp_ne (tgt := 227) hx hb dL_isStage_220 (by decide) (fun hc_32 => ?_) (fun hc_32 => ?_)
    · replace hF := gF hc_32 hF
      refine lv_iconst (v := 0) hx hb dL_isStage_227 (by decide) ?_
      exact g_rz hx hb hr hlocks (gW2 hF hW) hL (Or.inl rfl) (gI2 hF).1 dL_isStage_228
    · replace hF := gT hc_32 hF
      refine lv_iconst (v := 1) hx hb dL_isStage_223 (by decide) ?_
      refine lv_goto (tgt := 228) hx hb dL_isStage_224 (by decide) ?_
      exact g_rz hx hb hr hlocks (gW2 hF hW) hL (Or.inr rfl) (gI2 hF).1 dL_isStage_228
  rw [F_L_isStage] at hF
  obtain ⟨locs, hlocs⟩ : ∃ locs : List Loc, locs = [] := ⟨_, rfl⟩
  rw [← hlocs] at hL ⊢
  refine lv_aload_n hx hb dL_isStage_0 rfl (lv_at hl 1 rfl) ?_
  refine lv_aload_n hx hb dL_isStage_1 rfl (lv_at hl 2 rfl) ?_
  refine lv_aload_n hx hb dL_isStage_2 rfl (lv_at hl 3 rfl) ?_
  refine lv_aload hx hb dL_isStage_3 (lv_at hl 6 rfl) ?_
  obtain ⟨v_34, hq_33, hF⟩ := gP_some hF
  refine g_Si (As := [.ref (gA X 8 0), .ref (gA X 8 1), .ref (gA X 8 2), .ref (gA X 8 5)]) (rest := []) ⟨hx, hb, hml, hown, hts⟩ hK hW hL hl.1 (c_L_why l X w  v_34 hq_33) k49 rfl rfl (Nat.le_of_ble_eq_true rfl) dL_isStage_5 ⟨Nat.le_of_ble_eq_true rfl, Nat.le_of_ble_eq_true rfl⟩ (fun H locs hW hL => ?_)
  refine lv_istore (lv' := [(9, .int v_34), (0, .ref (gA X 7 0)), (1, .ref (gA X 8 0)), (2, .ref (gA X 8 1)), (3, .ref (gA X 8 2)), (4, .ref (gA X 8 3)), (5, .ref (gA X 8 4)), (6, .ref (gA X 8 5)), (7, .ref (gA X 8 6)), (8, .ref (gA X 8 7))]) hx hb dL_isStage_8 hl (by decide) rfl (fun ls hl => ?_)
  refine lv_aload hx hb dL_isStage_10 (lv_at hl 7 rfl) ?_
  refine lv_iconst (v := 0) hx hb dL_isStage_12 (by decide) ?_
  refine g_iald2 (k := 0) hx hb hK hW (gok_o (by decide)) (gad_lt (gok_o (by decide))) gE_O5 (gin (by decide)) (by decide) dL_isStage_13 ?_
  refine lv_if_ne (tgt := 138) hx hb dL_isStage_14 (by decide) (fun hc_35 => ?_) (fun hc_35 => ?_)
  · replace hF := gF hc_35 hF
    refine lv_aload hx hb dL_isStage_138 (lv_at hl 7 rfl) ?_
    refine lv_iconst (v := 0) hx hb dL_isStage_140 (by decide) ?_
    refine g_iald2 (k := 0) hx hb hK hW (gok_o (by decide)) (gad_lt (gok_o (by decide))) gE_O5 (gin (by decide)) (by decide) dL_isStage_141 ?_
    refine lv_iconst (v := 1) hx hb dL_isStage_142 (by decide) ?_
    refine lv_icmp_ne (tgt := 183) hx hb dL_isStage_143 (by decide) (fun hc_36 => ?_) (fun hc_36 => ?_)
    · replace hF := gF hc_36 hF
      refine lv_aload hx hb dL_isStage_183 (lv_at hl 7 rfl) ?_
      refine lv_iconst (v := 0) hx hb dL_isStage_185 (by decide) ?_
      refine g_iald2 (k := 0) hx hb hK hW (gok_o (by decide)) (gad_lt (gok_o (by decide))) gE_O5 (gin (by decide)) (by decide) dL_isStage_186 ?_
      refine lv_iconst (v := 2) hx hb dL_isStage_187 (by decide) ?_
      refine lv_icmp_ne (tgt := 229) hx hb dL_isStage_188 (by decide) (fun hc_37 => ?_) (fun hc_37 => ?_)
      · replace hF := gF hc_37 hF
        refine lv_aload_n hx hb dL_isStage_229 rfl (lv_at hl 2 rfl) ?_
        refine lv_aload_n hx hb dL_isStage_230 rfl (lv_at hl 3 rfl) ?_
        refine lv_aload_n hx hb dL_isStage_231 rfl (lv_at hl 4 rfl) ?_
        refine lv_aload hx hb dL_isStage_232 (lv_at hl 6 rfl) ?_
        refine lv_aload hx hb dL_isStage_234 (lv_at hl 7 rfl) ?_
        obtain ⟨v_39, w_40, hq_38, hF⟩ := gC_some hF
        refine g_Si (As := [.ref (gA X 8 0), .ref (gA X 8 1), .ref (gA X 8 2), .ref (gA X 8 4), .ref (gA X 8 5)]) (rest := []) ⟨hx, hb, hml, hown, hts⟩ hK hW hL hl.1 (c_L_next l X w  v_39 w_40 hq_38) k83 rfl rfl (Nat.le_of_ble_eq_true rfl) dL_isStage_236 ⟨Nat.le_of_ble_eq_true rfl, Nat.le_of_ble_eq_true rfl⟩ (fun H locs hW hL => ?_)
        refine lv_istore (lv' := [(10, .int v_39), (9, .int v_34), (0, .ref (gA X 7 0)), (1, .ref (gA X 8 0)), (2, .ref (gA X 8 1)), (3, .ref (gA X 8 2)), (4, .ref (gA X 8 3)), (5, .ref (gA X 8 4)), (6, .ref (gA X 8 5)), (7, .ref (gA X 8 6)), (8, .ref (gA X 8 7))]) hx hb dL_isStage_239 hl (by decide) rfl (fun ls hl => ?_)
        refine lv_aload_n hx hb dL_isStage_241 rfl (lv_at hl 2 rfl) ?_
        obtain ⟨v_42, w_43, hq_41, hF⟩ := gC_some hF
        refine g_Vi (As := []) (rest := []) ⟨hx, hb, hml, hown, hts⟩ hK hW hL hl.1 (gok_c (by decide)) gE_G rfl (c_X11_next l X w_40  v_42 w_43 hq_41) k86 rfl rfl (Nat.le_of_ble_eq_true rfl) dL_isStage_242 ⟨Nat.le_of_ble_eq_true rfl, Nat.le_of_ble_eq_true rfl⟩ (fun H locs hW hL => ?_)
        refine lv_iload hx hb dL_isStage_245 (lv_at hl 0 rfl) ?_
        refine lv_icmp_ne (tgt := 254) hx hb dL_isStage_247 (by decide) (fun hc_44 => ?_) (fun hc_44 => ?_)
        · replace hF := gF hc_44 hF
          refine lv_iconst (v := 0) hx hb dL_isStage_254 (by decide) ?_
          exact g_rz hx hb hr hlocks (gW2 hF hW) hL (Or.inl rfl) (gI2 hF).1 dL_isStage_255
        · replace hF := gT hc_44 hF
          refine lv_iconst (v := 1) hx hb dL_isStage_250 (by decide) ?_
          refine lv_goto (tgt := 255) hx hb dL_isStage_251 (by decide) ?_
          exact g_rz hx hb hr hlocks (gW2 hF hW) hL (Or.inr rfl) (gI2 hF).1 dL_isStage_255
      · replace hF := gT hc_37 hF
        refine lv_iload hx hb dL_isStage_191 (lv_at hl 0 rfl) ?_
        refine lv_if_ne (tgt := 210) hx hb dL_isStage_193 (by decide) (fun hc_45 => ?_) (fun hc_45 => ?_)
        · replace hF := gF hc_45 hF
          refine lv_ldc hx hb hown q71 dL_isStage_210 ?_
          exact B_212 w (-1000002) ls (lv_sub hl [1] rfl) hF H locs hW hL
        · replace hF := gT hc_45 hF
          refine lv_aload_n hx hb dL_isStage_196 rfl (lv_at hl 2 rfl) ?_
          refine lv_aload_n hx hb dL_isStage_197 rfl (lv_at hl 4 rfl) ?_
          refine lv_aload hx hb dL_isStage_198 (lv_at hl 5 rfl) ?_
          refine lv_aload hx hb dL_isStage_200 (lv_at hl 7 rfl) ?_
          refine lv_aload hx hb dL_isStage_202 (lv_at hl 8 rfl) ?_
          obtain ⟨v_47, w_48, hq_46, hF⟩ := gC_some hF
          refine g_Si (As := [.ref (gA X 8 0), .ref (gA X 8 2), .ref (gA X 8 3), .ref (gA X 8 5), .ref (gA X 8 6)]) (rest := []) ⟨hx, hb, hml, hown, hts⟩ hK hW hL hl.1 (c_L_end l X w  v_47 w_48 hq_46) k78 rfl rfl (Nat.le_of_ble_eq_true rfl) dL_isStage_204 ⟨Nat.le_of_ble_eq_true rfl, Nat.le_of_ble_eq_true rfl⟩ (fun H locs hW hL => ?_)
          refine lv_goto (tgt := 212) hx hb dL_isStage_207 (by decide) ?_
          exact B_212 w_48 v_47 ls (lv_sub hl [1] rfl) hF H locs hW hL
    · replace hF := gT hc_36 hF
      refine lv_iload hx hb dL_isStage_146 (lv_at hl 0 rfl) ?_
      refine lv_if_ne (tgt := 164) hx hb dL_isStage_148 (by decide) (fun hc_49 => ?_) (fun hc_49 => ?_)
      · replace hF := gF hc_49 hF
        refine lv_ldc hx hb hown q71 dL_isStage_164 ?_
        exact B_166 w (-1000002) ls (lv_sub hl [1] rfl) hF H locs hW hL
      · replace hF := gT hc_49 hF
        refine lv_aload_n hx hb dL_isStage_151 rfl (lv_at hl 2 rfl) ?_
        refine lv_aload_n hx hb dL_isStage_152 rfl (lv_at hl 3 rfl) ?_
        refine lv_aload_n hx hb dL_isStage_153 rfl (lv_at hl 4 rfl) ?_
        refine lv_aload hx hb dL_isStage_154 (lv_at hl 6 rfl) ?_
        refine lv_aload hx hb dL_isStage_156 (lv_at hl 7 rfl) ?_
        obtain ⟨v_51, w_52, hq_50, hF⟩ := gC_some hF
        refine g_Si (As := [.ref (gA X 8 0), .ref (gA X 8 1), .ref (gA X 8 2), .ref (gA X 8 4), .ref (gA X 8 5)]) (rest := []) ⟨hx, hb, hml, hown, hts⟩ hK hW hL hl.1 (c_L_finals l X w  v_51 w_52 hq_50) k72 rfl rfl (Nat.le_of_ble_eq_true rfl) dL_isStage_158 ⟨Nat.le_of_ble_eq_true rfl, Nat.le_of_ble_eq_true rfl⟩ (fun H locs hW hL => ?_)
        refine lv_goto (tgt := 166) hx hb dL_isStage_161 (by decide) ?_
        exact B_166 w_52 v_51 ls (lv_sub hl [1] rfl) hF H locs hW hL
  · replace hF := gT hc_35 hF
    refine lv_iload hx hb dL_isStage_17 (lv_at hl 0 rfl) ?_
    refine lv_if_ne (tgt := 111) hx hb dL_isStage_19 (by decide) (fun hc_53 => ?_) (fun hc_53 => ?_)
    · replace hF := gF hc_53 hF
      exact B_111 w v_34 ls (lv_sub hl [1, 7, 0] rfl) hF H locs hW hL
    · replace hF := gT hc_53 hF
      refine lv_aload hx hb dL_isStage_22 (lv_at hl 7 rfl) ?_
      refine lv_iconst (v := 2) hx hb dL_isStage_24 (by decide) ?_
      refine lv_aload_n hx hb dL_isStage_25 rfl (lv_at hl 2 rfl) ?_
      refine lv_aload hx hb dL_isStage_26 (lv_at hl 7 rfl) ?_
      refine lv_aload hx hb dL_isStage_28 (lv_at hl 9 rfl) ?_
      obtain ⟨v_55, w_56, hq_54, hF⟩ := gC_some hF
      refine g_Si (As := [.ref (gA X 8 0), .ref (gA X 8 5), .ref (gA X 8 7)]) (rest := [.int 2, .ref (gA X 8 5)]) ⟨hx, hb, hml, hown, hts⟩ hK hW hL hl.1 (c_L_plan l X w  v_55 w_56 hq_54) k61 rfl rfl (Nat.le_of_ble_eq_true rfl) dL_isStage_30 ⟨Nat.le_of_ble_eq_true rfl, Nat.le_of_ble_eq_true rfl⟩ (fun H locs hW hL => ?_)
      obtain ⟨w_57, ew_57, hF⟩ := gS_some hF
      refine g_iast2 (k := 2) hx hb hK hW hL (gok_o (by decide)) (fun w => gE_O5 (w := w)) (gin (by decide)) (by decide) dL_isStage_33 (fun H locs hW hL => ?_)
      rw [← ew_57] at hW
      refine lv_iconst (v := 0) hx hb dL_isStage_34 (by decide) ?_
      refine lv_istore (lv' := [(10, .int 0), (9, .int v_34), (0, .ref (gA X 7 0)), (1, .ref (gA X 8 0)), (2, .ref (gA X 8 1)), (3, .ref (gA X 8 2)), (4, .ref (gA X 8 3)), (5, .ref (gA X 8 4)), (6, .ref (gA X 8 5)), (7, .ref (gA X 8 6)), (8, .ref (gA X 8 7))]) hx hb dL_isStage_35 hl (by decide) rfl (fun ls hl => ?_)
      exact L_37 gFU w_57 v_34 0 ls (lv_sub hl [2, 3, 4, 8, 10, 1, 0] rfl) hF H locs hW hL
abbrev rmL_isSwum : Room := { frames := 4, cells := 0, slots := 0, locals := 90 }
abbrev wsL_isSwum : List Cond := gws yL_isSwum cL_isSwum 8 (some .boolean)
set_option maxHeartbeats 4000000 in
set_option maxRecDepth 100000 in
theorem c_L_isSwum (l : Launch) (X : gX) (w : gWd) (x5 : Int32) (x6 : Int32) (r : Int32) (w' : gWd) (hF : F_L_isSwum w x5 x6 = some (r, w')) : Met l yL_isSwum wsL_isSwum rmL_isSwum (gPc X [.ref (gA X 7 0), .ref (gA X 8 0), .ref (gA X 8 1), .ref (gA X 8 2), .ref (gA X 8 5), .int x5, .int x6] w) (gQi X r w') 0 0 (gFr X) := by
  refine g_ofW (cc := cL_isSwum) (maxL := 8) (ret := (some .boolean)) (by decide) rfl (Nat.le_of_ble_eq_true rfl) (fun p e s m args below meth c ls H hx hb hr hts hown hlocks hml hK hl hW => ?_)
  have hl : lv_has ls 8 [(0, .ref (gA X 7 0)), (1, .ref (gA X 8 0)), (2, .ref (gA X 8 1)), (3, .ref (gA X 8 2)), (4, .ref (gA X 8 5)), (5, .int x5), (6, .int x6)] := hl
  have hown : s.vm.findClass RL = some m.cls := hown
  have hL : gLo X [] := gLo_nil
  show W p l e rmL_isSwum s m args below meth c H [] 0 0 _ _
  have q39 := hts _ (List.mem_cons_of_mem _ wq_L_39)
  have q71 := hts _ (List.mem_cons_of_mem _ wq_L_71)
  have k23 : CallB rmL_isSwum s args RL 23 yL_isAsked cL_isAsked 5 (some .boolean) wsL_isAsked rmL_isAsked 0 0 5 ∧ (Cond.static yL_isAsked).before args s = true := va_cwS 5 hts (gGoodS (fun w h => List.mem_cons_of_mem _ h) wk_L_23) rfl rfl rfl (by decide +kernel) ⟨Nat.le_of_ble_eq_true rfl, Nat.le_of_ble_eq_true rfl⟩
  have k88 : CallB rmL_isSwum s args RL 88 yL_swum cL_swum 7 (some .int) wsL_swum rmL_swum 0 0 5 ∧ (Cond.static yL_swum).before args s = true := va_cwS 5 hts (gGoodS (fun w h => List.mem_cons_of_mem _ h) wk_L_88) rfl rfl rfl (by decide +kernel) ⟨Nat.le_of_ble_eq_true rfl, Nat.le_of_ble_eq_true rfl⟩
  have k92 : CallW rmL_isSwum s args RL RX11 92 yX11_swim cX11_swim 3 (some .int) wsX11_swim rmX11_swim 0 0 2 := cwV 2 hts (gGoodV (fun w h => List.mem_cons_of_mem _ h) wk_L_92) rfl rfl rfl (by decide +kernel) ⟨Nat.le_of_ble_eq_true rfl, Nat.le_of_ble_eq_true rfl⟩
  have B_43 : ∀ (w : gWd) (x5 : Int32) (x6 : Int32) (xs0 : Int32)  (ls : Array Slot) (hl : lv_has ls 8 [(0, .ref (gA X 7 0)), (5, .int x5), (6, .int x6)]) (hF : F_L_isSwum_43 w x5 x6 xs0 = some (r, w')) (H : Heap) (locs : List Loc) (hW : gWo X 252 (gE X w) H) (hL : gLo X locs), W p l e rmL_isSwum s m args below meth c H locs 0 0 (MQ below (gQi X r w') args s 0 0 (gFr X)) (F0 m 43 ls [.int xs0]) := by
    intro w x5 x6 xs0 ls hl hF H locs hW hL
    rw [F_L_isSwum_43] at hF
    refine lv_istore (lv' := [(7, .int xs0), (0, .ref (gA X 7 0)), (5, .int x5), (6, .int x6)]) hx hb dL_isSwum_43 hl (by decide) rfl (fun ls hl => ?_)
    refine lv_aload_n hx hb dL_isSwum_45 rfl (lv_at hl 1 rfl) ?_
    refine lv_iload hx hb dL_isSwum_46 (lv_at hl 2 rfl) ?_
    refine lv_iload hx hb dL_isSwum_48 (lv_at hl 3 rfl) ?_
    obtain ⟨v_2, w_3, hq_1, hF⟩ := gC_some hF
    refine g_Vi (As := [.int x5, .int x6]) (rest := []) ⟨hx, hb, hml, hown, hts⟩ hK hW hL hl.1 (gok_c (by decide)) gE_G rfl (c_X11_swim l X w x5 x6 v_2 w_3 hq_1) k92 rfl rfl (Nat.le_of_ble_eq_true rfl) dL_isSwum_50 ⟨Nat.le_of_ble_eq_true rfl, Nat.le_of_ble_eq_true rfl⟩ (fun H locs hW hL => ?_)
    refine lv_iload hx hb dL_isSwum_53 (lv_at hl 0 rfl) ?_
    refine lv_icmp_ne (tgt := 62) hx hb dL_isSwum_55 (by decide) (fun hc_4 => ?_) (fun hc_4 => ?_)
    · replace hF := gF hc_4 hF
      refine lv_iconst (v := 0) hx hb dL_isSwum_62 (by decide) ?_
      exact g_rz hx hb hr hlocks (gW2 hF hW) hL (Or.inl rfl) (gI2 hF).1 dL_isSwum_63
    · replace hF := gT hc_4 hF
      refine lv_iconst (v := 1) hx hb dL_isSwum_58 (by decide) ?_
      refine lv_goto (tgt := 63) hx hb dL_isSwum_59 (by decide) ?_
      exact g_rz hx hb hr hlocks (gW2 hF hW) hL (Or.inr rfl) (gI2 hF).1 dL_isSwum_63
  rw [F_L_isSwum] at hF
  obtain ⟨locs, hlocs⟩ : ∃ locs : List Loc, locs = [] := ⟨_, rfl⟩
  rw [← hlocs] at hL ⊢
  refine lv_iload hx hb dL_isSwum_0 (lv_at hl 5 rfl) ?_
  refine lv_aload hx hb dL_isSwum_2 (lv_at hl 4 rfl) ?_
  refine lv_iconst (v := 1) hx hb dL_isSwum_4 (by decide) ?_
  refine g_iald2 (k := 1) hx hb hK hW (gok_o (by decide)) (gad_lt (gok_o (by decide))) gE_O5 (gin (by decide)) (by decide) dL_isSwum_5 ?_
  refine lv_icmp_lt (tgt := 14) hx hb dL_isSwum_6 (by decide) (fun hc_5 => ?_) (fun hc_5 => ?_)
  · replace hF := gT hc_5 hF
    refine lv_aload_n hx hb dL_isSwum_14 rfl (lv_at hl 1 rfl) ?_
    refine lv_aload_n hx hb dL_isSwum_15 rfl (lv_at hl 2 rfl) ?_
    refine lv_aload_n hx hb dL_isSwum_16 rfl (lv_at hl 3 rfl) ?_
    refine lv_aload hx hb dL_isSwum_17 (lv_at hl 4 rfl) ?_
    refine lv_iload hx hb dL_isSwum_19 (lv_at hl 5 rfl) ?_
    obtain ⟨v_7, hq_6, hF⟩ := gP_some hF
    refine g_Si (As := [.ref (gA X 8 0), .ref (gA X 8 1), .ref (gA X 8 2), .ref (gA X 8 5), .int x5]) (rest := []) ⟨hx, hb, hml, hown, hts⟩ hK hW hL hl.1 (c_L_isAsked l X w x5 v_7 hq_6) k23 rfl rfl (Nat.le_of_ble_eq_true rfl) dL_isSwum_21 ⟨Nat.le_of_ble_eq_true rfl, Nat.le_of_ble_eq_true rfl⟩ (fun H locs hW hL => ?_)
    refine lv_if_eq (tgt := 41) hx hb dL_isSwum_24 (by decide) (fun hc_8 => ?_) (fun hc_8 => ?_)
    · replace hF := gT hc_8 hF
      refine lv_ldc hx hb hown q71 dL_isSwum_41 ?_
      exact B_43 w x5 x6 (-1000002) ls (lv_sub hl [0, 5, 6] rfl) hF H locs hW hL
    · replace hF := gF hc_8 hF
      refine lv_aload_n hx hb dL_isSwum_27 rfl (lv_at hl 2 rfl) ?_
      refine lv_aload_n hx hb dL_isSwum_28 rfl (lv_at hl 3 rfl) ?_
      refine lv_aload hx hb dL_isSwum_29 (lv_at hl 4 rfl) ?_
      refine lv_iload hx hb dL_isSwum_31 (lv_at hl 5 rfl) ?_
      refine lv_iload hx hb dL_isSwum_33 (lv_at hl 6 rfl) ?_
      obtain ⟨v_10, w_11, hq_9, hF⟩ := gC_some hF
      refine g_Si (As := [.ref (gA X 8 1), .ref (gA X 8 2), .ref (gA X 8 5), .int x5, .int x6]) (rest := []) ⟨hx, hb, hml, hown, hts⟩ hK hW hL hl.1 (c_L_swum l X w x5 x6 v_10 w_11 hq_9) k88 rfl rfl (Nat.le_of_ble_eq_true rfl) dL_isSwum_35 ⟨Nat.le_of_ble_eq_true rfl, Nat.le_of_ble_eq_true rfl⟩ (fun H locs hW hL => ?_)
      refine lv_goto (tgt := 43) hx hb dL_isSwum_38 (by decide) ?_
      exact B_43 w_11 x5 x6 v_10 ls (lv_sub hl [0, 5, 6] rfl) hF H locs hW hL
  · replace hF := gF hc_5 hF
    refine lv_ldc hx hb hown q39 dL_isSwum_9 ?_
    refine lv_goto (tgt := 43) hx hb dL_isSwum_11 (by decide) ?_
    exact B_43 w x5 x6 (-1000001) ls (lv_sub hl [0, 5, 6] rfl) hF H locs hW hL
