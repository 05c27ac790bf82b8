abbrev rmX11_set : Room := { frames := 3, cells := 0, slots := 0, locals := 64 }
abbrev wsX11_set : List Cond := gws yX11_set cX11_set 3 (some .int)
set_option maxHeartbeats 4000000 in
set_option maxRecDepth 100000 in
theorem c_X11_set (l : Launch) (X : gX) (w : gWd) (x1 : Int32) (x2 : Int32) (r : Int32) (w' : gWd) (hF : F_X11_set w x1 x2 = some (r, w')) : Met l yX11_set wsX11_set rmX11_set (gPc X [.ref (gA X 7 0), .int x1, .int x2] w) (gQi X r w') 0 0 (gFr X) := by
  refine g_ofW (cc := cX11_set) (maxL := 3) (ret := (some .int)) (by decide) rfl (Nat.le_of_ble_eq_true rfl) (fun p e s m args below meth c ls H hx hb hr hts hown hlocks hml hK hl hW => ?_)
  have hl : lv_has ls 3 [(0, .ref (gA X 7 0)), (1, .int x1), (2, .int x2)] := hl
  have hown : s.vm.findClass RX11 = some m.cls := hown
  have hL : gLo X [] := gLo_nil
  show W p l e rmX11_set s m args below meth c H [] 0 0 _ _
  have inX11 : ∀ w ∈ wsX110, w ∈ wsX11_set := fun w h => List.mem_cons_of_mem _ (inlX11 w h)
  have q10 := hts _ (List.mem_cons_of_mem _ wq_X11_10)
  have q22 := hts _ (List.mem_cons_of_mem _ wq_X11_22)
  have k40 : CallW rmX11_set s args RX11 RX3 40 yX3_prepare cX3_prepare 2 none wsX3_prepare rmX3_prepare 0 0 1 := cwV 1 hts (gGoodV (fun w h => List.mem_cons_of_mem _ h) wk_X11_40) rfl rfl rfl (by decide +kernel) ⟨Nat.le_of_ble_eq_true rfl, Nat.le_of_ble_eq_true rfl⟩
  have k50 : CallW rmX11_set s args RX11 RX3 50 yX3_keepUnlessError cX3_keepUnlessError 2 (some .int) wsX3_keepUnlessError rmX3_keepUnlessError 0 0 1 := cwV 1 hts (gGoodV (fun w h => List.mem_cons_of_mem _ h) wk_X11_50) rfl rfl rfl (by decide +kernel) ⟨Nat.le_of_ble_eq_true rfl, Nat.le_of_ble_eq_true rfl⟩
  have k58 : CallB rmX11_set s args RX11 58 yX1_changeSetting cX1_changeSetting 4 (some .int) wsX1_changeSetting rmX1_changeSetting 0 0 3 ∧ (Cond.static yX1_changeSetting).before args s = true := va_cwS 3 hts (gGoodS (fun w h => List.mem_cons_of_mem _ h) wk_X11_58) rfl rfl rfl (by decide +kernel) ⟨Nat.le_of_ble_eq_true rfl, Nat.le_of_ble_eq_true rfl⟩
  rw [F_X11_set] at hF
  obtain ⟨locs, hlocs⟩ : ∃ locs : List Loc, locs = [] := ⟨_, rfl⟩
  rw [← hlocs] at hL ⊢
  refine lv_aload_n hx hb dX11_set_0 rfl (lv_at hl 0 rfl) ?_
  refine rg_X11_history hx hb hts inX11 hown hK hW q22 dX11_set_1 ?_
  refine lv_aload_n hx hb dX11_set_4 rfl (lv_at hl 0 rfl) ?_
  refine rg_X11_meet hx hb hts inX11 hown hK hW q10 dX11_set_5 ?_
  obtain ⟨w_2, hq_1, hF⟩ := gP_some hF
  refine g_Vv (As := [.ref (gA X 0 0)]) (rest := []) ⟨hx, hb, hml, hown, hts⟩ hK hW hL hl.1 (gok_c (by decide)) gE_H rfl (c_X3_prepare l X w 0 h07 w_2 hq_1) k40 rfl rfl (Nat.le_of_ble_eq_true rfl) dX11_set_8 ⟨Nat.le_of_ble_eq_true rfl, Nat.le_of_ble_eq_true rfl⟩ (fun H locs hW hL => ?_)
  refine lv_aload_n hx hb dX11_set_11 rfl (lv_at hl 0 rfl) ?_
  refine rg_X11_history hx hb hts inX11 hown hK hW q22 dX11_set_12 ?_
  refine lv_aload_n hx hb dX11_set_15 rfl (lv_at hl 0 rfl) ?_
  refine rg_X11_meet hx hb hts inX11 hown hK hW q10 dX11_set_16 ?_
  refine lv_iload_n hx hb dX11_set_19 rfl (lv_at hl 1 rfl) ?_
  refine lv_iload_n hx hb dX11_set_20 rfl (lv_at hl 2 rfl) ?_
  obtain ⟨v_4, w_5, hq_3, hF⟩ := gC_some hF
  refine g_Si (As := [.ref (gA X 0 0), .int x1, .int x2]) (rest := [.ref (gA X 7 1)]) ⟨hx, hb, hml, hown, hts⟩ hK hW hL hl.1 (c_X1_changeSetting l X w_2 0 h07 x1 x2 v_4 w_5 hq_3) k58 rfl rfl (Nat.le_of_ble_eq_true rfl) dX11_set_21 ⟨Nat.le_of_ble_eq_true rfl, Nat.le_of_ble_eq_true rfl⟩ (fun H locs hW hL => ?_)
  obtain ⟨v_7, w_8, hq_6, hF⟩ := gC_some hF
  refine g_Vi (As := [.int v_4]) (rest := []) ⟨hx, hb, hml, hown, hts⟩ hK hW hL hl.1 (gok_c (by decide)) gE_H rfl (c_X3_keepUnlessError l X w_5 v_4 v_7 w_8 hq_6) k50 rfl rfl (Nat.le_of_ble_eq_true rfl) dX11_set_24 ⟨Nat.le_of_ble_eq_true rfl, Nat.le_of_ble_eq_true rfl⟩ (fun H locs hW hL => ?_)
  exact g_ri hx hb hr hlocks (gW2 hF hW) hL (gI2 hF).1 dX11_set_27
abbrev rmX10_aheadByEntry : Room := { frames := 0, cells := 0, slots := 0, locals := 0 }
abbrev wsX10_aheadByEntry : List Cond := gws yX10_aheadByEntry cX10_aheadByEntry 2 (some .boolean)
set_option maxHeartbeats 4000000 in
set_option maxRecDepth 100000 in
theorem c_X10_aheadByEntry (l : Launch) (X : gX) (w : gWd) (i0 : Nat) (hi0 : i0 < 7) (n0 : Nat) (hn0 : n0 < 30) (i1 : Nat) (hi1 : i1 < 7) (n1 : Nat) (hn1 : n1 < 30) (r : Int32) (hF : F_X10_aheadByEntry w i0 n0 i1 n1 = some r) : Met l yX10_aheadByEntry wsX10_aheadByEntry rmX10_aheadByEntry (gPc X [.ref (gA X i0 (4 + n0)), .ref (gA X i1 (4 + n1))] w) (gQi X r w) 0 0 (gFr X) := by
  refine g_ofW (cc := cX10_aheadByEntry) (maxL := 2) (ret := (some .boolean)) (by decide) rfl (Nat.le_of_ble_eq_true rfl) (fun p e s m args below meth c ls H hx hb hr hts hown hlocks hml hK hl hW => ?_)
  have hl : lv_has ls 2 [(0, .ref (gA X i0 (4 + n0))), (1, .ref (gA X i1 (4 + n1)))] := hl
  have hown : s.vm.findClass RX10 = some m.cls := hown
  have hL : gLo X [] := gLo_nil
  show W p l e rmX10_aheadByEntry s m args below meth c H [] 0 0 _ _
  have inX10 : ∀ w ∈ wsX100, w ∈ wsX10_aheadByEntry := fun w h => List.mem_cons_of_mem _ (inlX10 w h)
  have q18 := hts _ (List.mem_cons_of_mem _ wq_X10_18)
  have q9 := hts _ (List.mem_cons_of_mem _ wq_X10_9)
  have B_36 : ∀   (ls : Array Slot) (hl : lv_has ls 2 []) (hF : F_X10_aheadByEntry_36 w = some r) (H : Heap) (locs : List Loc) (hW : gWo X 252 (gE X w) H) (hL : gLo X locs), W p l e rmX10_aheadByEntry s m args below meth c H locs 0 0 (MQ below (gQi X r w) args s 0 0 (gFr X)) (F0 m 36 ls []) := by
    intro ls hl hF H locs hW hL
    rw [F_X10_aheadByEntry_36] at hF
    refine lv_iconst (v := 1) hx hb dX10_aheadByEntry_36 (by decide) ?_
    refine lv_goto (tgt := 41) hx hb dX10_aheadByEntry_37 (by decide) ?_
    exact g_rz hx hb hr hlocks hW hL (Or.inr rfl) (Option.some.inj hF) dX10_aheadByEntry_41
  have B_40 : ∀   (ls : Array Slot) (hl : lv_has ls 2 []) (hF : F_X10_aheadByEntry_40 w = some r) (H : Heap) (locs : List Loc) (hW : gWo X 252 (gE X w) H) (hL : gLo X locs), W p l e rmX10_aheadByEntry s m args below meth c H locs 0 0 (MQ below (gQi X r w) args s 0 0 (gFr X)) (F0 m 40 ls []) := by
    intro ls hl hF H locs hW hL
    rw [F_X10_aheadByEntry_40] at hF
    refine lv_iconst (v := 0) hx hb dX10_aheadByEntry_40 (by decide) ?_
    exact g_rz hx hb hr hlocks hW hL (Or.inl rfl) (Option.some.inj hF) dX10_aheadByEntry_41
  rw [F_X10_aheadByEntry] at hF
  obtain ⟨locs, hlocs⟩ : ∃ locs : List Loc, locs = [] := ⟨_, rfl⟩
  rw [← hlocs] at hL ⊢
  refine lv_aload_n hx hb dX10_aheadByEntry_0 rfl (lv_at hl 0 rfl) ?_
  refine rg_X10_entry hx hb hts inX10 hown hK hW hi0 hn0 q18 dX10_aheadByEntry_1 ?_
  refine lv_aload_n hx hb dX10_aheadByEntry_4 rfl (lv_at hl 1 rfl) ?_
  refine rg_X10_entry hx hb hts inX10 hown hK hW hi1 hn1 q18 dX10_aheadByEntry_5 ?_
  refine lv_icmp_eq (tgt := 42) hx hb dX10_aheadByEntry_8 (by decide) (fun hc_1 => ?_) (fun hc_1 => ?_)
  · replace hF := gT hc_1 hF
    refine lv_aload_n hx hb dX10_aheadByEntry_42 rfl (lv_at hl 0 rfl) ?_
    refine rg_X10_number hx hb hts inX10 hown hK hW hi0 hn0 q9 dX10_aheadByEntry_43 ?_
    refine lv_aload_n hx hb dX10_aheadByEntry_46 rfl (lv_at hl 1 rfl) ?_
    refine rg_X10_number hx hb hts inX10 hown hK hW hi1 hn1 q9 dX10_aheadByEntry_47 ?_
    refine lv_icmp_ge (tgt := 57) hx hb dX10_aheadByEntry_50 (by decide) (fun hc_2 => ?_) (fun hc_2 => ?_)
    · replace hF := gT hc_2 hF
      refine lv_iconst (v := 0) hx hb dX10_aheadByEntry_57 (by decide) ?_
      exact g_rz hx hb hr hlocks hW hL (Or.inl rfl) (Option.some.inj hF) dX10_aheadByEntry_58
    · replace hF := gF hc_2 hF
      refine lv_iconst (v := 1) hx hb dX10_aheadByEntry_53 (by decide) ?_
      refine lv_goto (tgt := 58) hx hb dX10_aheadByEntry_54 (by decide) ?_
      exact g_rz hx hb hr hlocks hW hL (Or.inr rfl) (Option.some.inj hF) dX10_aheadByEntry_58
  · replace hF := gF hc_1 hF
    refine lv_aload_n hx hb dX10_aheadByEntry_11 rfl (lv_at hl 1 rfl) ?_
    refine rg_X10_entry hx hb hts inX10 hown hK hW hi1 hn1 q18 dX10_aheadByEntry_12 ?_
    refine lv_if_eq (tgt := 36) hx hb dX10_aheadByEntry_15 (by decide) (fun hc_3 => ?_) (fun hc_3 => ?_)
    · replace hF := gT hc_3 hF
      exact B_36  ls (lv_sub hl [] rfl) hF H locs hW hL
    · replace hF := gF hc_3 hF
      refine lv_aload_n hx hb dX10_aheadByEntry_18 rfl (lv_at hl 0 rfl) ?_
      refine rg_X10_entry hx hb hts inX10 hown hK hW hi0 hn0 q18 dX10_aheadByEntry_19 ?_
      refine lv_if_eq (tgt := 40) hx hb dX10_aheadByEntry_22 (by decide) (fun hc_4 => ?_) (fun hc_4 => ?_)
      · replace hF := gT hc_4 hF
        exact B_40  ls (lv_sub hl [] rfl) hF H locs hW hL
      · replace hF := gF hc_4 hF
        refine lv_aload_n hx hb dX10_aheadByEntry_25 rfl (lv_at hl 0 rfl) ?_
        refine rg_X10_entry hx hb hts inX10 hown hK hW hi0 hn0 q18 dX10_aheadByEntry_26 ?_
        refine lv_aload_n hx hb dX10_aheadByEntry_29 rfl (lv_at hl 1 rfl) ?_
        refine rg_X10_entry hx hb hts inX10 hown hK hW hi1 hn1 q18 dX10_aheadByEntry_30 ?_
        refine lv_icmp_ge (tgt := 40) hx hb dX10_aheadByEntry_33 (by decide) (fun hc_5 => ?_) (fun hc_5 => ?_)
        · replace hF := gT hc_5 hF
          exact B_40  ls (lv_sub hl [] rfl) hF H locs hW hL
        · replace hF := gF hc_5 hF
          exact B_36  ls (lv_sub hl [] rfl) hF H locs hW hL
abbrev rmX2_lastOf : Room := { frames := 1, cells := 0, slots := 0, locals := 21 }
abbrev wsX2_lastOf : List Cond := gws yX2_lastOf cX2_lastOf 4 (some .int)
set_option maxHeartbeats 4000000 in
set_option maxRecDepth 100000 in
theorem c_X2_lastOf (l : Launch) (X : gX) (w : gWd) (i0 : Nat) (hi0 : i0 < 7) (x1 : Int32) (r : Int32) (hF : F_X2_lastOf w i0 x1 = some r) : Met l yX2_lastOf wsX2_lastOf rmX2_lastOf (gPc X [.ref (gA X i0 0), .int x1] w) (gQi X r w) 0 0 (gFr X) := by
  refine g_ofW (cc := cX2_lastOf) (maxL := 4) (ret := (some .int)) (by decide) rfl (Nat.le_of_ble_eq_true rfl) (fun p e s m args below meth c ls H hx hb hr hts hown hlocks hml hK hl hW => ?_)
  have hl : lv_has ls 4 [(0, .ref (gA X i0 0)), (1, .int x1)] := hl
  have hown : s.vm.findClass RX2 = some m.cls := hown
  have hL : gLo X [] := gLo_nil
  show W p l e rmX2_lastOf s m args below meth c H [] 0 0 _ _
  have inX5 : ∀ w ∈ wsX50, w ∈ wsX2_lastOf := fun w h => List.mem_cons_of_mem _ (inlX5 w h)
  have inX10 : ∀ w ∈ wsX100, w ∈ wsX2_lastOf := fun w h => List.mem_cons_of_mem _ (inlX10 w h)
  have q15 := hts _ (List.mem_cons_of_mem _ wq_X2_15)
  have q42 := hts _ (List.mem_cons_of_mem _ wq_X2_42)
  have q60 := hts _ (List.mem_cons_of_mem _ wq_X2_60)
  have q9 := hts _ (List.mem_cons_of_mem _ wq_X2_9)
  have k56 : CallW rmX2_lastOf s args RX2 RX5 56 yX5_has cX5_has 2 (some .boolean) wsX5_has rmX5_has 0 0 1 := cwV 1 hts (gGoodV (fun w h => List.mem_cons_of_mem _ h) wk_X2_56) rfl rfl rfl (by decide +kernel) ⟨Nat.le_of_ble_eq_true rfl, Nat.le_of_ble_eq_true rfl⟩
  have k61 : CallW rmX2_lastOf s args RX2 RX10 61 yX10_aheadByEntry cX10_aheadByEntry 2 (some .boolean) wsX10_aheadByEntry rmX10_aheadByEntry 0 0 1 := cwV 1 hts (gGoodV (fun w h => List.mem_cons_of_mem _ h) wk_X2_61) rfl rfl rfl (by decide +kernel) ⟨Nat.le_of_ble_eq_true rfl, Nat.le_of_ble_eq_true rfl⟩
  have L_5 : ∀ (fu : Nat) (i0 : Nat) (x1 : Int32) (x2 : Int32) (x3 : Int32) (hi0 : i0 < 7) (ls : Array Slot) (hl : lv_has ls 4 [(0, .ref (gA X i0 0)), (1, .int x1), (2, .int x2), (3, .int x3)]) (hF : F_X2_lastOf_5 fu w i0 x1 x2 x3 = some r) (H : Heap) (locs : List Loc) (hW : gWo X 252 (gE X w) H) (hL : gLo X locs), W p l e rmX2_lastOf s m args below meth c H locs 0 0 (MQ below (gQi X r w) args s 0 0 (gFr X)) (F0 m 5 ls []) := by
    intro fu
    induction fu with
    | zero => intro i0 x1 x2 x3 hi0 ls hl hF H locs hW hL; rw [F_X2_lastOf_5_z] at hF; cases hF
    | succ fu5 ih5 =>
      have B_52 : ∀ (i0 : Nat) (x1 : Int32) (x3 : Int32) (hi0 : i0 < 7) (ls : Array Slot) (hl : lv_has ls 4 [(0, .ref (gA X i0 0)), (1, .int x1), (3, .int x3)]) (hF : F_X2_lastOf_52 (F_X2_lastOf_5 fu5) w i0 x1 x3 = some r) (H : Heap) (locs : List Loc) (hW : gWo X 252 (gE X w) H) (hL : gLo X locs), W p l e rmX2_lastOf s m args below meth c H locs 0 0 (MQ below (gQi X r w) args s 0 0 (gFr X)) (F0 m 52 ls []) := by
        intro i0 x1 x3 hi0 ls hl hF H locs hW hL
        rw [F_X2_lastOf_52] at hF
        refine lv_iload_n hx hb dX2_lastOf_52 rfl (lv_at hl 2 rfl) ?_
        refine lv_istore_n (lv' := [(2, .int x3), (0, .ref (gA X i0 0)), (1, .int x1), (3, .int x3)]) hx hb dX2_lastOf_53 rfl hl (by decide) rfl (fun ls hl => ?_)
        obtain ⟨x3_17, ex3_17, hF⟩ := gS_some hF
        refine lv_iinc (v := x3_17) (lv' := [(3, .int x3_17), (2, .int x3), (0, .ref (gA X i0 0)), (1, .int x1)]) hx hb dX2_lastOf_54 hl (k := 3) rfl (by rw [ex3_17]; rfl) (by decide) rfl (fun ls hl => ?_)
        refine lv_goto (tgt := 5) hx hb dX2_lastOf_57 (by decide) ?_
        exact ih5 i0 x1 x3 x3_17 hi0 ls (lv_sub hl [2, 3, 1, 0] rfl) hF H locs hW hL
      intro i0 x1 x2 x3 hi0 ls hl hF H locs hW hL
      rw [F_X2_lastOf_5_s] at hF
      refine lv_iload_n hx hb dX2_lastOf_5 rfl (lv_at hl 3 rfl) ?_
      refine lv_aload_n hx hb dX2_lastOf_6 rfl (lv_at hl 0 rfl) ?_
      refine rg_X5_size hx hb hts inX5 hown hK hW hi0 q9 dX2_lastOf_7 ?_
      refine lv_icmp_ge (tgt := 60) hx hb dX2_lastOf_10 (by decide) (fun hc_1 => ?_) (fun hc_1 => ?_)
      · replace hF := gT hc_1 hF
        refine lv_iload_n hx hb dX2_lastOf_60 rfl (lv_at hl 2 rfl) ?_
        exact g_ri hx hb hr hlocks hW hL (Option.some.inj hF) dX2_lastOf_61
      · replace hF := gF hc_1 hF
        refine lv_aload_n hx hb dX2_lastOf_13 rfl (lv_at hl 0 rfl) ?_
        refine rg_X5_all hx hb hts inX5 hown hK hW hi0 q15 dX2_lastOf_14 ?_
        refine lv_iload_n hx hb dX2_lastOf_17 rfl (lv_at hl 3 rfl) ?_
        obtain ⟨hin_2, hF⟩ := gB_some hF
        obtain ⟨k_3, ek_3⟩ : ∃ k, k = Int32.toNatClampNeg x3 := ⟨_, rfl⟩
        rw [← ek_3] at hF
        refine r_all (k := k_3) hx hb hK hW hi0 hin_2 ek_3.symm dX2_lastOf_18 ?_
        refine rg_X10_heat hx hb hts inX10 hown hK hW hi0 (vp_lt2 hin_2 ek_3.symm) q42 dX2_lastOf_19 ?_
        refine lv_iload_n hx hb dX2_lastOf_22 rfl (lv_at hl 1 rfl) ?_
        refine lv_icmp_ne (tgt := 54) hx hb dX2_lastOf_23 (by decide) (fun hc_4 => ?_) (fun hc_4 => ?_)
        · replace hF := gF hc_4 hF
          obtain ⟨x3_5, ex3_5, hF⟩ := gS_some hF
          refine lv_iinc (v := x3_5) (lv' := [(3, .int x3_5), (0, .ref (gA X i0 0)), (1, .int x1), (2, .int x2)]) hx hb dX2_lastOf_54 hl (k := 3) rfl (by rw [ex3_5]; rfl) (by decide) rfl (fun ls hl => ?_)
          refine lv_goto (tgt := 5) hx hb dX2_lastOf_57 (by decide) ?_
          exact ih5 i0 x1 x2 x3_5 hi0 ls (lv_sub hl [1, 2, 3, 0] rfl) hF H locs hW hL
        · replace hF := gT hc_4 hF
          refine lv_aload_n hx hb dX2_lastOf_26 rfl (lv_at hl 0 rfl) ?_
          refine lv_iload_n hx hb dX2_lastOf_27 rfl (lv_at hl 2 rfl) ?_
          obtain ⟨v_7, hq_6, hF⟩ := gP_some hF
          refine g_Vi (As := [.int x2]) (rest := []) ⟨hx, hb, hml, hown, hts⟩ hK hW hL hl.1 (gok_m hi0 (by decide)) (gE_m0 hi0) rfl (c_X5_has l X w i0 hi0 x2 v_7 hq_6) k56 rfl rfl (Nat.le_of_ble_eq_true rfl) dX2_lastOf_28 ⟨Nat.le_of_ble_eq_true rfl, Nat.le_of_ble_eq_true rfl⟩ (fun H locs hW hL => ?_)
          refine lv_if_eq (tgt := 52) hx hb dX2_lastOf_31 (by decide) (fun hc_8 => ?_) (fun hc_8 => ?_)
          · replace hF := gT hc_8 hF
            exact B_52 i0 x1 x3 hi0 ls (lv_sub hl [0, 1, 3] rfl) hF H locs hW hL
          · replace hF := gF hc_8 hF
            refine lv_aload_n hx hb dX2_lastOf_34 rfl (lv_at hl 0 rfl) ?_
            refine rg_X5_all hx hb hts inX5 hown hK hW hi0 q15 dX2_lastOf_35 ?_
            refine lv_iload_n hx hb dX2_lastOf_38 rfl (lv_at hl 2 rfl) ?_
            obtain ⟨hin_9, hF⟩ := gB_some hF
            obtain ⟨k_10, ek_10⟩ : ∃ k, k = Int32.toNatClampNeg x2 := ⟨_, rfl⟩
            rw [← ek_10] at hF
            refine r_all (k := k_10) hx hb hK hW hi0 hin_9 ek_10.symm dX2_lastOf_39 ?_
            refine lv_aload_n hx hb dX2_lastOf_40 rfl (lv_at hl 0 rfl) ?_
            refine rg_X5_all hx hb hts inX5 hown hK hW hi0 q15 dX2_lastOf_41 ?_
            refine lv_iload_n hx hb dX2_lastOf_44 rfl (lv_at hl 3 rfl) ?_
            obtain ⟨hin_11, hF⟩ := gB_some hF
            obtain ⟨k_12, ek_12⟩ : ∃ k, k = Int32.toNatClampNeg x3 := ⟨_, rfl⟩
            rw [← ek_12] at hF
            refine r_all (k := k_12) hx hb hK hW hi0 hin_11 ek_12.symm dX2_lastOf_45 ?_
            obtain ⟨v_14, hq_13, hF⟩ := gP_some hF
            refine g_Vi (As := [.ref (gA X i0 (4 + k_12))]) (rest := []) ⟨hx, hb, hml, hown, hts⟩ hK hW hL hl.1 (gok_s hi0 (vp_lt2 hin_9 ek_10.symm)) (gE_ms hi0 k_10) rfl (c_X10_aheadByEntry l X w i0 hi0 k_10 (vp_lt2 hin_9 ek_10.symm) i0 hi0 k_12 (vp_lt2 hin_11 ek_12.symm) v_14 hq_13) k61 rfl rfl (Nat.le_of_ble_eq_true rfl) dX2_lastOf_46 ⟨Nat.le_of_ble_eq_true rfl, Nat.le_of_ble_eq_true rfl⟩ (fun H locs hW hL => ?_)
            refine lv_if_eq (tgt := 54) hx hb dX2_lastOf_49 (by decide) (fun hc_15 => ?_) (fun hc_15 => ?_)
            · replace hF := gT hc_15 hF
              obtain ⟨x3_16, ex3_16, hF⟩ := gS_some hF
              refine lv_iinc (v := x3_16) (lv' := [(3, .int x3_16), (0, .ref (gA X i0 0)), (1, .int x1), (2, .int x2)]) hx hb dX2_lastOf_54 hl (k := 3) rfl (by rw [ex3_16]; rfl) (by decide) rfl (fun ls hl => ?_)
              refine lv_goto (tgt := 5) hx hb dX2_lastOf_57 (by decide) ?_
              exact ih5 i0 x1 x2 x3_16 hi0 ls (lv_sub hl [1, 2, 3, 0] rfl) hF H locs hW hL
            · replace hF := gF hc_15 hF
              exact B_52 i0 x1 x3 hi0 ls (lv_sub hl [0, 1, 3] rfl) hF H locs hW hL
  rw [F_X2_lastOf] at hF
  obtain ⟨locs, hlocs⟩ : ∃ locs : List Loc, locs = [] := ⟨_, rfl⟩
  rw [← hlocs] at hL ⊢
  refine lv_ldc hx hb hown q60 dX2_lastOf_0 ?_
  refine lv_istore_n (lv' := [(2, .int (-1000004)), (0, .ref (gA X i0 0)), (1, .int x1)]) hx hb dX2_lastOf_2 rfl hl (by decide) rfl (fun ls hl => ?_)
  refine lv_iconst (v := 0) hx hb dX2_lastOf_3 (by decide) ?_
  refine lv_istore_n (lv' := [(3, .int 0), (2, .int (-1000004)), (0, .ref (gA X i0 0)), (1, .int x1)]) hx hb dX2_lastOf_4 rfl hl (by decide) rfl (fun ls hl => ?_)
  exact L_5 gFU i0 x1 (-1000004) 0 hi0 ls (lv_sub hl [2, 3, 1, 0] rfl) hF H locs hW hL
abbrev rmX2_sizeOf : Room := { frames := 0, cells := 0, slots := 0, locals := 0 }
abbrev wsX2_sizeOf : List Cond := gws yX2_sizeOf cX2_sizeOf 4 (some .int)
set_option maxHeartbeats 4000000 in
set_option maxRecDepth 100000 in
theorem c_X2_sizeOf (l : Launch) (X : gX) (w : gWd) (i0 : Nat) (hi0 : i0 < 7) (x1 : Int32) (r : Int32) (hF : F_X2_sizeOf w i0 x1 = some r) : Met l yX2_sizeOf wsX2_sizeOf rmX2_sizeOf (gPc X [.ref (gA X i0 0), .int x1] w) (gQi X r w) 0 0 (gFr X) := by
  refine g_ofW (cc := cX2_sizeOf) (maxL := 4) (ret := (some .int)) (by decide) rfl (Nat.le_of_ble_eq_true rfl) (fun p e s m args below meth c ls H hx hb hr hts hown hlocks hml hK hl hW => ?_)
  have hl : lv_has ls 4 [(0, .ref (gA X i0 0)), (1, .int x1)] := hl
  have hown : s.vm.findClass RX2 = some m.cls := hown
  have hL : gLo X [] := gLo_nil
  show W p l e rmX2_sizeOf s m args below meth c H [] 0 0 _ _
  have inX5 : ∀ w ∈ wsX50, w ∈ wsX2_sizeOf := fun w h => List.mem_cons_of_mem _ (inlX5 w h)
  have inX10 : ∀ w ∈ wsX100, w ∈ wsX2_sizeOf := fun w h => List.mem_cons_of_mem _ (inlX10 w h)
  have q15 := hts _ (List.mem_cons_of_mem _ wq_X2_15)
  have q42 := hts _ (List.mem_cons_of_mem _ wq_X2_42)
  have q9 := hts _ (List.mem_cons_of_mem _ wq_X2_9)
  have L_4 : ∀ (fu : Nat) (i0 : Nat) (x1 : Int32) (x2 : Int32) (x3 : Int32) (hi0 : i0 < 7) (ls : Array Slot) (hl : lv_has ls 4 [(0, .ref (gA X i0 0)), (1, .int x1), (2, .int x2), (3, .int x3)]) (hF : F_X2_sizeOf_4 fu w i0 x1 x2 x3 = some r) (H : Heap) (locs : List Loc) (hW : gWo X 252 (gE X w) H) (hL : gLo X locs), W p l e rmX2_sizeOf s m args below meth c H locs 0 0 (MQ below (gQi X r w) args s 0 0 (gFr X)) (F0 m 4 ls []) := by
    intro fu
    induction fu with
    | zero => intro i0 x1 x2 x3 hi0 ls hl hF H locs hW hL; rw [F_X2_sizeOf_4_z] at hF; cases hF
    | succ fu4 ih4 =>
      intro i0 x1 x2 x3 hi0 ls hl hF H locs hW hL
      rw [F_X2_sizeOf_4_s] at hF
      refine lv_iload_n hx hb dX2_sizeOf_4 rfl (lv_at hl 3 rfl) ?_
      refine lv_aload_n hx hb dX2_sizeOf_5 rfl (lv_at hl 0 rfl) ?_
      refine rg_X5_size hx hb hts inX5 hown hK hW hi0 q9 dX2_sizeOf_6 ?_
      refine lv_icmp_ge (tgt := 34) hx hb dX2_sizeOf_9 (by decide) (fun hc_1 => ?_) (fun hc_1 => ?_)
      · replace hF := gT hc_1 hF
        refine lv_iload_n hx hb dX2_sizeOf_34 rfl (lv_at hl 2 rfl) ?_
        exact g_ri hx hb hr hlocks hW hL (Option.some.inj hF) dX2_sizeOf_35
      · replace hF := gF hc_1 hF
        refine lv_aload_n hx hb dX2_sizeOf_12 rfl (lv_at hl 0 rfl) ?_
        refine rg_X5_all hx hb hts inX5 hown hK hW hi0 q15 dX2_sizeOf_13 ?_
        refine lv_iload_n hx hb dX2_sizeOf_16 rfl (lv_at hl 3 rfl) ?_
        obtain ⟨hin_2, hF⟩ := gB_some hF
        obtain ⟨k_3, ek_3⟩ : ∃ k, k = Int32.toNatClampNeg x3 := ⟨_, rfl⟩
        rw [← ek_3] at hF
        refine r_all (k := k_3) hx hb hK hW hi0 hin_2 ek_3.symm dX2_sizeOf_17 ?_
        refine rg_X10_heat hx hb hts inX10 hown hK hW hi0 (vp_lt2 hin_2 ek_3.symm) q42 dX2_sizeOf_18 ?_
        refine lv_iload_n hx hb dX2_sizeOf_21 rfl (lv_at hl 1 rfl) ?_
        refine lv_icmp_ne (tgt := 28) hx hb dX2_sizeOf_22 (by decide) (fun hc_4 => ?_) (fun hc_4 => ?_)
        · replace hF := gF hc_4 hF
          obtain ⟨x3_5, ex3_5, hF⟩ := gS_some hF
          refine lv_iinc (v := x3_5) (lv' := [(3, .int x3_5), (0, .ref (gA X i0 0)), (1, .int x1), (2, .int x2)]) hx hb dX2_sizeOf_28 hl (k := 3) rfl (by rw [ex3_5]; rfl) (by decide) rfl (fun ls hl => ?_)
          refine lv_goto (tgt := 4) hx hb dX2_sizeOf_31 (by decide) ?_
          exact ih4 i0 x1 x2 x3_5 hi0 ls (lv_sub hl [1, 2, 3, 0] rfl) hF H locs hW hL
        · replace hF := gT hc_4 hF
          obtain ⟨x2_6, ex2_6, hF⟩ := gS_some hF
          refine lv_iinc (v := x2_6) (lv' := [(2, .int x2_6), (0, .ref (gA X i0 0)), (1, .int x1), (3, .int x3)]) hx hb dX2_sizeOf_25 hl (k := 2) rfl (by rw [ex2_6]; rfl) (by decide) rfl (fun ls hl => ?_)
          obtain ⟨x3_7, ex3_7, hF⟩ := gS_some hF
          refine lv_iinc (v := x3_7) (lv' := [(3, .int x3_7), (2, .int x2_6), (0, .ref (gA X i0 0)), (1, .int x1)]) hx hb dX2_sizeOf_28 hl (k := 3) rfl (by rw [ex3_7]; rfl) (by decide) rfl (fun ls hl => ?_)
          refine lv_goto (tgt := 4) hx hb dX2_sizeOf_31 (by decide) ?_
          exact ih4 i0 x1 x2_6 x3_7 hi0 ls (lv_sub hl [2, 3, 1, 0] rfl) hF H locs hW hL
  rw [F_X2_sizeOf] at hF
  obtain ⟨locs, hlocs⟩ : ∃ locs : List Loc, locs = [] := ⟨_, rfl⟩
  rw [← hlocs] at hL ⊢
  refine lv_iconst (v := 0) hx hb dX2_sizeOf_0 (by decide) ?_
  refine lv_istore_n (lv' := [(2, .int 0), (0, .ref (gA X i0 0)), (1, .int x1)]) hx hb dX2_sizeOf_1 rfl hl (by decide) rfl (fun ls hl => ?_)
  refine lv_iconst (v := 0) hx hb dX2_sizeOf_2 (by decide) ?_
  refine lv_istore_n (lv' := [(3, .int 0), (2, .int 0), (0, .ref (gA X i0 0)), (1, .int x1)]) hx hb dX2_sizeOf_3 rfl hl (by decide) rfl (fun ls hl => ?_)
  exact L_4 gFU i0 x1 0 0 hi0 ls (lv_sub hl [2, 3, 1, 0] rfl) hF H locs hW hL
abbrev rmX2_fillFirstHeat : Room := { frames := 2, cells := 0, slots := 0, locals := 44 }
abbrev wsX2_fillFirstHeat : List Cond := gws yX2_fillFirstHeat cX2_fillFirstHeat 4 none
set_option maxHeartbeats 4000000 in
set_option maxRecDepth 100000 in
theorem c_X2_fillFirstHeat (l : Launch) (X : gX) (w : gWd) (i0 : Nat) (hi0 : i0 < 7) (w' : gWd) (hF : F_X2_fillFirstHeat w i0 = some w') : Met l yX2_fillFirstHeat wsX2_fillFirstHeat rmX2_fillFirstHeat (gPc X [.ref (gA X i0 0)] w) (gQv X w') 0 0 (gFr X) := by
  refine g_ofW (cc := cX2_fillFirstHeat) (maxL := 4) (ret := none) (by decide) rfl (Nat.le_of_ble_eq_true rfl) (fun p e s m args below meth c ls H hx hb hr hts hown hlocks hml hK hl hW => ?_)
  have hl : lv_has ls 4 [(0, .ref (gA X i0 0))] := hl
  have hown : s.vm.findClass RX2 = some m.cls := hown
  have hL : gLo X [] := gLo_nil
  show W p l e rmX2_fillFirstHeat s m args below meth c H [] 0 0 _ _
  have inX5 : ∀ w ∈ wsX50, w ∈ wsX2_fillFirstHeat := fun w h => List.mem_cons_of_mem _ (inlX5 w h)
  have inX10 : ∀ w ∈ wsX100, w ∈ wsX2_fillFirstHeat := fun w h => List.mem_cons_of_mem _ (inlX10 w h)
  have q15 := hts _ (List.mem_cons_of_mem _ wq_X2_15)
  have q29 := hts _ (List.mem_cons_of_mem _ wq_X2_29)
  have q42 := hts _ (List.mem_cons_of_mem _ wq_X2_42)
  have q45 := hts _ (List.mem_cons_of_mem _ wq_X2_45)
  have k49 : CallB rmX2_fillFirstHeat s args RX2 49 yX2_sizeOf cX2_sizeOf 4 (some .int) wsX2_sizeOf rmX2_sizeOf 0 0 2 ∧ (Cond.static yX2_sizeOf).before args s = true := va_cwS 2 hts (gGoodS (fun w h => List.mem_cons_of_mem _ h) wk_X2_49) rfl rfl rfl (by decide +kernel) ⟨Nat.le_of_ble_eq_true rfl, Nat.le_of_ble_eq_true rfl⟩
  have k53 : CallB rmX2_fillFirstHeat s args RX2 53 yX2_lastOf cX2_lastOf 4 (some .int) wsX2_lastOf rmX2_lastOf 0 0 2 ∧ (Cond.static yX2_lastOf).before args s = true := va_cwS 2 hts (gGoodS (fun w h => List.mem_cons_of_mem _ h) wk_X2_53) rfl rfl rfl (by decide +kernel) ⟨Nat.le_of_ble_eq_true rfl, Nat.le_of_ble_eq_true rfl⟩
  have k56 : CallW rmX2_fillFirstHeat s args RX2 RX5 56 yX5_has cX5_has 2 (some .boolean) wsX5_has rmX5_has 0 0 1 := cwV 1 hts (gGoodV (fun w h => List.mem_cons_of_mem _ h) wk_X2_56) rfl rfl rfl (by decide +kernel) ⟨Nat.le_of_ble_eq_true rfl, Nat.le_of_ble_eq_true rfl⟩
  have L_24 : ∀ (fu : Nat) (w : gWd) (i0 : Nat) (x1 : Int32) (x2 : Int32) (hi0 : i0 < 7) (ls : Array Slot) (hl : lv_has ls 4 [(0, .ref (gA X i0 0)), (1, .int x1), (2, .int x2)]) (hF : F_X2_fillFirstHeat_24 fu w i0 x1 x2 = some w') (H : Heap) (locs : List Loc) (hW : gWo X 252 (gE X w) H) (hL : gLo X locs), W p l e rmX2_fillFirstHeat s m args below meth c H locs 0 0 (MQ below (gQv X w') args s 0 0 (gFr X)) (F0 m 24 ls []) := by
    intro fu
    induction fu with
    | zero => intro w i0 x1 x2 hi0 ls hl hF H locs hW hL; rw [F_X2_fillFirstHeat_24_z] at hF; cases hF
    | succ fu24 ih24 =>
      intro w i0 x1 x2 hi0 ls hl hF H locs hW hL
      rw [F_X2_fillFirstHeat_24_s] at hF
      refine lv_iload_n hx hb dX2_fillFirstHeat_24 rfl (lv_at hl 2 rfl) ?_
      refine lv_iload_n hx hb dX2_fillFirstHeat_25 rfl (lv_at hl 1 rfl) ?_
      refine lv_icmp_ge (tgt := 59) hx hb dX2_fillFirstHeat_26 (by decide) (fun hc_1 => ?_) (fun hc_1 => ?_)
      · replace hF := gT hc_1 hF
        exact g_rv hx hb hr hlocks (gW1 hF hW) hL dX2_fillFirstHeat_59
      · replace hF := gF hc_1 hF
        refine lv_aload_n hx hb dX2_fillFirstHeat_29 rfl (lv_at hl 0 rfl) ?_
        refine lv_iconst (v := 1) hx hb dX2_fillFirstHeat_30 (by decide) ?_
        obtain ⟨v_3, hq_2, hF⟩ := gP_some hF
        refine g_Si (As := [.ref (gA X i0 0), .int 1]) (rest := []) ⟨hx, hb, hml, hown, hts⟩ hK hW hL hl.1 (c_X2_lastOf l X w i0 hi0 1 v_3 hq_2) k53 rfl rfl (Nat.le_of_ble_eq_true rfl) dX2_fillFirstHeat_31 ⟨Nat.le_of_ble_eq_true rfl, Nat.le_of_ble_eq_true rfl⟩ (fun H locs hW hL => ?_)
        refine lv_istore_n (lv' := [(3, .int v_3), (0, .ref (gA X i0 0)), (1, .int x1), (2, .int x2)]) hx hb dX2_fillFirstHeat_34 rfl hl (by decide) rfl (fun ls hl => ?_)
        refine lv_aload_n hx hb dX2_fillFirstHeat_35 rfl (lv_at hl 1 rfl) ?_
        refine lv_iload_n hx hb dX2_fillFirstHeat_36 rfl (lv_at hl 0 rfl) ?_
        obtain ⟨v_5, hq_4, hF⟩ := gP_some hF
        refine g_Vi (As := [.int v_3]) (rest := []) ⟨hx, hb, hml, hown, hts⟩ hK hW hL hl.1 (gok_m hi0 (by decide)) (gE_m0 hi0) rfl (c_X5_has l X w i0 hi0 v_3 v_5 hq_4) k56 rfl rfl (Nat.le_of_ble_eq_true rfl) dX2_fillFirstHeat_37 ⟨Nat.le_of_ble_eq_true rfl, Nat.le_of_ble_eq_true rfl⟩ (fun H locs hW hL => ?_)
        refine lv_if_eq (tgt := 53) hx hb dX2_fillFirstHeat_40 (by decide) (fun hc_6 => ?_) (fun hc_6 => ?_)
        · replace hF := gT hc_6 hF
          obtain ⟨x2_7, ex2_7, hF⟩ := gS_some hF
          refine lv_iinc (v := x2_7) (lv' := [(2, .int x2_7), (3, .int v_3), (0, .ref (gA X i0 0)), (1, .int x1)]) hx hb dX2_fillFirstHeat_53 hl (k := 3) rfl (by rw [ex2_7]; rfl) (by decide) rfl (fun ls hl => ?_)
          refine lv_goto (tgt := 24) hx hb dX2_fillFirstHeat_56 (by decide) ?_
          exact ih24 w i0 x1 x2_7 hi0 ls (lv_sub hl [2, 3, 0] rfl) hF H locs hW hL
        · replace hF := gF hc_6 hF
          refine lv_aload_n hx hb dX2_fillFirstHeat_43 rfl (lv_at hl 1 rfl) ?_
          refine rg_X5_all hx hb hts inX5 hown hK hW hi0 q15 dX2_fillFirstHeat_44 ?_
          refine lv_iload_n hx hb dX2_fillFirstHeat_47 rfl (lv_at hl 0 rfl) ?_
          obtain ⟨hin_8, hF⟩ := gB_some hF
          obtain ⟨k_9, ek_9⟩ : ∃ k, k = Int32.toNatClampNeg v_3 := ⟨_, rfl⟩
          rw [← ek_9] at hF
          refine r_all (k := k_9) hx hb hK hW hi0 hin_8 ek_9.symm dX2_fillFirstHeat_48 ?_
          refine lv_iconst (v := 0) hx hb dX2_fillFirstHeat_49 (by decide) ?_
          obtain ⟨w_10, ew_10, hF⟩ := gS_some hF
          refine rp_X10_heat hx hb hts inX10 hown hK hW hL hi0 (vp_lt2 hin_8 ek_9.symm) q42 dX2_fillFirstHeat_50 (fun H locs hW hL => ?_)
          rw [← ew_10] at hW
          obtain ⟨x2_11, ex2_11, hF⟩ := gS_some hF
          refine lv_iinc (v := x2_11) (lv' := [(2, .int x2_11), (3, .int v_3), (0, .ref (gA X i0 0)), (1, .int x1)]) hx hb dX2_fillFirstHeat_53 hl (k := 3) rfl (by rw [ex2_11]; rfl) (by decide) rfl (fun ls hl => ?_)
          refine lv_goto (tgt := 24) hx hb dX2_fillFirstHeat_56 (by decide) ?_
          exact ih24 w_10 i0 x1 x2_11 hi0 ls (lv_sub hl [2, 3, 0] rfl) hF H locs hW hL
  rw [F_X2_fillFirstHeat] at hF
  obtain ⟨locs, hlocs⟩ : ∃ locs : List Loc, locs = [] := ⟨_, rfl⟩
  rw [← hlocs] at hL ⊢
  refine lv_aload_n hx hb dX2_fillFirstHeat_0 rfl (lv_at hl 0 rfl) ?_
  refine rg_X5_heats hx hb hts inX5 hown hK hW hi0 q29 dX2_fillFirstHeat_1 ?_
  refine lv_iconst (v := 4) hx hb dX2_fillFirstHeat_4 (by decide) ?_
  refine lv_icmp_ge (tgt := 9) hx hb dX2_fillFirstHeat_5 (by decide) (fun hc_12 => ?_) (fun hc_12 => ?_)
  · replace hF := gT hc_12 hF
    refine lv_aload_n hx hb dX2_fillFirstHeat_9 rfl (lv_at hl 0 rfl) ?_
    refine rg_X5_settings hx hb hts inX5 hown hK hW hi0 q45 dX2_fillFirstHeat_10 ?_
    refine lv_iconst (v := 1) hx hb dX2_fillFirstHeat_13 (by decide) ?_
    refine g_iald2 (k := 1) hx hb hK hW (gok_m hi0 (by decide)) (gad_lt (gok_m hi0 (by decide))) (gE_m1 hi0) (gin (by decide)) (by decide) dX2_fillFirstHeat_14 ?_
    refine lv_aload_n hx hb dX2_fillFirstHeat_15 rfl (lv_at hl 0 rfl) ?_
    refine lv_iconst (v := 0) hx hb dX2_fillFirstHeat_16 (by decide) ?_
    obtain ⟨v_14, hq_13, hF⟩ := gP_some hF
    refine g_Si (As := [.ref (gA X i0 0), .int 0]) (rest := [.int (w i0 1 1)]) ⟨hx, hb, hml, hown, hts⟩ hK hW hL hl.1 (c_X2_sizeOf l X w i0 hi0 0 v_14 hq_13) k49 rfl rfl (Nat.le_of_ble_eq_true rfl) dX2_fillFirstHeat_17 ⟨Nat.le_of_ble_eq_true rfl, Nat.le_of_ble_eq_true rfl⟩ (fun H locs hW hL => ?_)
    refine lv_isub hx hb dX2_fillFirstHeat_20 ?_
    obtain ⟨x1_15, ex1_15, hF⟩ := gS_some hF
    refine g_top ex1_15 ?_
    refine lv_istore_n (lv' := [(1, .int x1_15), (0, .ref (gA X i0 0))]) hx hb dX2_fillFirstHeat_21 rfl hl (by decide) rfl (fun ls hl => ?_)
    refine lv_iconst (v := 0) hx hb dX2_fillFirstHeat_22 (by decide) ?_
    refine lv_istore_n (lv' := [(2, .int 0), (1, .int x1_15), (0, .ref (gA X i0 0))]) hx hb dX2_fillFirstHeat_23 rfl hl (by decide) rfl (fun ls hl => ?_)
    exact L_24 gFU w i0 x1_15 0 hi0 ls (lv_sub hl [2, 1, 0] rfl) hF H locs hW hL
  · replace hF := gF hc_12 hF
    exact g_rv hx hb hr hlocks (gW1 hF hW) hL dX2_fillFirstHeat_8
abbrev rmX2_rankInHeat : Room := { frames := 1, cells := 0, slots := 0, locals := 21 }
abbrev wsX2_rankInHeat : List Cond := gws yX2_rankInHeat cX2_rankInHeat 4 (some .int)
set_option maxHeartbeats 4000000 in
set_option maxRecDepth 100000 in
theorem c_X2_rankInHeat (l : Launch) (X : gX) (w : gWd) (i0 : Nat) (hi0 : i0 < 7) (i1 : Nat) (hi1 : i1 < 7) (n1 : Nat) (hn1 : n1 < 30) (r : Int32) (hF : F_X2_rankInHeat w i0 i1 n1 = some r) : Met l yX2_rankInHeat wsX2_rankInHeat rmX2_rankInHeat (gPc X [.ref (gA X i0 0), .ref (gA X i1 (4 + n1))] w) (gQi X r w) 0 0 (gFr X) := by
  refine g_ofW (cc := cX2_rankInHeat) (maxL := 4) (ret := (some .int)) (by decide) rfl (Nat.le_of_ble_eq_true rfl) (fun p e s m args below meth c ls H hx hb hr hts hown hlocks hml hK hl hW => ?_)
  have hl : lv_has ls 4 [(0, .ref (gA X i0 0)), (1, .ref (gA X i1 (4 + n1)))] := hl
  have hown : s.vm.findClass RX2 = some m.cls := hown
  have hL : gLo X [] := gLo_nil
  show W p l e rmX2_rankInHeat s m args below meth c H [] 0 0 _ _
  have inX5 : ∀ w ∈ wsX50, w ∈ wsX2_rankInHeat := fun w h => List.mem_cons_of_mem _ (inlX5 w h)
  have inX10 : ∀ w ∈ wsX100, w ∈ wsX2_rankInHeat := fun w h => List.mem_cons_of_mem _ (inlX10 w h)
  have q15 := hts _ (List.mem_cons_of_mem _ wq_X2_15)
  have q42 := hts _ (List.mem_cons_of_mem _ wq_X2_42)
  have q9 := hts _ (List.mem_cons_of_mem _ wq_X2_9)
  have k61 : CallW rmX2_rankInHeat s args RX2 RX10 61 yX10_aheadByEntry cX10_aheadByEntry 2 (some .boolean) wsX10_aheadByEntry rmX10_aheadByEntry 0 0 1 := cwV 1 hts (gGoodV (fun w h => List.mem_cons_of_mem _ h) wk_X2_61) rfl rfl rfl (by decide +kernel) ⟨Nat.le_of_ble_eq_true rfl, Nat.le_of_ble_eq_true rfl⟩
  have L_4 : ∀ (fu : Nat) (i0 : Nat) (i1 : Nat) (n1 : Nat) (x2 : Int32) (x3 : Int32) (hi0 : i0 < 7) (hi1 : i1 < 7) (hn1 : n1 < 30) (ls : Array Slot) (hl : lv_has ls 4 [(0, .ref (gA X i0 0)), (1, .ref (gA X i1 (4 + n1))), (2, .int x2), (3, .int x3)]) (hF : F_X2_rankInHeat_4 fu w i0 i1 n1 x2 x3 = some r) (H : Heap) (locs : List Loc) (hW : gWo X 252 (gE X w) H) (hL : gLo X locs), W p l e rmX2_rankInHeat s m args below meth c H locs 0 0 (MQ below (gQi X r w) args s 0 0 (gFr X)) (F0 m 4 ls []) := by
    intro fu
    induction fu with
    | zero => intro i0 i1 n1 x2 x3 hi0 hi1 hn1 ls hl hF H locs hW hL; rw [F_X2_rankInHeat_4_z] at hF; cases hF
    | succ fu4 ih4 =>
      intro i0 i1 n1 x2 x3 hi0 hi1 hn1 ls hl hF H locs hW hL
      rw [F_X2_rankInHeat_4_s] at hF
      refine lv_iload_n hx hb dX2_rankInHeat_4 rfl (lv_at hl 3 rfl) ?_
      refine lv_aload_n hx hb dX2_rankInHeat_5 rfl (lv_at hl 0 rfl) ?_
      refine rg_X5_size hx hb hts inX5 hown hK hW hi0 q9 dX2_rankInHeat_6 ?_
      refine lv_icmp_ge (tgt := 50) hx hb dX2_rankInHeat_9 (by decide) (fun hc_1 => ?_) (fun hc_1 => ?_)
      · replace hF := gT hc_1 hF
        refine lv_iload_n hx hb dX2_rankInHeat_50 rfl (lv_at hl 2 rfl) ?_
        exact g_ri hx hb hr hlocks hW hL (Option.some.inj hF) dX2_rankInHeat_51
      · replace hF := gF hc_1 hF
        refine lv_aload_n hx hb dX2_rankInHeat_12 rfl (lv_at hl 0 rfl) ?_
        refine rg_X5_all hx hb hts inX5 hown hK hW hi0 q15 dX2_rankInHeat_13 ?_
        refine lv_iload_n hx hb dX2_rankInHeat_16 rfl (lv_at hl 3 rfl) ?_
        obtain ⟨hin_2, hF⟩ := gB_some hF
        obtain ⟨k_3, ek_3⟩ : ∃ k, k = Int32.toNatClampNeg x3 := ⟨_, rfl⟩
        rw [← ek_3] at hF
        refine r_all (k := k_3) hx hb hK hW hi0 hin_2 ek_3.symm dX2_rankInHeat_17 ?_
        refine rg_X10_heat hx hb hts inX10 hown hK hW hi0 (vp_lt2 hin_2 ek_3.symm) q42 dX2_rankInHeat_18 ?_
        refine lv_aload_n hx hb dX2_rankInHeat_21 rfl (lv_at hl 1 rfl) ?_
        refine rg_X10_heat hx hb hts inX10 hown hK hW hi1 hn1 q42 dX2_rankInHeat_22 ?_
        refine lv_icmp_ne (tgt := 44) hx hb dX2_rankInHeat_25 (by decide) (fun hc_4 => ?_) (fun hc_4 => ?_)
        · replace hF := gF hc_4 hF
          obtain ⟨x3_5, ex3_5, hF⟩ := gS_some hF
          refine lv_iinc (v := x3_5) (lv' := [(3, .int x3_5), (0, .ref (gA X i0 0)), (1, .ref (gA X i1 (4 + n1))), (2, .int x2)]) hx hb dX2_rankInHeat_44 hl (k := 3) rfl (by rw [ex3_5]; rfl) (by decide) rfl (fun ls hl => ?_)
          refine lv_goto (tgt := 4) hx hb dX2_rankInHeat_47 (by decide) ?_
          exact ih4 i0 i1 n1 x2 x3_5 hi0 hi1 hn1 ls (lv_sub hl [1, 2, 3, 0] rfl) hF H locs hW hL
        · replace hF := gT hc_4 hF
          refine lv_aload_n hx hb dX2_rankInHeat_28 rfl (lv_at hl 0 rfl) ?_
          refine rg_X5_all hx hb hts inX5 hown hK hW hi0 q15 dX2_rankInHeat_29 ?_
          refine lv_iload_n hx hb dX2_rankInHeat_32 rfl (lv_at hl 3 rfl) ?_
          obtain ⟨hin_6, hF⟩ := gB_some hF
          obtain ⟨k_7, ek_7⟩ : ∃ k, k = Int32.toNatClampNeg x3 := ⟨_, rfl⟩
          rw [← ek_7] at hF
          refine r_all (k := k_7) hx hb hK hW hi0 hin_6 ek_7.symm dX2_rankInHeat_33 ?_
          refine lv_aload_n hx hb dX2_rankInHeat_34 rfl (lv_at hl 1 rfl) ?_
          obtain ⟨v_9, hq_8, hF⟩ := gP_some hF
          refine g_Vi (As := [.ref (gA X i1 (4 + n1))]) (rest := []) ⟨hx, hb, hml, hown, hts⟩ hK hW hL hl.1 (gok_s hi0 (vp_lt2 hin_6 ek_7.symm)) (gE_ms hi0 k_7) rfl (c_X10_aheadByEntry l X w i0 hi0 k_7 (vp_lt2 hin_6 ek_7.symm) i1 hi1 n1 hn1 v_9 hq_8) k61 rfl rfl (Nat.le_of_ble_eq_true rfl) dX2_rankInHeat_35 ⟨Nat.le_of_ble_eq_true rfl, Nat.le_of_ble_eq_true rfl⟩ (fun H locs hW hL => ?_)
          refine lv_if_eq (tgt := 44) hx hb dX2_rankInHeat_38 (by decide) (fun hc_10 => ?_) (fun hc_10 => ?_)
          · replace hF := gT hc_10 hF
            obtain ⟨x3_11, ex3_11, hF⟩ := gS_some hF
            refine lv_iinc (v := x3_11) (lv' := [(3, .int x3_11), (0, .ref (gA X i0 0)), (1, .ref (gA X i1 (4 + n1))), (2, .int x2)]) hx hb dX2_rankInHeat_44 hl (k := 3) rfl (by rw [ex3_11]; rfl) (by decide) rfl (fun ls hl => ?_)
            refine lv_goto (tgt := 4) hx hb dX2_rankInHeat_47 (by decide) ?_
            exact ih4 i0 i1 n1 x2 x3_11 hi0 hi1 hn1 ls (lv_sub hl [1, 2, 3, 0] rfl) hF H locs hW hL
          · replace hF := gF hc_10 hF
            obtain ⟨x2_12, ex2_12, hF⟩ := gS_some hF
            refine lv_iinc (v := x2_12) (lv' := [(2, .int x2_12), (0, .ref (gA X i0 0)), (1, .ref (gA X i1 (4 + n1))), (3, .int x3)]) hx hb dX2_rankInHeat_41 hl (k := 2) rfl (by rw [ex2_12]; rfl) (by decide) rfl (fun ls hl => ?_)
            obtain ⟨x3_13, ex3_13, hF⟩ := gS_some hF
            refine lv_iinc (v := x3_13) (lv' := [(3, .int x3_13), (2, .int x2_12), (0, .ref (gA X i0 0)), (1, .ref (gA X i1 (4 + n1)))]) hx hb dX2_rankInHeat_44 hl (k := 3) rfl (by rw [ex3_13]; rfl) (by decide) rfl (fun ls hl => ?_)
            refine lv_goto (tgt := 4) hx hb dX2_rankInHeat_47 (by decide) ?_
            exact ih4 i0 i1 n1 x2_12 x3_13 hi0 hi1 hn1 ls (lv_sub hl [2, 3, 1, 0] rfl) hF H locs hW hL
  rw [F_X2_rankInHeat] at hF
  obtain ⟨locs, hlocs⟩ : ∃ locs : List Loc, locs = [] := ⟨_, rfl⟩
  rw [← hlocs] at hL ⊢
  refine lv_iconst (v := 0) hx hb dX2_rankInHeat_0 (by decide) ?_
  refine lv_istore_n (lv' := [(2, .int 0), (0, .ref (gA X i0 0)), (1, .ref (gA X i1 (4 + n1)))]) hx hb dX2_rankInHeat_1 rfl hl (by decide) rfl (fun ls hl => ?_)
  refine lv_iconst (v := 0) hx hb dX2_rankInHeat_2 (by decide) ?_
  refine lv_istore_n (lv' := [(3, .int 0), (2, .int 0), (0, .ref (gA X i0 0)), (1, .ref (gA X i1 (4 + n1)))]) hx hb dX2_rankInHeat_3 rfl hl (by decide) rfl (fun ls hl => ?_)
  exact L_4 gFU i0 i1 n1 0 0 hi0 hi1 hn1 ls (lv_sub hl [2, 3, 1, 0] rfl) hF H locs hW hL
abbrev rmX4_ofRank : Room := { frames := 0, cells := 0, slots := 0, locals := 0 }
abbrev wsX4_ofRank : List Cond := gws yX4_ofRank cX4_ofRank 3 (some .int)
set_option maxHeartbeats 4000000 in
set_option maxRecDepth 100000 in
theorem c_X4_ofRank (l : Launch) (X : gX) (w : gWd) (x0 : Int32) (x1 : Int32) (r : Int32) (hF : F_X4_ofRank w x0 x1 = some r) : Met l yX4_ofRank wsX4_ofRank rmX4_ofRank (gPc X [.int x0, .int x1] w) (gQi X r w) 0 0 (gFr X) := by
  refine g_ofW (cc := cX4_ofRank) (maxL := 3) (ret := (some .int)) (by decide) rfl (Nat.le_of_ble_eq_true rfl) (fun p e s m args below meth c ls H hx hb hr hts hown hlocks hml hK hl hW => ?_)
  have hl : lv_has ls 3 [(0, .int x0), (1, .int x1)] := hl
  have hown : s.vm.findClass RX4 = some m.cls := hown
  have hL : gLo X [] := gLo_nil
  show W p l e rmX4_ofRank s m args below meth c H [] 0 0 _ _
  rw [F_X4_ofRank] at hF
  obtain ⟨locs, hlocs⟩ : ∃ locs : List Loc, locs = [] := ⟨_, rfl⟩
  rw [← hlocs] at hL ⊢
  refine lv_iload_n hx hb dX4_ofRank_0 rfl (lv_at hl 1 rfl) ?_
  refine lv_iconst (v := 1) hx hb dX4_ofRank_1 (by decide) ?_
  refine lv_iadd hx hb dX4_ofRank_2 ?_
  refine lv_iconst (v := 2) hx hb dX4_ofRank_3 (by decide) ?_
  refine lv_idiv hx hb dX4_ofRank_4 (by decide) ?_
  obtain ⟨x2_1, ex2_1, hF⟩ := gS_some hF
  refine g_top ex2_1 ?_
  refine lv_istore_n (lv' := [(2, .int x2_1), (0, .int x0), (1, .int x1)]) hx hb dX4_ofRank_5 rfl hl (by decide) rfl (fun ls hl => ?_)
  refine lv_iload_n hx hb dX4_ofRank_6 rfl (lv_at hl 1 rfl) ?_
  refine lv_iconst (v := 2) hx hb dX4_ofRank_7 (by decide) ?_
  refine lv_irem hx hb dX4_ofRank_8 (by decide) ?_
  refine lv_iconst (v := 1) hx hb dX4_ofRank_9 (by decide) ?_
  refine lv_icmp_ne (tgt := 23) hx hb dX4_ofRank_10 (by decide) (fun hc_2 => ?_) (fun hc_2 => ?_)
  · replace hF := gF hc_2 hF
    refine lv_iload_n hx hb dX4_ofRank_23 rfl (lv_at hl 0 rfl) ?_
    refine lv_iload_n hx hb dX4_ofRank_24 rfl (lv_at hl 1 rfl) ?_
    refine lv_iconst (v := 2) hx hb dX4_ofRank_25 (by decide) ?_
    refine lv_idiv hx hb dX4_ofRank_26 (by decide) ?_
    refine lv_isub hx hb dX4_ofRank_27 ?_
    exact g_ri hx hb hr hlocks hW hL (Option.some.inj hF) dX4_ofRank_28
  · replace hF := gT hc_2 hF
    refine lv_iload_n hx hb dX4_ofRank_13 rfl (lv_at hl 0 rfl) ?_
    refine lv_iload_n hx hb dX4_ofRank_14 rfl (lv_at hl 1 rfl) ?_
    refine lv_iconst (v := 1) hx hb dX4_ofRank_15 (by decide) ?_
    refine lv_iadd hx hb dX4_ofRank_16 ?_
    refine lv_iconst (v := 2) hx hb dX4_ofRank_17 (by decide) ?_
    refine lv_idiv hx hb dX4_ofRank_18 (by decide) ?_
    refine lv_iadd hx hb dX4_ofRank_19 ?_
    refine lv_goto (tgt := 28) hx hb dX4_ofRank_20 (by decide) ?_
    exact g_ri hx hb hr hlocks hW hL (Option.some.inj hF) dX4_ofRank_28
abbrev rmX5_lanes : Room := { frames := 0, cells := 0, slots := 0, locals := 0 }
abbrev wsX5_lanes : List Cond := gws yX5_lanes cX5_lanes 1 (some .int)
set_option maxHeartbeats 4000000 in
set_option maxRecDepth 100000 in
theorem c_X5_lanes (l : Launch) (X : gX) (w : gWd) (i0 : Nat) (hi0 : i0 < 7) (r : Int32) (hF : F_X5_lanes w i0 = some r) : Met l yX5_lanes wsX5_lanes rmX5_lanes (gPc X [.ref (gA X i0 0)] w) (gQi X r w) 0 0 (gFr X) := by
  refine g_ofW (cc := cX5_lanes) (maxL := 1) (ret := (some .int)) (by decide) rfl (Nat.le_of_ble_eq_true rfl) (fun p e s m args below meth c ls H hx hb hr hts hown hlocks hml hK hl hW => ?_)
  have hl : lv_has ls 1 [(0, .ref (gA X i0 0))] := hl
  have hown : s.vm.findClass RX5 = some m.cls := hown
  have hL : gLo X [] := gLo_nil
  show W p l e rmX5_lanes s m args below meth c H [] 0 0 _ _
  have inX5 : ∀ w ∈ wsX50, w ∈ wsX5_lanes := fun w h => List.mem_cons_of_mem _ (inlX5 w h)
  have q9 := hts _ (List.mem_cons_of_mem _ wq_X5_9)
  rw [F_X5_lanes] at hF
  obtain ⟨locs, hlocs⟩ : ∃ locs : List Loc, locs = [] := ⟨_, rfl⟩
  rw [← hlocs] at hL ⊢
  refine lv_aload_n hx hb dX5_lanes_0 rfl (lv_at hl 0 rfl) ?_
  refine rg_X5_settings hx hb hts inX5 hown hK hW hi0 q9 dX5_lanes_1 ?_
  refine lv_iconst (v := 0) hx hb dX5_lanes_4 (by decide) ?_
  refine g_iald2 (k := 0) hx hb hK hW (gok_m hi0 (by decide)) (gad_lt (gok_m hi0 (by decide))) (gE_m1 hi0) (gin (by decide)) (by decide) dX5_lanes_5 ?_
  exact g_ri hx hb hr hlocks hW hL (Option.some.inj hF) dX5_lanes_6
abbrev rmX2_giveLanes : Room := { frames := 2, cells := 0, slots := 0, locals := 44 }
abbrev wsX2_giveLanes : List Cond := gws yX2_giveLanes cX2_giveLanes 3 none
set_option maxHeartbeats 4000000 in
set_option maxRecDepth 100000 in
theorem c_X2_giveLanes (l : Launch) (X : gX) (w : gWd) (i0 : Nat) (hi0 : i0 < 7) (w' : gWd) (hF : F_X2_giveLanes w i0 = some w') : Met l yX2_giveLanes wsX2_giveLanes rmX2_giveLanes (gPc X [.ref (gA X i0 0)] w) (gQv X w') 0 0 (gFr X) := by
  refine g_ofW (cc := cX2_giveLanes) (maxL := 3) (ret := none) (by decide) rfl (Nat.le_of_ble_eq_true rfl) (fun p e s m args below meth c ls H hx hb hr hts hown hlocks hml hK hl hW => ?_)
  have hl : lv_has ls 3 [(0, .ref (gA X i0 0))] := hl
  have hown : s.vm.findClass RX2 = some m.cls := hown
  have hL : gLo X [] := gLo_nil
  show W p l e rmX2_giveLanes s m args below meth c H [] 0 0 _ _
  have inX5 : ∀ w ∈ wsX50, w ∈ wsX2_giveLanes := fun w h => List.mem_cons_of_mem _ (inlX5 w h)
  have inX10 : ∀ w ∈ wsX100, w ∈ wsX2_giveLanes := fun w h => List.mem_cons_of_mem _ (inlX10 w h)
  have q15 := hts _ (List.mem_cons_of_mem _ wq_X2_15)
  have q19 := hts _ (List.mem_cons_of_mem _ wq_X2_19)
  have q75 := hts _ (List.mem_cons_of_mem _ wq_X2_75)
  have q9 := hts _ (List.mem_cons_of_mem _ wq_X2_9)
  have k32 : CallW rmX2_giveLanes s args RX2 RX5 32 yX5_lanes cX5_lanes 1 (some .int) wsX5_lanes rmX5_lanes 0 0 0 := cwV 0 hts (gGoodV (fun w h => List.mem_cons_of_mem _ h) wk_X2_32) rfl rfl rfl (by decide +kernel) ⟨Nat.le_of_ble_eq_true rfl, Nat.le_of_ble_eq_true rfl⟩
  have k65 : CallB rmX2_giveLanes s args RX2 65 yX2_rankInHeat cX2_rankInHeat 4 (some .int) wsX2_rankInHeat rmX2_rankInHeat 0 0 2 ∧ (Cond.static yX2_rankInHeat).before args s = true := va_cwS 2 hts (gGoodS (fun w h => List.mem_cons_of_mem _ h) wk_X2_65) rfl rfl rfl (by decide +kernel) ⟨Nat.le_of_ble_eq_true rfl, Nat.le_of_ble_eq_true rfl⟩
  have k69 : CallB rmX2_giveLanes s args RX2 69 yX4_ofRank cX4_ofRank 3 (some .int) wsX4_ofRank rmX4_ofRank 0 0 2 ∧ (Cond.static yX4_ofRank).before args s = true := va_cwS 2 hts (gGoodS (fun w h => List.mem_cons_of_mem _ h) wk_X2_69) rfl rfl rfl (by decide +kernel) ⟨Nat.le_of_ble_eq_true rfl, Nat.le_of_ble_eq_true rfl⟩
  have L_2 : ∀ (fu : Nat) (w : gWd) (i0 : Nat) (x1 : Int32) (hi0 : i0 < 7) (ls : Array Slot) (hl : lv_has ls 3 [(0, .ref (gA X i0 0)), (1, .int x1)]) (hF : F_X2_giveLanes_2 fu w i0 x1 = some w') (H : Heap) (locs : List Loc) (hW : gWo X 252 (gE X w) H) (hL : gLo X locs), W p l e rmX2_giveLanes s m args below meth c H locs 0 0 (MQ below (gQv X w') args s 0 0 (gFr X)) (F0 m 2 ls []) := by
    intro fu
    induction fu with
    | zero => intro w i0 x1 hi0 ls hl hF H locs hW hL; rw [F_X2_giveLanes_2_z] at hF; cases hF
    | succ fu2 ih2 =>
      intro w i0 x1 hi0 ls hl hF H locs hW hL
      rw [F_X2_giveLanes_2_s] at hF
      refine lv_iload_n hx hb dX2_giveLanes_2 rfl (lv_at hl 1 rfl) ?_
      refine lv_aload_n hx hb dX2_giveLanes_3 rfl (lv_at hl 0 rfl) ?_
      refine rg_X5_size hx hb hts inX5 hown hK hW hi0 q9 dX2_giveLanes_4 ?_
      refine lv_icmp_ge (tgt := 46) hx hb dX2_giveLanes_7 (by decide) (fun hc_1 => ?_) (fun hc_1 => ?_)
      · replace hF := gT hc_1 hF
        exact g_rv hx hb hr hlocks (gW1 hF hW) hL dX2_giveLanes_46
      · replace hF := gF hc_1 hF
        refine lv_aload_n hx hb dX2_giveLanes_10 rfl (lv_at hl 0 rfl) ?_
        refine rg_X5_all hx hb hts inX5 hown hK hW hi0 q15 dX2_giveLanes_11 ?_
        refine lv_iload_n hx hb dX2_giveLanes_14 rfl (lv_at hl 1 rfl) ?_
        obtain ⟨hin_2, hF⟩ := gB_some hF
        obtain ⟨k_3, ek_3⟩ : ∃ k, k = Int32.toNatClampNeg x1 := ⟨_, rfl⟩
        rw [← ek_3] at hF
        refine r_all (k := k_3) hx hb hK hW hi0 hin_2 ek_3.symm dX2_giveLanes_15 ?_
        refine lv_astore_n (lv' := [(2, .ref (gA X i0 (4 + k_3))), (0, .ref (gA X i0 0)), (1, .int x1)]) hx hb dX2_giveLanes_16 rfl hl (by decide) rfl (fun ls hl => ?_)
        refine lv_aload_n hx hb dX2_giveLanes_17 rfl (lv_at hl 0 rfl) ?_
        refine rg_X10_scratched hx hb hts inX10 hown hK hW hi0 (vp_lt2 hin_2 ek_3.symm) q19 dX2_giveLanes_18 ?_
        refine lv_if_ne (tgt := 40) hx hb dX2_giveLanes_21 (by decide) (fun hc_4 => ?_) (fun hc_4 => ?_)
        · replace hF := gF hc_4 hF
          obtain ⟨x1_5, ex1_5, hF⟩ := gS_some hF
          refine lv_iinc (v := x1_5) (lv' := [(1, .int x1_5), (2, .ref (gA X i0 (4 + k_3))), (0, .ref (gA X i0 0))]) hx hb dX2_giveLanes_40 hl (k := 2) rfl (by rw [ex1_5]; rfl) (by decide) rfl (fun ls hl => ?_)
          refine lv_goto (tgt := 2) hx hb dX2_giveLanes_43 (by decide) ?_
          exact ih2 w i0 x1_5 hi0 ls (lv_sub hl [2, 0] rfl) hF H locs hW hL
        · replace hF := gT hc_4 hF
          refine lv_aload_n hx hb dX2_giveLanes_24 rfl (lv_at hl 0 rfl) ?_
          refine lv_aload_n hx hb dX2_giveLanes_25 rfl (lv_at hl 1 rfl) ?_
          refine lv_aload_n hx hb dX2_giveLanes_26 rfl (lv_at hl 0 rfl) ?_
          obtain ⟨v_7, hq_6, hF⟩ := gP_some hF
          refine g_Si (As := [.ref (gA X i0 0), .ref (gA X i0 (4 + k_3))]) (rest := [.ref (gA X i0 (4 + k_3))]) ⟨hx, hb, hml, hown, hts⟩ hK hW hL hl.1 (c_X2_rankInHeat l X w i0 hi0 i0 hi0 k_3 (vp_lt2 hin_2 ek_3.symm) v_7 hq_6) k65 rfl rfl (Nat.le_of_ble_eq_true rfl) dX2_giveLanes_27 ⟨Nat.le_of_ble_eq_true rfl, Nat.le_of_ble_eq_true rfl⟩ (fun H locs hW hL => ?_)
          refine lv_aload_n hx hb dX2_giveLanes_30 rfl (lv_at hl 1 rfl) ?_
          obtain ⟨v_9, hq_8, hF⟩ := gP_some hF
          refine g_Vi (As := []) (rest := [.int v_7, .ref (gA X i0 (4 + k_3))]) ⟨hx, hb, hml, hown, hts⟩ hK hW hL hl.1 (gok_m hi0 (by decide)) (gE_m0 hi0) rfl (c_X5_lanes l X w i0 hi0 v_9 hq_8) k32 rfl rfl (Nat.le_of_ble_eq_true rfl) dX2_giveLanes_31 ⟨Nat.le_of_ble_eq_true rfl, Nat.le_of_ble_eq_true rfl⟩ (fun H locs hW hL => ?_)
          obtain ⟨v_11, hq_10, hF⟩ := gP_some hF
          refine g_Si (As := [.int v_7, .int v_9]) (rest := [.ref (gA X i0 (4 + k_3))]) ⟨hx, hb, hml, hown, hts⟩ hK hW hL hl.1 (c_X4_ofRank l X w v_7 v_9 v_11 hq_10) k69 rfl rfl (Nat.le_of_ble_eq_true rfl) dX2_giveLanes_34 ⟨Nat.le_of_ble_eq_true rfl, Nat.le_of_ble_eq_true rfl⟩ (fun H locs hW hL => ?_)
          obtain ⟨w_12, ew_12, hF⟩ := gS_some hF
          refine rp_X10_heatLane hx hb hts inX10 hown hK hW hL hi0 (vp_lt2 hin_2 ek_3.symm) q75 dX2_giveLanes_37 (fun H locs hW hL => ?_)
          rw [← ew_12] at hW
          obtain ⟨x1_13, ex1_13, hF⟩ := gS_some hF
          refine lv_iinc (v := x1_13) (lv' := [(1, .int x1_13), (2, .ref (gA X i0 (4 + k_3))), (0, .ref (gA X i0 0))]) hx hb dX2_giveLanes_40 hl (k := 2) rfl (by rw [ex1_13]; rfl) (by decide) rfl (fun ls hl => ?_)
          refine lv_goto (tgt := 2) hx hb dX2_giveLanes_43 (by decide) ?_
          exact ih2 w_12 i0 x1_13 hi0 ls (lv_sub hl [2, 0] rfl) hF H locs hW hL
  rw [F_X2_giveLanes] at hF
  obtain ⟨locs, hlocs⟩ : ∃ locs : List Loc, locs = [] := ⟨_, rfl⟩
  rw [← hlocs] at hL ⊢
  refine lv_iconst (v := 0) hx hb dX2_giveLanes_0 (by decide) ?_
  refine lv_istore_n (lv' := [(1, .int 0), (0, .ref (gA X i0 0))]) hx hb dX2_giveLanes_1 rfl hl (by decide) rfl (fun ls hl => ?_)
  exact L_2 gFU w i0 0 hi0 ls (lv_sub hl [1, 0] rfl) hF H locs hW hL
abbrev rmX2_heatsFor : Room := { frames := 0, cells := 0, slots := 0, locals := 0 }
abbrev wsX2_heatsFor : List Cond := gws yX2_heatsFor cX2_heatsFor 2 (some .int)
set_option maxHeartbeats 4000000 in
set_option maxRecDepth 100000 in
theorem c_X2_heatsFor (l : Launch) (X : gX) (w : gWd) (x0 : Int32) (x1 : Int32) (r : Int32) (hF : F_X2_heatsFor w x0 x1 = some r) : Met l yX2_heatsFor wsX2_heatsFor rmX2_heatsFor (gPc X [.int x0, .int x1] w) (gQi X r w) 0 0 (gFr X) := by
  refine g_ofW (cc := cX2_heatsFor) (maxL := 2) (ret := (some .int)) (by decide) rfl (Nat.le_of_ble_eq_true rfl) (fun p e s m args below meth c ls H hx hb hr hts hown hlocks hml hK hl hW => ?_)
  have hl : lv_has ls 2 [(0, .int x0), (1, .int x1)] := hl
  have hown : s.vm.findClass RX2 = some m.cls := hown
  have hL : gLo X [] := gLo_nil
  show W p l e rmX2_heatsFor s m args below meth c H [] 0 0 _ _
  rw [F_X2_heatsFor] at hF
  obtain ⟨locs, hlocs⟩ : ∃ locs : List Loc, locs = [] := ⟨_, rfl⟩
  rw [← hlocs] at hL ⊢
  refine lv_iload_n hx hb dX2_heatsFor_0 rfl (lv_at hl 1 rfl) ?_
  refine lv_iconst (v := 1) hx hb dX2_heatsFor_1 (by decide) ?_
  refine lv_icmp_ge (tgt := 9) hx hb dX2_heatsFor_2 (by decide) (fun hc_1 => ?_) (fun hc_1 => ?_)
  · replace hF := gT hc_1 hF
    refine lv_iload_n hx hb dX2_heatsFor_9 rfl (lv_at hl 0 rfl) ?_
    refine lv_iload_n hx hb dX2_heatsFor_10 rfl (lv_at hl 1 rfl) ?_
    refine lv_iadd hx hb dX2_heatsFor_11 ?_
    refine lv_iconst (v := 1) hx hb dX2_heatsFor_12 (by decide) ?_
    refine lv_isub hx hb dX2_heatsFor_13 ?_
    refine lv_iload_n hx hb dX2_heatsFor_14 rfl (lv_at hl 1 rfl) ?_
    obtain ⟨hd_2, hF⟩ := gD_some hF
    refine lv_idiv hx hb dX2_heatsFor_15 hd_2 ?_
    exact g_ri hx hb hr hlocks hW hL (Option.some.inj hF) dX2_heatsFor_16
  · replace hF := gF hc_1 hF
    refine lv_iconst (v := 0) hx hb dX2_heatsFor_5 (by decide) ?_
    refine lv_goto (tgt := 16) hx hb dX2_heatsFor_6 (by decide) ?_
    exact g_ri hx hb hr hlocks hW hL (Option.some.inj hF) dX2_heatsFor_16
abbrev rmX2_heatOfRank : Room := { frames := 0, cells := 0, slots := 0, locals := 0 }
abbrev wsX2_heatOfRank : List Cond := gws yX2_heatOfRank cX2_heatOfRank 3 (some .int)
set_option maxHeartbeats 4000000 in
set_option maxRecDepth 100000 in
theorem c_X2_heatOfRank (l : Launch) (X : gX) (w : gWd) (x0 : Int32) (x1 : Int32) (x2 : Int32) (r : Int32) (hF : F_X2_heatOfRank w x0 x1 x2 = some r) : Met l yX2_heatOfRank wsX2_heatOfRank rmX2_heatOfRank (gPc X [.int x0, .int x1, .int x2] w) (gQi X r w) 0 0 (gFr X) := by
  refine g_ofW (cc := cX2_heatOfRank) (maxL := 3) (ret := (some .int)) (by decide) rfl (Nat.le_of_ble_eq_true rfl) (fun p e s m args below meth c ls H hx hb hr hts hown hlocks hml hK hl hW => ?_)
  have hl : lv_has ls 3 [(0, .int x0), (1, .int x1), (2, .int x2)] := hl
  have hown : s.vm.findClass RX2 = some m.cls := hown
  have hL : gLo X [] := gLo_nil
  show W p l e rmX2_heatOfRank s m args below meth c H [] 0 0 _ _
  have B_20 : ∀   (ls : Array Slot) (hl : lv_has ls 3 []) (hF : F_X2_heatOfRank_20 w = some r) (H : Heap) (locs : List Loc) (hW : gWo X 252 (gE X w) H) (hL : gLo X locs), W p l e rmX2_heatOfRank s m args below meth c H locs 0 0 (MQ below (gQi X r w) args s 0 0 (gFr X)) (F0 m 20 ls []) := by
    intro ls hl hF H locs hW hL
    rw [F_X2_heatOfRank_20] at hF
    refine lv_iconst (v := 0) hx hb dX2_heatOfRank_20 (by decide) ?_
    exact g_ri hx hb hr hlocks hW hL (Option.some.inj hF) dX2_heatOfRank_21
  rw [F_X2_heatOfRank] at hF
  obtain ⟨locs, hlocs⟩ : ∃ locs : List Loc, locs = [] := ⟨_, rfl⟩
  rw [← hlocs] at hL ⊢
  refine lv_iload_n hx hb dX2_heatOfRank_0 rfl (lv_at hl 1 rfl) ?_
  refine lv_iconst (v := 3) hx hb dX2_heatOfRank_1 (by decide) ?_
  refine lv_icmp_ge (tgt := 22) hx hb dX2_heatOfRank_2 (by decide) (fun hc_1 => ?_) (fun hc_1 => ?_)
  · replace hF := gT hc_1 hF
    refine lv_iload_n hx hb dX2_heatOfRank_22 rfl (lv_at hl 0 rfl) ?_
    refine lv_iconst (v := 3) hx hb dX2_heatOfRank_23 (by decide) ?_
    refine lv_iload_n hx hb dX2_heatOfRank_24 rfl (lv_at hl 2 rfl) ?_
    refine lv_imul hx hb dX2_heatOfRank_25 ?_
    refine lv_icmp_ge (tgt := 37) hx hb dX2_heatOfRank_26 (by decide) (fun hc_2 => ?_) (fun hc_2 => ?_)
    · replace hF := gT hc_2 hF
      refine lv_iload_n hx hb dX2_heatOfRank_37 rfl (lv_at hl 2 rfl) ?_
      refine lv_iconst (v := 1) hx hb dX2_heatOfRank_38 (by decide) ?_
      refine lv_icmp_ge (tgt := 46) hx hb dX2_heatOfRank_39 (by decide) (fun hc_3 => ?_) (fun hc_3 => ?_)
      · replace hF := gT hc_3 hF
        refine lv_iload_n hx hb dX2_heatOfRank_46 rfl (lv_at hl 1 rfl) ?_
        refine lv_iconst (v := 1) hx hb dX2_heatOfRank_47 (by decide) ?_
        refine lv_isub hx hb dX2_heatOfRank_48 ?_
        refine lv_iload_n hx hb dX2_heatOfRank_49 rfl (lv_at hl 0 rfl) ?_
        refine lv_iload_n hx hb dX2_heatOfRank_50 rfl (lv_at hl 2 rfl) ?_
        obtain ⟨hd_4, hF⟩ := gD_some hF
        refine lv_idiv hx hb dX2_heatOfRank_51 hd_4 ?_
        refine lv_isub hx hb dX2_heatOfRank_52 ?_
        exact g_ri hx hb hr hlocks hW hL (Option.some.inj hF) dX2_heatOfRank_53
      · replace hF := gF hc_3 hF
        refine lv_iconst (v := 0) hx hb dX2_heatOfRank_42 (by decide) ?_
        refine lv_goto (tgt := 53) hx hb dX2_heatOfRank_43 (by decide) ?_
        exact g_ri hx hb hr hlocks hW hL (Option.some.inj hF) dX2_heatOfRank_53
    · replace hF := gF hc_2 hF
      refine lv_iload_n hx hb dX2_heatOfRank_29 rfl (lv_at hl 1 rfl) ?_
      refine lv_iconst (v := 1) hx hb dX2_heatOfRank_30 (by decide) ?_
      refine lv_isub hx hb dX2_heatOfRank_31 ?_
      refine lv_iload_n hx hb dX2_heatOfRank_32 rfl (lv_at hl 0 rfl) ?_
      refine lv_iconst (v := 3) hx hb dX2_heatOfRank_33 (by decide) ?_
      refine lv_irem hx hb dX2_heatOfRank_34 (by decide) ?_
      refine lv_isub hx hb dX2_heatOfRank_35 ?_
      exact g_ri hx hb hr hlocks hW hL (Option.some.inj hF) dX2_heatOfRank_36
  · replace hF := gF hc_1 hF
    refine lv_iload_n hx hb dX2_heatOfRank_5 rfl (lv_at hl 1 rfl) ?_
    refine lv_iconst (v := 2) hx hb dX2_heatOfRank_6 (by decide) ?_
    refine lv_icmp_ne (tgt := 20) hx hb dX2_heatOfRank_7 (by decide) (fun hc_5 => ?_) (fun hc_5 => ?_)
    · replace hF := gF hc_5 hF
      exact B_20  ls (lv_sub hl [] rfl) hF H locs hW hL
    · replace hF := gT hc_5 hF
      refine lv_iload_n hx hb dX2_heatOfRank_10 rfl (lv_at hl 0 rfl) ?_
      refine lv_iconst (v := 2) hx hb dX2_heatOfRank_11 (by decide) ?_
      refine lv_irem hx hb dX2_heatOfRank_12 (by decide) ?_
      refine lv_if_ne (tgt := 20) hx hb dX2_heatOfRank_13 (by decide) (fun hc_6 => ?_) (fun hc_6 => ?_)
      · replace hF := gF hc_6 hF
        exact B_20  ls (lv_sub hl [] rfl) hF H locs hW hL
      · replace hF := gT hc_6 hF
        refine lv_iconst (v := 1) hx hb dX2_heatOfRank_16 (by decide) ?_
        refine lv_goto (tgt := 21) hx hb dX2_heatOfRank_17 (by decide) ?_
        exact g_ri hx hb hr hlocks hW hL (Option.some.inj hF) dX2_heatOfRank_21
abbrev rmX5_rankByEntry : Room := { frames := 1, cells := 0, slots := 0, locals := 21 }
abbrev wsX5_rankByEntry : List Cond := gws yX5_rankByEntry cX5_rankByEntry 4 (some .int)
set_option maxHeartbeats 4000000 in
set_option maxRecDepth 100000 in
theorem c_X5_rankByEntry (l : Launch) (X : gX) (w : gWd) (i0 : Nat) (hi0 : i0 < 7) (i1 : Nat) (hi1 : i1 < 7) (n1 : Nat) (hn1 : n1 < 30) (r : Int32) (hF : F_X5_rankByEntry w i0 i1 n1 = some r) : Met l yX5_rankByEntry wsX5_rankByEntry rmX5_rankByEntry (gPc X [.ref (gA X i0 0), .ref (gA X i1 (4 + n1))] w) (gQi X r w) 0 0 (gFr X) := by
  refine g_ofW (cc := cX5_rankByEntry) (maxL := 4) (ret := (some .int)) (by decide) rfl (Nat.le_of_ble_eq_true rfl) (fun p e s m args below meth c ls H hx hb hr hts hown hlocks hml hK hl hW => ?_)
  have hl : lv_has ls 4 [(0, .ref (gA X i0 0)), (1, .ref (gA X i1 (4 + n1)))] := hl
  have hown : s.vm.findClass RX5 = some m.cls := hown
  have hL : gLo X [] := gLo_nil
  show W p l e rmX5_rankByEntry s m args below meth c H [] 0 0 _ _
  have inX5 : ∀ w ∈ wsX50, w ∈ wsX5_rankByEntry := fun w h => List.mem_cons_of_mem _ (inlX5 w h)
  have inX10 : ∀ w ∈ wsX100, w ∈ wsX5_rankByEntry := fun w h => List.mem_cons_of_mem _ (inlX10 w h)
  have q17 := hts _ (List.mem_cons_of_mem _ wq_X5_17)
  have q32 := hts _ (List.mem_cons_of_mem _ wq_X5_32)
  have q61 := hts _ (List.mem_cons_of_mem _ wq_X5_61)
  have k65 : CallW rmX5_rankByEntry s args RX5 RX10 65 yX10_aheadByEntry cX10_aheadByEntry 2 (some .boolean) wsX10_aheadByEntry rmX10_aheadByEntry 0 0 1 := cwV 1 hts (gGoodV (fun w h => List.mem_cons_of_mem _ h) wk_X5_65) rfl rfl rfl (by decide +kernel) ⟨Nat.le_of_ble_eq_true rfl, Nat.le_of_ble_eq_true rfl⟩
  have L_4 : ∀ (fu : Nat) (i0 : Nat) (i1 : Nat) (n1 : Nat) (x2 : Int32) (x3 : Int32) (hi0 : i0 < 7) (hi1 : i1 < 7) (hn1 : n1 < 30) (ls : Array Slot) (hl : lv_has ls 4 [(0, .ref (gA X i0 0)), (1, .ref (gA X i1 (4 + n1))), (2, .int x2), (3, .int x3)]) (hF : F_X5_rankByEntry_4 fu w i0 i1 n1 x2 x3 = some r) (H : Heap) (locs : List Loc) (hW : gWo X 252 (gE X w) H) (hL : gLo X locs), W p l e rmX5_rankByEntry s m args below meth c H locs 0 0 (MQ below (gQi X r w) args s 0 0 (gFr X)) (F0 m 4 ls []) := by
    intro fu
    induction fu with
    | zero => intro i0 i1 n1 x2 x3 hi0 hi1 hn1 ls hl hF H locs hW hL; rw [F_X5_rankByEntry_4_z] at hF; cases hF
    | succ fu4 ih4 =>
      intro i0 i1 n1 x2 x3 hi0 hi1 hn1 ls hl hF H locs hW hL
      rw [F_X5_rankByEntry_4_s] at hF
      refine lv_iload_n hx hb dX5_rankByEntry_4 rfl (lv_at hl 3 rfl) ?_
      refine lv_aload_n hx hb dX5_rankByEntry_5 rfl (lv_at hl 0 rfl) ?_
      refine rg_X5_size hx hb hts inX5 hown hK hW hi0 q32 dX5_rankByEntry_6 ?_
      refine lv_icmp_ge (tgt := 46) hx hb dX5_rankByEntry_9 (by decide) (fun hc_1 => ?_) (fun hc_1 => ?_)
      · replace hF := gT hc_1 hF
        refine lv_iload_n hx hb dX5_rankByEntry_46 rfl (lv_at hl 2 rfl) ?_
        exact g_ri hx hb hr hlocks hW hL (Option.some.inj hF) dX5_rankByEntry_47
      · replace hF := gF hc_1 hF
        refine lv_aload_n hx hb dX5_rankByEntry_12 rfl (lv_at hl 0 rfl) ?_
        refine rg_X5_all hx hb hts inX5 hown hK hW hi0 q17 dX5_rankByEntry_13 ?_
        refine lv_iload_n hx hb dX5_rankByEntry_16 rfl (lv_at hl 3 rfl) ?_
        obtain ⟨hin_2, hF⟩ := gB_some hF
        obtain ⟨k_3, ek_3⟩ : ∃ k, k = Int32.toNatClampNeg x3 := ⟨_, rfl⟩
        rw [← ek_3] at hF
        refine r_all (k := k_3) hx hb hK hW hi0 hin_2 ek_3.symm dX5_rankByEntry_17 ?_
        refine rg_X10_scratched hx hb hts inX10 hown hK hW hi0 (vp_lt2 hin_2 ek_3.symm) q61 dX5_rankByEntry_18 ?_
        refine lv_if_ne (tgt := 40) hx hb dX5_rankByEntry_21 (by decide) (fun hc_4 => ?_) (fun hc_4 => ?_)
        · replace hF := gF hc_4 hF
          obtain ⟨x3_5, ex3_5, hF⟩ := gS_some hF
          refine lv_iinc (v := x3_5) (lv' := [(3, .int x3_5), (0, .ref (gA X i0 0)), (1, .ref (gA X i1 (4 + n1))), (2, .int x2)]) hx hb dX5_rankByEntry_40 hl (k := 3) rfl (by rw [ex3_5]; rfl) (by decide) rfl (fun ls hl => ?_)
          refine lv_goto (tgt := 4) hx hb dX5_rankByEntry_43 (by decide) ?_
          exact ih4 i0 i1 n1 x2 x3_5 hi0 hi1 hn1 ls (lv_sub hl [1, 2, 3, 0] rfl) hF H locs hW hL
        · replace hF := gT hc_4 hF
          refine lv_aload_n hx hb dX5_rankByEntry_24 rfl (lv_at hl 0 rfl) ?_
          refine rg_X5_all hx hb hts inX5 hown hK hW hi0 q17 dX5_rankByEntry_25 ?_
          refine lv_iload_n hx hb dX5_rankByEntry_28 rfl (lv_at hl 3 rfl) ?_
          obtain ⟨hin_6, hF⟩ := gB_some hF
          obtain ⟨k_7, ek_7⟩ : ∃ k, k = Int32.toNatClampNeg x3 := ⟨_, rfl⟩
          rw [← ek_7] at hF
          refine r_all (k := k_7) hx hb hK hW hi0 hin_6 ek_7.symm dX5_rankByEntry_29 ?_
          refine lv_aload_n hx hb dX5_rankByEntry_30 rfl (lv_at hl 1 rfl) ?_
          obtain ⟨v_9, hq_8, hF⟩ := gP_some hF
          refine g_Vi (As := [.ref (gA X i1 (4 + n1))]) (rest := []) ⟨hx, hb, hml, hown, hts⟩ hK hW hL hl.1 (gok_s hi0 (vp_lt2 hin_6 ek_7.symm)) (gE_ms hi0 k_7) rfl (c_X10_aheadByEntry l X w i0 hi0 k_7 (vp_lt2 hin_6 ek_7.symm) i1 hi1 n1 hn1 v_9 hq_8) k65 rfl rfl (Nat.le_of_ble_eq_true rfl) dX5_rankByEntry_31 ⟨Nat.le_of_ble_eq_true rfl, Nat.le_of_ble_eq_true rfl⟩ (fun H locs hW hL => ?_)
          refine lv_if_eq (tgt := 40) hx hb dX5_rankByEntry_34 (by decide) (fun hc_10 => ?_) (fun hc_10 => ?_)
          · replace hF := gT hc_10 hF
            obtain ⟨x3_11, ex3_11, hF⟩ := gS_some hF
            refine lv_iinc (v := x3_11) (lv' := [(3, .int x3_11), (0, .ref (gA X i0 0)), (1, .ref (gA X i1 (4 + n1))), (2, .int x2)]) hx hb dX5_rankByEntry_40 hl (k := 3) rfl (by rw [ex3_11]; rfl) (by decide) rfl (fun ls hl => ?_)
            refine lv_goto (tgt := 4) hx hb dX5_rankByEntry_43 (by decide) ?_
            exact ih4 i0 i1 n1 x2 x3_11 hi0 hi1 hn1 ls (lv_sub hl [1, 2, 3, 0] rfl) hF H locs hW hL
          · replace hF := gF hc_10 hF
            obtain ⟨x2_12, ex2_12, hF⟩ := gS_some hF
            refine lv_iinc (v := x2_12) (lv' := [(2, .int x2_12), (0, .ref (gA X i0 0)), (1, .ref (gA X i1 (4 + n1))), (3, .int x3)]) hx hb dX5_rankByEntry_37 hl (k := 2) rfl (by rw [ex2_12]; rfl) (by decide) rfl (fun ls hl => ?_)
            obtain ⟨x3_13, ex3_13, hF⟩ := gS_some hF
            refine lv_iinc (v := x3_13) (lv' := [(3, .int x3_13), (2, .int x2_12), (0, .ref (gA X i0 0)), (1, .ref (gA X i1 (4 + n1)))]) hx hb dX5_rankByEntry_40 hl (k := 3) rfl (by rw [ex3_13]; rfl) (by decide) rfl (fun ls hl => ?_)
            refine lv_goto (tgt := 4) hx hb dX5_rankByEntry_43 (by decide) ?_
            exact ih4 i0 i1 n1 x2_12 x3_13 hi0 hi1 hn1 ls (lv_sub hl [2, 3, 1, 0] rfl) hF H locs hW hL
  rw [F_X5_rankByEntry] at hF
  obtain ⟨locs, hlocs⟩ : ∃ locs : List Loc, locs = [] := ⟨_, rfl⟩
  rw [← hlocs] at hL ⊢
  refine lv_iconst (v := 0) hx hb dX5_rankByEntry_0 (by decide) ?_
  refine lv_istore_n (lv' := [(2, .int 0), (0, .ref (gA X i0 0)), (1, .ref (gA X i1 (4 + n1)))]) hx hb dX5_rankByEntry_1 rfl hl (by decide) rfl (fun ls hl => ?_)
  refine lv_iconst (v := 0) hx hb dX5_rankByEntry_2 (by decide) ?_
  refine lv_istore_n (lv' := [(3, .int 0), (2, .int 0), (0, .ref (gA X i0 0)), (1, .ref (gA X i1 (4 + n1)))]) hx hb dX5_rankByEntry_3 rfl hl (by decide) rfl (fun ls hl => ?_)
  exact L_4 gFU i0 i1 n1 0 0 hi0 hi1 hn1 ls (lv_sub hl [2, 3, 1, 0] rfl) hF H locs hW hL
abbrev rmX2_spread : Room := { frames := 2, cells := 0, slots := 0, locals := 44 }
abbrev wsX2_spread : List Cond := gws yX2_spread cX2_spread 3 none
set_option maxHeartbeats 4000000 in
set_option maxRecDepth 100000 in
theorem c_X2_spread (l : Launch) (X : gX) (w : gWd) (i0 : Nat) (hi0 : i0 < 7) (w' : gWd) (hF : F_X2_spread w i0 = some w') : Met l yX2_spread wsX2_spread rmX2_spread (gPc X [.ref (gA X i0 0)] w) (gQv X w') 0 0 (gFr X) := by
  refine g_ofW (cc := cX2_spread) (maxL := 3) (ret := none) (by decide) rfl (Nat.le_of_ble_eq_true rfl) (fun p e s m args below meth c ls H hx hb hr hts hown hlocks hml hK hl hW => ?_)
  have hl : lv_has ls 3 [(0, .ref (gA X i0 0))] := hl
  have hown : s.vm.findClass RX2 = some m.cls := hown
  have hL : gLo X [] := gLo_nil
  show W p l e rmX2_spread s m args below meth c H [] 0 0 _ _
  have inX5 : ∀ w ∈ wsX50, w ∈ wsX2_spread := fun w h => List.mem_cons_of_mem _ (inlX5 w h)
  have inX10 : ∀ w ∈ wsX100, w ∈ wsX2_spread := fun w h => List.mem_cons_of_mem _ (inlX10 w h)
  have q15 := hts _ (List.mem_cons_of_mem _ wq_X2_15)
  have q19 := hts _ (List.mem_cons_of_mem _ wq_X2_19)
  have q29 := hts _ (List.mem_cons_of_mem _ wq_X2_29)
  have q42 := hts _ (List.mem_cons_of_mem _ wq_X2_42)
  have q9 := hts _ (List.mem_cons_of_mem _ wq_X2_9)
  have k25 : CallW rmX2_spread s args RX2 RX5 25 yX5_rankByEntry cX5_rankByEntry 4 (some .int) wsX5_rankByEntry rmX5_rankByEntry 0 0 1 := cwV 1 hts (gGoodV (fun w h => List.mem_cons_of_mem _ h) wk_X2_25) rfl rfl rfl (by decide +kernel) ⟨Nat.le_of_ble_eq_true rfl, Nat.le_of_ble_eq_true rfl⟩
  have k32 : CallW rmX2_spread s args RX2 RX5 32 yX5_lanes cX5_lanes 1 (some .int) wsX5_lanes rmX5_lanes 0 0 0 := cwV 0 hts (gGoodV (fun w h => List.mem_cons_of_mem _ h) wk_X2_32) rfl rfl rfl (by decide +kernel) ⟨Nat.le_of_ble_eq_true rfl, Nat.le_of_ble_eq_true rfl⟩
  have k36 : CallB rmX2_spread s args RX2 36 yX2_heatOfRank cX2_heatOfRank 3 (some .int) wsX2_heatOfRank rmX2_heatOfRank 0 0 3 ∧ (Cond.static yX2_heatOfRank).before args s = true := va_cwS 3 hts (gGoodS (fun w h => List.mem_cons_of_mem _ h) wk_X2_36) rfl rfl rfl (by decide +kernel) ⟨Nat.le_of_ble_eq_true rfl, Nat.le_of_ble_eq_true rfl⟩
  have L_2 : ∀ (fu : Nat) (w : gWd) (i0 : Nat) (x1 : Int32) (hi0 : i0 < 7) (ls : Array Slot) (hl : lv_has ls 3 [(0, .ref (gA X i0 0)), (1, .int x1)]) (hF : F_X2_spread_2 fu w i0 x1 = some w') (H : Heap) (locs : List Loc) (hW : gWo X 252 (gE X w) H) (hL : gLo X locs), W p l e rmX2_spread s m args below meth c H locs 0 0 (MQ below (gQv X w') args s 0 0 (gFr X)) (F0 m 2 ls []) := by
    intro fu
    induction fu with
    | zero => intro w i0 x1 hi0 ls hl hF H locs hW hL; rw [F_X2_spread_2_z] at hF; cases hF
    | succ fu2 ih2 =>
      intro w i0 x1 hi0 ls hl hF H locs hW hL
      rw [F_X2_spread_2_s] at hF
      refine lv_iload_n hx hb dX2_spread_2 rfl (lv_at hl 1 rfl) ?_
      refine lv_aload_n hx hb dX2_spread_3 rfl (lv_at hl 0 rfl) ?_
      refine rg_X5_size hx hb hts inX5 hown hK hW hi0 q9 dX2_spread_4 ?_
      refine lv_icmp_ge (tgt := 50) hx hb dX2_spread_7 (by decide) (fun hc_1 => ?_) (fun hc_1 => ?_)
      · replace hF := gT hc_1 hF
        exact g_rv hx hb hr hlocks (gW1 hF hW) hL dX2_spread_50
      · replace hF := gF hc_1 hF
        refine lv_aload_n hx hb dX2_spread_10 rfl (lv_at hl 0 rfl) ?_
        refine rg_X5_all hx hb hts inX5 hown hK hW hi0 q15 dX2_spread_11 ?_
        refine lv_iload_n hx hb dX2_spread_14 rfl (lv_at hl 1 rfl) ?_
        obtain ⟨hin_2, hF⟩ := gB_some hF
        obtain ⟨k_3, ek_3⟩ : ∃ k, k = Int32.toNatClampNeg x1 := ⟨_, rfl⟩
        rw [← ek_3] at hF
        refine r_all (k := k_3) hx hb hK hW hi0 hin_2 ek_3.symm dX2_spread_15 ?_
        refine lv_astore_n (lv' := [(2, .ref (gA X i0 (4 + k_3))), (0, .ref (gA X i0 0)), (1, .int x1)]) hx hb dX2_spread_16 rfl hl (by decide) rfl (fun ls hl => ?_)
        refine lv_aload_n hx hb dX2_spread_17 rfl (lv_at hl 0 rfl) ?_
        refine rg_X10_scratched hx hb hts inX10 hown hK hW hi0 (vp_lt2 hin_2 ek_3.symm) q19 dX2_spread_18 ?_
        refine lv_if_ne (tgt := 44) hx hb dX2_spread_21 (by decide) (fun hc_4 => ?_) (fun hc_4 => ?_)
        · replace hF := gF hc_4 hF
          obtain ⟨x1_5, ex1_5, hF⟩ := gS_some hF
          refine lv_iinc (v := x1_5) (lv' := [(1, .int x1_5), (2, .ref (gA X i0 (4 + k_3))), (0, .ref (gA X i0 0))]) hx hb dX2_spread_44 hl (k := 2) rfl (by rw [ex1_5]; rfl) (by decide) rfl (fun ls hl => ?_)
          refine lv_goto (tgt := 2) hx hb dX2_spread_47 (by decide) ?_
          exact ih2 w i0 x1_5 hi0 ls (lv_sub hl [2, 0] rfl) hF H locs hW hL
        · replace hF := gT hc_4 hF
          refine lv_aload_n hx hb dX2_spread_24 rfl (lv_at hl 0 rfl) ?_
          refine lv_aload_n hx hb dX2_spread_25 rfl (lv_at hl 1 rfl) ?_
          refine lv_aload_n hx hb dX2_spread_26 rfl (lv_at hl 0 rfl) ?_
          obtain ⟨v_7, hq_6, hF⟩ := gP_some hF
          refine g_Vi (As := [.ref (gA X i0 (4 + k_3))]) (rest := [.ref (gA X i0 (4 + k_3))]) ⟨hx, hb, hml, hown, hts⟩ hK hW hL hl.1 (gok_m hi0 (by decide)) (gE_m0 hi0) rfl (c_X5_rankByEntry l X w i0 hi0 i0 hi0 k_3 (vp_lt2 hin_2 ek_3.symm) v_7 hq_6) k25 rfl rfl (Nat.le_of_ble_eq_true rfl) dX2_spread_27 ⟨Nat.le_of_ble_eq_true rfl, Nat.le_of_ble_eq_true rfl⟩ (fun H locs hW hL => ?_)
          refine lv_aload_n hx hb dX2_spread_30 rfl (lv_at hl 1 rfl) ?_
          refine rg_X5_heats hx hb hts inX5 hown hK hW hi0 q29 dX2_spread_31 ?_
          refine lv_aload_n hx hb dX2_spread_34 rfl (lv_at hl 1 rfl) ?_
          obtain ⟨v_9, hq_8, hF⟩ := gP_some hF
          refine g_Vi (As := []) (rest := [.int (w i0 0 5), .int v_7, .ref (gA X i0 (4 + k_3))]) ⟨hx, hb, hml, hown, hts⟩ hK hW hL hl.1 (gok_m hi0 (by decide)) (gE_m0 hi0) rfl (c_X5_lanes l X w i0 hi0 v_9 hq_8) k32 rfl rfl (Nat.le_of_ble_eq_true rfl) dX2_spread_35 ⟨Nat.le_of_ble_eq_true rfl, Nat.le_of_ble_eq_true rfl⟩ (fun H locs hW hL => ?_)
          obtain ⟨v_11, hq_10, hF⟩ := gP_some hF
          refine g_Si (As := [.int v_7, .int (w i0 0 5), .int v_9]) (rest := [.ref (gA X i0 (4 + k_3))]) ⟨hx, hb, hml, hown, hts⟩ hK hW hL hl.1 (c_X2_heatOfRank l X w v_7 ((w i0 0 5)) v_9 v_11 hq_10) k36 rfl rfl (Nat.le_of_ble_eq_true rfl) dX2_spread_38 ⟨Nat.le_of_ble_eq_true rfl, Nat.le_of_ble_eq_true rfl⟩ (fun H locs hW hL => ?_)
          obtain ⟨w_12, ew_12, hF⟩ := gS_some hF
          refine rp_X10_heat hx hb hts inX10 hown hK hW hL hi0 (vp_lt2 hin_2 ek_3.symm) q42 dX2_spread_41 (fun H locs hW hL => ?_)
          rw [← ew_12] at hW
          obtain ⟨x1_13, ex1_13, hF⟩ := gS_some hF
          refine lv_iinc (v := x1_13) (lv' := [(1, .int x1_13), (2, .ref (gA X i0 (4 + k_3))), (0, .ref (gA X i0 0))]) hx hb dX2_spread_44 hl (k := 2) rfl (by rw [ex1_13]; rfl) (by decide) rfl (fun ls hl => ?_)
          refine lv_goto (tgt := 2) hx hb dX2_spread_47 (by decide) ?_
          exact ih2 w_12 i0 x1_13 hi0 ls (lv_sub hl [2, 0] rfl) hF H locs hW hL
  rw [F_X2_spread] at hF
  obtain ⟨locs, hlocs⟩ : ∃ locs : List Loc, locs = [] := ⟨_, rfl⟩
  rw [← hlocs] at hL ⊢
  refine lv_iconst (v := 0) hx hb dX2_spread_0 (by decide) ?_
  refine lv_istore_n (lv' := [(1, .int 0), (0, .ref (gA X i0 0))]) hx hb dX2_spread_1 rfl hl (by decide) rfl (fun ls hl => ?_)
  exact L_2 gFU w i0 0 hi0 ls (lv_sub hl [1, 0] rfl) hF H locs hW hL
abbrev rmX5_notScratched : Room := { frames := 0, cells := 0, slots := 0, locals := 0 }
abbrev wsX5_notScratched : List Cond := gws yX5_notScratched cX5_notScratched 3 (some .int)
set_option maxHeartbeats 4000000 in
set_option maxRecDepth 100000 in
theorem c_X5_notScratched (l : Launch) (X : gX) (w : gWd) (i0 : Nat) (hi0 : i0 < 7) (r : Int32) (hF : F_X5_notScratched w i0 = some r) : Met l yX5_notScratched wsX5_notScratched rmX5_notScratched (gPc X [.ref (gA X i0 0)] w) (gQi X r w) 0 0 (gFr X) := by
  refine g_ofW (cc := cX5_notScratched) (maxL := 3) (ret := (some .int)) (by decide) rfl (Nat.le_of_ble_eq_true rfl) (fun p e s m args below meth c ls H hx hb hr hts hown hlocks hml hK hl hW => ?_)
  have hl : lv_has ls 3 [(0, .ref (gA X i0 0))] := hl
  have hown : s.vm.findClass RX5 = some m.cls := hown
  have hL : gLo X [] := gLo_nil
  show W p l e rmX5_notScratched s m args below meth c H [] 0 0 _ _
  have inX5 : ∀ w ∈ wsX50, w ∈ wsX5_notScratched := fun w h => List.mem_cons_of_mem _ (inlX5 w h)
  have inX10 : ∀ w ∈ wsX100, w ∈ wsX5_notScratched := fun w h => List.mem_cons_of_mem _ (inlX10 w h)
  have q17 := hts _ (List.mem_cons_of_mem _ wq_X5_17)
  have q32 := hts _ (List.mem_cons_of_mem _ wq_X5_32)
  have q61 := hts _ (List.mem_cons_of_mem _ wq_X5_61)
  have L_4 : ∀ (fu : Nat) (i0 : Nat) (x1 : Int32) (x2 : Int32) (hi0 : i0 < 7) (ls : Array Slot) (hl : lv_has ls 3 [(0, .ref (gA X i0 0)), (1, .int x1), (2, .int x2)]) (hF : F_X5_notScratched_4 fu w i0 x1 x2 = some r) (H : Heap) (locs : List Loc) (hW : gWo X 252 (gE X w) H) (hL : gLo X locs), W p l e rmX5_notScratched s m args below meth c H locs 0 0 (MQ below (gQi X r w) args s 0 0 (gFr X)) (F0 m 4 ls []) := by
    intro fu
    induction fu with
    | zero => intro i0 x1 x2 hi0 ls hl hF H locs hW hL; rw [F_X5_notScratched_4_z] at hF; cases hF
    | succ fu4 ih4 =>
      intro i0 x1 x2 hi0 ls hl hF H locs hW hL
      rw [F_X5_notScratched_4_s] at hF
      refine lv_iload_n hx hb dX5_notScratched_4 rfl (lv_at hl 2 rfl) ?_
      refine lv_aload_n hx hb dX5_notScratched_5 rfl (lv_at hl 0 rfl) ?_
      refine rg_X5_size hx hb hts inX5 hown hK hW hi0 q32 dX5_notScratched_6 ?_
      refine lv_icmp_ge (tgt := 33) hx hb dX5_notScratched_9 (by decide) (fun hc_1 => ?_) (fun hc_1 => ?_)
      · replace hF := gT hc_1 hF
        refine lv_iload_n hx hb dX5_notScratched_33 rfl (lv_at hl 1 rfl) ?_
        exact g_ri hx hb hr hlocks hW hL (Option.some.inj hF) dX5_notScratched_34
      · replace hF := gF hc_1 hF
        refine lv_aload_n hx hb dX5_notScratched_12 rfl (lv_at hl 0 rfl) ?_
        refine rg_X5_all hx hb hts inX5 hown hK hW hi0 q17 dX5_notScratched_13 ?_
        refine lv_iload_n hx hb dX5_notScratched_16 rfl (lv_at hl 2 rfl) ?_
        obtain ⟨hin_2, hF⟩ := gB_some hF
        obtain ⟨k_3, ek_3⟩ : ∃ k, k = Int32.toNatClampNeg x2 := ⟨_, rfl⟩
        rw [← ek_3] at hF
        refine r_all (k := k_3) hx hb hK hW hi0 hin_2 ek_3.symm dX5_notScratched_17 ?_
        refine rg_X10_scratched hx hb hts inX10 hown hK hW hi0 (vp_lt2 hin_2 ek_3.symm) q61 dX5_notScratched_18 ?_
        refine lv_if_ne (tgt := 27) hx hb dX5_notScratched_21 (by decide) (fun hc_4 => ?_) (fun hc_4 => ?_)
        · replace hF := gF hc_4 hF
          obtain ⟨x2_5, ex2_5, hF⟩ := gS_some hF
          refine lv_iinc (v := x2_5) (lv' := [(2, .int x2_5), (0, .ref (gA X i0 0)), (1, .int x1)]) hx hb dX5_notScratched_27 hl (k := 2) rfl (by rw [ex2_5]; rfl) (by decide) rfl (fun ls hl => ?_)
          refine lv_goto (tgt := 4) hx hb dX5_notScratched_30 (by decide) ?_
          exact ih4 i0 x1 x2_5 hi0 ls (lv_sub hl [1, 2, 0] rfl) hF H locs hW hL
        · replace hF := gT hc_4 hF
          obtain ⟨x1_6, ex1_6, hF⟩ := gS_some hF
          refine lv_iinc (v := x1_6) (lv' := [(1, .int x1_6), (0, .ref (gA X i0 0)), (2, .int x2)]) hx hb dX5_notScratched_24 hl (k := 1) rfl (by rw [ex1_6]; rfl) (by decide) rfl (fun ls hl => ?_)
          obtain ⟨x2_7, ex2_7, hF⟩ := gS_some hF
          refine lv_iinc (v := x2_7) (lv' := [(2, .int x2_7), (1, .int x1_6), (0, .ref (gA X i0 0))]) hx hb dX5_notScratched_27 hl (k := 2) rfl (by rw [ex2_7]; rfl) (by decide) rfl (fun ls hl => ?_)
          refine lv_goto (tgt := 4) hx hb dX5_notScratched_30 (by decide) ?_
          exact ih4 i0 x1_6 x2_7 hi0 ls (lv_sub hl [2, 1, 0] rfl) hF H locs hW hL
  rw [F_X5_notScratched] at hF
  obtain ⟨locs, hlocs⟩ : ∃ locs : List Loc, locs = [] := ⟨_, rfl⟩
  rw [← hlocs] at hL ⊢
  refine lv_iconst (v := 0) hx hb dX5_notScratched_0 (by decide) ?_
  refine lv_istore_n (lv' := [(1, .int 0), (0, .ref (gA X i0 0))]) hx hb dX5_notScratched_1 rfl hl (by decide) rfl (fun ls hl => ?_)
  refine lv_iconst (v := 0) hx hb dX5_notScratched_2 (by decide) ?_
  refine lv_istore_n (lv' := [(2, .int 0), (1, .int 0), (0, .ref (gA X i0 0))]) hx hb dX5_notScratched_3 rfl hl (by decide) rfl (fun ls hl => ?_)
  exact L_4 gFU i0 0 0 hi0 ls (lv_sub hl [2, 1, 0] rfl) hF H locs hW hL
abbrev rmX1_drawHeats : Room := { frames := 3, cells := 0, slots := 0, locals := 67 }
abbrev wsX1_drawHeats : List Cond := gws yX1_drawHeats cX1_drawHeats 2 (some .int)
set_option maxHeartbeats 4000000 in
set_option maxRecDepth 100000 in
theorem c_X1_drawHeats (l : Launch) (X : gX) (w : gWd) (i0 : Nat) (hi0 : i0 < 7) (r : Int32) (w' : gWd) (hF : F_X1_drawHeats w i0 = some (r, w')) : Met l yX1_drawHeats wsX1_drawHeats rmX1_drawHeats (gPc X [.ref (gA X i0 0)] w) (gQi X r w') 0 0 (gFr X) := by
  refine g_ofW (cc := cX1_drawHeats) (maxL := 2) (ret := (some .int)) (by decide) rfl (Nat.le_of_ble_eq_true rfl) (fun p e s m args below meth c ls H hx hb hr hts hown hlocks hml hK hl hW => ?_)
  have hl : lv_has ls 2 [(0, .ref (gA X i0 0))] := hl
  have hown : s.vm.findClass RX1 = some m.cls := hown
  have hL : gLo X [] := gLo_nil
  show W p l e rmX1_drawHeats s m args below meth c H [] 0 0 _ _
  have inX5 : ∀ w ∈ wsX50, w ∈ wsX1_drawHeats := fun w h => List.mem_cons_of_mem _ (inlX5 w h)
  have q16 := hts _ (List.mem_cons_of_mem _ wq_X1_16)
  have q22 := hts _ (List.mem_cons_of_mem _ wq_X1_22)
  have q87 := hts _ (List.mem_cons_of_mem _ wq_X1_87)
  have k74 : CallW rmX1_drawHeats s args RX1 RX5 74 yX5_notScratched cX5_notScratched 3 (some .int) wsX5_notScratched rmX5_notScratched 0 0 0 := cwV 0 hts (gGoodV (fun w h => List.mem_cons_of_mem _ h) wk_X1_74) rfl rfl rfl (by decide +kernel) ⟨Nat.le_of_ble_eq_true rfl, Nat.le_of_ble_eq_true rfl⟩
  have k78 : CallW rmX1_drawHeats s args RX1 RX5 78 yX5_lanes cX5_lanes 1 (some .int) wsX5_lanes rmX5_lanes 0 0 0 := cwV 0 hts (gGoodV (fun w h => List.mem_cons_of_mem _ h) wk_X1_78) rfl rfl rfl (by decide +kernel) ⟨Nat.le_of_ble_eq_true rfl, Nat.le_of_ble_eq_true rfl⟩
  have k81 : CallB rmX1_drawHeats s args RX1 81 yX2_heatsFor cX2_heatsFor 2 (some .int) wsX2_heatsFor rmX2_heatsFor 0 0 2 ∧ (Cond.static yX2_heatsFor).before args s = true := va_cwS 2 hts (gGoodS (fun w h => List.mem_cons_of_mem _ h) wk_X1_81) rfl rfl rfl (by decide +kernel) ⟨Nat.le_of_ble_eq_true rfl, Nat.le_of_ble_eq_true rfl⟩
  have k90 : CallB rmX1_drawHeats s args RX1 90 yX2_spread cX2_spread 3 none wsX2_spread rmX2_spread 0 0 1 ∧ (Cond.static yX2_spread).before args s = true := va_cwS 1 hts (gGoodS (fun w h => List.mem_cons_of_mem _ h) wk_X1_90) rfl rfl rfl (by decide +kernel) ⟨Nat.le_of_ble_eq_true rfl, Nat.le_of_ble_eq_true rfl⟩
  have k94 : CallB rmX1_drawHeats s args RX1 94 yX2_fillFirstHeat cX2_fillFirstHeat 4 none wsX2_fillFirstHeat rmX2_fillFirstHeat 0 0 1 ∧ (Cond.static yX2_fillFirstHeat).before args s = true := va_cwS 1 hts (gGoodS (fun w h => List.mem_cons_of_mem _ h) wk_X1_94) rfl rfl rfl (by decide +kernel) ⟨Nat.le_of_ble_eq_true rfl, Nat.le_of_ble_eq_true rfl⟩
  have k97 : CallB rmX1_drawHeats s args RX1 97 yX2_giveLanes cX2_giveLanes 3 none wsX2_giveLanes rmX2_giveLanes 0 0 1 ∧ (Cond.static yX2_giveLanes).before args s = true := va_cwS 1 hts (gGoodS (fun w h => List.mem_cons_of_mem _ h) wk_X1_97) rfl rfl rfl (by decide +kernel) ⟨Nat.le_of_ble_eq_true rfl, Nat.le_of_ble_eq_true rfl⟩
  rw [F_X1_drawHeats] at hF
  obtain ⟨locs, hlocs⟩ : ∃ locs : List Loc, locs = [] := ⟨_, rfl⟩
  rw [← hlocs] at hL ⊢
  refine lv_aload_n hx hb dX1_drawHeats_0 rfl (lv_at hl 0 rfl) ?_
  obtain ⟨v_2, hq_1, hF⟩ := gP_some hF
  refine g_Vi (As := []) (rest := []) ⟨hx, hb, hml, hown, hts⟩ hK hW hL hl.1 (gok_m hi0 (by decide)) (gE_m0 hi0) rfl (c_X5_notScratched l X w i0 hi0 v_2 hq_1) k74 rfl rfl (Nat.le_of_ble_eq_true rfl) dX1_drawHeats_1 ⟨Nat.le_of_ble_eq_true rfl, Nat.le_of_ble_eq_true rfl⟩ (fun H locs hW hL => ?_)
  refine lv_istore_n (lv' := [(1, .int v_2), (0, .ref (gA X i0 0))]) hx hb dX1_drawHeats_4 rfl hl (by decide) rfl (fun ls hl => ?_)
  refine lv_aload_n hx hb dX1_drawHeats_5 rfl (lv_at hl 1 rfl) ?_
  refine rg_X5_stage hx hb hts inX5 hown hK hW hi0 q16 dX1_drawHeats_6 ?_
  refine lv_if_ne (tgt := 16) hx hb dX1_drawHeats_9 (by decide) (fun hc_3 => ?_) (fun hc_3 => ?_)
  · replace hF := gF hc_3 hF
    refine lv_ldc hx hb hown q22 dX1_drawHeats_16 ?_
    exact g_ri hx hb hr hlocks (gW2 hF hW) hL (gI2 hF).1 dX1_drawHeats_18
  · replace hF := gT hc_3 hF
    refine lv_iload_n hx hb dX1_drawHeats_12 rfl (lv_at hl 0 rfl) ?_
    refine lv_if_ne (tgt := 19) hx hb dX1_drawHeats_13 (by decide) (fun hc_4 => ?_) (fun hc_4 => ?_)
    · replace hF := gF hc_4 hF
      refine lv_aload_n hx hb dX1_drawHeats_19 rfl (lv_at hl 1 rfl) ?_
      refine lv_iload_n hx hb dX1_drawHeats_20 rfl (lv_at hl 0 rfl) ?_
      refine lv_aload_n hx hb dX1_drawHeats_21 rfl (lv_at hl 1 rfl) ?_
      obtain ⟨v_6, hq_5, hF⟩ := gP_some hF
      refine g_Vi (As := []) (rest := [.int v_2, .ref (gA X i0 0)]) ⟨hx, hb, hml, hown, hts⟩ hK hW hL hl.1 (gok_m hi0 (by decide)) (gE_m0 hi0) rfl (c_X5_lanes l X w i0 hi0 v_6 hq_5) k78 rfl rfl (Nat.le_of_ble_eq_true rfl) dX1_drawHeats_22 ⟨Nat.le_of_ble_eq_true rfl, Nat.le_of_ble_eq_true rfl⟩ (fun H locs hW hL => ?_)
      obtain ⟨v_8, hq_7, hF⟩ := gP_some hF
      refine g_Si (As := [.int v_2, .int v_6]) (rest := [.ref (gA X i0 0)]) ⟨hx, hb, hml, hown, hts⟩ hK hW hL hl.1 (c_X2_heatsFor l X w v_2 v_6 v_8 hq_7) k81 rfl rfl (Nat.le_of_ble_eq_true rfl) dX1_drawHeats_25 ⟨Nat.le_of_ble_eq_true rfl, Nat.le_of_ble_eq_true rfl⟩ (fun H locs hW hL => ?_)
      obtain ⟨w_9, ew_9, hF⟩ := gS_some hF
      refine rp_X5_heats hx hb hts inX5 hown hK hW hL hi0 q87 dX1_drawHeats_28 (fun H locs hW hL => ?_)
      rw [← ew_9] at hW
      refine lv_aload_n hx hb dX1_drawHeats_31 rfl (lv_at hl 1 rfl) ?_
      obtain ⟨w_11, hq_10, hF⟩ := gP_some hF
      refine g_Sv (As := [.ref (gA X i0 0)]) (rest := []) ⟨hx, hb, hml, hown, hts⟩ hK hW hL hl.1 (c_X2_spread l X w_9 i0 hi0 w_11 hq_10) k90 rfl rfl (Nat.le_of_ble_eq_true rfl) dX1_drawHeats_32 ⟨Nat.le_of_ble_eq_true rfl, Nat.le_of_ble_eq_true rfl⟩ (fun H locs hW hL => ?_)
      refine lv_aload_n hx hb dX1_drawHeats_35 rfl (lv_at hl 1 rfl) ?_
      obtain ⟨w_13, hq_12, hF⟩ := gP_some hF
      refine g_Sv (As := [.ref (gA X i0 0)]) (rest := []) ⟨hx, hb, hml, hown, hts⟩ hK hW hL hl.1 (c_X2_fillFirstHeat l X w_11 i0 hi0 w_13 hq_12) k94 rfl rfl (Nat.le_of_ble_eq_true rfl) dX1_drawHeats_36 ⟨Nat.le_of_ble_eq_true rfl, Nat.le_of_ble_eq_true rfl⟩ (fun H locs hW hL => ?_)
      refine lv_aload_n hx hb dX1_drawHeats_39 rfl (lv_at hl 1 rfl) ?_
      obtain ⟨w_15, hq_14, hF⟩ := gP_some hF
      refine g_Sv (As := [.ref (gA X i0 0)]) (rest := []) ⟨hx, hb, hml, hown, hts⟩ hK hW hL hl.1 (c_X2_giveLanes l X w_13 i0 hi0 w_15 hq_14) k97 rfl rfl (Nat.le_of_ble_eq_true rfl) dX1_drawHeats_40 ⟨Nat.le_of_ble_eq_true rfl, Nat.le_of_ble_eq_true rfl⟩ (fun H locs hW hL => ?_)
      refine lv_aload_n hx hb dX1_drawHeats_43 rfl (lv_at hl 1 rfl) ?_
      refine lv_iconst (v := 1) hx hb dX1_drawHeats_44 (by decide) ?_
      obtain ⟨w_16, ew_16, hF⟩ := gS_some hF
      refine rp_X5_stage hx hb hts inX5 hown hK hW hL hi0 q16 dX1_drawHeats_45 (fun H locs hW hL => ?_)
      rw [← ew_16] at hW
      refine lv_aload_n hx hb dX1_drawHeats_48 rfl (lv_at hl 1 rfl) ?_
      refine rg_X5_heats hx hb hts inX5 hown hK hW hi0 q87 dX1_drawHeats_49 ?_
      exact g_ri hx hb hr hlocks (gW2 hF hW) hL (gI2 hF).1 dX1_drawHeats_52
    · replace hF := gT hc_4 hF
      refine lv_ldc hx hb hown q22 dX1_drawHeats_16 ?_
      exact g_ri hx hb hr hlocks (gW2 hF hW) hL (gI2 hF).1 dX1_drawHeats_18
abbrev rmX11_draw : Room := { frames := 4, cells := 0, slots := 0, locals := 88 }
abbrev wsX11_draw : List Cond := gws yX11_draw cX11_draw 1 (some .int)
set_option maxHeartbeats 4000000 in
set_option maxRecDepth 100000 in
theorem c_X11_draw (l : Launch) (X : gX) (w : gWd)  (r : Int32) (w' : gWd) (hF : F_X11_draw w = some (r, w')) : Met l yX11_draw wsX11_draw rmX11_draw (gPc X [.ref (gA X 7 0)] w) (gQi X r w') 0 0 (gFr X) := by
  refine g_ofW (cc := cX11_draw) (maxL := 1) (ret := (some .int)) (by decide) rfl (Nat.le_of_ble_eq_true rfl) (fun p e s m args below meth c ls H hx hb hr hts hown hlocks hml hK hl hW => ?_)
  have hl : lv_has ls 1 [(0, .ref (gA X 7 0))] := hl
  have hown : s.vm.findClass RX11 = some m.cls := hown
  have hL : gLo X [] := gLo_nil
  show W p l e rmX11_draw s m args below meth c H [] 0 0 _ _
  have inX11 : ∀ w ∈ wsX110, w ∈ wsX11_draw := fun w h => List.mem_cons_of_mem _ (inlX11 w h)
  have q10 := hts _ (List.mem_cons_of_mem _ wq_X11_10)
  have q22 := hts _ (List.mem_cons_of_mem _ wq_X11_22)
  have k40 : CallW rmX11_draw s args RX11 RX3 40 yX3_prepare cX3_prepare 2 none wsX3_prepare rmX3_prepare 0 0 1 := cwV 1 hts (gGoodV (fun w h => List.mem_cons_of_mem _ h) wk_X11_40) rfl rfl rfl (by decide +kernel) ⟨Nat.le_of_ble_eq_true rfl, Nat.le_of_ble_eq_true rfl⟩
  have k50 : CallW rmX11_draw s args RX11 RX3 50 yX3_keepUnlessError cX3_keepUnlessError 2 (some .int) wsX3_keepUnlessError rmX3_keepUnlessError 0 0 1 := cwV 1 hts (gGoodV (fun w h => List.mem_cons_of_mem _ h) wk_X11_50) rfl rfl rfl (by decide +kernel) ⟨Nat.le_of_ble_eq_true rfl, Nat.le_of_ble_eq_true rfl⟩
  have k61 : CallB rmX11_draw s args RX11 61 yX1_drawHeats cX1_drawHeats 2 (some .int) wsX1_drawHeats rmX1_drawHeats 0 0 1 ∧ (Cond.static yX1_drawHeats).before args s = true := va_cwS 1 hts (gGoodS (fun w h => List.mem_cons_of_mem _ h) wk_X11_61) rfl rfl rfl (by decide +kernel) ⟨Nat.le_of_ble_eq_true rfl, Nat.le_of_ble_eq_true rfl⟩
  rw [F_X11_draw] at hF
  obtain ⟨locs, hlocs⟩ : ∃ locs : List Loc, locs = [] := ⟨_, rfl⟩
  rw [← hlocs] at hL ⊢
  refine lv_aload_n hx hb dX11_draw_0 rfl (lv_at hl 0 rfl) ?_
  refine rg_X11_history hx hb hts inX11 hown hK hW q22 dX11_draw_1 ?_
  refine lv_aload_n hx hb dX11_draw_4 rfl (lv_at hl 0 rfl) ?_
  refine rg_X11_meet hx hb hts inX11 hown hK hW q10 dX11_draw_5 ?_
  obtain ⟨w_2, hq_1, hF⟩ := gP_some hF
  refine g_Vv (As := [.ref (gA X 0 0)]) (rest := []) ⟨hx, hb, hml, hown, hts⟩ hK hW hL hl.1 (gok_c (by decide)) gE_H rfl (c_X3_prepare l X w 0 h07 w_2 hq_1) k40 rfl rfl (Nat.le_of_ble_eq_true rfl) dX11_draw_8 ⟨Nat.le_of_ble_eq_true rfl, Nat.le_of_ble_eq_true rfl⟩ (fun H locs hW hL => ?_)
  refine lv_aload_n hx hb dX11_draw_11 rfl (lv_at hl 0 rfl) ?_
  refine rg_X11_history hx hb hts inX11 hown hK hW q22 dX11_draw_12 ?_
  refine lv_aload_n hx hb dX11_draw_15 rfl (lv_at hl 0 rfl) ?_
  refine rg_X11_meet hx hb hts inX11 hown hK hW q10 dX11_draw_16 ?_
  obtain ⟨v_4, w_5, hq_3, hF⟩ := gC_some hF
  refine g_Si (As := [.ref (gA X 0 0)]) (rest := [.ref (gA X 7 1)]) ⟨hx, hb, hml, hown, hts⟩ hK hW hL hl.1 (c_X1_drawHeats l X w_2 0 h07 v_4 w_5 hq_3) k61 rfl rfl (Nat.le_of_ble_eq_true rfl) dX11_draw_19 ⟨Nat.le_of_ble_eq_true rfl, Nat.le_of_ble_eq_true rfl⟩ (fun H locs hW hL => ?_)
  obtain ⟨v_7, w_8, hq_6, hF⟩ := gC_some hF
  refine g_Vi (As := [.int v_4]) (rest := []) ⟨hx, hb, hml, hown, hts⟩ hK hW hL hl.1 (gok_c (by decide)) gE_H rfl (c_X3_keepUnlessError l X w_5 v_4 v_7 w_8 hq_6) k50 rfl rfl (Nat.le_of_ble_eq_true rfl) dX11_draw_22 ⟨Nat.le_of_ble_eq_true rfl, Nat.le_of_ble_eq_true rfl⟩ (fun H locs hW hL => ?_)
  exact g_ri hx hb hr hlocks (gW2 hF hW) hL (gI2 hF).1 dX11_draw_25
abbrev rmX1_noteRecord : Room := { frames := 0, cells := 0, slots := 0, locals := 0 }
abbrev wsX1_noteRecord : List Cond := gws yX1_noteRecord cX1_noteRecord 3 none
set_option maxHeartbeats 4000000 in
set_option maxRecDepth 100000 in
theorem c_X1_noteRecord (l : Launch) (X : gX) (w : gWd) (i0 : Nat) (hi0 : i0 < 7) (x1 : Int32) (x2 : Int32) (w' : gWd) (hF : F_X1_noteRecord w i0 x1 x2 = some w') : Met l yX1_noteRecord wsX1_noteRecord rmX1_noteRecord (gPc X [.ref (gA X i0 0), .int x1, .int x2] w) (gQv X w') 0 0 (gFr X) := by
  refine g_ofW (cc := cX1_noteRecord) (maxL := 3) (ret := none) (by decide) rfl (Nat.le_of_ble_eq_true rfl) (fun p e s m args below meth c ls H hx hb hr hts hown hlocks hml hK hl hW => ?_)
  have hl : lv_has ls 3 [(0, .ref (gA X i0 0)), (1, .int x1), (2, .int x2)] := hl
  have hown : s.vm.findClass RX1 = some m.cls := hown
  have hL : gLo X [] := gLo_nil
  show W p l e rmX1_noteRecord s m args below meth c H [] 0 0 _ _
  have inX5 : ∀ w ∈ wsX50, w ∈ wsX1_noteRecord := fun w h => List.mem_cons_of_mem _ (inlX5 w h)
  have q117 := hts _ (List.mem_cons_of_mem _ wq_X1_117)
  have q120 := hts _ (List.mem_cons_of_mem _ wq_X1_120)
  have B_15 : ∀ (w : gWd) (i0 : Nat) (x1 : Int32) (x2 : Int32) (hi0 : i0 < 7) (ls : Array Slot) (hl : lv_has ls 3 [(0, .ref (gA X i0 0)), (1, .int x1), (2, .int x2)]) (hF : F_X1_noteRecord_15 w i0 x1 x2 = some w') (H : Heap) (locs : List Loc) (hW : gWo X 252 (gE X w) H) (hL : gLo X locs), W p l e rmX1_noteRecord s m args below meth c H locs 0 0 (MQ below (gQv X w') args s 0 0 (gFr X)) (F0 m 15 ls []) := by
    intro w i0 x1 x2 hi0 ls hl hF H locs hW hL
    rw [F_X1_noteRecord_15] at hF
    refine lv_aload_n hx hb dX1_noteRecord_15 rfl (lv_at hl 0 rfl) ?_
    refine lv_iload_n hx hb dX1_noteRecord_16 rfl (lv_at hl 2 rfl) ?_
    obtain ⟨w_1, ew_1, hF⟩ := gS_some hF
    refine rp_X5_record hx hb hts inX5 hown hK hW hL hi0 q117 dX1_noteRecord_17 (fun H locs hW hL => ?_)
    rw [← ew_1] at hW
    refine lv_aload_n hx hb dX1_noteRecord_20 rfl (lv_at hl 0 rfl) ?_
    refine lv_iload_n hx hb dX1_noteRecord_21 rfl (lv_at hl 1 rfl) ?_
    obtain ⟨w_2, ew_2, hF⟩ := gS_some hF
    refine rp_X5_recordSwimmer hx hb hts inX5 hown hK hW hL hi0 q120 dX1_noteRecord_22 (fun H locs hW hL => ?_)
    rw [← ew_2] at hW
    exact g_rv hx hb hr hlocks (gW1 hF hW) hL dX1_noteRecord_25
  rw [F_X1_noteRecord] at hF
  obtain ⟨locs, hlocs⟩ : ∃ locs : List Loc, locs = [] := ⟨_, rfl⟩
  rw [← hlocs] at hL ⊢
  refine lv_aload_n hx hb dX1_noteRecord_0 rfl (lv_at hl 0 rfl) ?_
  refine rg_X5_record hx hb hts inX5 hown hK hW hi0 q117 dX1_noteRecord_1 ?_
  refine lv_if_eq (tgt := 15) hx hb dX1_noteRecord_4 (by decide) (fun hc_3 => ?_) (fun hc_3 => ?_)
  · replace hF := gT hc_3 hF
    exact B_15 w i0 x1 x2 hi0 ls (hl) hF H locs hW hL
  · replace hF := gF hc_3 hF
    refine lv_iload_n hx hb dX1_noteRecord_7 rfl (lv_at hl 2 rfl) ?_
    refine lv_aload_n hx hb dX1_noteRecord_8 rfl (lv_at hl 0 rfl) ?_
    refine rg_X5_record hx hb hts inX5 hown hK hW hi0 q117 dX1_noteRecord_9 ?_
    refine lv_icmp_ge (tgt := 25) hx hb dX1_noteRecord_12 (by decide) (fun hc_4 => ?_) (fun hc_4 => ?_)
    · replace hF := gT hc_4 hF
      exact g_rv hx hb hr hlocks (gW1 hF hW) hL dX1_noteRecord_25
    · replace hF := gF hc_4 hF
      exact B_15 w i0 x1 x2 hi0 ls (hl) hF H locs hW hL
abbrev rmX5_stageTime : Room := { frames := 0, cells := 0, slots := 0, locals := 0 }
abbrev wsX5_stageTime : List Cond := gws yX5_stageTime cX5_stageTime 2 (some .int)
set_option maxHeartbeats 4000000 in
set_option maxRecDepth 100000 in
theorem c_X5_stageTime (l : Launch) (X : gX) (w : gWd) (i0 : Nat) (hi0 : i0 < 7) (i1 : Nat) (hi1 : i1 < 7) (n1 : Nat) (hn1 : n1 < 30) (r : Int32) (hF : F_X5_stageTime w i0 i1 n1 = some r) : Met l yX5_stageTime wsX5_stageTime rmX5_stageTime (gPc X [.ref (gA X i0 0), .ref (gA X i1 (4 + n1))] w) (gQi X r w) 0 0 (gFr X) := by
  refine g_ofW (cc := cX5_stageTime) (maxL := 2) (ret := (some .int)) (by decide) rfl (Nat.le_of_ble_eq_true rfl) (fun p e s m args below meth c ls H hx hb hr hts hown hlocks hml hK hl hW => ?_)
  have hl : lv_has ls 2 [(0, .ref (gA X i0 0)), (1, .ref (gA X i1 (4 + n1)))] := hl
  have hown : s.vm.findClass RX5 = some m.cls := hown
  have hL : gLo X [] := gLo_nil
  show W p l e rmX5_stageTime s m args below meth c H [] 0 0 _ _
  have inX5 : ∀ w ∈ wsX50, w ∈ wsX5_stageTime := fun w h => List.mem_cons_of_mem _ (inlX5 w h)
  have inX10 : ∀ w ∈ wsX100, w ∈ wsX5_stageTime := fun w h => List.mem_cons_of_mem _ (inlX10 w h)
  have q36 := hts _ (List.mem_cons_of_mem _ wq_X5_36)
  have q69 := hts _ (List.mem_cons_of_mem _ wq_X5_69)
  have q81 := hts _ (List.mem_cons_of_mem _ wq_X5_81)
  rw [F_X5_stageTime] at hF
  obtain ⟨locs, hlocs⟩ : ∃ locs : List Loc, locs = [] := ⟨_, rfl⟩
  rw [← hlocs] at hL ⊢
  refine lv_aload_n hx hb dX5_stageTime_0 rfl (lv_at hl 0 rfl) ?_
  refine rg_X5_stage hx hb hts inX5 hown hK hW hi0 q36 dX5_stageTime_1 ?_
  refine lv_iconst (v := 1) hx hb dX5_stageTime_4 (by decide) ?_
  refine lv_icmp_ne (tgt := 15) hx hb dX5_stageTime_5 (by decide) (fun hc_1 => ?_) (fun hc_1 => ?_)
  · replace hF := gF hc_1 hF
    refine lv_aload_n hx hb dX5_stageTime_15 rfl (lv_at hl 1 rfl) ?_
    refine rg_X10_finalTime hx hb hts inX10 hown hK hW hi1 hn1 q81 dX5_stageTime_16 ?_
    exact g_ri hx hb hr hlocks hW hL (Option.some.inj hF) dX5_stageTime_19
  · replace hF := gT hc_1 hF
    refine lv_aload_n hx hb dX5_stageTime_8 rfl (lv_at hl 1 rfl) ?_
    refine rg_X10_heatTime hx hb hts inX10 hown hK hW hi1 hn1 q69 dX5_stageTime_9 ?_
    refine lv_goto (tgt := 19) hx hb dX5_stageTime_12 (by decide) ?_
    exact g_ri hx hb hr hlocks hW hL (Option.some.inj hF) dX5_stageTime_19
abbrev rmX5_fasterThan : Room := { frames := 1, cells := 0, slots := 0, locals := 21 }
abbrev wsX5_fasterThan : List Cond := gws yX5_fasterThan cX5_fasterThan 5 (some .int)
set_option maxHeartbeats 4000000 in
set_option maxRecDepth 100000 in
theorem c_X5_fasterThan (l : Launch) (X : gX) (w : gWd) (i0 : Nat) (hi0 : i0 < 7) (x1 : Int32) (r : Int32) (hF : F_X5_fasterThan w i0 x1 = some r) : Met l yX5_fasterThan wsX5_fasterThan rmX5_fasterThan (gPc X [.ref (gA X i0 0), .int x1] w) (gQi X r w) 0 0 (gFr X) := by
  refine g_ofW (cc := cX5_fasterThan) (maxL := 5) (ret := (some .int)) (by decide) rfl (Nat.le_of_ble_eq_true rfl) (fun p e s m args below meth c ls H hx hb hr hts hown hlocks hml hK hl hW => ?_)
  have hl : lv_has ls 5 [(0, .ref (gA X i0 0)), (1, .int x1)] := hl
  have hown : s.vm.findClass RX5 = some m.cls := hown
  have hL : gLo X [] := gLo_nil
  show W p l e rmX5_fasterThan s m args below meth c H [] 0 0 _ _
  have inX5 : ∀ w ∈ wsX50, w ∈ wsX5_fasterThan := fun w h => List.mem_cons_of_mem _ (inlX5 w h)
  have q17 := hts _ (List.mem_cons_of_mem _ wq_X5_17)
  have q32 := hts _ (List.mem_cons_of_mem _ wq_X5_32)
  have k84 : CallW rmX5_fasterThan s args RX5 RX5 84 yX5_stageTime cX5_stageTime 2 (some .int) wsX5_stageTime rmX5_stageTime 0 0 1 := cwV 1 hts (gGoodV (fun w h => List.mem_cons_of_mem _ h) wk_X5_84) rfl rfl rfl (by decide +kernel) ⟨Nat.le_of_ble_eq_true rfl, Nat.le_of_ble_eq_true rfl⟩
  have L_4 : ∀ (fu : Nat) (i0 : Nat) (x1 : Int32) (x2 : Int32) (x3 : Int32) (hi0 : i0 < 7) (ls : Array Slot) (hl : lv_has ls 5 [(0, .ref (gA X i0 0)), (1, .int x1), (2, .int x2), (3, .int x3)]) (hF : F_X5_fasterThan_4 fu w i0 x1 x2 x3 = some r) (H : Heap) (locs : List Loc) (hW : gWo X 252 (gE X w) H) (hL : gLo X locs), W p l e rmX5_fasterThan s m args below meth c H locs 0 0 (MQ below (gQi X r w) args s 0 0 (gFr X)) (F0 m 4 ls []) := by
    intro fu
    induction fu with
    | zero => intro i0 x1 x2 x3 hi0 ls hl hF H locs hW hL; rw [F_X5_fasterThan_4_z] at hF; cases hF
    | succ fu4 ih4 =>
      intro i0 x1 x2 x3 hi0 ls hl hF H locs hW hL
      rw [F_X5_fasterThan_4_s] at hF
      refine lv_iload_n hx hb dX5_fasterThan_4 rfl (lv_at hl 3 rfl) ?_
      refine lv_aload_n hx hb dX5_fasterThan_5 rfl (lv_at hl 0 rfl) ?_
      refine rg_X5_size hx hb hts inX5 hown hK hW hi0 q32 dX5_fasterThan_6 ?_
      refine lv_icmp_ge (tgt := 44) hx hb dX5_fasterThan_9 (by decide) (fun hc_1 => ?_) (fun hc_1 => ?_)
      · replace hF := gT hc_1 hF
        refine lv_iload_n hx hb dX5_fasterThan_44 rfl (lv_at hl 2 rfl) ?_
        exact g_ri hx hb hr hlocks hW hL (Option.some.inj hF) dX5_fasterThan_45
      · replace hF := gF hc_1 hF
        refine lv_aload_n hx hb dX5_fasterThan_12 rfl (lv_at hl 0 rfl) ?_
        refine lv_aload_n hx hb dX5_fasterThan_13 rfl (lv_at hl 0 rfl) ?_
        refine rg_X5_all hx hb hts inX5 hown hK hW hi0 q17 dX5_fasterThan_14 ?_
        refine lv_iload_n hx hb dX5_fasterThan_17 rfl (lv_at hl 3 rfl) ?_
        obtain ⟨hin_2, hF⟩ := gB_some hF
        obtain ⟨k_3, ek_3⟩ : ∃ k, k = Int32.toNatClampNeg x3 := ⟨_, rfl⟩
        rw [← ek_3] at hF
        refine r_all (k := k_3) hx hb hK hW hi0 hin_2 ek_3.symm dX5_fasterThan_18 ?_
        obtain ⟨v_5, hq_4, hF⟩ := gP_some hF
        refine g_Vi (As := [.ref (gA X i0 (4 + k_3))]) (rest := []) ⟨hx, hb, hml, hown, hts⟩ hK hW hL hl.1 (gok_m hi0 (by decide)) (gE_m0 hi0) rfl (c_X5_stageTime l X w i0 hi0 i0 hi0 k_3 (vp_lt2 hin_2 ek_3.symm) v_5 hq_4) k84 rfl rfl (Nat.le_of_ble_eq_true rfl) dX5_fasterThan_19 ⟨Nat.le_of_ble_eq_true rfl, Nat.le_of_ble_eq_true rfl⟩ (fun H locs hW hL => ?_)
        refine lv_istore (lv' := [(4, .int v_5), (0, .ref (gA X i0 0)), (1, .int x1), (2, .int x2), (3, .int x3)]) hx hb dX5_fasterThan_22 hl (by decide) rfl (fun ls hl => ?_)
        refine lv_iload hx hb dX5_fasterThan_24 (lv_at hl 0 rfl) ?_
        refine lv_if_le (tgt := 38) hx hb dX5_fasterThan_26 (by decide) (fun hc_6 => ?_) (fun hc_6 => ?_)
        · replace hF := gT hc_6 hF
          obtain ⟨x3_7, ex3_7, hF⟩ := gS_some hF
          refine lv_iinc (v := x3_7) (lv' := [(3, .int x3_7), (4, .int v_5), (0, .ref (gA X i0 0)), (1, .int x1), (2, .int x2)]) hx hb dX5_fasterThan_38 hl (k := 4) rfl (by rw [ex3_7]; rfl) (by decide) rfl (fun ls hl => ?_)
          refine lv_goto (tgt := 4) hx hb dX5_fasterThan_41 (by decide) ?_
          exact ih4 i0 x1 x2 x3_7 hi0 ls (lv_sub hl [2, 3, 4, 0] rfl) hF H locs hW hL
        · replace hF := gF hc_6 hF
          refine lv_iload hx hb dX5_fasterThan_29 (lv_at hl 0 rfl) ?_
          refine lv_iload_n hx hb dX5_fasterThan_31 rfl (lv_at hl 2 rfl) ?_
          refine lv_icmp_ge (tgt := 38) hx hb dX5_fasterThan_32 (by decide) (fun hc_8 => ?_) (fun hc_8 => ?_)
          · replace hF := gT hc_8 hF
            obtain ⟨x3_9, ex3_9, hF⟩ := gS_some hF
            refine lv_iinc (v := x3_9) (lv' := [(3, .int x3_9), (4, .int v_5), (0, .ref (gA X i0 0)), (1, .int x1), (2, .int x2)]) hx hb dX5_fasterThan_38 hl (k := 4) rfl (by rw [ex3_9]; rfl) (by decide) rfl (fun ls hl => ?_)
            refine lv_goto (tgt := 4) hx hb dX5_fasterThan_41 (by decide) ?_
            exact ih4 i0 x1 x2 x3_9 hi0 ls (lv_sub hl [2, 3, 4, 0] rfl) hF H locs hW hL
          · replace hF := gF hc_8 hF
            obtain ⟨x2_10, ex2_10, hF⟩ := gS_some hF
            refine lv_iinc (v := x2_10) (lv' := [(2, .int x2_10), (4, .int v_5), (0, .ref (gA X i0 0)), (1, .int x1), (3, .int x3)]) hx hb dX5_fasterThan_35 hl (k := 3) rfl (by rw [ex2_10]; rfl) (by decide) rfl (fun ls hl => ?_)
            obtain ⟨x3_11, ex3_11, hF⟩ := gS_some hF
            refine lv_iinc (v := x3_11) (lv' := [(3, .int x3_11), (2, .int x2_10), (4, .int v_5), (0, .ref (gA X i0 0)), (1, .int x1)]) hx hb dX5_fasterThan_38 hl (k := 4) rfl (by rw [ex3_11]; rfl) (by decide) rfl (fun ls hl => ?_)
            refine lv_goto (tgt := 4) hx hb dX5_fasterThan_41 (by decide) ?_
            exact ih4 i0 x1 x2_10 x3_11 hi0 ls (lv_sub hl [3, 4, 1, 0] rfl) hF H locs hW hL
  rw [F_X5_fasterThan] at hF
  obtain ⟨locs, hlocs⟩ : ∃ locs : List Loc, locs = [] := ⟨_, rfl⟩
  rw [← hlocs] at hL ⊢
  refine lv_iconst (v := 0) hx hb dX5_fasterThan_0 (by decide) ?_
  refine lv_istore_n (lv' := [(2, .int 0), (0, .ref (gA X i0 0)), (1, .int x1)]) hx hb dX5_fasterThan_1 rfl hl (by decide) rfl (fun ls hl => ?_)
  refine lv_iconst (v := 0) hx hb dX5_fasterThan_2 (by decide) ?_
  refine lv_istore_n (lv' := [(3, .int 0), (2, .int 0), (0, .ref (gA X i0 0)), (1, .int x1)]) hx hb dX5_fasterThan_3 rfl hl (by decide) rfl (fun ls hl => ?_)
  exact L_4 gFU i0 x1 0 0 hi0 ls (lv_sub hl [2, 3, 1, 0] rfl) hF H locs hW hL
abbrev rmX5_swimsNow : Room := { frames := 0, cells := 0, slots := 0, locals := 0 }
abbrev wsX5_swimsNow : List Cond := gws yX5_swimsNow cX5_swimsNow 2 (some .boolean)
set_option maxHeartbeats 4000000 in
set_option maxRecDepth 100000 in
theorem c_X5_swimsNow (l : Launch) (X : gX) (w : gWd) (i0 : Nat) (hi0 : i0 < 7) (i1 : Nat) (hi1 : i1 < 7) (n1 : Nat) (hn1 : n1 < 30) (r : Int32) (hF : F_X5_swimsNow w i0 i1 n1 = some r) : Met l yX5_swimsNow wsX5_swimsNow rmX5_swimsNow (gPc X [.ref (gA X i0 0), .ref (gA X i1 (4 + n1))] w) (gQi X r w) 0 0 (gFr X) := by
  refine g_ofW (cc := cX5_swimsNow) (maxL := 2) (ret := (some .boolean)) (by decide) rfl (Nat.le_of_ble_eq_true rfl) (fun p e s m args below meth c ls H hx hb hr hts hown hlocks hml hK hl hW => ?_)
  have hl : lv_has ls 2 [(0, .ref (gA X i0 0)), (1, .ref (gA X i1 (4 + n1)))] := hl
  have hown : s.vm.findClass RX5 = some m.cls := hown
  have hL : gLo X [] := gLo_nil
  show W p l e rmX5_swimsNow s m args below meth c H [] 0 0 _ _
  have inX5 : ∀ w ∈ wsX50, w ∈ wsX5_swimsNow := fun w h => List.mem_cons_of_mem _ (inlX5 w h)
  have inX10 : ∀ w ∈ wsX100, w ∈ wsX5_swimsNow := fun w h => List.mem_cons_of_mem _ (inlX10 w h)
  have q36 := hts _ (List.mem_cons_of_mem _ wq_X5_36)
  have q75 := hts _ (List.mem_cons_of_mem _ wq_X5_75)
  have q78 := hts _ (List.mem_cons_of_mem _ wq_X5_78)
  have B_41 : ∀   (ls : Array Slot) (hl : lv_has ls 2 []) (hF : F_X5_swimsNow_41 w = some r) (H : Heap) (locs : List Loc) (hW : gWo X 252 (gE X w) H) (hL : gLo X locs), W p l e rmX5_swimsNow s m args below meth c H locs 0 0 (MQ below (gQi X r w) args s 0 0 (gFr X)) (F0 m 41 ls []) := by
    intro ls hl hF H locs hW hL
    rw [F_X5_swimsNow_41] at hF
    refine lv_iconst (v := 0) hx hb dX5_swimsNow_41 (by decide) ?_
    exact g_rz hx hb hr hlocks hW hL (Or.inl rfl) (Option.some.inj hF) dX5_swimsNow_42
  rw [F_X5_swimsNow] at hF
  obtain ⟨locs, hlocs⟩ : ∃ locs : List Loc, locs = [] := ⟨_, rfl⟩
  rw [← hlocs] at hL ⊢
  refine lv_aload_n hx hb dX5_swimsNow_0 rfl (lv_at hl 0 rfl) ?_
  refine rg_X5_stage hx hb hts inX5 hown hK hW hi0 q36 dX5_swimsNow_1 ?_
  refine lv_iconst (v := 1) hx hb dX5_swimsNow_4 (by decide) ?_
  refine lv_icmp_ne (tgt := 22) hx hb dX5_swimsNow_5 (by decide) (fun hc_1 => ?_) (fun hc_1 => ?_)
  · replace hF := gF hc_1 hF
    refine lv_aload_n hx hb dX5_swimsNow_22 rfl (lv_at hl 0 rfl) ?_
    refine rg_X5_stage hx hb hts inX5 hown hK hW hi0 q36 dX5_swimsNow_23 ?_
    refine lv_iconst (v := 2) hx hb dX5_swimsNow_26 (by decide) ?_
    refine lv_icmp_ne (tgt := 41) hx hb dX5_swimsNow_27 (by decide) (fun hc_2 => ?_) (fun hc_2 => ?_)
    · replace hF := gF hc_2 hF
      exact B_41  ls (lv_sub hl [] rfl) hF H locs hW hL
    · replace hF := gT hc_2 hF
      refine lv_aload_n hx hb dX5_swimsNow_30 rfl (lv_at hl 1 rfl) ?_
      refine rg_X10_finalLane hx hb hts inX10 hown hK hW hi1 hn1 q78 dX5_swimsNow_31 ?_
      refine lv_if_eq (tgt := 41) hx hb dX5_swimsNow_34 (by decide) (fun hc_3 => ?_) (fun hc_3 => ?_)
      · replace hF := gT hc_3 hF
        exact B_41  ls (lv_sub hl [] rfl) hF H locs hW hL
      · replace hF := gF hc_3 hF
        refine lv_iconst (v := 1) hx hb dX5_swimsNow_37 (by decide) ?_
        refine lv_goto (tgt := 42) hx hb dX5_swimsNow_38 (by decide) ?_
        exact g_rz hx hb hr hlocks hW hL (Or.inr rfl) (Option.some.inj hF) dX5_swimsNow_42
  · replace hF := gT hc_1 hF
    refine lv_aload_n hx hb dX5_swimsNow_8 rfl (lv_at hl 1 rfl) ?_
    refine rg_X10_heat hx hb hts inX10 hown hK hW hi1 hn1 q75 dX5_swimsNow_9 ?_
    refine lv_iconst (v := (-1)) hx hb dX5_swimsNow_12 (by decide) ?_
    refine lv_icmp_eq (tgt := 20) hx hb dX5_swimsNow_13 (by decide) (fun hc_4 => ?_) (fun hc_4 => ?_)
    · replace hF := gT hc_4 hF
      refine lv_iconst (v := 0) hx hb dX5_swimsNow_20 (by decide) ?_
      exact g_rz hx hb hr hlocks hW hL (Or.inl rfl) (Option.some.inj hF) dX5_swimsNow_21
    · replace hF := gF hc_4 hF
      refine lv_iconst (v := 1) hx hb dX5_swimsNow_16 (by decide) ?_
      refine lv_goto (tgt := 21) hx hb dX5_swimsNow_17 (by decide) ?_
      exact g_rz hx hb hr hlocks hW hL (Or.inr rfl) (Option.some.inj hF) dX5_swimsNow_21
