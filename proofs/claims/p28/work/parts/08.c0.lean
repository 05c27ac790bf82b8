abbrev rmX1_isTimeOrZero : Room := { frames := 0, cells := 0, slots := 0, locals := 0 }
abbrev wsX1_isTimeOrZero : List Cond := gws yX1_isTimeOrZero cX1_isTimeOrZero 1 (some .boolean)
set_option maxHeartbeats 4000000 in
set_option maxRecDepth 100000 in
theorem c_X1_isTimeOrZero (l : Launch) (X : gX) (w : gWd) (x0 : Int32) (r : Int32) (hF : F_X1_isTimeOrZero w x0 = some r) : Met l yX1_isTimeOrZero wsX1_isTimeOrZero rmX1_isTimeOrZero (gPc X [.int x0] w) (gQi X r w) 0 0 (gFr X) := by
  refine g_ofW (cc := cX1_isTimeOrZero) (maxL := 1) (ret := (some .boolean)) (by decide) rfl (Nat.le_of_ble_eq_true rfl) (fun p e s m args below meth c ls H hx hb hr hts hown hlocks hml hK hl hW => ?_)
  have hl : lv_has ls 1 [(0, .int x0)] := hl
  have hown : s.vm.findClass RX1 = some m.cls := hown
  have hL : gLo X [] := gLo_nil
  show W p l e rmX1_isTimeOrZero s m args below meth c H [] 0 0 _ _
  have B_17 : ∀   (ls : Array Slot) (hl : lv_has ls 1 []) (hF : F_X1_isTimeOrZero_17 w = some r) (H : Heap) (locs : List Loc) (hW : gWo X 252 (gE X w) H) (hL : gLo X locs), W p l e rmX1_isTimeOrZero s m args below meth c H locs 0 0 (MQ below (gQi X r w) args s 0 0 (gFr X)) (F0 m 17 ls []) := by
    intro ls hl hF H locs hW hL
    rw [F_X1_isTimeOrZero_17] at hF
    refine lv_iconst (v := 1) hx hb dX1_isTimeOrZero_17 (by decide) ?_
    refine lv_goto (tgt := 22) hx hb dX1_isTimeOrZero_18 (by decide) ?_
    exact g_rz hx hb hr hlocks hW hL (Or.inr rfl) (Option.some.inj hF) dX1_isTimeOrZero_22
  have B_21 : ∀   (ls : Array Slot) (hl : lv_has ls 1 []) (hF : F_X1_isTimeOrZero_21 w = some r) (H : Heap) (locs : List Loc) (hW : gWo X 252 (gE X w) H) (hL : gLo X locs), W p l e rmX1_isTimeOrZero s m args below meth c H locs 0 0 (MQ below (gQi X r w) args s 0 0 (gFr X)) (F0 m 21 ls []) := by
    intro ls hl hF H locs hW hL
    rw [F_X1_isTimeOrZero_21] at hF
    refine lv_iconst (v := 0) hx hb dX1_isTimeOrZero_21 (by decide) ?_
    exact g_rz hx hb hr hlocks hW hL (Or.inl rfl) (Option.some.inj hF) dX1_isTimeOrZero_22
  rw [F_X1_isTimeOrZero] at hF
  obtain ⟨locs, hlocs⟩ : ∃ locs : List Loc, locs = [] := ⟨_, rfl⟩
  rw [← hlocs] at hL ⊢
  refine lv_iload_n hx hb dX1_isTimeOrZero_0 rfl (lv_at hl 0 rfl) ?_
  refine lv_if_eq (tgt := 17) hx hb dX1_isTimeOrZero_1 (by decide) (fun hc_1 => ?_) (fun hc_1 => ?_)
  · replace hF := gT hc_1 hF
    exact B_17  ls (lv_sub hl [] rfl) hF H locs hW hL
  · replace hF := gF hc_1 hF
    refine lv_iload_n hx hb dX1_isTimeOrZero_4 rfl (lv_at hl 0 rfl) ?_
    refine lv_bipush (v := 100) hx hb dX1_isTimeOrZero_5 (by decide) ?_
    refine lv_icmp_lt (tgt := 21) hx hb dX1_isTimeOrZero_7 (by decide) (fun hc_2 => ?_) (fun hc_2 => ?_)
    · replace hF := gT hc_2 hF
      exact B_21  ls (lv_sub hl [] rfl) hF H locs hW hL
    · replace hF := gF hc_2 hF
      refine lv_iload_n hx hb dX1_isTimeOrZero_10 rfl (lv_at hl 0 rfl) ?_
      refine lv_sipush (v := 999) hx hb dX1_isTimeOrZero_11 (by decide) ?_
      refine lv_icmp_gt (tgt := 21) hx hb dX1_isTimeOrZero_14 (by decide) (fun hc_3 => ?_) (fun hc_3 => ?_)
      · replace hF := gT hc_3 hF
        exact B_21  ls (lv_sub hl [] rfl) hF H locs hW hL
      · replace hF := gF hc_3 hF
        exact B_17  ls (lv_sub hl [] rfl) hF H locs hW hL
abbrev rmX10_leaveFinal : Room := { frames := 0, cells := 0, slots := 0, locals := 0 }
abbrev wsX10_leaveFinal : List Cond := gws yX10_leaveFinal cX10_leaveFinal 1 none
set_option maxHeartbeats 4000000 in
set_option maxRecDepth 100000 in
theorem c_X10_leaveFinal (l : Launch) (X : gX) (w : gWd) (i0 : Nat) (hi0 : i0 < 7) (n0 : Nat) (hn0 : n0 < 30) (w' : gWd) (hF : F_X10_leaveFinal w i0 n0 = some w') : Met l yX10_leaveFinal wsX10_leaveFinal rmX10_leaveFinal (gPc X [.ref (gA X i0 (4 + n0))] w) (gQv X w') 0 0 (gFr X) := by
  refine g_ofW (cc := cX10_leaveFinal) (maxL := 1) (ret := none) (by decide) rfl (Nat.le_of_ble_eq_true rfl) (fun p e s m args below meth c ls H hx hb hr hts hown hlocks hml hK hl hW => ?_)
  have hl : lv_has ls 1 [(0, .ref (gA X i0 (4 + n0)))] := hl
  have hown : s.vm.findClass RX10 = some m.cls := hown
  have hL : gLo X [] := gLo_nil
  show W p l e rmX10_leaveFinal s m args below meth c H [] 0 0 _ _
  have inX10 : ∀ w ∈ wsX100, w ∈ wsX10_leaveFinal := fun w h => List.mem_cons_of_mem _ (inlX10 w h)
  have q49 := hts _ (List.mem_cons_of_mem _ wq_X10_49)
  have q52 := hts _ (List.mem_cons_of_mem _ wq_X10_52)
  rw [F_X10_leaveFinal] at hF
  obtain ⟨locs, hlocs⟩ : ∃ locs : List Loc, locs = [] := ⟨_, rfl⟩
  rw [← hlocs] at hL ⊢
  refine lv_aload_n hx hb dX10_leaveFinal_0 rfl (lv_at hl 0 rfl) ?_
  refine lv_iconst (v := 0) hx hb dX10_leaveFinal_1 (by decide) ?_
  obtain ⟨w_1, ew_1, hF⟩ := gS_some hF
  refine rp_X10_finalLane hx hb hts inX10 hown hK hW hL hi0 hn0 q49 dX10_leaveFinal_2 (fun H locs hW hL => ?_)
  rw [← ew_1] at hW
  refine lv_aload_n hx hb dX10_leaveFinal_5 rfl (lv_at hl 0 rfl) ?_
  refine lv_iconst (v := (-1)) hx hb dX10_leaveFinal_6 (by decide) ?_
  obtain ⟨w_2, ew_2, hF⟩ := gS_some hF
  refine rp_X10_finalTime hx hb hts inX10 hown hK hW hL hi0 hn0 q52 dX10_leaveFinal_7 (fun H locs hW hL => ?_)
  rw [← ew_2] at hW
  exact g_rv hx hb hr hlocks (gW1 hF hW) hL dX10_leaveFinal_10
abbrev rmX10_leaveHeat : Room := { frames := 0, cells := 0, slots := 0, locals := 0 }
abbrev wsX10_leaveHeat : List Cond := gws yX10_leaveHeat cX10_leaveHeat 1 none
set_option maxHeartbeats 4000000 in
set_option maxRecDepth 100000 in
theorem c_X10_leaveHeat (l : Launch) (X : gX) (w : gWd) (i0 : Nat) (hi0 : i0 < 7) (n0 : Nat) (hn0 : n0 < 30) (w' : gWd) (hF : F_X10_leaveHeat w i0 n0 = some w') : Met l yX10_leaveHeat wsX10_leaveHeat rmX10_leaveHeat (gPc X [.ref (gA X i0 (4 + n0))] w) (gQv X w') 0 0 (gFr X) := by
  refine g_ofW (cc := cX10_leaveHeat) (maxL := 1) (ret := none) (by decide) rfl (Nat.le_of_ble_eq_true rfl) (fun p e s m args below meth c ls H hx hb hr hts hown hlocks hml hK hl hW => ?_)
  have hl : lv_has ls 1 [(0, .ref (gA X i0 (4 + n0)))] := hl
  have hown : s.vm.findClass RX10 = some m.cls := hown
  have hL : gLo X [] := gLo_nil
  show W p l e rmX10_leaveHeat s m args below meth c H [] 0 0 _ _
  have inX10 : ∀ w ∈ wsX100, w ∈ wsX10_leaveHeat := fun w h => List.mem_cons_of_mem _ (inlX10 w h)
  have q40 := hts _ (List.mem_cons_of_mem _ wq_X10_40)
  have q43 := hts _ (List.mem_cons_of_mem _ wq_X10_43)
  have q46 := hts _ (List.mem_cons_of_mem _ wq_X10_46)
  rw [F_X10_leaveHeat] at hF
  obtain ⟨locs, hlocs⟩ : ∃ locs : List Loc, locs = [] := ⟨_, rfl⟩
  rw [← hlocs] at hL ⊢
  refine lv_aload_n hx hb dX10_leaveHeat_0 rfl (lv_at hl 0 rfl) ?_
  refine lv_iconst (v := (-1)) hx hb dX10_leaveHeat_1 (by decide) ?_
  obtain ⟨w_1, ew_1, hF⟩ := gS_some hF
  refine rp_X10_heat hx hb hts inX10 hown hK hW hL hi0 hn0 q40 dX10_leaveHeat_2 (fun H locs hW hL => ?_)
  rw [← ew_1] at hW
  refine lv_aload_n hx hb dX10_leaveHeat_5 rfl (lv_at hl 0 rfl) ?_
  refine lv_iconst (v := 0) hx hb dX10_leaveHeat_6 (by decide) ?_
  obtain ⟨w_2, ew_2, hF⟩ := gS_some hF
  refine rp_X10_heatLane hx hb hts inX10 hown hK hW hL hi0 hn0 q43 dX10_leaveHeat_7 (fun H locs hW hL => ?_)
  rw [← ew_2] at hW
  refine lv_aload_n hx hb dX10_leaveHeat_10 rfl (lv_at hl 0 rfl) ?_
  refine lv_iconst (v := (-1)) hx hb dX10_leaveHeat_11 (by decide) ?_
  obtain ⟨w_3, ew_3, hF⟩ := gS_some hF
  refine rp_X10_heatTime hx hb hts inX10 hown hK hW hL hi0 hn0 q46 dX10_leaveHeat_12 (fun H locs hW hL => ?_)
  rw [← ew_3] at hW
  exact g_rv hx hb hr hlocks (gW1 hF hW) hL dX10_leaveHeat_15
abbrev rmX10_forgetEvent : Room := { frames := 1, cells := 0, slots := 0, locals := 20 }
abbrev wsX10_forgetEvent : List Cond := gws yX10_forgetEvent cX10_forgetEvent 1 none
set_option maxHeartbeats 4000000 in
set_option maxRecDepth 100000 in
theorem c_X10_forgetEvent (l : Launch) (X : gX) (w : gWd) (i0 : Nat) (hi0 : i0 < 7) (n0 : Nat) (hn0 : n0 < 30) (w' : gWd) (hF : F_X10_forgetEvent w i0 n0 = some w') : Met l yX10_forgetEvent wsX10_forgetEvent rmX10_forgetEvent (gPc X [.ref (gA X i0 (4 + n0))] w) (gQv X w') 0 0 (gFr X) := by
  refine g_ofW (cc := cX10_forgetEvent) (maxL := 1) (ret := none) (by decide) rfl (Nat.le_of_ble_eq_true rfl) (fun p e s m args below meth c ls H hx hb hr hts hown hlocks hml hK hl hW => ?_)
  have hl : lv_has ls 1 [(0, .ref (gA X i0 (4 + n0)))] := hl
  have hown : s.vm.findClass RX10 = some m.cls := hown
  have hL : gLo X [] := gLo_nil
  show W p l e rmX10_forgetEvent s m args below meth c H [] 0 0 _ _
  have inX10 : ∀ w ∈ wsX100, w ∈ wsX10_forgetEvent := fun w h => List.mem_cons_of_mem _ (inlX10 w h)
  have q27 := hts _ (List.mem_cons_of_mem _ wq_X10_27)
  have q31 := hts _ (List.mem_cons_of_mem _ wq_X10_31)
  have k34 : CallW rmX10_forgetEvent s args RX10 RX10 34 yX10_leaveHeat cX10_leaveHeat 1 none wsX10_leaveHeat rmX10_leaveHeat 0 0 0 := cwV 0 hts (gGoodV (fun w h => List.mem_cons_of_mem _ h) wk_X10_34) rfl rfl rfl (by decide +kernel) ⟨Nat.le_of_ble_eq_true rfl, Nat.le_of_ble_eq_true rfl⟩
  have k37 : CallW rmX10_forgetEvent s args RX10 RX10 37 yX10_leaveFinal cX10_leaveFinal 1 none wsX10_leaveFinal rmX10_leaveFinal 0 0 0 := cwV 0 hts (gGoodV (fun w h => List.mem_cons_of_mem _ h) wk_X10_37) rfl rfl rfl (by decide +kernel) ⟨Nat.le_of_ble_eq_true rfl, Nat.le_of_ble_eq_true rfl⟩
  rw [F_X10_forgetEvent] at hF
  obtain ⟨locs, hlocs⟩ : ∃ locs : List Loc, locs = [] := ⟨_, rfl⟩
  rw [← hlocs] at hL ⊢
  refine lv_aload_n hx hb dX10_forgetEvent_0 rfl (lv_at hl 0 rfl) ?_
  refine lv_iconst (v := 0) hx hb dX10_forgetEvent_1 (by decide) ?_
  obtain ⟨w_1, ew_1, hF⟩ := gS_some hF
  refine rp_X10_scratched hx hb hts inX10 hown hK hW hL hi0 hn0 (Or.inl rfl) q27 dX10_forgetEvent_2 (fun H locs hW hL => ?_)
  rw [← ew_1] at hW
  refine lv_aload_n hx hb dX10_forgetEvent_5 rfl (lv_at hl 0 rfl) ?_
  refine lv_iconst (v := 0) hx hb dX10_forgetEvent_6 (by decide) ?_
  obtain ⟨w_2, ew_2, hF⟩ := gS_some hF
  refine rp_X10_place hx hb hts inX10 hown hK hW hL hi0 hn0 q31 dX10_forgetEvent_7 (fun H locs hW hL => ?_)
  rw [← ew_2] at hW
  refine lv_aload_n hx hb dX10_forgetEvent_10 rfl (lv_at hl 0 rfl) ?_
  obtain ⟨w_4, hq_3, hF⟩ := gP_some hF
  refine g_Vv (As := []) (rest := []) ⟨hx, hb, hml, hown, hts⟩ hK hW hL hl.1 (gok_s hi0 hn0) (gE_ms hi0 n0) rfl (c_X10_leaveHeat l X w_2 i0 hi0 n0 hn0 w_4 hq_3) k34 rfl rfl (Nat.le_of_ble_eq_true rfl) dX10_forgetEvent_11 ⟨Nat.le_of_ble_eq_true rfl, Nat.le_of_ble_eq_true rfl⟩ (fun H locs hW hL => ?_)
  refine lv_aload_n hx hb dX10_forgetEvent_14 rfl (lv_at hl 0 rfl) ?_
  obtain ⟨w_6, hq_5, hF⟩ := gP_some hF
  refine g_Vv (As := []) (rest := []) ⟨hx, hb, hml, hown, hts⟩ hK hW hL hl.1 (gok_s hi0 hn0) (gE_ms hi0 n0) rfl (c_X10_leaveFinal l X w_4 i0 hi0 n0 hn0 w_6 hq_5) k37 rfl rfl (Nat.le_of_ble_eq_true rfl) dX10_forgetEvent_15 ⟨Nat.le_of_ble_eq_true rfl, Nat.le_of_ble_eq_true rfl⟩ (fun H locs hW hL => ?_)
  exact g_rv hx hb hr hlocks (gW1 hF hW) hL dX10_forgetEvent_18
abbrev rmX10_join : Room := { frames := 2, cells := 0, slots := 0, locals := 40 }
abbrev wsX10_join : List Cond := gws yX10_join cX10_join 3 none
set_option maxHeartbeats 4000000 in
set_option maxRecDepth 100000 in
theorem c_X10_join (l : Launch) (X : gX) (w : gWd) (i0 : Nat) (hi0 : i0 < 7) (n0 : Nat) (hn0 : n0 < 30) (x1 : Int32) (x2 : Int32) (w' : gWd) (hF : F_X10_join w i0 n0 x1 x2 = some w') : Met l yX10_join wsX10_join rmX10_join (gPc X [.ref (gA X i0 (4 + n0)), .int x1, .int x2] w) (gQv X w') 0 0 (gFr X) := by
  refine g_ofW (cc := cX10_join) (maxL := 3) (ret := none) (by decide) rfl (Nat.le_of_ble_eq_true rfl) (fun p e s m args below meth c ls H hx hb hr hts hown hlocks hml hK hl hW => ?_)
  have hl : lv_has ls 3 [(0, .ref (gA X i0 (4 + n0))), (1, .int x1), (2, .int x2)] := hl
  have hown : s.vm.findClass RX10 = some m.cls := hown
  have hL : gLo X [] := gLo_nil
  show W p l e rmX10_join s m args below meth c H [] 0 0 _ _
  have inX10 : ∀ w ∈ wsX100, w ∈ wsX10_join := fun w h => List.mem_cons_of_mem _ (inlX10 w h)
  have q15 := hts _ (List.mem_cons_of_mem _ wq_X10_15)
  have q18 := hts _ (List.mem_cons_of_mem _ wq_X10_18)
  have q21 := hts _ (List.mem_cons_of_mem _ wq_X10_21)
  have k24 : CallW rmX10_join s args RX10 RX10 24 yX10_forgetEvent cX10_forgetEvent 1 none wsX10_forgetEvent rmX10_forgetEvent 0 0 0 := cwV 0 hts (gGoodV (fun w h => List.mem_cons_of_mem _ h) wk_X10_24) rfl rfl rfl (by decide +kernel) ⟨Nat.le_of_ble_eq_true rfl, Nat.le_of_ble_eq_true rfl⟩
  rw [F_X10_join] at hF
  obtain ⟨locs, hlocs⟩ : ∃ locs : List Loc, locs = [] := ⟨_, rfl⟩
  rw [← hlocs] at hL ⊢
  refine lv_aload_n hx hb dX10_join_0 rfl (lv_at hl 0 rfl) ?_
  refine lv_iload_n hx hb dX10_join_1 rfl (lv_at hl 1 rfl) ?_
  obtain ⟨w_1, ew_1, hF⟩ := gS_some hF
  refine rp_X10_club hx hb hts inX10 hown hK hW hL hi0 hn0 q15 dX10_join_2 (fun H locs hW hL => ?_)
  rw [← ew_1] at hW
  refine lv_aload_n hx hb dX10_join_5 rfl (lv_at hl 0 rfl) ?_
  refine lv_iload_n hx hb dX10_join_6 rfl (lv_at hl 2 rfl) ?_
  obtain ⟨w_2, ew_2, hF⟩ := gS_some hF
  refine rp_X10_entry hx hb hts inX10 hown hK hW hL hi0 hn0 q18 dX10_join_7 (fun H locs hW hL => ?_)
  rw [← ew_2] at hW
  refine lv_aload_n hx hb dX10_join_10 rfl (lv_at hl 0 rfl) ?_
  refine lv_iconst (v := 0) hx hb dX10_join_11 (by decide) ?_
  obtain ⟨w_3, ew_3, hF⟩ := gS_some hF
  refine rp_X10_brought hx hb hts inX10 hown hK hW hL hi0 hn0 q21 dX10_join_12 (fun H locs hW hL => ?_)
  rw [← ew_3] at hW
  refine lv_aload_n hx hb dX10_join_15 rfl (lv_at hl 0 rfl) ?_
  obtain ⟨w_5, hq_4, hF⟩ := gP_some hF
  refine g_Vv (As := []) (rest := []) ⟨hx, hb, hml, hown, hts⟩ hK hW hL hl.1 (gok_s hi0 hn0) (gE_ms hi0 n0) rfl (c_X10_forgetEvent l X w_3 i0 hi0 n0 hn0 w_5 hq_4) k24 rfl rfl (Nat.le_of_ble_eq_true rfl) dX10_join_16 ⟨Nat.le_of_ble_eq_true rfl, Nat.le_of_ble_eq_true rfl⟩ (fun H locs hW hL => ?_)
  exact g_rv hx hb hr hlocks (gW1 hF hW) hL dX10_join_19
abbrev rmX1_addSwimmer : Room := { frames := 3, cells := 0, slots := 0, locals := 62 }
abbrev wsX1_addSwimmer : List Cond := gws yX1_addSwimmer cX1_addSwimmer 3 (some .int)
set_option maxHeartbeats 4000000 in
set_option maxRecDepth 100000 in
theorem c_X1_addSwimmer (l : Launch) (X : gX) (w : gWd) (i0 : Nat) (hi0 : i0 < 7) (x1 : Int32) (x2 : Int32) (r : Int32) (w' : gWd) (hF : F_X1_addSwimmer w i0 x1 x2 = some (r, w')) : Met l yX1_addSwimmer wsX1_addSwimmer rmX1_addSwimmer (gPc X [.ref (gA X i0 0), .int x1, .int x2] w) (gQi X r w') 0 0 (gFr X) := by
  refine g_ofW (cc := cX1_addSwimmer) (maxL := 3) (ret := (some .int)) (by decide) rfl (Nat.le_of_ble_eq_true rfl) (fun p e s m args below meth c ls H hx hb hr hts hown hlocks hml hK hl hW => ?_)
  have hl : lv_has ls 3 [(0, .ref (gA X i0 0)), (1, .int x1), (2, .int x2)] := hl
  have hown : s.vm.findClass RX1 = some m.cls := hown
  have hL : gLo X [] := gLo_nil
  show W p l e rmX1_addSwimmer s m args below meth c H [] 0 0 _ _
  have inX5 : ∀ w ∈ wsX50, w ∈ wsX1_addSwimmer := fun w h => List.mem_cons_of_mem _ (inlX5 w h)
  have q15 := hts _ (List.mem_cons_of_mem _ wq_X1_15)
  have q16 := hts _ (List.mem_cons_of_mem _ wq_X1_16)
  have q22 := hts _ (List.mem_cons_of_mem _ wq_X1_22)
  have q23 := hts _ (List.mem_cons_of_mem _ wq_X1_23)
  have q26 := hts _ (List.mem_cons_of_mem _ wq_X1_26)
  have q27 := hts _ (List.mem_cons_of_mem _ wq_X1_27)
  have k31 : CallW rmX1_addSwimmer s args RX1 RX10 31 yX10_join cX10_join 3 none wsX10_join rmX10_join 0 0 2 := cwV 2 hts (gGoodV (fun w h => List.mem_cons_of_mem _ h) wk_X1_31) rfl rfl rfl (by decide +kernel) ⟨Nat.le_of_ble_eq_true rfl, Nat.le_of_ble_eq_true rfl⟩
  have k9 : CallB rmX1_addSwimmer s args RX1 9 yX1_isTimeOrZero cX1_isTimeOrZero 1 (some .boolean) wsX1_isTimeOrZero rmX1_isTimeOrZero 0 0 1 ∧ (Cond.static yX1_isTimeOrZero).before args s = true := va_cwS 1 hts (gGoodS (fun w h => List.mem_cons_of_mem _ h) wk_X1_9) rfl rfl rfl (by decide +kernel) ⟨Nat.le_of_ble_eq_true rfl, Nat.le_of_ble_eq_true rfl⟩
  rw [F_X1_addSwimmer] at hF
  obtain ⟨locs, hlocs⟩ : ∃ locs : List Loc, locs = [] := ⟨_, rfl⟩
  rw [← hlocs] at hL ⊢
  refine lv_iload_n hx hb dX1_addSwimmer_0 rfl (lv_at hl 1 rfl) ?_
  refine lv_if_lt (tgt := 17) hx hb dX1_addSwimmer_1 (by decide) (fun hc_1 => ?_) (fun hc_1 => ?_)
  · replace hF := gT hc_1 hF
    refine lv_ldc hx hb hown q15 dX1_addSwimmer_17 ?_
    exact g_ri hx hb hr hlocks (gW2 hF hW) hL (gI2 hF).1 dX1_addSwimmer_19
  · replace hF := gF hc_1 hF
    refine lv_iload_n hx hb dX1_addSwimmer_4 rfl (lv_at hl 1 rfl) ?_
    refine lv_bipush (v := 6) hx hb dX1_addSwimmer_5 (by decide) ?_
    refine lv_icmp_ge (tgt := 17) hx hb dX1_addSwimmer_7 (by decide) (fun hc_2 => ?_) (fun hc_2 => ?_)
    · replace hF := gT hc_2 hF
      refine lv_ldc hx hb hown q15 dX1_addSwimmer_17 ?_
      exact g_ri hx hb hr hlocks (gW2 hF hW) hL (gI2 hF).1 dX1_addSwimmer_19
    · replace hF := gF hc_2 hF
      refine lv_iload_n hx hb dX1_addSwimmer_10 rfl (lv_at hl 2 rfl) ?_
      obtain ⟨v_4, hq_3, hF⟩ := gP_some hF
      refine g_Si (As := [.int x2]) (rest := []) ⟨hx, hb, hml, hown, hts⟩ hK hW hL hl.1 (c_X1_isTimeOrZero l X w x2 v_4 hq_3) k9 rfl rfl (Nat.le_of_ble_eq_true rfl) dX1_addSwimmer_11 ⟨Nat.le_of_ble_eq_true rfl, Nat.le_of_ble_eq_true rfl⟩ (fun H locs hW hL => ?_)
      refine lv_if_ne (tgt := 20) hx hb dX1_addSwimmer_14 (by decide) (fun hc_5 => ?_) (fun hc_5 => ?_)
      · replace hF := gF hc_5 hF
        refine lv_aload_n hx hb dX1_addSwimmer_20 rfl (lv_at hl 0 rfl) ?_
        refine rg_X5_stage hx hb hts inX5 hown hK hW hi0 q16 dX1_addSwimmer_21 ?_
        refine lv_if_eq (tgt := 30) hx hb dX1_addSwimmer_24 (by decide) (fun hc_6 => ?_) (fun hc_6 => ?_)
        · replace hF := gT hc_6 hF
          refine lv_aload_n hx hb dX1_addSwimmer_30 rfl (lv_at hl 0 rfl) ?_
          refine rg_X5_size hx hb hts inX5 hown hK hW hi0 q23 dX1_addSwimmer_31 ?_
          refine lv_bipush (v := 30) hx hb dX1_addSwimmer_34 (by decide) ?_
          refine lv_icmp_lt (tgt := 42) hx hb dX1_addSwimmer_36 (by decide) (fun hc_7 => ?_) (fun hc_7 => ?_)
          · replace hF := gT hc_7 hF
            refine lv_aload_n hx hb dX1_addSwimmer_42 rfl (lv_at hl 0 rfl) ?_
            refine rg_X5_all hx hb hts inX5 hown hK hW hi0 q27 dX1_addSwimmer_43 ?_
            refine lv_aload_n hx hb dX1_addSwimmer_46 rfl (lv_at hl 0 rfl) ?_
            refine rg_X5_size hx hb hts inX5 hown hK hW hi0 q23 dX1_addSwimmer_47 ?_
            obtain ⟨hin_8, hF⟩ := gB_some hF
            obtain ⟨k_9, ek_9⟩ : ∃ k, k = Int32.toNatClampNeg ((w i0 0 3)) := ⟨_, rfl⟩
            rw [← ek_9] at hF
            refine r_all (k := k_9) hx hb hK hW hi0 hin_8 ek_9.symm dX1_addSwimmer_50 ?_
            refine lv_iload_n hx hb dX1_addSwimmer_51 rfl (lv_at hl 1 rfl) ?_
            refine lv_iload_n hx hb dX1_addSwimmer_52 rfl (lv_at hl 2 rfl) ?_
            obtain ⟨w_11, hq_10, hF⟩ := gP_some hF
            refine g_Vv (As := [.int x1, .int x2]) (rest := []) ⟨hx, hb, hml, hown, hts⟩ hK hW hL hl.1 (gok_s hi0 (vp_lt2 hin_8 ek_9.symm)) (gE_ms hi0 k_9) rfl (c_X10_join l X w i0 hi0 k_9 (vp_lt2 hin_8 ek_9.symm) x1 x2 w_11 hq_10) k31 rfl rfl (Nat.le_of_ble_eq_true rfl) dX1_addSwimmer_53 ⟨Nat.le_of_ble_eq_true rfl, Nat.le_of_ble_eq_true rfl⟩ (fun H locs hW hL => ?_)
            refine lv_aload_n hx hb dX1_addSwimmer_56 rfl (lv_at hl 0 rfl) ?_
            refine lv_dup hx hb dX1_addSwimmer_57 rfl ?_
            refine rg_X5_size hx hb hts inX5 hown hK hW hi0 q23 dX1_addSwimmer_58 ?_
            refine lv_dup_x1 hx hb dX1_addSwimmer_61 rfl rfl ?_
            refine lv_iconst (v := 1) hx hb dX1_addSwimmer_62 (by decide) ?_
            refine lv_iadd hx hb dX1_addSwimmer_63 ?_
            obtain ⟨w_12, ew_12, hF⟩ := gS_some hF
            refine rp_X5_size hx hb hts inX5 hown hK hW hL hi0 q23 dX1_addSwimmer_64 (fun H locs hW hL => ?_)
            rw [← ew_12] at hW
            exact g_ri hx hb hr hlocks (gW2 hF hW) hL (gI2 hF).1 dX1_addSwimmer_67
          · replace hF := gF hc_7 hF
            refine lv_ldc hx hb hown q26 dX1_addSwimmer_39 ?_
            exact g_ri hx hb hr hlocks (gW2 hF hW) hL (gI2 hF).1 dX1_addSwimmer_41
        · replace hF := gF hc_6 hF
          refine lv_ldc hx hb hown q22 dX1_addSwimmer_27 ?_
          exact g_ri hx hb hr hlocks (gW2 hF hW) hL (gI2 hF).1 dX1_addSwimmer_29
      · replace hF := gT hc_5 hF
        refine lv_ldc hx hb hown q15 dX1_addSwimmer_17 ?_
        exact g_ri hx hb hr hlocks (gW2 hF hW) hL (gI2 hF).1 dX1_addSwimmer_19
abbrev rmX3_dropOldest : Room := { frames := 0, cells := 0, slots := 0, locals := 0 }
abbrev wsX3_dropOldest : List Cond := gws yX3_dropOldest cX3_dropOldest 3 none
set_option maxHeartbeats 4000000 in
set_option maxRecDepth 100000 in
theorem c_X3_dropOldest (l : Launch) (X : gX) (w : gWd)  (w' : gWd) (hF : F_X3_dropOldest w = some w') : Met l yX3_dropOldest wsX3_dropOldest rmX3_dropOldest (gPc X [.ref (gA X 7 1)] w) (gQv X w') 0 0 (gFr X) := by
  refine g_ofW (cc := cX3_dropOldest) (maxL := 3) (ret := none) (by decide) rfl (Nat.le_of_ble_eq_true rfl) (fun p e s m args below meth c ls H hx hb hr hts hown hlocks hml hK hl hW => ?_)
  have hl : lv_has ls 3 [(0, .ref (gA X 7 1))] := hl
  have hown : s.vm.findClass RX3 = some m.cls := hown
  have hL : gLo X [] := gLo_nil
  show W p l e rmX3_dropOldest s m args below meth c H [] 0 0 _ _
  have inX3 : ∀ w ∈ wsX30, w ∈ wsX3_dropOldest := fun w h => List.mem_cons_of_mem _ (inlX3 w h)
  have q11 := hts _ (List.mem_cons_of_mem _ wq_X3_11)
  have q18 := hts _ (List.mem_cons_of_mem _ wq_X3_18)
  have L_9 : ∀ (fu : Nat) (w : gWd) (i1 : Nat) (x2 : Int32) (hi1 : i1 < 7) (ls : Array Slot) (hl : lv_has ls 3 [(0, .ref (gA X 7 1)), (1, .ref (gA X i1 0)), (2, .int x2)]) (hF : F_X3_dropOldest_9 fu w i1 x2 = some w') (H : Heap) (locs : List Loc) (hW : gWo X 252 (gE X w) H) (hL : gLo X locs), W p l e rmX3_dropOldest s m args below meth c H locs 0 0 (MQ below (gQv X w') args s 0 0 (gFr X)) (F0 m 9 ls []) := by
    intro fu
    induction fu with
    | zero => intro w i1 x2 hi1 ls hl hF H locs hW hL; rw [F_X3_dropOldest_9_z] at hF; cases hF
    | succ fu9 ih9 =>
      intro w i1 x2 hi1 ls hl hF H locs hW hL
      rw [F_X3_dropOldest_9_s] at hF
      refine lv_iload_n hx hb dX3_dropOldest_9 rfl (lv_at hl 2 rfl) ?_
      refine lv_iconst (v := 4) hx hb dX3_dropOldest_10 (by decide) ?_
      refine lv_icmp_ge (tgt := 34) hx hb dX3_dropOldest_11 (by decide) (fun hc_1 => ?_) (fun hc_1 => ?_)
      · replace hF := gT hc_1 hF
        refine lv_aload_n hx hb dX3_dropOldest_34 rfl (lv_at hl 0 rfl) ?_
        refine rg_X3_rows hx hb hts inX3 hown hK hW q11 dX3_dropOldest_35 ?_
        refine lv_iconst (v := 4) hx hb dX3_dropOldest_38 (by decide) ?_
        refine lv_aload_n hx hb dX3_dropOldest_39 rfl (lv_at hl 1 rfl) ?_
        obtain ⟨w_2, ew_2, hF⟩ := gS_some hF
        refine r_rowst (k := 4) hx hb hK hW hL hi1 (gin (by decide)) (by decide) dX3_dropOldest_40 (fun H locs hW hL => ?_)
        rw [← ew_2] at hW
        refine lv_aload_n hx hb dX3_dropOldest_41 rfl (lv_at hl 0 rfl) ?_
        refine lv_iconst (v := 4) hx hb dX3_dropOldest_42 (by decide) ?_
        obtain ⟨w_3, ew_3, hF⟩ := gS_some hF
        refine rp_X3_kept hx hb hts inX3 hown hK hW hL q18 dX3_dropOldest_43 (fun H locs hW hL => ?_)
        rw [← ew_3] at hW
        exact g_rv hx hb hr hlocks (gW1 hF hW) hL dX3_dropOldest_46
      · replace hF := gF hc_1 hF
        refine lv_aload_n hx hb dX3_dropOldest_14 rfl (lv_at hl 0 rfl) ?_
        refine rg_X3_rows hx hb hts inX3 hown hK hW q11 dX3_dropOldest_15 ?_
        refine lv_iload_n hx hb dX3_dropOldest_18 rfl (lv_at hl 2 rfl) ?_
        refine lv_aload_n hx hb dX3_dropOldest_19 rfl (lv_at hl 0 rfl) ?_
        refine rg_X3_rows hx hb hts inX3 hown hK hW q11 dX3_dropOldest_20 ?_
        refine lv_iload_n hx hb dX3_dropOldest_23 rfl (lv_at hl 2 rfl) ?_
        refine lv_iconst (v := 1) hx hb dX3_dropOldest_24 (by decide) ?_
        refine lv_iadd hx hb dX3_dropOldest_25 ?_
        obtain ⟨hin_4, hF⟩ := gB_some hF
        obtain ⟨k_5, ek_5⟩ : ∃ k, k = Int32.toNatClampNeg ((x2 + 1)) := ⟨_, rfl⟩
        rw [← ek_5] at hF
        obtain ⟨hm_6, hF⟩ := gM_some hF
        refine r_rows (k := k_5) hx hb hK hW hin_4 ek_5.symm dX3_dropOldest_26 ?_
        obtain ⟨hin_7, hF⟩ := gB_some hF
        obtain ⟨k_8, ek_8⟩ : ∃ k, k = Int32.toNatClampNeg x2 := ⟨_, rfl⟩
        rw [← ek_8] at hF
        obtain ⟨w_9, ew_9, hF⟩ := gS_some hF
        refine r_rowst (k := k_8) hx hb hK hW hL hm_6 hin_7 ek_8.symm dX3_dropOldest_27 (fun H locs hW hL => ?_)
        rw [← ew_9] at hW
        obtain ⟨x2_10, ex2_10, hF⟩ := gS_some hF
        refine lv_iinc (v := x2_10) (lv' := [(2, .int x2_10), (0, .ref (gA X 7 1)), (1, .ref (gA X i1 0))]) hx hb dX3_dropOldest_28 hl (k := 2) rfl (by rw [ex2_10]; rfl) (by decide) rfl (fun ls hl => ?_)
        refine lv_goto (tgt := 9) hx hb dX3_dropOldest_31 (by decide) ?_
        exact ih9 w_9 i1 x2_10 hi1 ls (lv_sub hl [1, 2, 0] rfl) hF H locs hW hL
  rw [F_X3_dropOldest] at hF
  obtain ⟨locs, hlocs⟩ : ∃ locs : List Loc, locs = [] := ⟨_, rfl⟩
  rw [← hlocs] at hL ⊢
  refine lv_aload_n hx hb dX3_dropOldest_0 rfl (lv_at hl 0 rfl) ?_
  refine rg_X3_rows hx hb hts inX3 hown hK hW q11 dX3_dropOldest_1 ?_
  refine lv_iconst (v := 0) hx hb dX3_dropOldest_4 (by decide) ?_
  obtain ⟨hm_11, hF⟩ := gM_some hF
  refine r_rows (k := 0) hx hb hK hW (gin (by decide)) (by decide) dX3_dropOldest_5 ?_
  refine lv_astore_n (lv' := [(1, .ref (gA X ((w 7 2 0).toNatClampNeg) 0)), (0, .ref (gA X 7 1))]) hx hb dX3_dropOldest_6 rfl hl (by decide) rfl (fun ls hl => ?_)
  refine lv_iconst (v := 0) hx hb dX3_dropOldest_7 (by decide) ?_
  refine lv_istore_n (lv' := [(2, .int 0), (1, .ref (gA X ((w 7 2 0).toNatClampNeg) 0)), (0, .ref (gA X 7 1))]) hx hb dX3_dropOldest_8 rfl hl (by decide) rfl (fun ls hl => ?_)
  exact L_9 gFU w (((w 7 2 0).toNatClampNeg)) 0 hm_11 ls (lv_sub hl [2, 1, 0] rfl) hF H locs hW hL
abbrev rmX3_keepUnlessError : Room := { frames := 1, cells := 0, slots := 0, locals := 22 }
abbrev wsX3_keepUnlessError : List Cond := gws yX3_keepUnlessError cX3_keepUnlessError 2 (some .int)
set_option maxHeartbeats 4000000 in
set_option maxRecDepth 100000 in
theorem c_X3_keepUnlessError (l : Launch) (X : gX) (w : gWd) (x1 : Int32) (r : Int32) (w' : gWd) (hF : F_X3_keepUnlessError w x1 = some (r, w')) : Met l yX3_keepUnlessError wsX3_keepUnlessError rmX3_keepUnlessError (gPc X [.ref (gA X 7 1), .int x1] w) (gQi X r w') 0 0 (gFr X) := by
  refine g_ofW (cc := cX3_keepUnlessError) (maxL := 2) (ret := (some .int)) (by decide) rfl (Nat.le_of_ble_eq_true rfl) (fun p e s m args below meth c ls H hx hb hr hts hown hlocks hml hK hl hW => ?_)
  have hl : lv_has ls 2 [(0, .ref (gA X 7 1)), (1, .int x1)] := hl
  have hown : s.vm.findClass RX3 = some m.cls := hown
  have hL : gLo X [] := gLo_nil
  show W p l e rmX3_keepUnlessError s m args below meth c H [] 0 0 _ _
  have inX3 : ∀ w ∈ wsX30, w ∈ wsX3_keepUnlessError := fun w h => List.mem_cons_of_mem _ (inlX3 w h)
  have q18 := hts _ (List.mem_cons_of_mem _ wq_X3_18)
  have k26 : CallW rmX3_keepUnlessError s args RX3 RX3 26 yX3_dropOldest cX3_dropOldest 3 none wsX3_dropOldest rmX3_dropOldest 0 0 0 := cwV 0 hts (gGoodV (fun w h => List.mem_cons_of_mem _ h) wk_X3_26) rfl rfl rfl (by decide +kernel) ⟨Nat.le_of_ble_eq_true rfl, Nat.le_of_ble_eq_true rfl⟩
  rw [F_X3_keepUnlessError] at hF
  obtain ⟨locs, hlocs⟩ : ∃ locs : List Loc, locs = [] := ⟨_, rfl⟩
  rw [← hlocs] at hL ⊢
  refine lv_iload_n hx hb dX3_keepUnlessError_0 rfl (lv_at hl 1 rfl) ?_
  refine lv_if_lt (tgt := 26) hx hb dX3_keepUnlessError_1 (by decide) (fun hc_1 => ?_) (fun hc_1 => ?_)
  · replace hF := gT hc_1 hF
    refine lv_iload_n hx hb dX3_keepUnlessError_26 rfl (lv_at hl 1 rfl) ?_
    exact g_ri hx hb hr hlocks (gW2 hF hW) hL (gI2 hF).1 dX3_keepUnlessError_27
  · replace hF := gF hc_1 hF
    refine lv_aload_n hx hb dX3_keepUnlessError_4 rfl (lv_at hl 0 rfl) ?_
    refine lv_dup hx hb dX3_keepUnlessError_5 rfl ?_
    refine rg_X3_kept hx hb hts inX3 hown hK hW q18 dX3_keepUnlessError_6 ?_
    refine lv_iconst (v := 1) hx hb dX3_keepUnlessError_9 (by decide) ?_
    refine lv_iadd hx hb dX3_keepUnlessError_10 ?_
    obtain ⟨w_2, ew_2, hF⟩ := gS_some hF
    refine rp_X3_kept hx hb hts inX3 hown hK hW hL q18 dX3_keepUnlessError_11 (fun H locs hW hL => ?_)
    rw [← ew_2] at hW
    refine lv_aload_n hx hb dX3_keepUnlessError_14 rfl (lv_at hl 0 rfl) ?_
    refine rg_X3_kept hx hb hts inX3 hown hK hW q18 dX3_keepUnlessError_15 ?_
    refine lv_iconst (v := 4) hx hb dX3_keepUnlessError_18 (by decide) ?_
    refine lv_icmp_le (tgt := 26) hx hb dX3_keepUnlessError_19 (by decide) (fun hc_3 => ?_) (fun hc_3 => ?_)
    · replace hF := gT hc_3 hF
      refine lv_iload_n hx hb dX3_keepUnlessError_26 rfl (lv_at hl 1 rfl) ?_
      exact g_ri hx hb hr hlocks (gW2 hF hW) hL (gI2 hF).1 dX3_keepUnlessError_27
    · replace hF := gF hc_3 hF
      refine lv_aload_n hx hb dX3_keepUnlessError_22 rfl (lv_at hl 0 rfl) ?_
      obtain ⟨w_5, hq_4, hF⟩ := gP_some hF
      refine g_Vv (As := []) (rest := []) ⟨hx, hb, hml, hown, hts⟩ hK hW hL hl.1 (gok_c (by decide)) gE_H rfl (c_X3_dropOldest l X w_2  w_5 hq_4) k26 rfl rfl (Nat.le_of_ble_eq_true rfl) dX3_keepUnlessError_23 ⟨Nat.le_of_ble_eq_true rfl, Nat.le_of_ble_eq_true rfl⟩ (fun H locs hW hL => ?_)
      refine lv_iload_n hx hb dX3_keepUnlessError_26 rfl (lv_at hl 1 rfl) ?_
      exact g_ri hx hb hr hlocks (gW2 hF hW) hL (gI2 hF).1 dX3_keepUnlessError_27
abbrev rmX10_copyFrom : Room := { frames := 0, cells := 0, slots := 0, locals := 0 }
abbrev wsX10_copyFrom : List Cond := gws yX10_copyFrom cX10_copyFrom 2 none
set_option maxHeartbeats 4000000 in
set_option maxRecDepth 100000 in
theorem c_X10_copyFrom (l : Launch) (X : gX) (w : gWd) (i0 : Nat) (hi0 : i0 < 7) (n0 : Nat) (hn0 : n0 < 30) (i1 : Nat) (hi1 : i1 < 7) (n1 : Nat) (hn1 : n1 < 30) (w' : gWd) (hF : F_X10_copyFrom w i0 n0 i1 n1 = some w') : Met l yX10_copyFrom wsX10_copyFrom rmX10_copyFrom (gPc X [.ref (gA X i0 (4 + n0)), .ref (gA X i1 (4 + n1))] w) (gQv X w') 0 0 (gFr X) := by
  refine g_ofW (cc := cX10_copyFrom) (maxL := 2) (ret := none) (by decide) rfl (Nat.le_of_ble_eq_true rfl) (fun p e s m args below meth c ls H hx hb hr hts hown hlocks hml hK hl hW => ?_)
  have hl : lv_has ls 2 [(0, .ref (gA X i0 (4 + n0))), (1, .ref (gA X i1 (4 + n1)))] := hl
  have hown : s.vm.findClass RX10 = some m.cls := hown
  have hL : gLo X [] := gLo_nil
  show W p l e rmX10_copyFrom s m args below meth c H [] 0 0 _ _
  have inX10 : ∀ w ∈ wsX100, w ∈ wsX10_copyFrom := fun w h => List.mem_cons_of_mem _ (inlX10 w h)
  have q15 := hts _ (List.mem_cons_of_mem _ wq_X10_15)
  have q18 := hts _ (List.mem_cons_of_mem _ wq_X10_18)
  have q21 := hts _ (List.mem_cons_of_mem _ wq_X10_21)
  have q27 := hts _ (List.mem_cons_of_mem _ wq_X10_27)
  have q31 := hts _ (List.mem_cons_of_mem _ wq_X10_31)
  have q40 := hts _ (List.mem_cons_of_mem _ wq_X10_40)
  have q43 := hts _ (List.mem_cons_of_mem _ wq_X10_43)
  have q46 := hts _ (List.mem_cons_of_mem _ wq_X10_46)
  have q49 := hts _ (List.mem_cons_of_mem _ wq_X10_49)
  have q52 := hts _ (List.mem_cons_of_mem _ wq_X10_52)
  rw [F_X10_copyFrom] at hF
  obtain ⟨locs, hlocs⟩ : ∃ locs : List Loc, locs = [] := ⟨_, rfl⟩
  rw [← hlocs] at hL ⊢
  refine lv_aload_n hx hb dX10_copyFrom_0 rfl (lv_at hl 0 rfl) ?_
  refine lv_aload_n hx hb dX10_copyFrom_1 rfl (lv_at hl 1 rfl) ?_
  refine rg_X10_club hx hb hts inX10 hown hK hW hi1 hn1 q15 dX10_copyFrom_2 ?_
  obtain ⟨w_1, ew_1, hF⟩ := gS_some hF
  refine rp_X10_club hx hb hts inX10 hown hK hW hL hi0 hn0 q15 dX10_copyFrom_5 (fun H locs hW hL => ?_)
  rw [← ew_1] at hW
  refine lv_aload_n hx hb dX10_copyFrom_8 rfl (lv_at hl 0 rfl) ?_
  refine lv_aload_n hx hb dX10_copyFrom_9 rfl (lv_at hl 1 rfl) ?_
  refine rg_X10_entry hx hb hts inX10 hown hK hW hi1 hn1 q18 dX10_copyFrom_10 ?_
  obtain ⟨w_2, ew_2, hF⟩ := gS_some hF
  refine rp_X10_entry hx hb hts inX10 hown hK hW hL hi0 hn0 q18 dX10_copyFrom_13 (fun H locs hW hL => ?_)
  rw [← ew_2] at hW
  refine lv_aload_n hx hb dX10_copyFrom_16 rfl (lv_at hl 0 rfl) ?_
  refine lv_aload_n hx hb dX10_copyFrom_17 rfl (lv_at hl 1 rfl) ?_
  refine rg_X10_scratched hx hb hts inX10 hown hK hW hi1 hn1 q27 dX10_copyFrom_18 ?_
  obtain ⟨hz_3, hF⟩ := gZ_some hF
  obtain ⟨w_4, ew_4, hF⟩ := gS_some hF
  refine rp_X10_scratched hx hb hts inX10 hown hK hW hL hi0 hn0 hz_3 q27 dX10_copyFrom_21 (fun H locs hW hL => ?_)
  rw [← ew_4] at hW
  refine lv_aload_n hx hb dX10_copyFrom_24 rfl (lv_at hl 0 rfl) ?_
  refine lv_aload_n hx hb dX10_copyFrom_25 rfl (lv_at hl 1 rfl) ?_
  refine rg_X10_heat hx hb hts inX10 hown hK hW hi1 hn1 q40 dX10_copyFrom_26 ?_
  obtain ⟨w_5, ew_5, hF⟩ := gS_some hF
  refine rp_X10_heat hx hb hts inX10 hown hK hW hL hi0 hn0 q40 dX10_copyFrom_29 (fun H locs hW hL => ?_)
  rw [← ew_5] at hW
  refine lv_aload_n hx hb dX10_copyFrom_32 rfl (lv_at hl 0 rfl) ?_
  refine lv_aload_n hx hb dX10_copyFrom_33 rfl (lv_at hl 1 rfl) ?_
  refine rg_X10_heatLane hx hb hts inX10 hown hK hW hi1 hn1 q43 dX10_copyFrom_34 ?_
  obtain ⟨w_6, ew_6, hF⟩ := gS_some hF
  refine rp_X10_heatLane hx hb hts inX10 hown hK hW hL hi0 hn0 q43 dX10_copyFrom_37 (fun H locs hW hL => ?_)
  rw [← ew_6] at hW
  refine lv_aload_n hx hb dX10_copyFrom_40 rfl (lv_at hl 0 rfl) ?_
  refine lv_aload_n hx hb dX10_copyFrom_41 rfl (lv_at hl 1 rfl) ?_
  refine rg_X10_heatTime hx hb hts inX10 hown hK hW hi1 hn1 q46 dX10_copyFrom_42 ?_
  obtain ⟨w_7, ew_7, hF⟩ := gS_some hF
  refine rp_X10_heatTime hx hb hts inX10 hown hK hW hL hi0 hn0 q46 dX10_copyFrom_45 (fun H locs hW hL => ?_)
  rw [← ew_7] at hW
  refine lv_aload_n hx hb dX10_copyFrom_48 rfl (lv_at hl 0 rfl) ?_
  refine lv_aload_n hx hb dX10_copyFrom_49 rfl (lv_at hl 1 rfl) ?_
  refine rg_X10_finalLane hx hb hts inX10 hown hK hW hi1 hn1 q49 dX10_copyFrom_50 ?_
  obtain ⟨w_8, ew_8, hF⟩ := gS_some hF
  refine rp_X10_finalLane hx hb hts inX10 hown hK hW hL hi0 hn0 q49 dX10_copyFrom_53 (fun H locs hW hL => ?_)
  rw [← ew_8] at hW
  refine lv_aload_n hx hb dX10_copyFrom_56 rfl (lv_at hl 0 rfl) ?_
  refine lv_aload_n hx hb dX10_copyFrom_57 rfl (lv_at hl 1 rfl) ?_
  refine rg_X10_finalTime hx hb hts inX10 hown hK hW hi1 hn1 q52 dX10_copyFrom_58 ?_
  obtain ⟨w_9, ew_9, hF⟩ := gS_some hF
  refine rp_X10_finalTime hx hb hts inX10 hown hK hW hL hi0 hn0 q52 dX10_copyFrom_61 (fun H locs hW hL => ?_)
  rw [← ew_9] at hW
  refine lv_aload_n hx hb dX10_copyFrom_64 rfl (lv_at hl 0 rfl) ?_
  refine lv_aload_n hx hb dX10_copyFrom_65 rfl (lv_at hl 1 rfl) ?_
  refine rg_X10_place hx hb hts inX10 hown hK hW hi1 hn1 q31 dX10_copyFrom_66 ?_
  obtain ⟨w_10, ew_10, hF⟩ := gS_some hF
  refine rp_X10_place hx hb hts inX10 hown hK hW hL hi0 hn0 q31 dX10_copyFrom_69 (fun H locs hW hL => ?_)
  rw [← ew_10] at hW
  refine lv_aload_n hx hb dX10_copyFrom_72 rfl (lv_at hl 0 rfl) ?_
  refine lv_aload_n hx hb dX10_copyFrom_73 rfl (lv_at hl 1 rfl) ?_
  refine rg_X10_brought hx hb hts inX10 hown hK hW hi1 hn1 q21 dX10_copyFrom_74 ?_
  obtain ⟨w_11, ew_11, hF⟩ := gS_some hF
  refine rp_X10_brought hx hb hts inX10 hown hK hW hL hi0 hn0 q21 dX10_copyFrom_77 (fun H locs hW hL => ?_)
  rw [← ew_11] at hW
  exact g_rv hx hb hr hlocks (gW1 hF hW) hL dX10_copyFrom_80
abbrev rmX5_copyFrom : Room := { frames := 1, cells := 0, slots := 0, locals := 21 }
abbrev wsX5_copyFrom : List Cond := gws yX5_copyFrom cX5_copyFrom 3 none
set_option maxHeartbeats 4000000 in
set_option maxRecDepth 100000 in
theorem c_X5_copyFrom (l : Launch) (X : gX) (w : gWd) (i0 : Nat) (hi0 : i0 < 7) (i1 : Nat) (hi1 : i1 < 7) (w' : gWd) (hF : F_X5_copyFrom w i0 i1 = some w') : Met l yX5_copyFrom wsX5_copyFrom rmX5_copyFrom (gPc X [.ref (gA X i0 0), .ref (gA X i1 0)] w) (gQv X w') 0 0 (gFr X) := by
  refine g_ofW (cc := cX5_copyFrom) (maxL := 3) (ret := none) (by decide) rfl (Nat.le_of_ble_eq_true rfl) (fun p e s m args below meth c ls H hx hb hr hts hown hlocks hml hK hl hW => ?_)
  have hl : lv_has ls 3 [(0, .ref (gA X i0 0)), (1, .ref (gA X i1 0))] := hl
  have hown : s.vm.findClass RX5 = some m.cls := hown
  have hL : gLo X [] := gLo_nil
  show W p l e rmX5_copyFrom s m args below meth c H [] 0 0 _ _
  have inX5 : ∀ w ∈ wsX50, w ∈ wsX5_copyFrom := fun w h => List.mem_cons_of_mem _ (inlX5 w h)
  have q17 := hts _ (List.mem_cons_of_mem _ wq_X5_17)
  have q21 := hts _ (List.mem_cons_of_mem _ wq_X5_21)
  have q32 := hts _ (List.mem_cons_of_mem _ wq_X5_32)
  have q36 := hts _ (List.mem_cons_of_mem _ wq_X5_36)
  have q39 := hts _ (List.mem_cons_of_mem _ wq_X5_39)
  have q42 := hts _ (List.mem_cons_of_mem _ wq_X5_42)
  have q45 := hts _ (List.mem_cons_of_mem _ wq_X5_45)
  have q48 := hts _ (List.mem_cons_of_mem _ wq_X5_48)
  have q51 := hts _ (List.mem_cons_of_mem _ wq_X5_51)
  have q54 := hts _ (List.mem_cons_of_mem _ wq_X5_54)
  have q9 := hts _ (List.mem_cons_of_mem _ wq_X5_9)
  have k57 : CallW rmX5_copyFrom s args RX5 RX10 57 yX10_copyFrom cX10_copyFrom 2 none wsX10_copyFrom rmX10_copyFrom 0 0 1 := cwV 1 hts (gGoodV (fun w h => List.mem_cons_of_mem _ h) wk_X5_57) rfl rfl rfl (by decide +kernel) ⟨Nat.le_of_ble_eq_true rfl, Nat.le_of_ble_eq_true rfl⟩
  have L_116 : ∀ (fu : Nat) (w : gWd) (i0 : Nat) (i1 : Nat) (x2 : Int32) (hi0 : i0 < 7) (hi1 : i1 < 7) (ls : Array Slot) (hl : lv_has ls 3 [(0, .ref (gA X i0 0)), (1, .ref (gA X i1 0)), (2, .int x2)]) (hF : F_X5_copyFrom_116 fu w i0 i1 x2 = some w') (H : Heap) (locs : List Loc) (hW : gWo X 252 (gE X w) H) (hL : gLo X locs), W p l e rmX5_copyFrom s m args below meth c H locs 0 0 (MQ below (gQv X w') args s 0 0 (gFr X)) (F0 m 116 ls []) := by
    intro fu
    induction fu with
    | zero => intro w i0 i1 x2 hi0 hi1 ls hl hF H locs hW hL; rw [F_X5_copyFrom_116_z] at hF; cases hF
    | succ fu116 ih116 =>
      intro w i0 i1 x2 hi0 hi1 ls hl hF H locs hW hL
      rw [F_X5_copyFrom_116_s] at hF
      refine lv_iload_n hx hb dX5_copyFrom_116 rfl (lv_at hl 2 rfl) ?_
      refine lv_aload_n hx hb dX5_copyFrom_117 rfl (lv_at hl 0 rfl) ?_
      refine rg_X5_size hx hb hts inX5 hown hK hW hi0 q32 dX5_copyFrom_118 ?_
      refine lv_icmp_ge (tgt := 145) hx hb dX5_copyFrom_121 (by decide) (fun hc_15 => ?_) (fun hc_15 => ?_)
      · replace hF := gT hc_15 hF
        exact g_rv hx hb hr hlocks (gW1 hF hW) hL dX5_copyFrom_145
      · replace hF := gF hc_15 hF
        refine lv_aload_n hx hb dX5_copyFrom_124 rfl (lv_at hl 0 rfl) ?_
        refine rg_X5_all hx hb hts inX5 hown hK hW hi0 q17 dX5_copyFrom_125 ?_
        refine lv_iload_n hx hb dX5_copyFrom_128 rfl (lv_at hl 2 rfl) ?_
        obtain ⟨hin_16, hF⟩ := gB_some hF
        obtain ⟨k_17, ek_17⟩ : ∃ k, k = Int32.toNatClampNeg x2 := ⟨_, rfl⟩
        rw [← ek_17] at hF
        refine r_all (k := k_17) hx hb hK hW hi0 hin_16 ek_17.symm dX5_copyFrom_129 ?_
        refine lv_aload_n hx hb dX5_copyFrom_130 rfl (lv_at hl 1 rfl) ?_
        refine rg_X5_all hx hb hts inX5 hown hK hW hi1 q17 dX5_copyFrom_131 ?_
        refine lv_iload_n hx hb dX5_copyFrom_134 rfl (lv_at hl 2 rfl) ?_
        obtain ⟨hin_18, hF⟩ := gB_some hF
        obtain ⟨k_19, ek_19⟩ : ∃ k, k = Int32.toNatClampNeg x2 := ⟨_, rfl⟩
        rw [← ek_19] at hF
        refine r_all (k := k_19) hx hb hK hW hi1 hin_18 ek_19.symm dX5_copyFrom_135 ?_
        obtain ⟨w_21, hq_20, hF⟩ := gP_some hF
        refine g_Vv (As := [.ref (gA X i1 (4 + k_19))]) (rest := []) ⟨hx, hb, hml, hown, hts⟩ hK hW hL hl.1 (gok_s hi0 (vp_lt2 hin_16 ek_17.symm)) (gE_ms hi0 k_17) rfl (c_X10_copyFrom l X w i0 hi0 k_17 (vp_lt2 hin_16 ek_17.symm) i1 hi1 k_19 (vp_lt2 hin_18 ek_19.symm) w_21 hq_20) k57 rfl rfl (Nat.le_of_ble_eq_true rfl) dX5_copyFrom_136 ⟨Nat.le_of_ble_eq_true rfl, Nat.le_of_ble_eq_true rfl⟩ (fun H locs hW hL => ?_)
        obtain ⟨x2_22, ex2_22, hF⟩ := gS_some hF
        refine lv_iinc (v := x2_22) (lv' := [(2, .int x2_22), (0, .ref (gA X i0 0)), (1, .ref (gA X i1 0))]) hx hb dX5_copyFrom_139 hl (k := 2) rfl (by rw [ex2_22]; rfl) (by decide) rfl (fun ls hl => ?_)
        refine lv_goto (tgt := 116) hx hb dX5_copyFrom_142 (by decide) ?_
        exact ih116 w_21 i0 i1 x2_22 hi0 hi1 ls (lv_sub hl [1, 2, 0] rfl) hF H locs hW hL
  have L_91 : ∀ (fu : Nat) (w : gWd) (i0 : Nat) (i1 : Nat) (x2 : Int32) (hi0 : i0 < 7) (hi1 : i1 < 7) (ls : Array Slot) (hl : lv_has ls 3 [(0, .ref (gA X i0 0)), (1, .ref (gA X i1 0)), (2, .int x2)]) (hF : F_X5_copyFrom_91 fu w i0 i1 x2 = some w') (H : Heap) (locs : List Loc) (hW : gWo X 252 (gE X w) H) (hL : gLo X locs), W p l e rmX5_copyFrom s m args below meth c H locs 0 0 (MQ below (gQv X w') args s 0 0 (gFr X)) (F0 m 91 ls []) := by
    intro fu
    induction fu with
    | zero => intro w i0 i1 x2 hi0 hi1 ls hl hF H locs hW hL; rw [F_X5_copyFrom_91_z] at hF; cases hF
    | succ fu91 ih91 =>
      intro w i0 i1 x2 hi0 hi1 ls hl hF H locs hW hL
      rw [F_X5_copyFrom_91_s] at hF
      refine lv_iload_n hx hb dX5_copyFrom_91 rfl (lv_at hl 2 rfl) ?_
      refine lv_iconst (v := 4) hx hb dX5_copyFrom_92 (by decide) ?_
      refine lv_icmp_ge (tgt := 114) hx hb dX5_copyFrom_93 (by decide) (fun hc_8 => ?_) (fun hc_8 => ?_)
      · replace hF := gT hc_8 hF
        refine lv_iconst (v := 0) hx hb dX5_copyFrom_114 (by decide) ?_
        refine lv_istore_n (lv' := [(2, .int 0), (0, .ref (gA X i0 0)), (1, .ref (gA X i1 0))]) hx hb dX5_copyFrom_115 rfl hl (by decide) rfl (fun ls hl => ?_)
        exact L_116 gFU w i0 i1 0 hi0 hi1 ls (lv_sub hl [1, 2, 0] rfl) hF H locs hW hL
      · replace hF := gF hc_8 hF
        refine lv_aload_n hx hb dX5_copyFrom_96 rfl (lv_at hl 0 rfl) ?_
        refine rg_X5_reserves hx hb hts inX5 hown hK hW hi0 q21 dX5_copyFrom_97 ?_
        refine lv_iload_n hx hb dX5_copyFrom_100 rfl (lv_at hl 2 rfl) ?_
        refine lv_aload_n hx hb dX5_copyFrom_101 rfl (lv_at hl 1 rfl) ?_
        refine rg_X5_reserves hx hb hts inX5 hown hK hW hi1 q21 dX5_copyFrom_102 ?_
        refine lv_iload_n hx hb dX5_copyFrom_105 rfl (lv_at hl 2 rfl) ?_
        obtain ⟨hin_9, hF⟩ := gB_some hF
        obtain ⟨k_10, ek_10⟩ : ∃ k, k = Int32.toNatClampNeg x2 := ⟨_, rfl⟩
        rw [← ek_10] at hF
        refine g_iald2 (k := k_10) hx hb hK hW (gok_m hi1 (by decide)) (gad_lt (gok_m hi1 (by decide))) (gE_m3 hi1) hin_9 ek_10.symm dX5_copyFrom_106 ?_
        obtain ⟨hin_11, hF⟩ := gB_some hF
        obtain ⟨k_12, ek_12⟩ : ∃ k, k = Int32.toNatClampNeg x2 := ⟨_, rfl⟩
        rw [← ek_12] at hF
        obtain ⟨w_13, ew_13, hF⟩ := gS_some hF
        refine g_iast2 (k := k_12) hx hb hK hW hL (gok_m hi0 (by decide)) (fun w => gE_m3 (w := w) hi0) hin_11 ek_12.symm dX5_copyFrom_107 (fun H locs hW hL => ?_)
        rw [← ew_13] at hW
        obtain ⟨x2_14, ex2_14, hF⟩ := gS_some hF
        refine lv_iinc (v := x2_14) (lv' := [(2, .int x2_14), (0, .ref (gA X i0 0)), (1, .ref (gA X i1 0))]) hx hb dX5_copyFrom_108 hl (k := 2) rfl (by rw [ex2_14]; rfl) (by decide) rfl (fun ls hl => ?_)
        refine lv_goto (tgt := 91) hx hb dX5_copyFrom_111 (by decide) ?_
        exact ih91 w_13 i0 i1 x2_14 hi0 hi1 ls (lv_sub hl [1, 2, 0] rfl) hF H locs hW hL
  have L_66 : ∀ (fu : Nat) (w : gWd) (i0 : Nat) (i1 : Nat) (x2 : Int32) (hi0 : i0 < 7) (hi1 : i1 < 7) (ls : Array Slot) (hl : lv_has ls 3 [(0, .ref (gA X i0 0)), (1, .ref (gA X i1 0)), (2, .int x2)]) (hF : F_X5_copyFrom_66 fu w i0 i1 x2 = some w') (H : Heap) (locs : List Loc) (hW : gWo X 252 (gE X w) H) (hL : gLo X locs), W p l e rmX5_copyFrom s m args below meth c H locs 0 0 (MQ below (gQv X w') args s 0 0 (gFr X)) (F0 m 66 ls []) := by
    intro fu
    induction fu with
    | zero => intro w i0 i1 x2 hi0 hi1 ls hl hF H locs hW hL; rw [F_X5_copyFrom_66_z] at hF; cases hF
    | succ fu66 ih66 =>
      intro w i0 i1 x2 hi0 hi1 ls hl hF H locs hW hL
      rw [F_X5_copyFrom_66_s] at hF
      refine lv_iload_n hx hb dX5_copyFrom_66 rfl (lv_at hl 2 rfl) ?_
      refine lv_iconst (v := 3) hx hb dX5_copyFrom_67 (by decide) ?_
      refine lv_icmp_ge (tgt := 89) hx hb dX5_copyFrom_68 (by decide) (fun hc_1 => ?_) (fun hc_1 => ?_)
      · replace hF := gT hc_1 hF
        refine lv_iconst (v := 0) hx hb dX5_copyFrom_89 (by decide) ?_
        refine lv_istore_n (lv' := [(2, .int 0), (0, .ref (gA X i0 0)), (1, .ref (gA X i1 0))]) hx hb dX5_copyFrom_90 rfl hl (by decide) rfl (fun ls hl => ?_)
        exact L_91 gFU w i0 i1 0 hi0 hi1 ls (lv_sub hl [1, 2, 0] rfl) hF H locs hW hL
      · replace hF := gF hc_1 hF
        refine lv_aload_n hx hb dX5_copyFrom_71 rfl (lv_at hl 0 rfl) ?_
        refine rg_X5_settings hx hb hts inX5 hown hK hW hi0 q9 dX5_copyFrom_72 ?_
        refine lv_iload_n hx hb dX5_copyFrom_75 rfl (lv_at hl 2 rfl) ?_
        refine lv_aload_n hx hb dX5_copyFrom_76 rfl (lv_at hl 1 rfl) ?_
        refine rg_X5_settings hx hb hts inX5 hown hK hW hi1 q9 dX5_copyFrom_77 ?_
        refine lv_iload_n hx hb dX5_copyFrom_80 rfl (lv_at hl 2 rfl) ?_
        obtain ⟨hin_2, hF⟩ := gB_some hF
        obtain ⟨k_3, ek_3⟩ : ∃ k, k = Int32.toNatClampNeg x2 := ⟨_, rfl⟩
        rw [← ek_3] at hF
        refine g_iald2 (k := k_3) hx hb hK hW (gok_m hi1 (by decide)) (gad_lt (gok_m hi1 (by decide))) (gE_m1 hi1) hin_2 ek_3.symm dX5_copyFrom_81 ?_
        obtain ⟨hin_4, hF⟩ := gB_some hF
        obtain ⟨k_5, ek_5⟩ : ∃ k, k = Int32.toNatClampNeg x2 := ⟨_, rfl⟩
        rw [← ek_5] at hF
        obtain ⟨w_6, ew_6, hF⟩ := gS_some hF
        refine g_iast2 (k := k_5) hx hb hK hW hL (gok_m hi0 (by decide)) (fun w => gE_m1 (w := w) hi0) hin_4 ek_5.symm dX5_copyFrom_82 (fun H locs hW hL => ?_)
        rw [← ew_6] at hW
        obtain ⟨x2_7, ex2_7, hF⟩ := gS_some hF
        refine lv_iinc (v := x2_7) (lv' := [(2, .int x2_7), (0, .ref (gA X i0 0)), (1, .ref (gA X i1 0))]) hx hb dX5_copyFrom_83 hl (k := 2) rfl (by rw [ex2_7]; rfl) (by decide) rfl (fun ls hl => ?_)
        refine lv_goto (tgt := 66) hx hb dX5_copyFrom_86 (by decide) ?_
        exact ih66 w_6 i0 i1 x2_7 hi0 hi1 ls (lv_sub hl [1, 2, 0] rfl) hF H locs hW hL
  rw [F_X5_copyFrom] at hF
  obtain ⟨locs, hlocs⟩ : ∃ locs : List Loc, locs = [] := ⟨_, rfl⟩
  rw [← hlocs] at hL ⊢
  refine lv_aload_n hx hb dX5_copyFrom_0 rfl (lv_at hl 0 rfl) ?_
  refine lv_aload_n hx hb dX5_copyFrom_1 rfl (lv_at hl 1 rfl) ?_
  refine rg_X5_size hx hb hts inX5 hown hK hW hi1 q32 dX5_copyFrom_2 ?_
  obtain ⟨w_23, ew_23, hF⟩ := gS_some hF
  refine rp_X5_size hx hb hts inX5 hown hK hW hL hi0 q32 dX5_copyFrom_5 (fun H locs hW hL => ?_)
  rw [← ew_23] at hW
  refine lv_aload_n hx hb dX5_copyFrom_8 rfl (lv_at hl 0 rfl) ?_
  refine lv_aload_n hx hb dX5_copyFrom_9 rfl (lv_at hl 1 rfl) ?_
  refine rg_X5_stage hx hb hts inX5 hown hK hW hi1 q36 dX5_copyFrom_10 ?_
  obtain ⟨w_24, ew_24, hF⟩ := gS_some hF
  refine rp_X5_stage hx hb hts inX5 hown hK hW hL hi0 q36 dX5_copyFrom_13 (fun H locs hW hL => ?_)
  rw [← ew_24] at hW
  refine lv_aload_n hx hb dX5_copyFrom_16 rfl (lv_at hl 0 rfl) ?_
  refine lv_aload_n hx hb dX5_copyFrom_17 rfl (lv_at hl 1 rfl) ?_
  refine rg_X5_heats hx hb hts inX5 hown hK hW hi1 q39 dX5_copyFrom_18 ?_
  obtain ⟨w_25, ew_25, hF⟩ := gS_some hF
  refine rp_X5_heats hx hb hts inX5 hown hK hW hL hi0 q39 dX5_copyFrom_21 (fun H locs hW hL => ?_)
  rw [← ew_25] at hW
  refine lv_aload_n hx hb dX5_copyFrom_24 rfl (lv_at hl 0 rfl) ?_
  refine lv_aload_n hx hb dX5_copyFrom_25 rfl (lv_at hl 1 rfl) ?_
  refine rg_X5_reservesDrawn hx hb hts inX5 hown hK hW hi1 q42 dX5_copyFrom_26 ?_
  obtain ⟨w_26, ew_26, hF⟩ := gS_some hF
  refine rp_X5_reservesDrawn hx hb hts inX5 hown hK hW hL hi0 q42 dX5_copyFrom_29 (fun H locs hW hL => ?_)
  rw [← ew_26] at hW
  refine lv_aload_n hx hb dX5_copyFrom_32 rfl (lv_at hl 0 rfl) ?_
  refine lv_aload_n hx hb dX5_copyFrom_33 rfl (lv_at hl 1 rfl) ?_
  refine rg_X5_reservesCalled hx hb hts inX5 hown hK hW hi1 q45 dX5_copyFrom_34 ?_
  obtain ⟨w_27, ew_27, hF⟩ := gS_some hF
  refine rp_X5_reservesCalled hx hb hts inX5 hown hK hW hL hi0 q45 dX5_copyFrom_37 (fun H locs hW hL => ?_)
  rw [← ew_27] at hW
  refine lv_aload_n hx hb dX5_copyFrom_40 rfl (lv_at hl 0 rfl) ?_
  refine lv_aload_n hx hb dX5_copyFrom_41 rfl (lv_at hl 1 rfl) ?_
  refine rg_X5_eventsEnded hx hb hts inX5 hown hK hW hi1 q48 dX5_copyFrom_42 ?_
  obtain ⟨w_28, ew_28, hF⟩ := gS_some hF
  refine rp_X5_eventsEnded hx hb hts inX5 hown hK hW hL hi0 q48 dX5_copyFrom_45 (fun H locs hW hL => ?_)
  rw [← ew_28] at hW
  refine lv_aload_n hx hb dX5_copyFrom_48 rfl (lv_at hl 0 rfl) ?_
  refine lv_aload_n hx hb dX5_copyFrom_49 rfl (lv_at hl 1 rfl) ?_
  refine rg_X5_record hx hb hts inX5 hown hK hW hi1 q51 dX5_copyFrom_50 ?_
  obtain ⟨w_29, ew_29, hF⟩ := gS_some hF
  refine rp_X5_record hx hb hts inX5 hown hK hW hL hi0 q51 dX5_copyFrom_53 (fun H locs hW hL => ?_)
  rw [← ew_29] at hW
  refine lv_aload_n hx hb dX5_copyFrom_56 rfl (lv_at hl 0 rfl) ?_
  refine lv_aload_n hx hb dX5_copyFrom_57 rfl (lv_at hl 1 rfl) ?_
  refine rg_X5_recordSwimmer hx hb hts inX5 hown hK hW hi1 q54 dX5_copyFrom_58 ?_
  obtain ⟨w_30, ew_30, hF⟩ := gS_some hF
  refine rp_X5_recordSwimmer hx hb hts inX5 hown hK hW hL hi0 q54 dX5_copyFrom_61 (fun H locs hW hL => ?_)
  rw [← ew_30] at hW
  refine lv_iconst (v := 0) hx hb dX5_copyFrom_64 (by decide) ?_
  refine lv_istore_n (lv' := [(2, .int 0), (0, .ref (gA X i0 0)), (1, .ref (gA X i1 0))]) hx hb dX5_copyFrom_65 rfl hl (by decide) rfl (fun ls hl => ?_)
  exact L_66 gFU w_30 i0 i1 0 hi0 hi1 ls (lv_sub hl [1, 2, 0] rfl) hF H locs hW hL
abbrev rmX3_prepare : Room := { frames := 2, cells := 0, slots := 0, locals := 43 }
abbrev wsX3_prepare : List Cond := gws yX3_prepare cX3_prepare 2 none
set_option maxHeartbeats 4000000 in
set_option maxRecDepth 100000 in
theorem c_X3_prepare (l : Launch) (X : gX) (w : gWd) (i1 : Nat) (hi1 : i1 < 7) (w' : gWd) (hF : F_X3_prepare w i1 = some w') : Met l yX3_prepare wsX3_prepare rmX3_prepare (gPc X [.ref (gA X 7 1), .ref (gA X i1 0)] w) (gQv X w') 0 0 (gFr X) := by
  refine g_ofW (cc := cX3_prepare) (maxL := 2) (ret := none) (by decide) rfl (Nat.le_of_ble_eq_true rfl) (fun p e s m args below meth c ls H hx hb hr hts hown hlocks hml hK hl hW => ?_)
  have hl : lv_has ls 2 [(0, .ref (gA X 7 1)), (1, .ref (gA X i1 0))] := hl
  have hown : s.vm.findClass RX3 = some m.cls := hown
  have hL : gLo X [] := gLo_nil
  show W p l e rmX3_prepare s m args below meth c H [] 0 0 _ _
  have inX3 : ∀ w ∈ wsX30, w ∈ wsX3_prepare := fun w h => List.mem_cons_of_mem _ (inlX3 w h)
  have q11 := hts _ (List.mem_cons_of_mem _ wq_X3_11)
  have q18 := hts _ (List.mem_cons_of_mem _ wq_X3_18)
  have k22 : CallW rmX3_prepare s args RX3 RX5 22 yX5_copyFrom cX5_copyFrom 3 none wsX5_copyFrom rmX5_copyFrom 0 0 1 := cwV 1 hts (gGoodV (fun w h => List.mem_cons_of_mem _ h) wk_X3_22) rfl rfl rfl (by decide +kernel) ⟨Nat.le_of_ble_eq_true rfl, Nat.le_of_ble_eq_true rfl⟩
  rw [F_X3_prepare] at hF
  obtain ⟨locs, hlocs⟩ : ∃ locs : List Loc, locs = [] := ⟨_, rfl⟩
  rw [← hlocs] at hL ⊢
  refine lv_aload_n hx hb dX3_prepare_0 rfl (lv_at hl 0 rfl) ?_
  refine rg_X3_kept hx hb hts inX3 hown hK hW q18 dX3_prepare_1 ?_
  refine lv_if_lt (tgt := 28) hx hb dX3_prepare_4 (by decide) (fun hc_1 => ?_) (fun hc_1 => ?_)
  · replace hF := gT hc_1 hF
    exact g_rv hx hb hr hlocks (gW1 hF hW) hL dX3_prepare_28
  · replace hF := gF hc_1 hF
    refine lv_aload_n hx hb dX3_prepare_7 rfl (lv_at hl 0 rfl) ?_
    refine rg_X3_kept hx hb hts inX3 hown hK hW q18 dX3_prepare_8 ?_
    refine lv_iconst (v := 4) hx hb dX3_prepare_11 (by decide) ?_
    refine lv_icmp_gt (tgt := 28) hx hb dX3_prepare_12 (by decide) (fun hc_2 => ?_) (fun hc_2 => ?_)
    · replace hF := gT hc_2 hF
      exact g_rv hx hb hr hlocks (gW1 hF hW) hL dX3_prepare_28
    · replace hF := gF hc_2 hF
      refine lv_aload_n hx hb dX3_prepare_15 rfl (lv_at hl 0 rfl) ?_
      refine rg_X3_rows hx hb hts inX3 hown hK hW q11 dX3_prepare_16 ?_
      refine lv_aload_n hx hb dX3_prepare_19 rfl (lv_at hl 0 rfl) ?_
      refine rg_X3_kept hx hb hts inX3 hown hK hW q18 dX3_prepare_20 ?_
      obtain ⟨hin_3, hF⟩ := gB_some hF
      obtain ⟨k_4, ek_4⟩ : ∃ k, k = Int32.toNatClampNeg ((w 7 1 1)) := ⟨_, rfl⟩
      rw [← ek_4] at hF
      obtain ⟨hm_5, hF⟩ := gM_some hF
      refine r_rows (k := k_4) hx hb hK hW hin_3 ek_4.symm dX3_prepare_23 ?_
      refine lv_aload_n hx hb dX3_prepare_24 rfl (lv_at hl 1 rfl) ?_
      obtain ⟨w_7, hq_6, hF⟩ := gP_some hF
      refine g_Vv (As := [.ref (gA X i1 0)]) (rest := []) ⟨hx, hb, hml, hown, hts⟩ hK hW hL hl.1 (gok_m hm_5 (by decide)) (gE_m0 hm_5) rfl (c_X5_copyFrom l X w (((w 7 2 k_4).toNatClampNeg)) hm_5 i1 hi1 w_7 hq_6) k22 rfl rfl (Nat.le_of_ble_eq_true rfl) dX3_prepare_25 ⟨Nat.le_of_ble_eq_true rfl, Nat.le_of_ble_eq_true rfl⟩ (fun H locs hW hL => ?_)
      exact g_rv hx hb hr hlocks (gW1 hF hW) hL dX3_prepare_28
abbrev rmX11_enter : Room := { frames := 4, cells := 0, slots := 0, locals := 84 }
abbrev wsX11_enter : List Cond := gws yX11_enter cX11_enter 3 (some .int)
set_option maxHeartbeats 4000000 in
set_option maxRecDepth 100000 in
theorem c_X11_enter (l : Launch) (X : gX) (w : gWd) (x1 : Int32) (x2 : Int32) (r : Int32) (w' : gWd) (hF : F_X11_enter w x1 x2 = some (r, w')) : Met l yX11_enter wsX11_enter rmX11_enter (gPc X [.ref (gA X 7 0), .int x1, .int x2] w) (gQi X r w') 0 0 (gFr X) := by
  refine g_ofW (cc := cX11_enter) (maxL := 3) (ret := (some .int)) (by decide) rfl (Nat.le_of_ble_eq_true rfl) (fun p e s m args below meth c ls H hx hb hr hts hown hlocks hml hK hl hW => ?_)
  have hl : lv_has ls 3 [(0, .ref (gA X 7 0)), (1, .int x1), (2, .int x2)] := hl
  have hown : s.vm.findClass RX11 = some m.cls := hown
  have hL : gLo X [] := gLo_nil
  show W p l e rmX11_enter s m args below meth c H [] 0 0 _ _
  have inX11 : ∀ w ∈ wsX110, w ∈ wsX11_enter := fun w h => List.mem_cons_of_mem _ (inlX11 w h)
  have q10 := hts _ (List.mem_cons_of_mem _ wq_X11_10)
  have q22 := hts _ (List.mem_cons_of_mem _ wq_X11_22)
  have k40 : CallW rmX11_enter s args RX11 RX3 40 yX3_prepare cX3_prepare 2 none wsX3_prepare rmX3_prepare 0 0 1 := cwV 1 hts (gGoodV (fun w h => List.mem_cons_of_mem _ h) wk_X11_40) rfl rfl rfl (by decide +kernel) ⟨Nat.le_of_ble_eq_true rfl, Nat.le_of_ble_eq_true rfl⟩
  have k44 : CallB rmX11_enter s args RX11 44 yX1_addSwimmer cX1_addSwimmer 3 (some .int) wsX1_addSwimmer rmX1_addSwimmer 0 0 3 ∧ (Cond.static yX1_addSwimmer).before args s = true := va_cwS 3 hts (gGoodS (fun w h => List.mem_cons_of_mem _ h) wk_X11_44) rfl rfl rfl (by decide +kernel) ⟨Nat.le_of_ble_eq_true rfl, Nat.le_of_ble_eq_true rfl⟩
  have k50 : CallW rmX11_enter s args RX11 RX3 50 yX3_keepUnlessError cX3_keepUnlessError 2 (some .int) wsX3_keepUnlessError rmX3_keepUnlessError 0 0 1 := cwV 1 hts (gGoodV (fun w h => List.mem_cons_of_mem _ h) wk_X11_50) rfl rfl rfl (by decide +kernel) ⟨Nat.le_of_ble_eq_true rfl, Nat.le_of_ble_eq_true rfl⟩
  rw [F_X11_enter] at hF
  obtain ⟨locs, hlocs⟩ : ∃ locs : List Loc, locs = [] := ⟨_, rfl⟩
  rw [← hlocs] at hL ⊢
  refine lv_aload_n hx hb dX11_enter_0 rfl (lv_at hl 0 rfl) ?_
  refine rg_X11_history hx hb hts inX11 hown hK hW q22 dX11_enter_1 ?_
  refine lv_aload_n hx hb dX11_enter_4 rfl (lv_at hl 0 rfl) ?_
  refine rg_X11_meet hx hb hts inX11 hown hK hW q10 dX11_enter_5 ?_
  obtain ⟨w_2, hq_1, hF⟩ := gP_some hF
  refine g_Vv (As := [.ref (gA X 0 0)]) (rest := []) ⟨hx, hb, hml, hown, hts⟩ hK hW hL hl.1 (gok_c (by decide)) gE_H rfl (c_X3_prepare l X w 0 h07 w_2 hq_1) k40 rfl rfl (Nat.le_of_ble_eq_true rfl) dX11_enter_8 ⟨Nat.le_of_ble_eq_true rfl, Nat.le_of_ble_eq_true rfl⟩ (fun H locs hW hL => ?_)
  refine lv_aload_n hx hb dX11_enter_11 rfl (lv_at hl 0 rfl) ?_
  refine rg_X11_history hx hb hts inX11 hown hK hW q22 dX11_enter_12 ?_
  refine lv_aload_n hx hb dX11_enter_15 rfl (lv_at hl 0 rfl) ?_
  refine rg_X11_meet hx hb hts inX11 hown hK hW q10 dX11_enter_16 ?_
  refine lv_iload_n hx hb dX11_enter_19 rfl (lv_at hl 1 rfl) ?_
  refine lv_iload_n hx hb dX11_enter_20 rfl (lv_at hl 2 rfl) ?_
  obtain ⟨v_4, w_5, hq_3, hF⟩ := gC_some hF
  refine g_Si (As := [.ref (gA X 0 0), .int x1, .int x2]) (rest := [.ref (gA X 7 1)]) ⟨hx, hb, hml, hown, hts⟩ hK hW hL hl.1 (c_X1_addSwimmer l X w_2 0 h07 x1 x2 v_4 w_5 hq_3) k44 rfl rfl (Nat.le_of_ble_eq_true rfl) dX11_enter_21 ⟨Nat.le_of_ble_eq_true rfl, Nat.le_of_ble_eq_true rfl⟩ (fun H locs hW hL => ?_)
  obtain ⟨v_7, w_8, hq_6, hF⟩ := gC_some hF
  refine g_Vi (As := [.int v_4]) (rest := []) ⟨hx, hb, hml, hown, hts⟩ hK hW hL hl.1 (gok_c (by decide)) gE_H rfl (c_X3_keepUnlessError l X w_5 v_4 v_7 w_8 hq_6) k50 rfl rfl (Nat.le_of_ble_eq_true rfl) dX11_enter_24 ⟨Nat.le_of_ble_eq_true rfl, Nat.le_of_ble_eq_true rfl⟩ (fun H locs hW hL => ?_)
  exact g_ri hx hb hr hlocks (gW2 hF hW) hL (gI2 hF).1 dX11_enter_27
abbrev rmX5_has : Room := { frames := 0, cells := 0, slots := 0, locals := 0 }
abbrev wsX5_has : List Cond := gws yX5_has cX5_has 2 (some .boolean)
set_option maxHeartbeats 4000000 in
set_option maxRecDepth 100000 in
theorem c_X5_has (l : Launch) (X : gX) (w : gWd) (i0 : Nat) (hi0 : i0 < 7) (x1 : Int32) (r : Int32) (hF : F_X5_has w i0 x1 = some r) : Met l yX5_has wsX5_has rmX5_has (gPc X [.ref (gA X i0 0), .int x1] w) (gQi X r w) 0 0 (gFr X) := by
  refine g_ofW (cc := cX5_has) (maxL := 2) (ret := (some .boolean)) (by decide) rfl (Nat.le_of_ble_eq_true rfl) (fun p e s m args below meth c ls H hx hb hr hts hown hlocks hml hK hl hW => ?_)
  have hl : lv_has ls 2 [(0, .ref (gA X i0 0)), (1, .int x1)] := hl
  have hown : s.vm.findClass RX5 = some m.cls := hown
  have hL : gLo X [] := gLo_nil
  show W p l e rmX5_has s m args below meth c H [] 0 0 _ _
  have inX5 : ∀ w ∈ wsX50, w ∈ wsX5_has := fun w h => List.mem_cons_of_mem _ (inlX5 w h)
  have q32 := hts _ (List.mem_cons_of_mem _ wq_X5_32)
  have B_16 : ∀   (ls : Array Slot) (hl : lv_has ls 2 []) (hF : F_X5_has_16 w = some r) (H : Heap) (locs : List Loc) (hW : gWo X 252 (gE X w) H) (hL : gLo X locs), W p l e rmX5_has s m args below meth c H locs 0 0 (MQ below (gQi X r w) args s 0 0 (gFr X)) (F0 m 16 ls []) := by
    intro ls hl hF H locs hW hL
    rw [F_X5_has_16] at hF
    refine lv_iconst (v := 0) hx hb dX5_has_16 (by decide) ?_
    exact g_rz hx hb hr hlocks hW hL (Or.inl rfl) (Option.some.inj hF) dX5_has_17
  rw [F_X5_has] at hF
  obtain ⟨locs, hlocs⟩ : ∃ locs : List Loc, locs = [] := ⟨_, rfl⟩
  rw [← hlocs] at hL ⊢
  refine lv_iload_n hx hb dX5_has_0 rfl (lv_at hl 1 rfl) ?_
  refine lv_if_lt (tgt := 16) hx hb dX5_has_1 (by decide) (fun hc_1 => ?_) (fun hc_1 => ?_)
  · replace hF := gT hc_1 hF
    exact B_16  ls (lv_sub hl [] rfl) hF H locs hW hL
  · replace hF := gF hc_1 hF
    refine lv_iload_n hx hb dX5_has_4 rfl (lv_at hl 1 rfl) ?_
    refine lv_aload_n hx hb dX5_has_5 rfl (lv_at hl 0 rfl) ?_
    refine rg_X5_size hx hb hts inX5 hown hK hW hi0 q32 dX5_has_6 ?_
    refine lv_icmp_ge (tgt := 16) hx hb dX5_has_9 (by decide) (fun hc_2 => ?_) (fun hc_2 => ?_)
    · replace hF := gT hc_2 hF
      exact B_16  ls (lv_sub hl [] rfl) hF H locs hW hL
    · replace hF := gF hc_2 hF
      refine lv_iconst (v := 1) hx hb dX5_has_12 (by decide) ?_
      refine lv_goto (tgt := 17) hx hb dX5_has_13 (by decide) ?_
      exact g_rz hx hb hr hlocks hW hL (Or.inr rfl) (Option.some.inj hF) dX5_has_17
abbrev rmX5_canBeCalled : Room := { frames := 1, cells := 0, slots := 0, locals := 21 }
abbrev wsX5_canBeCalled : List Cond := gws yX5_canBeCalled cX5_canBeCalled 2 (some .boolean)
set_option maxHeartbeats 4000000 in
set_option maxRecDepth 100000 in
theorem c_X5_canBeCalled (l : Launch) (X : gX) (w : gWd) (i0 : Nat) (hi0 : i0 < 7) (x1 : Int32) (r : Int32) (hF : F_X5_canBeCalled w i0 x1 = some r) : Met l yX5_canBeCalled wsX5_canBeCalled rmX5_canBeCalled (gPc X [.ref (gA X i0 0), .int x1] w) (gQi X r w) 0 0 (gFr X) := by
  refine g_ofW (cc := cX5_canBeCalled) (maxL := 2) (ret := (some .boolean)) (by decide) rfl (Nat.le_of_ble_eq_true rfl) (fun p e s m args below meth c ls H hx hb hr hts hown hlocks hml hK hl hW => ?_)
  have hl : lv_has ls 2 [(0, .ref (gA X i0 0)), (1, .int x1)] := hl
  have hown : s.vm.findClass RX5 = some m.cls := hown
  have hL : gLo X [] := gLo_nil
  show W p l e rmX5_canBeCalled s m args below meth c H [] 0 0 _ _
  have inX5 : ∀ w ∈ wsX50, w ∈ wsX5_canBeCalled := fun w h => List.mem_cons_of_mem _ (inlX5 w h)
  have inX10 : ∀ w ∈ wsX100, w ∈ wsX5_canBeCalled := fun w h => List.mem_cons_of_mem _ (inlX10 w h)
  have q17 := hts _ (List.mem_cons_of_mem _ wq_X5_17)
  have q61 := hts _ (List.mem_cons_of_mem _ wq_X5_61)
  have q78 := hts _ (List.mem_cons_of_mem _ wq_X5_78)
  have k106 : CallW rmX5_canBeCalled s args RX5 RX5 106 yX5_has cX5_has 2 (some .boolean) wsX5_has rmX5_has 0 0 1 := cwV 1 hts (gGoodV (fun w h => List.mem_cons_of_mem _ h) wk_X5_106) rfl rfl rfl (by decide +kernel) ⟨Nat.le_of_ble_eq_true rfl, Nat.le_of_ble_eq_true rfl⟩
  have B_36 : ∀   (ls : Array Slot) (hl : lv_has ls 2 []) (hF : F_X5_canBeCalled_36 w = some r) (H : Heap) (locs : List Loc) (hW : gWo X 252 (gE X w) H) (hL : gLo X locs), W p l e rmX5_canBeCalled s m args below meth c H locs 0 0 (MQ below (gQi X r w) args s 0 0 (gFr X)) (F0 m 36 ls []) := by
    intro ls hl hF H locs hW hL
    rw [F_X5_canBeCalled_36] at hF
    refine lv_iconst (v := 0) hx hb dX5_canBeCalled_36 (by decide) ?_
    exact g_rz hx hb hr hlocks hW hL (Or.inl rfl) (Option.some.inj hF) dX5_canBeCalled_37
  rw [F_X5_canBeCalled] at hF
  obtain ⟨locs, hlocs⟩ : ∃ locs : List Loc, locs = [] := ⟨_, rfl⟩
  rw [← hlocs] at hL ⊢
  refine lv_aload_n hx hb dX5_canBeCalled_0 rfl (lv_at hl 0 rfl) ?_
  refine lv_iload_n hx hb dX5_canBeCalled_1 rfl (lv_at hl 1 rfl) ?_
  obtain ⟨v_2, hq_1, hF⟩ := gP_some hF
  refine g_Vi (As := [.int x1]) (rest := []) ⟨hx, hb, hml, hown, hts⟩ hK hW hL hl.1 (gok_m hi0 (by decide)) (gE_m0 hi0) rfl (c_X5_has l X w i0 hi0 x1 v_2 hq_1) k106 rfl rfl (Nat.le_of_ble_eq_true rfl) dX5_canBeCalled_2 ⟨Nat.le_of_ble_eq_true rfl, Nat.le_of_ble_eq_true rfl⟩ (fun H locs hW hL => ?_)
  refine lv_if_eq (tgt := 36) hx hb dX5_canBeCalled_5 (by decide) (fun hc_3 => ?_) (fun hc_3 => ?_)
  · replace hF := gT hc_3 hF
    exact B_36  ls (lv_sub hl [] rfl) hF H locs hW hL
  · replace hF := gF hc_3 hF
    refine lv_aload_n hx hb dX5_canBeCalled_8 rfl (lv_at hl 0 rfl) ?_
    refine rg_X5_all hx hb hts inX5 hown hK hW hi0 q17 dX5_canBeCalled_9 ?_
    refine lv_iload_n hx hb dX5_canBeCalled_12 rfl (lv_at hl 1 rfl) ?_
    obtain ⟨hin_4, hF⟩ := gB_some hF
    obtain ⟨k_5, ek_5⟩ : ∃ k, k = Int32.toNatClampNeg x1 := ⟨_, rfl⟩
    rw [← ek_5] at hF
    refine r_all (k := k_5) hx hb hK hW hi0 hin_4 ek_5.symm dX5_canBeCalled_13 ?_
    refine rg_X10_scratched hx hb hts inX10 hown hK hW hi0 (vp_lt2 hin_4 ek_5.symm) q61 dX5_canBeCalled_14 ?_
    refine lv_if_ne (tgt := 36) hx hb dX5_canBeCalled_17 (by decide) (fun hc_6 => ?_) (fun hc_6 => ?_)
    · replace hF := gF hc_6 hF
      exact B_36  ls (lv_sub hl [] rfl) hF H locs hW hL
    · replace hF := gT hc_6 hF
      refine lv_aload_n hx hb dX5_canBeCalled_20 rfl (lv_at hl 0 rfl) ?_
      refine rg_X5_all hx hb hts inX5 hown hK hW hi0 q17 dX5_canBeCalled_21 ?_
      refine lv_iload_n hx hb dX5_canBeCalled_24 rfl (lv_at hl 1 rfl) ?_
      obtain ⟨hin_7, hF⟩ := gB_some hF
      obtain ⟨k_8, ek_8⟩ : ∃ k, k = Int32.toNatClampNeg x1 := ⟨_, rfl⟩
      rw [← ek_8] at hF
      refine r_all (k := k_8) hx hb hK hW hi0 hin_7 ek_8.symm dX5_canBeCalled_25 ?_
      refine rg_X10_finalLane hx hb hts inX10 hown hK hW hi0 (vp_lt2 hin_7 ek_8.symm) q78 dX5_canBeCalled_26 ?_
      refine lv_if_ne (tgt := 36) hx hb dX5_canBeCalled_29 (by decide) (fun hc_9 => ?_) (fun hc_9 => ?_)
      · replace hF := gF hc_9 hF
        exact B_36  ls (lv_sub hl [] rfl) hF H locs hW hL
      · replace hF := gT hc_9 hF
        refine lv_iconst (v := 1) hx hb dX5_canBeCalled_32 (by decide) ?_
        refine lv_goto (tgt := 37) hx hb dX5_canBeCalled_33 (by decide) ?_
        exact g_rz hx hb hr hlocks hW hL (Or.inr rfl) (Option.some.inj hF) dX5_canBeCalled_37
abbrev rmX5_freeReserve : Room := { frames := 2, cells := 0, slots := 0, locals := 42 }
abbrev wsX5_freeReserve : List Cond := gws yX5_freeReserve cX5_freeReserve 4 (some .int)
set_option maxHeartbeats 4000000 in
set_option maxRecDepth 100000 in
theorem c_X5_freeReserve (l : Launch) (X : gX) (w : gWd) (i0 : Nat) (hi0 : i0 < 7) (x1 : Int32) (r : Int32) (hF : F_X5_freeReserve w i0 x1 = some r) : Met l yX5_freeReserve wsX5_freeReserve rmX5_freeReserve (gPc X [.ref (gA X i0 0), .int x1] w) (gQi X r w) 0 0 (gFr X) := by
  refine g_ofW (cc := cX5_freeReserve) (maxL := 4) (ret := (some .int)) (by decide) rfl (Nat.le_of_ble_eq_true rfl) (fun p e s m args below meth c ls H hx hb hr hts hown hlocks hml hK hl hW => ?_)
  have hl : lv_has ls 4 [(0, .ref (gA X i0 0)), (1, .int x1)] := hl
  have hown : s.vm.findClass RX5 = some m.cls := hown
  have hL : gLo X [] := gLo_nil
  show W p l e rmX5_freeReserve s m args below meth c H [] 0 0 _ _
  have inX5 : ∀ w ∈ wsX50, w ∈ wsX5_freeReserve := fun w h => List.mem_cons_of_mem _ (inlX5 w h)
  have q21 := hts _ (List.mem_cons_of_mem _ wq_X5_21)
  have q42 := hts _ (List.mem_cons_of_mem _ wq_X5_42)
  have q95 := hts _ (List.mem_cons_of_mem _ wq_X5_95)
  have k110 : CallW rmX5_freeReserve s args RX5 RX5 110 yX5_canBeCalled cX5_canBeCalled 2 (some .boolean) wsX5_canBeCalled rmX5_canBeCalled 0 0 1 := cwV 1 hts (gGoodV (fun w h => List.mem_cons_of_mem _ h) wk_X5_110) rfl rfl rfl (by decide +kernel) ⟨Nat.le_of_ble_eq_true rfl, Nat.le_of_ble_eq_true rfl⟩
  have L_4 : ∀ (fu : Nat) (i0 : Nat) (x1 : Int32) (x2 : Int32) (x3 : Int32) (hi0 : i0 < 7) (ls : Array Slot) (hl : lv_has ls 4 [(0, .ref (gA X i0 0)), (1, .int x1), (2, .int x2), (3, .int x3)]) (hF : F_X5_freeReserve_4 fu w i0 x1 x2 x3 = some r) (H : Heap) (locs : List Loc) (hW : gWo X 252 (gE X w) H) (hL : gLo X locs), W p l e rmX5_freeReserve s m args below meth c H locs 0 0 (MQ below (gQi X r w) args s 0 0 (gFr X)) (F0 m 4 ls []) := by
    intro fu
    induction fu with
    | zero => intro i0 x1 x2 x3 hi0 ls hl hF H locs hW hL; rw [F_X5_freeReserve_4_z] at hF; cases hF
    | succ fu4 ih4 =>
      intro i0 x1 x2 x3 hi0 ls hl hF H locs hW hL
      rw [F_X5_freeReserve_4_s] at hF
      refine lv_iload_n hx hb dX5_freeReserve_4 rfl (lv_at hl 3 rfl) ?_
      refine lv_aload_n hx hb dX5_freeReserve_5 rfl (lv_at hl 0 rfl) ?_
      refine rg_X5_reservesDrawn hx hb hts inX5 hown hK hW hi0 q42 dX5_freeReserve_6 ?_
      refine lv_icmp_ge (tgt := 51) hx hb dX5_freeReserve_9 (by decide) (fun hc_1 => ?_) (fun hc_1 => ?_)
      · replace hF := gT hc_1 hF
        refine lv_ldc hx hb hown q95 dX5_freeReserve_51 ?_
        exact g_ri hx hb hr hlocks hW hL (Option.some.inj hF) dX5_freeReserve_53
      · replace hF := gF hc_1 hF
        refine lv_iload_n hx hb dX5_freeReserve_12 rfl (lv_at hl 3 rfl) ?_
        refine lv_iconst (v := 4) hx hb dX5_freeReserve_13 (by decide) ?_
        refine lv_icmp_ge (tgt := 51) hx hb dX5_freeReserve_14 (by decide) (fun hc_2 => ?_) (fun hc_2 => ?_)
        · replace hF := gT hc_2 hF
          refine lv_ldc hx hb hown q95 dX5_freeReserve_51 ?_
          exact g_ri hx hb hr hlocks hW hL (Option.some.inj hF) dX5_freeReserve_53
        · replace hF := gF hc_2 hF
          refine lv_aload_n hx hb dX5_freeReserve_17 rfl (lv_at hl 0 rfl) ?_
          refine lv_aload_n hx hb dX5_freeReserve_18 rfl (lv_at hl 0 rfl) ?_
          refine rg_X5_reserves hx hb hts inX5 hown hK hW hi0 q21 dX5_freeReserve_19 ?_
          refine lv_iload_n hx hb dX5_freeReserve_22 rfl (lv_at hl 3 rfl) ?_
          obtain ⟨hin_3, hF⟩ := gB_some hF
          obtain ⟨k_4, ek_4⟩ : ∃ k, k = Int32.toNatClampNeg x3 := ⟨_, rfl⟩
          rw [← ek_4] at hF
          refine g_iald2 (k := k_4) hx hb hK hW (gok_m hi0 (by decide)) (gad_lt (gok_m hi0 (by decide))) (gE_m3 hi0) hin_3 ek_4.symm dX5_freeReserve_23 ?_
          obtain ⟨v_6, hq_5, hF⟩ := gP_some hF
          refine g_Vi (As := [.int (w i0 3 k_4)]) (rest := []) ⟨hx, hb, hml, hown, hts⟩ hK hW hL hl.1 (gok_m hi0 (by decide)) (gE_m0 hi0) rfl (c_X5_canBeCalled l X w i0 hi0 ((w i0 3 k_4)) v_6 hq_5) k110 rfl rfl (Nat.le_of_ble_eq_true rfl) dX5_freeReserve_24 ⟨Nat.le_of_ble_eq_true rfl, Nat.le_of_ble_eq_true rfl⟩ (fun H locs hW hL => ?_)
          refine lv_if_eq (tgt := 45) hx hb dX5_freeReserve_27 (by decide) (fun hc_7 => ?_) (fun hc_7 => ?_)
          · replace hF := gT hc_7 hF
            obtain ⟨x3_8, ex3_8, hF⟩ := gS_some hF
            refine lv_iinc (v := x3_8) (lv' := [(3, .int x3_8), (0, .ref (gA X i0 0)), (1, .int x1), (2, .int x2)]) hx hb dX5_freeReserve_45 hl (k := 3) rfl (by rw [ex3_8]; rfl) (by decide) rfl (fun ls hl => ?_)
            refine lv_goto (tgt := 4) hx hb dX5_freeReserve_48 (by decide) ?_
            exact ih4 i0 x1 x2 x3_8 hi0 ls (lv_sub hl [1, 2, 3, 0] rfl) hF H locs hW hL
          · replace hF := gF hc_7 hF
            refine lv_iload_n hx hb dX5_freeReserve_30 rfl (lv_at hl 2 rfl) ?_
            refine lv_iload_n hx hb dX5_freeReserve_31 rfl (lv_at hl 1 rfl) ?_
            refine lv_icmp_ne (tgt := 42) hx hb dX5_freeReserve_32 (by decide) (fun hc_9 => ?_) (fun hc_9 => ?_)
            · replace hF := gF hc_9 hF
              obtain ⟨x2_10, ex2_10, hF⟩ := gS_some hF
              refine lv_iinc (v := x2_10) (lv' := [(2, .int x2_10), (0, .ref (gA X i0 0)), (1, .int x1), (3, .int x3)]) hx hb dX5_freeReserve_42 hl (k := 2) rfl (by rw [ex2_10]; rfl) (by decide) rfl (fun ls hl => ?_)
              obtain ⟨x3_11, ex3_11, hF⟩ := gS_some hF
              refine lv_iinc (v := x3_11) (lv' := [(3, .int x3_11), (2, .int x2_10), (0, .ref (gA X i0 0)), (1, .int x1)]) hx hb dX5_freeReserve_45 hl (k := 3) rfl (by rw [ex3_11]; rfl) (by decide) rfl (fun ls hl => ?_)
              refine lv_goto (tgt := 4) hx hb dX5_freeReserve_48 (by decide) ?_
              exact ih4 i0 x1 x2_10 x3_11 hi0 ls (lv_sub hl [2, 3, 1, 0] rfl) hF H locs hW hL
            · replace hF := gT hc_9 hF
              refine lv_aload_n hx hb dX5_freeReserve_35 rfl (lv_at hl 0 rfl) ?_
              refine rg_X5_reserves hx hb hts inX5 hown hK hW hi0 q21 dX5_freeReserve_36 ?_
              refine lv_iload_n hx hb dX5_freeReserve_39 rfl (lv_at hl 3 rfl) ?_
              obtain ⟨hin_12, hF⟩ := gB_some hF
              obtain ⟨k_13, ek_13⟩ : ∃ k, k = Int32.toNatClampNeg x3 := ⟨_, rfl⟩
              rw [← ek_13] at hF
              refine g_iald2 (k := k_13) hx hb hK hW (gok_m hi0 (by decide)) (gad_lt (gok_m hi0 (by decide))) (gE_m3 hi0) hin_12 ek_13.symm dX5_freeReserve_40 ?_
              exact g_ri hx hb hr hlocks hW hL (Option.some.inj hF) dX5_freeReserve_41
  rw [F_X5_freeReserve] at hF
  obtain ⟨locs, hlocs⟩ : ∃ locs : List Loc, locs = [] := ⟨_, rfl⟩
  rw [← hlocs] at hL ⊢
  refine lv_iconst (v := 0) hx hb dX5_freeReserve_0 (by decide) ?_
  refine lv_istore_n (lv' := [(2, .int 0), (0, .ref (gA X i0 0)), (1, .int x1)]) hx hb dX5_freeReserve_1 rfl hl (by decide) rfl (fun ls hl => ?_)
  refine lv_iconst (v := 0) hx hb dX5_freeReserve_2 (by decide) ?_
  refine lv_istore_n (lv' := [(3, .int 0), (2, .int 0), (0, .ref (gA X i0 0)), (1, .int x1)]) hx hb dX5_freeReserve_3 rfl hl (by decide) rfl (fun ls hl => ?_)
  exact L_4 gFU i0 x1 0 0 hi0 ls (lv_sub hl [2, 3, 1, 0] rfl) hF H locs hW hL
abbrev rmX1_callReserve : Room := { frames := 3, cells := 0, slots := 0, locals := 65 }
abbrev wsX1_callReserve : List Cond := gws yX1_callReserve cX1_callReserve 4 (some .int)
set_option maxHeartbeats 4000000 in
set_option maxRecDepth 100000 in
theorem c_X1_callReserve (l : Launch) (X : gX) (w : gWd) (i0 : Nat) (hi0 : i0 < 7) (i1 : Nat) (hi1 : i1 < 7) (n1 : Nat) (hn1 : n1 < 30) (r : Int32) (w' : gWd) (hF : F_X1_callReserve w i0 i1 n1 = some (r, w')) : Met l yX1_callReserve wsX1_callReserve rmX1_callReserve (gPc X [.ref (gA X i0 0), .ref (gA X i1 (4 + n1))] w) (gQi X r w') 0 0 (gFr X) := by
  refine g_ofW (cc := cX1_callReserve) (maxL := 4) (ret := (some .int)) (by decide) rfl (Nat.le_of_ble_eq_true rfl) (fun p e s m args below meth c ls H hx hb hr hts hown hlocks hml hK hl hW => ?_)
  have hl : lv_has ls 4 [(0, .ref (gA X i0 0)), (1, .ref (gA X i1 (4 + n1)))] := hl
  have hown : s.vm.findClass RX1 = some m.cls := hown
  have hL : gLo X [] := gLo_nil
  show W p l e rmX1_callReserve s m args below meth c H [] 0 0 _ _
  have inX5 : ∀ w ∈ wsX50, w ∈ wsX1_callReserve := fun w h => List.mem_cons_of_mem _ (inlX5 w h)
  have inX10 : ∀ w ∈ wsX100, w ∈ wsX1_callReserve := fun w h => List.mem_cons_of_mem _ (inlX10 w h)
  have q27 := hts _ (List.mem_cons_of_mem _ wq_X1_27)
  have q47 := hts _ (List.mem_cons_of_mem _ wq_X1_47)
  have q61 := hts _ (List.mem_cons_of_mem _ wq_X1_61)
  have k37 : CallW rmX1_callReserve s args RX1 RX5 37 yX5_has cX5_has 2 (some .boolean) wsX5_has rmX5_has 0 0 1 := cwV 1 hts (gGoodV (fun w h => List.mem_cons_of_mem _ h) wk_X1_37) rfl rfl rfl (by decide +kernel) ⟨Nat.le_of_ble_eq_true rfl, Nat.le_of_ble_eq_true rfl⟩
  have k54 : CallW rmX1_callReserve s args RX1 RX10 54 yX10_leaveFinal cX10_leaveFinal 1 none wsX10_leaveFinal rmX10_leaveFinal 0 0 0 := cwV 0 hts (gGoodV (fun w h => List.mem_cons_of_mem _ h) wk_X1_54) rfl rfl rfl (by decide +kernel) ⟨Nat.le_of_ble_eq_true rfl, Nat.le_of_ble_eq_true rfl⟩
  have k57 : CallW rmX1_callReserve s args RX1 RX5 57 yX5_freeReserve cX5_freeReserve 4 (some .int) wsX5_freeReserve rmX5_freeReserve 0 0 1 := cwV 1 hts (gGoodV (fun w h => List.mem_cons_of_mem _ h) wk_X1_57) rfl rfl rfl (by decide +kernel) ⟨Nat.le_of_ble_eq_true rfl, Nat.le_of_ble_eq_true rfl⟩
  rw [F_X1_callReserve] at hF
  obtain ⟨locs, hlocs⟩ : ∃ locs : List Loc, locs = [] := ⟨_, rfl⟩
  rw [← hlocs] at hL ⊢
  refine lv_aload_n hx hb dX1_callReserve_0 rfl (lv_at hl 1 rfl) ?_
  refine rg_X10_finalLane hx hb hts inX10 hown hK hW hi1 hn1 q47 dX1_callReserve_1 ?_
  obtain ⟨x2_1, ex2_1, hF⟩ := gS_some hF
  refine g_top ex2_1 ?_
  refine lv_istore_n (lv' := [(2, .int x2_1), (0, .ref (gA X i0 0)), (1, .ref (gA X i1 (4 + n1)))]) hx hb dX1_callReserve_4 rfl hl (by decide) rfl (fun ls hl => ?_)
  refine lv_aload_n hx hb dX1_callReserve_5 rfl (lv_at hl 2 rfl) ?_
  obtain ⟨w_3, hq_2, hF⟩ := gP_some hF
  refine g_Vv (As := []) (rest := []) ⟨hx, hb, hml, hown, hts⟩ hK hW hL hl.1 (gok_s hi1 hn1) (gE_ms hi1 n1) rfl (c_X10_leaveFinal l X w i1 hi1 n1 hn1 w_3 hq_2) k54 rfl rfl (Nat.le_of_ble_eq_true rfl) dX1_callReserve_6 ⟨Nat.le_of_ble_eq_true rfl, Nat.le_of_ble_eq_true rfl⟩ (fun H locs hW hL => ?_)
  refine lv_aload_n hx hb dX1_callReserve_9 rfl (lv_at hl 1 rfl) ?_
  refine lv_iconst (v := 0) hx hb dX1_callReserve_10 (by decide) ?_
  obtain ⟨v_5, hq_4, hF⟩ := gP_some hF
  refine g_Vi (As := [.int 0]) (rest := []) ⟨hx, hb, hml, hown, hts⟩ hK hW hL hl.1 (gok_m hi0 (by decide)) (gE_m0 hi0) rfl (c_X5_freeReserve l X w_3 i0 hi0 0 v_5 hq_4) k57 rfl rfl (Nat.le_of_ble_eq_true rfl) dX1_callReserve_11 ⟨Nat.le_of_ble_eq_true rfl, Nat.le_of_ble_eq_true rfl⟩ (fun H locs hW hL => ?_)
  refine lv_istore_n (lv' := [(3, .int v_5), (2, .int x2_1), (0, .ref (gA X i0 0)), (1, .ref (gA X i1 (4 + n1)))]) hx hb dX1_callReserve_14 rfl hl (by decide) rfl (fun ls hl => ?_)
  refine lv_aload_n hx hb dX1_callReserve_15 rfl (lv_at hl 2 rfl) ?_
  refine lv_iload_n hx hb dX1_callReserve_16 rfl (lv_at hl 0 rfl) ?_
  obtain ⟨v_7, hq_6, hF⟩ := gP_some hF
  refine g_Vi (As := [.int v_5]) (rest := []) ⟨hx, hb, hml, hown, hts⟩ hK hW hL hl.1 (gok_m hi0 (by decide)) (gE_m0 hi0) rfl (c_X5_has l X w_3 i0 hi0 v_5 v_7 hq_6) k37 rfl rfl (Nat.le_of_ble_eq_true rfl) dX1_callReserve_17 ⟨Nat.le_of_ble_eq_true rfl, Nat.le_of_ble_eq_true rfl⟩ (fun H locs hW hL => ?_)
  refine lv_if_ne (tgt := 26) hx hb dX1_callReserve_20 (by decide) (fun hc_8 => ?_) (fun hc_8 => ?_)
  · replace hF := gF hc_8 hF
    refine lv_aload_n hx hb dX1_callReserve_26 rfl (lv_at hl 2 rfl) ?_
    refine rg_X5_all hx hb hts inX5 hown hK hW hi0 q27 dX1_callReserve_27 ?_
    refine lv_iload_n hx hb dX1_callReserve_30 rfl (lv_at hl 0 rfl) ?_
    obtain ⟨hin_9, hF⟩ := gB_some hF
    obtain ⟨k_10, ek_10⟩ : ∃ k, k = Int32.toNatClampNeg v_5 := ⟨_, rfl⟩
    rw [← ek_10] at hF
    refine r_all (k := k_10) hx hb hK hW hi0 hin_9 ek_10.symm dX1_callReserve_31 ?_
    refine lv_iload_n hx hb dX1_callReserve_32 rfl (lv_at hl 1 rfl) ?_
    obtain ⟨w_11, ew_11, hF⟩ := gS_some hF
    refine rp_X10_finalLane hx hb hts inX10 hown hK hW hL hi0 (vp_lt2 hin_9 ek_10.symm) q47 dX1_callReserve_33 (fun H locs hW hL => ?_)
    rw [← ew_11] at hW
    refine lv_aload_n hx hb dX1_callReserve_36 rfl (lv_at hl 2 rfl) ?_
    refine lv_dup hx hb dX1_callReserve_37 rfl ?_
    refine rg_X5_reservesCalled hx hb hts inX5 hown hK hW hi0 q61 dX1_callReserve_38 ?_
    refine lv_iconst (v := 1) hx hb dX1_callReserve_41 (by decide) ?_
    refine lv_iadd hx hb dX1_callReserve_42 ?_
    obtain ⟨w_12, ew_12, hF⟩ := gS_some hF
    refine rp_X5_reservesCalled hx hb hts inX5 hown hK hW hL hi0 q61 dX1_callReserve_43 (fun H locs hW hL => ?_)
    rw [← ew_12] at hW
    refine lv_iload_n hx hb dX1_callReserve_46 rfl (lv_at hl 0 rfl) ?_
    exact g_ri hx hb hr hlocks (gW2 hF hW) hL (gI2 hF).1 dX1_callReserve_47
  · replace hF := gT hc_8 hF
    refine lv_bipush (v := 100) hx hb dX1_callReserve_23 (by decide) ?_
    exact g_ri hx hb hr hlocks (gW2 hF hW) hL (gI2 hF).1 dX1_callReserve_25
abbrev rmX1_withdraw : Room := { frames := 4, cells := 0, slots := 0, locals := 88 }
abbrev wsX1_withdraw : List Cond := gws yX1_withdraw cX1_withdraw 3 (some .int)
set_option maxHeartbeats 4000000 in
set_option maxRecDepth 100000 in
theorem c_X1_withdraw (l : Launch) (X : gX) (w : gWd) (i0 : Nat) (hi0 : i0 < 7) (x1 : Int32) (r : Int32) (w' : gWd) (hF : F_X1_withdraw w i0 x1 = some (r, w')) : Met l yX1_withdraw wsX1_withdraw rmX1_withdraw (gPc X [.ref (gA X i0 0), .int x1] w) (gQi X r w') 0 0 (gFr X) := by
  refine g_ofW (cc := cX1_withdraw) (maxL := 3) (ret := (some .int)) (by decide) rfl (Nat.le_of_ble_eq_true rfl) (fun p e s m args below meth c ls H hx hb hr hts hown hlocks hml hK hl hW => ?_)
  have hl : lv_has ls 3 [(0, .ref (gA X i0 0)), (1, .int x1)] := hl
  have hown : s.vm.findClass RX1 = some m.cls := hown
  have hL : gLo X [] := gLo_nil
  show W p l e rmX1_withdraw s m args below meth c H [] 0 0 _ _
  have inX5 : ∀ w ∈ wsX50, w ∈ wsX1_withdraw := fun w h => List.mem_cons_of_mem _ (inlX5 w h)
  have inX10 : ∀ w ∈ wsX100, w ∈ wsX1_withdraw := fun w h => List.mem_cons_of_mem _ (inlX10 w h)
  have q15 := hts _ (List.mem_cons_of_mem _ wq_X1_15)
  have q16 := hts _ (List.mem_cons_of_mem _ wq_X1_16)
  have q22 := hts _ (List.mem_cons_of_mem _ wq_X1_22)
  have q27 := hts _ (List.mem_cons_of_mem _ wq_X1_27)
  have q40 := hts _ (List.mem_cons_of_mem _ wq_X1_40)
  have q47 := hts _ (List.mem_cons_of_mem _ wq_X1_47)
  have k37 : CallW rmX1_withdraw s args RX1 RX5 37 yX5_has cX5_has 2 (some .boolean) wsX5_has rmX5_has 0 0 1 := cwV 1 hts (gGoodV (fun w h => List.mem_cons_of_mem _ h) wk_X1_37) rfl rfl rfl (by decide +kernel) ⟨Nat.le_of_ble_eq_true rfl, Nat.le_of_ble_eq_true rfl⟩
  have k44 : CallW rmX1_withdraw s args RX1 RX10 44 yX10_leaveHeat cX10_leaveHeat 1 none wsX10_leaveHeat rmX10_leaveHeat 0 0 0 := cwV 0 hts (gGoodV (fun w h => List.mem_cons_of_mem _ h) wk_X1_44) rfl rfl rfl (by decide +kernel) ⟨Nat.le_of_ble_eq_true rfl, Nat.le_of_ble_eq_true rfl⟩
  have k50 : CallB rmX1_withdraw s args RX1 50 yX1_callReserve cX1_callReserve 4 (some .int) wsX1_callReserve rmX1_callReserve 0 0 2 ∧ (Cond.static yX1_callReserve).before args s = true := va_cwS 2 hts (gGoodS (fun w h => List.mem_cons_of_mem _ h) wk_X1_50) rfl rfl rfl (by decide +kernel) ⟨Nat.le_of_ble_eq_true rfl, Nat.le_of_ble_eq_true rfl⟩
  have B_53 : ∀ (w : gWd) (i0 : Nat) (i2 : Nat) (n2 : Nat) (hi0 : i0 < 7) (hi2 : i2 < 7) (hn2 : n2 < 30) (ls : Array Slot) (hl : lv_has ls 3 [(0, .ref (gA X i0 0)), (2, .ref (gA X i2 (4 + n2)))]) (hF : F_X1_withdraw_53 w i0 i2 n2 = some (r, w')) (H : Heap) (locs : List Loc) (hW : gWo X 252 (gE X w) H) (hL : gLo X locs), W p l e rmX1_withdraw s m args below meth c H locs 0 0 (MQ below (gQi X r w') args s 0 0 (gFr X)) (F0 m 53 ls []) := by
    intro w i0 i2 n2 hi0 hi2 hn2 ls hl hF H locs hW hL
    rw [F_X1_withdraw_53] at hF
    refine lv_aload_n hx hb dX1_withdraw_53 rfl (lv_at hl 0 rfl) ?_
    refine rg_X5_stage hx hb hts inX5 hown hK hW hi0 q16 dX1_withdraw_54 ?_
    refine lv_iconst (v := 2) hx hb dX1_withdraw_57 (by decide) ?_
    refine lv_icmp_ne (tgt := 74) hx hb dX1_withdraw_58 (by decide) (fun hc_1 => ?_) (fun hc_1 => ?_)
    · replace hF := gF hc_1 hF
      refine lv_bipush (v := 100) hx hb dX1_withdraw_74 (by decide) ?_
      exact g_ri hx hb hr hlocks (gW2 hF hW) hL (gI2 hF).1 dX1_withdraw_76
    · replace hF := gT hc_1 hF
      refine lv_aload_n hx hb dX1_withdraw_61 rfl (lv_at hl 1 rfl) ?_
      refine rg_X10_finalLane hx hb hts inX10 hown hK hW hi2 hn2 q47 dX1_withdraw_62 ?_
      refine lv_if_eq (tgt := 74) hx hb dX1_withdraw_65 (by decide) (fun hc_2 => ?_) (fun hc_2 => ?_)
      · replace hF := gT hc_2 hF
        refine lv_bipush (v := 100) hx hb dX1_withdraw_74 (by decide) ?_
        exact g_ri hx hb hr hlocks (gW2 hF hW) hL (gI2 hF).1 dX1_withdraw_76
      · replace hF := gF hc_2 hF
        refine lv_aload_n hx hb dX1_withdraw_68 rfl (lv_at hl 0 rfl) ?_
        refine lv_aload_n hx hb dX1_withdraw_69 rfl (lv_at hl 1 rfl) ?_
        obtain ⟨v_4, w_5, hq_3, hF⟩ := gC_some hF
        refine g_Si (As := [.ref (gA X i0 0), .ref (gA X i2 (4 + n2))]) (rest := []) ⟨hx, hb, hml, hown, hts⟩ hK hW hL hl.1 (c_X1_callReserve l X w i0 hi0 i2 hi2 n2 hn2 v_4 w_5 hq_3) k50 rfl rfl (Nat.le_of_ble_eq_true rfl) dX1_withdraw_70 ⟨Nat.le_of_ble_eq_true rfl, Nat.le_of_ble_eq_true rfl⟩ (fun H locs hW hL => ?_)
        exact g_ri hx hb hr hlocks (gW2 hF hW) hL (gI2 hF).1 dX1_withdraw_73
  rw [F_X1_withdraw] at hF
  obtain ⟨locs, hlocs⟩ : ∃ locs : List Loc, locs = [] := ⟨_, rfl⟩
  rw [← hlocs] at hL ⊢
  refine lv_aload_n hx hb dX1_withdraw_0 rfl (lv_at hl 0 rfl) ?_
  refine lv_iload_n hx hb dX1_withdraw_1 rfl (lv_at hl 1 rfl) ?_
  obtain ⟨v_7, hq_6, hF⟩ := gP_some hF
  refine g_Vi (As := [.int x1]) (rest := []) ⟨hx, hb, hml, hown, hts⟩ hK hW hL hl.1 (gok_m hi0 (by decide)) (gE_m0 hi0) rfl (c_X5_has l X w i0 hi0 x1 v_7 hq_6) k37 rfl rfl (Nat.le_of_ble_eq_true rfl) dX1_withdraw_2 ⟨Nat.le_of_ble_eq_true rfl, Nat.le_of_ble_eq_true rfl⟩ (fun H locs hW hL => ?_)
  refine lv_if_ne (tgt := 11) hx hb dX1_withdraw_5 (by decide) (fun hc_8 => ?_) (fun hc_8 => ?_)
  · replace hF := gF hc_8 hF
    refine lv_aload_n hx hb dX1_withdraw_11 rfl (lv_at hl 0 rfl) ?_
    refine rg_X5_all hx hb hts inX5 hown hK hW hi0 q27 dX1_withdraw_12 ?_
    refine lv_iload_n hx hb dX1_withdraw_15 rfl (lv_at hl 1 rfl) ?_
    obtain ⟨hin_9, hF⟩ := gB_some hF
    obtain ⟨k_10, ek_10⟩ : ∃ k, k = Int32.toNatClampNeg x1 := ⟨_, rfl⟩
    rw [← ek_10] at hF
    refine r_all (k := k_10) hx hb hK hW hi0 hin_9 ek_10.symm dX1_withdraw_16 ?_
    refine lv_astore_n (lv' := [(2, .ref (gA X i0 (4 + k_10))), (0, .ref (gA X i0 0)), (1, .int x1)]) hx hb dX1_withdraw_17 rfl hl (by decide) rfl (fun ls hl => ?_)
    refine lv_aload_n hx hb dX1_withdraw_18 rfl (lv_at hl 0 rfl) ?_
    refine rg_X10_scratched hx hb hts inX10 hown hK hW hi0 (vp_lt2 hin_9 ek_10.symm) q40 dX1_withdraw_19 ?_
    refine lv_if_ne (tgt := 33) hx hb dX1_withdraw_22 (by decide) (fun hc_11 => ?_) (fun hc_11 => ?_)
    · replace hF := gF hc_11 hF
      refine lv_ldc hx hb hown q22 dX1_withdraw_33 ?_
      exact g_ri hx hb hr hlocks (gW2 hF hW) hL (gI2 hF).1 dX1_withdraw_35
    · replace hF := gT hc_11 hF
      refine lv_aload_n hx hb dX1_withdraw_25 rfl (lv_at hl 1 rfl) ?_
      refine rg_X5_stage hx hb hts inX5 hown hK hW hi0 q16 dX1_withdraw_26 ?_
      refine lv_iconst (v := 3) hx hb dX1_withdraw_29 (by decide) ?_
      refine lv_icmp_ne (tgt := 36) hx hb dX1_withdraw_30 (by decide) (fun hc_12 => ?_) (fun hc_12 => ?_)
      · replace hF := gF hc_12 hF
        refine lv_aload_n hx hb dX1_withdraw_36 rfl (lv_at hl 0 rfl) ?_
        refine lv_iconst (v := 1) hx hb dX1_withdraw_37 (by decide) ?_
        obtain ⟨w_13, ew_13, hF⟩ := gS_some hF
        refine rp_X10_scratched hx hb hts inX10 hown hK hW hL hi0 (vp_lt2 hin_9 ek_10.symm) (Or.inr rfl) q40 dX1_withdraw_38 (fun H locs hW hL => ?_)
        rw [← ew_13] at hW
        refine lv_aload_n hx hb dX1_withdraw_41 rfl (lv_at hl 1 rfl) ?_
        refine rg_X5_stage hx hb hts inX5 hown hK hW hi0 q16 dX1_withdraw_42 ?_
        refine lv_iconst (v := 1) hx hb dX1_withdraw_45 (by decide) ?_
        refine lv_icmp_ne (tgt := 53) hx hb dX1_withdraw_46 (by decide) (fun hc_14 => ?_) (fun hc_14 => ?_)
        · replace hF := gF hc_14 hF
          exact B_53 w_13 i0 i0 k_10 hi0 hi0 ((vp_lt2 hin_9 ek_10.symm)) ls (lv_sub hl [1, 0] rfl) hF H locs hW hL
        · replace hF := gT hc_14 hF
          refine lv_aload_n hx hb dX1_withdraw_49 rfl (lv_at hl 0 rfl) ?_
          obtain ⟨w_16, hq_15, hF⟩ := gP_some hF
          refine g_Vv (As := []) (rest := []) ⟨hx, hb, hml, hown, hts⟩ hK hW hL hl.1 (gok_s hi0 (vp_lt2 hin_9 ek_10.symm)) (gE_ms hi0 k_10) rfl (c_X10_leaveHeat l X w_13 i0 hi0 k_10 (vp_lt2 hin_9 ek_10.symm) w_16 hq_15) k44 rfl rfl (Nat.le_of_ble_eq_true rfl) dX1_withdraw_50 ⟨Nat.le_of_ble_eq_true rfl, Nat.le_of_ble_eq_true rfl⟩ (fun H locs hW hL => ?_)
          exact B_53 w_16 i0 i0 k_10 hi0 hi0 ((vp_lt2 hin_9 ek_10.symm)) ls (lv_sub hl [1, 0] rfl) hF H locs hW hL
      · replace hF := gT hc_12 hF
        refine lv_ldc hx hb hown q22 dX1_withdraw_33 ?_
        exact g_ri hx hb hr hlocks (gW2 hF hW) hL (gI2 hF).1 dX1_withdraw_35
  · replace hF := gT hc_8 hF
    refine lv_ldc hx hb hown q15 dX1_withdraw_8 ?_
    exact g_ri hx hb hr hlocks (gW2 hF hW) hL (gI2 hF).1 dX1_withdraw_10
abbrev rmX11_scratch : Room := { frames := 5, cells := 0, slots := 0, locals := 110 }
abbrev wsX11_scratch : List Cond := gws yX11_scratch cX11_scratch 2 (some .int)
set_option maxHeartbeats 4000000 in
set_option maxRecDepth 100000 in
theorem c_X11_scratch (l : Launch) (X : gX) (w : gWd) (x1 : Int32) (r : Int32) (w' : gWd) (hF : F_X11_scratch w x1 = some (r, w')) : Met l yX11_scratch wsX11_scratch rmX11_scratch (gPc X [.ref (gA X 7 0), .int x1] w) (gQi X r w') 0 0 (gFr X) := by
  refine g_ofW (cc := cX11_scratch) (maxL := 2) (ret := (some .int)) (by decide) rfl (Nat.le_of_ble_eq_true rfl) (fun p e s m args below meth c ls H hx hb hr hts hown hlocks hml hK hl hW => ?_)
  have hl : lv_has ls 2 [(0, .ref (gA X 7 0)), (1, .int x1)] := hl
  have hown : s.vm.findClass RX11 = some m.cls := hown
  have hL : gLo X [] := gLo_nil
  show W p l e rmX11_scratch s m args below meth c H [] 0 0 _ _
  have inX11 : ∀ w ∈ wsX110, w ∈ wsX11_scratch := fun w h => List.mem_cons_of_mem _ (inlX11 w h)
  have q10 := hts _ (List.mem_cons_of_mem _ wq_X11_10)
  have q22 := hts _ (List.mem_cons_of_mem _ wq_X11_22)
  have k40 : CallW rmX11_scratch s args RX11 RX3 40 yX3_prepare cX3_prepare 2 none wsX3_prepare rmX3_prepare 0 0 1 := cwV 1 hts (gGoodV (fun w h => List.mem_cons_of_mem _ h) wk_X11_40) rfl rfl rfl (by decide +kernel) ⟨Nat.le_of_ble_eq_true rfl, Nat.le_of_ble_eq_true rfl⟩
  have k50 : CallW rmX11_scratch s args RX11 RX3 50 yX3_keepUnlessError cX3_keepUnlessError 2 (some .int) wsX3_keepUnlessError rmX3_keepUnlessError 0 0 1 := cwV 1 hts (gGoodV (fun w h => List.mem_cons_of_mem _ h) wk_X11_50) rfl rfl rfl (by decide +kernel) ⟨Nat.le_of_ble_eq_true rfl, Nat.le_of_ble_eq_true rfl⟩
  have k54 : CallB rmX11_scratch s args RX11 54 yX1_withdraw cX1_withdraw 3 (some .int) wsX1_withdraw rmX1_withdraw 0 0 2 ∧ (Cond.static yX1_withdraw).before args s = true := va_cwS 2 hts (gGoodS (fun w h => List.mem_cons_of_mem _ h) wk_X11_54) rfl rfl rfl (by decide +kernel) ⟨Nat.le_of_ble_eq_true rfl, Nat.le_of_ble_eq_true rfl⟩
  rw [F_X11_scratch] at hF
  obtain ⟨locs, hlocs⟩ : ∃ locs : List Loc, locs = [] := ⟨_, rfl⟩
  rw [← hlocs] at hL ⊢
  refine lv_aload_n hx hb dX11_scratch_0 rfl (lv_at hl 0 rfl) ?_
  refine rg_X11_history hx hb hts inX11 hown hK hW q22 dX11_scratch_1 ?_
  refine lv_aload_n hx hb dX11_scratch_4 rfl (lv_at hl 0 rfl) ?_
  refine rg_X11_meet hx hb hts inX11 hown hK hW q10 dX11_scratch_5 ?_
  obtain ⟨w_2, hq_1, hF⟩ := gP_some hF
  refine g_Vv (As := [.ref (gA X 0 0)]) (rest := []) ⟨hx, hb, hml, hown, hts⟩ hK hW hL hl.1 (gok_c (by decide)) gE_H rfl (c_X3_prepare l X w 0 h07 w_2 hq_1) k40 rfl rfl (Nat.le_of_ble_eq_true rfl) dX11_scratch_8 ⟨Nat.le_of_ble_eq_true rfl, Nat.le_of_ble_eq_true rfl⟩ (fun H locs hW hL => ?_)
  refine lv_aload_n hx hb dX11_scratch_11 rfl (lv_at hl 0 rfl) ?_
  refine rg_X11_history hx hb hts inX11 hown hK hW q22 dX11_scratch_12 ?_
  refine lv_aload_n hx hb dX11_scratch_15 rfl (lv_at hl 0 rfl) ?_
  refine rg_X11_meet hx hb hts inX11 hown hK hW q10 dX11_scratch_16 ?_
  refine lv_iload_n hx hb dX11_scratch_19 rfl (lv_at hl 1 rfl) ?_
  obtain ⟨v_4, w_5, hq_3, hF⟩ := gC_some hF
  refine g_Si (As := [.ref (gA X 0 0), .int x1]) (rest := [.ref (gA X 7 1)]) ⟨hx, hb, hml, hown, hts⟩ hK hW hL hl.1 (c_X1_withdraw l X w_2 0 h07 x1 v_4 w_5 hq_3) k54 rfl rfl (Nat.le_of_ble_eq_true rfl) dX11_scratch_20 ⟨Nat.le_of_ble_eq_true rfl, Nat.le_of_ble_eq_true rfl⟩ (fun H locs hW hL => ?_)
  obtain ⟨v_7, w_8, hq_6, hF⟩ := gC_some hF
  refine g_Vi (As := [.int v_4]) (rest := []) ⟨hx, hb, hml, hown, hts⟩ hK hW hL hl.1 (gok_c (by decide)) gE_H rfl (c_X3_keepUnlessError l X w_5 v_4 v_7 w_8 hq_6) k50 rfl rfl (Nat.le_of_ble_eq_true rfl) dX11_scratch_23 ⟨Nat.le_of_ble_eq_true rfl, Nat.le_of_ble_eq_true rfl⟩ (fun H locs hW hL => ?_)
  exact g_ri hx hb hr hlocks (gW2 hF hW) hL (gI2 hF).1 dX11_scratch_26
abbrev rmX9_allow : Room := { frames := 0, cells := 0, slots := 0, locals := 0 }
abbrev wsX9_allow : List Cond := gws yX9_allow cX9_allow 2 (some .boolean)
set_option maxHeartbeats 4000000 in
set_option maxRecDepth 100000 in
theorem c_X9_allow (l : Launch) (X : gX) (w : gWd) (x0 : Int32) (x1 : Int32) (r : Int32) (hF : F_X9_allow w x0 x1 = some r) : Met l yX9_allow wsX9_allow rmX9_allow (gPc X [.int x0, .int x1] w) (gQi X r w) 0 0 (gFr X) := by
  refine g_ofW (cc := cX9_allow) (maxL := 2) (ret := (some .boolean)) (by decide) rfl (Nat.le_of_ble_eq_true rfl) (fun p e s m args below meth c ls H hx hb hr hts hown hlocks hml hK hl hW => ?_)
  have hl : lv_has ls 2 [(0, .int x0), (1, .int x1)] := hl
  have hown : s.vm.findClass RX9 = some m.cls := hown
  have hL : gLo X [] := gLo_nil
  show W p l e rmX9_allow s m args below meth c H [] 0 0 _ _
  have q15 := hts _ (List.mem_cons_of_mem _ wq_X9_15)
  have q9 := hts _ (List.mem_cons_of_mem _ wq_X9_9)
  have B_31 : ∀   (ls : Array Slot) (hl : lv_has ls 2 []) (hF : F_X9_allow_31 w = some r) (H : Heap) (locs : List Loc) (hW : gWo X 252 (gE X w) H) (hL : gLo X locs), W p l e rmX9_allow s m args below meth c H locs 0 0 (MQ below (gQi X r w) args s 0 0 (gFr X)) (F0 m 31 ls []) := by
    intro ls hl hF H locs hW hL
    rw [F_X9_allow_31] at hF
    refine lv_iconst (v := 0) hx hb dX9_allow_31 (by decide) ?_
    exact g_rz hx hb hr hlocks hW hL (Or.inl rfl) (Option.some.inj hF) dX9_allow_32
  rw [F_X9_allow] at hF
  obtain ⟨locs, hlocs⟩ : ∃ locs : List Loc, locs = [] := ⟨_, rfl⟩
  rw [← hlocs] at hL ⊢
  refine lv_iload_n hx hb dX9_allow_0 rfl (lv_at hl 0 rfl) ?_
  refine lv_if_lt (tgt := 31) hx hb dX9_allow_1 (by decide) (fun hc_1 => ?_) (fun hc_1 => ?_)
  · replace hF := gT hc_1 hF
    exact B_31  ls (lv_sub hl [] rfl) hF H locs hW hL
  · replace hF := gF hc_1 hF
    refine lv_iload_n hx hb dX9_allow_4 rfl (lv_at hl 0 rfl) ?_
    refine lv_iconst (v := 3) hx hb dX9_allow_5 (by decide) ?_
    refine lv_icmp_ge (tgt := 31) hx hb dX9_allow_6 (by decide) (fun hc_2 => ?_) (fun hc_2 => ?_)
    · replace hF := gT hc_2 hF
      exact B_31  ls (lv_sub hl [] rfl) hF H locs hW hL
    · replace hF := gF hc_2 hF
      refine lv_iload_n hx hb dX9_allow_9 rfl (lv_at hl 1 rfl) ?_
      refine g_gets hx hb hK.2.2.1.1 hW hown q9 dX9_allow_10 ?_
      refine lv_iload_n hx hb dX9_allow_13 rfl (lv_at hl 0 rfl) ?_
      obtain ⟨hin_3, hF⟩ := gB_some hF
      obtain ⟨k_4, ek_4⟩ : ∃ k, k = Int32.toNatClampNeg x0 := ⟨_, rfl⟩
      rw [← ek_4] at hF
      refine g_ti2 (k := k_4) hx hb hK.2.2.1.2 hW hin_3 ek_4.symm dX9_allow_14 ?_
      refine lv_icmp_lt (tgt := 31) hx hb dX9_allow_15 (by decide) (fun hc_5 => ?_) (fun hc_5 => ?_)
      · replace hF := gT hc_5 hF
        exact B_31  ls (lv_sub hl [] rfl) hF H locs hW hL
      · replace hF := gF hc_5 hF
        refine lv_iload_n hx hb dX9_allow_18 rfl (lv_at hl 1 rfl) ?_
        refine g_gets hx hb hK.2.2.2.1.1 hW hown q15 dX9_allow_19 ?_
        refine lv_iload_n hx hb dX9_allow_22 rfl (lv_at hl 0 rfl) ?_
        obtain ⟨hin_6, hF⟩ := gB_some hF
        obtain ⟨k_7, ek_7⟩ : ∃ k, k = Int32.toNatClampNeg x0 := ⟨_, rfl⟩
        rw [← ek_7] at hF
        refine g_ti2 (k := k_7) hx hb hK.2.2.2.1.2 hW hin_6 ek_7.symm dX9_allow_23 ?_
        refine lv_icmp_gt (tgt := 31) hx hb dX9_allow_24 (by decide) (fun hc_8 => ?_) (fun hc_8 => ?_)
        · replace hF := gT hc_8 hF
          exact B_31  ls (lv_sub hl [] rfl) hF H locs hW hL
        · replace hF := gF hc_8 hF
          refine lv_iconst (v := 1) hx hb dX9_allow_27 (by decide) ?_
          refine lv_goto (tgt := 32) hx hb dX9_allow_28 (by decide) ?_
          exact g_rz hx hb hr hlocks hW hL (Or.inr rfl) (Option.some.inj hF) dX9_allow_32
abbrev rmX1_changeSetting : Room := { frames := 1, cells := 0, slots := 0, locals := 21 }
abbrev wsX1_changeSetting : List Cond := gws yX1_changeSetting cX1_changeSetting 4 (some .int)
set_option maxHeartbeats 4000000 in
set_option maxRecDepth 100000 in
theorem c_X1_changeSetting (l : Launch) (X : gX) (w : gWd) (i0 : Nat) (hi0 : i0 < 7) (x1 : Int32) (x2 : Int32) (r : Int32) (w' : gWd) (hF : F_X1_changeSetting w i0 x1 x2 = some (r, w')) : Met l yX1_changeSetting wsX1_changeSetting rmX1_changeSetting (gPc X [.ref (gA X i0 0), .int x1, .int x2] w) (gQi X r w') 0 0 (gFr X) := by
  refine g_ofW (cc := cX1_changeSetting) (maxL := 4) (ret := (some .int)) (by decide) rfl (Nat.le_of_ble_eq_true rfl) (fun p e s m args below meth c ls H hx hb hr hts hown hlocks hml hK hl hW => ?_)
  have hl : lv_has ls 4 [(0, .ref (gA X i0 0)), (1, .int x1), (2, .int x2)] := hl
  have hown : s.vm.findClass RX1 = some m.cls := hown
  have hL : gLo X [] := gLo_nil
  show W p l e rmX1_changeSetting s m args below meth c H [] 0 0 _ _
  have inX5 : ∀ w ∈ wsX50, w ∈ wsX1_changeSetting := fun w h => List.mem_cons_of_mem _ (inlX5 w h)
  have q15 := hts _ (List.mem_cons_of_mem _ wq_X1_15)
  have q16 := hts _ (List.mem_cons_of_mem _ wq_X1_16)
  have q22 := hts _ (List.mem_cons_of_mem _ wq_X1_22)
  have q70 := hts _ (List.mem_cons_of_mem _ wq_X1_70)
  have k64 : CallB rmX1_changeSetting s args RX1 64 yX9_allow cX9_allow 2 (some .boolean) wsX9_allow rmX9_allow 0 0 2 ∧ (Cond.static yX9_allow).before args s = true := va_cwS 2 hts (gGoodS (fun w h => List.mem_cons_of_mem _ h) wk_X1_64) rfl rfl rfl (by decide +kernel) ⟨Nat.le_of_ble_eq_true rfl, Nat.le_of_ble_eq_true rfl⟩
  rw [F_X1_changeSetting] at hF
  obtain ⟨locs, hlocs⟩ : ∃ locs : List Loc, locs = [] := ⟨_, rfl⟩
  rw [← hlocs] at hL ⊢
  refine lv_iload_n hx hb dX1_changeSetting_0 rfl (lv_at hl 1 rfl) ?_
  refine lv_iload_n hx hb dX1_changeSetting_1 rfl (lv_at hl 2 rfl) ?_
  obtain ⟨v_2, hq_1, hF⟩ := gP_some hF
  refine g_Si (As := [.int x1, .int x2]) (rest := []) ⟨hx, hb, hml, hown, hts⟩ hK hW hL hl.1 (c_X9_allow l X w x1 x2 v_2 hq_1) k64 rfl rfl (Nat.le_of_ble_eq_true rfl) dX1_changeSetting_2 ⟨Nat.le_of_ble_eq_true rfl, Nat.le_of_ble_eq_true rfl⟩ (fun H locs hW hL => ?_)
  refine lv_if_ne (tgt := 11) hx hb dX1_changeSetting_5 (by decide) (fun hc_3 => ?_) (fun hc_3 => ?_)
  · replace hF := gF hc_3 hF
    refine lv_aload_n hx hb dX1_changeSetting_11 rfl (lv_at hl 0 rfl) ?_
    refine rg_X5_stage hx hb hts inX5 hown hK hW hi0 q16 dX1_changeSetting_12 ?_
    refine lv_if_eq (tgt := 21) hx hb dX1_changeSetting_15 (by decide) (fun hc_4 => ?_) (fun hc_4 => ?_)
    · replace hF := gT hc_4 hF
      refine lv_aload_n hx hb dX1_changeSetting_21 rfl (lv_at hl 0 rfl) ?_
      refine rg_X5_settings hx hb hts inX5 hown hK hW hi0 q70 dX1_changeSetting_22 ?_
      refine lv_iload_n hx hb dX1_changeSetting_25 rfl (lv_at hl 1 rfl) ?_
      obtain ⟨hin_5, hF⟩ := gB_some hF
      obtain ⟨k_6, ek_6⟩ : ∃ k, k = Int32.toNatClampNeg x1 := ⟨_, rfl⟩
      rw [← ek_6] at hF
      refine g_iald2 (k := k_6) hx hb hK hW (gok_m hi0 (by decide)) (gad_lt (gok_m hi0 (by decide))) (gE_m1 hi0) hin_5 ek_6.symm dX1_changeSetting_26 ?_
      obtain ⟨x3_7, ex3_7, hF⟩ := gS_some hF
      refine g_top ex3_7 ?_
      refine lv_istore_n (lv' := [(3, .int x3_7), (0, .ref (gA X i0 0)), (1, .int x1), (2, .int x2)]) hx hb dX1_changeSetting_27 rfl hl (by decide) rfl (fun ls hl => ?_)
      refine lv_aload_n hx hb dX1_changeSetting_28 rfl (lv_at hl 1 rfl) ?_
      refine rg_X5_settings hx hb hts inX5 hown hK hW hi0 q70 dX1_changeSetting_29 ?_
      refine lv_iload_n hx hb dX1_changeSetting_32 rfl (lv_at hl 2 rfl) ?_
      refine lv_iload_n hx hb dX1_changeSetting_33 rfl (lv_at hl 3 rfl) ?_
      obtain ⟨hin_8, hF⟩ := gB_some hF
      obtain ⟨k_9, ek_9⟩ : ∃ k, k = Int32.toNatClampNeg x1 := ⟨_, rfl⟩
      rw [← ek_9] at hF
      obtain ⟨w_10, ew_10, hF⟩ := gS_some hF
      refine g_iast2 (k := k_9) hx hb hK hW hL (gok_m hi0 (by decide)) (fun w => gE_m1 (w := w) hi0) hin_8 ek_9.symm dX1_changeSetting_34 (fun H locs hW hL => ?_)
      rw [← ew_10] at hW
      refine lv_iload_n hx hb dX1_changeSetting_35 rfl (lv_at hl 0 rfl) ?_
      exact g_ri hx hb hr hlocks (gW2 hF hW) hL (gI2 hF).1 dX1_changeSetting_36
    · replace hF := gF hc_4 hF
      refine lv_ldc hx hb hown q22 dX1_changeSetting_18 ?_
      exact g_ri hx hb hr hlocks (gW2 hF hW) hL (gI2 hF).1 dX1_changeSetting_20
  · replace hF := gT hc_3 hF
    refine lv_ldc hx hb hown q15 dX1_changeSetting_8 ?_
    exact g_ri hx hb hr hlocks (gW2 hF hW) hL (gI2 hF).1 dX1_changeSetting_10
