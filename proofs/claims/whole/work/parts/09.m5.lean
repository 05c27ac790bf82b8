abbrev rmX12_plays : Room := { frames := 7, cells := 0, slots := 0, locals := 153 }
abbrev wsX12_plays : List Cond := gws yX12_plays cX12_plays 4 (some .boolean)
set_option maxHeartbeats 4000000 in
set_option maxRecDepth 100000 in
theorem c_X12_plays (l : Launch) (X : gX) (w : gWd)  (r : Int32) (w' : gWd) (hF : F_X12_plays w = some (r, w')) : Met l yX12_plays wsX12_plays rmX12_plays (gPc X [.ref (gA X 8 0)] w) (gQi X r w') 0 0 (gFr X) := by
  refine g_ofW (cc := cX12_plays) (maxL := 4) (ret := (some .boolean)) (by decide) rfl (Nat.le_of_ble_eq_true rfl) (fun p e s m args below meth c ls H hx hb hr hts hown hlocks hml hK hl hW => ?_)
  have hl : lv_has ls 4 [(0, .ref (gA X 8 0))] := hl
  have hown : s.vm.findClass RX12 = some m.cls := hown
  have hL : gLo X [] := gLo_nil
  show W p l e rmX12_plays s m args below meth c H [] 0 0 _ _
  have inX12 : ∀ w ∈ wsX120, w ∈ wsX12_plays := fun w h => List.mem_cons_of_mem _ (inlX12 w h)
  have q174 := hts _ (List.mem_cons_of_mem _ wq_X12_174)
  have q177 := hts _ (List.mem_cons_of_mem _ wq_X12_177)
  have q216 := hts _ (List.mem_cons_of_mem _ wq_X12_216)
  have q219 := hts _ (List.mem_cons_of_mem _ wq_X12_219)
  have q229 := hts _ (List.mem_cons_of_mem _ wq_X12_229)
  have q232 := hts _ (List.mem_cons_of_mem _ wq_X12_232)
  have q28 := hts _ (List.mem_cons_of_mem _ wq_X12_28)
  have k222 : CallW rmX12_plays s args RX12 RX12 222 yX12_reads cX12_reads 3 (some .boolean) wsX12_reads rmX12_reads 0 0 0 := cwV 0 hts (gGoodV (fun w h => List.mem_cons_of_mem _ h) wk_X12_222) rfl rfl rfl (by decide +kernel) ⟨Nat.le_of_ble_eq_true rfl, Nat.le_of_ble_eq_true rfl⟩
  have k226 : CallW rmX12_plays s args RX12 RX12 226 yX12_does cX12_does 1 (some .int) wsX12_does rmX12_does 0 0 0 := cwV 0 hts (gGoodV (fun w h => List.mem_cons_of_mem _ h) wk_X12_226) rfl rfl rfl (by decide +kernel) ⟨Nat.le_of_ble_eq_true rfl, Nat.le_of_ble_eq_true rfl⟩
  have B_124 : ∀ (w : gWd) (x1 : Int32)  (ls : Array Slot) (hl : lv_has ls 4 [(0, .ref (gA X 8 0)), (1, .int x1)]) (hF : F_X12_plays_124 w x1 = some (r, w')) (H : Heap) (locs : List Loc) (hW : gWo X 251 (gE X w) H) (hL : gLo X locs), W p l e rmX12_plays s m args below meth c H locs 0 0 (MQ below (gQi X r w') args s 0 0 (gFr X)) (F0 m 124 ls []) := by
    intro w x1 ls hl hF H locs hW hL
    rw [F_X12_plays_124] at hF
    refine lv_aload_n hx hb dX12_plays_124 rfl (lv_at hl 0 rfl) ?_
    refine lv_iconst (v := 0) hx hb dX12_plays_125 (by decide) ?_
    obtain ⟨w_18, ew_18, hF⟩ := gS_some hF
    refine rp_X12_runs hx hb hts inX12 hown hK hW hL (Or.inl rfl) q28 dX12_plays_126 (fun H locs hW hL => ?_)
    rw [← ew_18] at hW
    refine lv_iload_n hx hb dX12_plays_129 rfl (lv_at hl 1 rfl) ?_
    obtain ⟨hz_19, hF⟩ := gZ_some hF
    exact g_rz hx hb hr hlocks (gW2 hF hW) hL hz_19 (gI2 hF).1 dX12_plays_130
  have L_22 : ∀ (fu : Nat) (w : gWd) (x1 : Int32)  (ls : Array Slot) (hl : lv_has ls 4 [(0, .ref (gA X 8 0)), (1, .int x1)]) (hF : F_X12_plays_22 fu w x1 = some (r, w')) (H : Heap) (locs : List Loc) (hW : gWo X 251 (gE X w) H) (hL : gLo X locs), W p l e rmX12_plays s m args below meth c H locs 0 0 (MQ below (gQi X r w') args s 0 0 (gFr X)) (F0 m 22 ls []) := by
    intro fu
    induction fu with
    | zero => intro w x1 ls hl hF H locs hW hL; rw [F_X12_plays_22_z] at hF; cases hF
    | succ fu22 ih22 =>
      have B_108 : ∀ (w : gWd) (x1 : Int32) (xs0 : Int32)  (ls : Array Slot) (hl : lv_has ls 4 [(0, .ref (gA X 8 0)), (1, .int x1)]) (hF : F_X12_plays_108 (F_X12_plays_22 fu22) w x1 xs0 = some (r, w')) (H : Heap) (locs : List Loc) (hW : gWo X 251 (gE X w) H) (hL : gLo X locs), W p l e rmX12_plays s m args below meth c H locs 0 0 (MQ below (gQi X r w') args s 0 0 (gFr X)) (F0 m 108 ls [.int xs0, .ref (gA X 8 0)]) := by
        intro w x1 xs0 ls hl hF H locs hW hL
        rw [F_X12_plays_108] at hF
        obtain ⟨w_16, ew_16, hF⟩ := gS_some hF
        refine rp_X12_cause hx hb hts inX12 hown hK hW hL q232 dX12_plays_108 (fun H locs hW hL => ?_)
        rw [← ew_16] at hW
        refine lv_aload_n hx hb dX12_plays_111 rfl (lv_at hl 0 rfl) ?_
        refine lv_dup hx hb dX12_plays_112 rfl ?_
        refine rg_X12_orders hx hb hts inX12 hown hK hW q219 dX12_plays_113 ?_
        refine lv_iconst (v := 1) hx hb dX12_plays_116 (by decide) ?_
        refine lv_iadd hx hb dX12_plays_117 ?_
        obtain ⟨w_17, ew_17, hF⟩ := gS_some hF
        refine rp_X12_orders hx hb hts inX12 hown hK hW hL q219 dX12_plays_118 (fun H locs hW hL => ?_)
        rw [← ew_17] at hW
        refine lv_goto (tgt := 22) hx hb dX12_plays_121 (by decide) ?_
        exact ih22 w_17 x1 ls (hl) hF H locs hW hL
      have B_87 : ∀ (w : gWd) (x1 : Int32) (x2 : Int32) (x3 : Int32) (xs0 : Int32)  (ls : Array Slot) (hl : lv_has ls 4 [(0, .ref (gA X 8 0)), (1, .int x1), (2, .int x2), (3, .int x3)]) (hF : F_X12_plays_87 (F_X12_plays_22 fu22) w x1 x2 x3 xs0 = some (r, w')) (H : Heap) (locs : List Loc) (hW : gWo X 251 (gE X w) H) (hL : gLo X locs), W p l e rmX12_plays s m args below meth c H locs 0 0 (MQ below (gQi X r w') args s 0 0 (gFr X)) (F0 m 87 ls [.int xs0, .ref (gA X 8 0)]) := by
        intro w x1 x2 x3 xs0 ls hl hF H locs hW hL
        rw [F_X12_plays_87] at hF
        obtain ⟨w_14, ew_14, hF⟩ := gS_some hF
        refine rp_X12_reason hx hb hts inX12 hown hK hW hL q229 dX12_plays_87 (fun H locs hW hL => ?_)
        rw [← ew_14] at hW
        refine lv_aload_n hx hb dX12_plays_90 rfl (lv_at hl 0 rfl) ?_
        refine lv_iload_n hx hb dX12_plays_91 rfl (lv_at hl 2 rfl) ?_
        refine lv_if_eq (tgt := 99) hx hb dX12_plays_92 (by decide) (fun hc_15 => ?_) (fun hc_15 => ?_)
        · replace hF := gT hc_15 hF
          refine lv_aload_n hx hb dX12_plays_99 rfl (lv_at hl 0 rfl) ?_
          refine rg_X12_spot hx hb hts inX12 hown hK hW q177 dX12_plays_100 ?_
          refine lv_aload_n hx hb dX12_plays_103 rfl (lv_at hl 0 rfl) ?_
          refine rg_X12_from hx hb hts inX12 hown hK hW q216 dX12_plays_104 ?_
          refine lv_isub hx hb dX12_plays_107 ?_
          exact B_108 w_14 x1 (((w_14 8 0 8) - (w_14 8 0 9))) ls (lv_sub hl [0, 1] rfl) hF H locs hW hL
        · replace hF := gF hc_15 hF
          refine lv_iload_n hx hb dX12_plays_95 rfl (lv_at hl 3 rfl) ?_
          refine lv_goto (tgt := 108) hx hb dX12_plays_96 (by decide) ?_
          exact B_108 w_14 x1 x3 ls (lv_sub hl [0, 1] rfl) hF H locs hW hL
      have B_76 : ∀ (w : gWd) (x2 : Int32) (x3 : Int32) (xs0 : Int32)  (ls : Array Slot) (hl : lv_has ls 4 [(0, .ref (gA X 8 0)), (2, .int x2), (3, .int x3)]) (hF : F_X12_plays_76 (F_X12_plays_22 fu22) w x2 x3 xs0 = some (r, w')) (H : Heap) (locs : List Loc) (hW : gWo X 251 (gE X w) H) (hL : gLo X locs), W p l e rmX12_plays s m args below meth c H locs 0 0 (MQ below (gQi X r w') args s 0 0 (gFr X)) (F0 m 76 ls [.int xs0]) := by
        intro w x2 x3 xs0 ls hl hF H locs hW hL
        rw [F_X12_plays_76] at hF
        refine lv_istore_n (lv' := [(1, .int xs0), (0, .ref (gA X 8 0)), (2, .int x2), (3, .int x3)]) hx hb dX12_plays_76 rfl hl (by decide) rfl (fun ls hl => ?_)
        refine lv_aload_n hx hb dX12_plays_77 rfl (lv_at hl 1 rfl) ?_
        refine lv_iload_n hx hb dX12_plays_78 rfl (lv_at hl 2 rfl) ?_
        refine lv_if_eq (tgt := 86) hx hb dX12_plays_79 (by decide) (fun hc_13 => ?_) (fun hc_13 => ?_)
        · replace hF := gT hc_13 hF
          refine lv_iconst (v := 1) hx hb dX12_plays_86 (by decide) ?_
          exact B_87 w xs0 x2 x3 1 ls (lv_sub hl [1, 0, 2, 3] rfl) hF H locs hW hL
        · replace hF := gF hc_13 hF
          refine lv_iconst (v := 2) hx hb dX12_plays_82 (by decide) ?_
          refine lv_goto (tgt := 87) hx hb dX12_plays_83 (by decide) ?_
          exact B_87 w xs0 x2 x3 2 ls (lv_sub hl [1, 0, 2, 3] rfl) hF H locs hW hL
      have B_75 : ∀ (w : gWd) (x2 : Int32) (x3 : Int32)  (ls : Array Slot) (hl : lv_has ls 4 [(0, .ref (gA X 8 0)), (2, .int x2), (3, .int x3)]) (hF : F_X12_plays_75 (F_X12_plays_22 fu22) w x2 x3 = some (r, w')) (H : Heap) (locs : List Loc) (hW : gWo X 251 (gE X w) H) (hL : gLo X locs), W p l e rmX12_plays s m args below meth c H locs 0 0 (MQ below (gQi X r w') args s 0 0 (gFr X)) (F0 m 75 ls []) := by
        intro w x2 x3 ls hl hF H locs hW hL
        rw [F_X12_plays_75] at hF
        refine lv_iconst (v := 0) hx hb dX12_plays_75 (by decide) ?_
        exact B_76 w x2 x3 0 ls (hl) hF H locs hW hL
      have B_62 : ∀ (w : gWd) (x2 : Int32) (xs0 : Int32)  (ls : Array Slot) (hl : lv_has ls 4 [(0, .ref (gA X 8 0)), (2, .int x2)]) (hF : F_X12_plays_62 (F_X12_plays_22 fu22) w x2 xs0 = some (r, w')) (H : Heap) (locs : List Loc) (hW : gWo X 251 (gE X w) H) (hL : gLo X locs), W p l e rmX12_plays s m args below meth c H locs 0 0 (MQ below (gQi X r w') args s 0 0 (gFr X)) (F0 m 62 ls [.int xs0]) := by
        intro w x2 xs0 ls hl hF H locs hW hL
        rw [F_X12_plays_62] at hF
        refine lv_istore_n (lv' := [(3, .int xs0), (0, .ref (gA X 8 0)), (2, .int x2)]) hx hb dX12_plays_62 rfl hl (by decide) rfl (fun ls hl => ?_)
        refine lv_iload_n hx hb dX12_plays_63 rfl (lv_at hl 2 rfl) ?_
        refine lv_if_eq (tgt := 75) hx hb dX12_plays_64 (by decide) (fun hc_11 => ?_) (fun hc_11 => ?_)
        · replace hF := gT hc_11 hF
          exact B_75 w x2 xs0 ls (lv_sub hl [1, 2, 0] rfl) hF H locs hW hL
        · replace hF := gF hc_11 hF
          refine lv_iload_n hx hb dX12_plays_67 rfl (lv_at hl 0 rfl) ?_
          refine lv_if_lt (tgt := 75) hx hb dX12_plays_68 (by decide) (fun hc_12 => ?_) (fun hc_12 => ?_)
          · replace hF := gT hc_12 hF
            exact B_75 w x2 xs0 ls (lv_sub hl [1, 2, 0] rfl) hF H locs hW hL
          · replace hF := gF hc_12 hF
            refine lv_iconst (v := 1) hx hb dX12_plays_71 (by decide) ?_
            refine lv_goto (tgt := 76) hx hb dX12_plays_72 (by decide) ?_
            exact B_76 w x2 xs0 1 ls (lv_sub hl [1, 2, 0] rfl) hF H locs hW hL
      intro w x1 ls hl hF H locs hW hL
      rw [F_X12_plays_22_s] at hF
      refine lv_aload_n hx hb dX12_plays_22 rfl (lv_at hl 0 rfl) ?_
      refine rg_X12_spot hx hb hts inX12 hown hK hW q177 dX12_plays_23 ?_
      refine lv_aload_n hx hb dX12_plays_26 rfl (lv_at hl 0 rfl) ?_
      refine rg_X12_typed hx hb hts inX12 hown hK hW q174 dX12_plays_27 ?_
      refine lv_icmp_ge (tgt := 124) hx hb dX12_plays_30 (by decide) (fun hc_1 => ?_) (fun hc_1 => ?_)
      · replace hF := gT hc_1 hF
        exact B_124 w x1 ls (hl) hF H locs hW hL
      · replace hF := gF hc_1 hF
        refine lv_iload_n hx hb dX12_plays_33 rfl (lv_at hl 1 rfl) ?_
        refine lv_if_eq (tgt := 124) hx hb dX12_plays_34 (by decide) (fun hc_2 => ?_) (fun hc_2 => ?_)
        · replace hF := gT hc_2 hF
          exact B_124 w x1 ls (hl) hF H locs hW hL
        · replace hF := gF hc_2 hF
          refine lv_aload_n hx hb dX12_plays_37 rfl (lv_at hl 0 rfl) ?_
          refine lv_aload_n hx hb dX12_plays_38 rfl (lv_at hl 0 rfl) ?_
          refine rg_X12_spot hx hb hts inX12 hown hK hW q177 dX12_plays_39 ?_
          obtain ⟨w_3, ew_3, hF⟩ := gS_some hF
          refine rp_X12_from hx hb hts inX12 hown hK hW hL q216 dX12_plays_42 (fun H locs hW hL => ?_)
          rw [← ew_3] at hW
          refine lv_aload_n hx hb dX12_plays_45 rfl (lv_at hl 0 rfl) ?_
          obtain ⟨v_5, w_6, hq_4, hF⟩ := gC_some hF
          refine g_Vi (As := []) (rest := []) ⟨hx, hb, hml, hown, hts⟩ hK hW hL hl.1 (gok_o (by decide)) gE_O rfl (c_X12_reads l X w_3  v_5 w_6 hq_4) k222 rfl rfl (Nat.le_of_ble_eq_true rfl) dX12_plays_46 ⟨Nat.le_of_ble_eq_true rfl, Nat.le_of_ble_eq_true rfl⟩ (fun H locs hW hL => ?_)
          refine lv_istore_n (lv' := [(2, .int v_5), (0, .ref (gA X 8 0)), (1, .int x1)]) hx hb dX12_plays_49 rfl hl (by decide) rfl (fun ls hl => ?_)
          refine lv_iload_n hx hb dX12_plays_50 rfl (lv_at hl 0 rfl) ?_
          refine lv_if_eq (tgt := 61) hx hb dX12_plays_51 (by decide) (fun hc_7 => ?_) (fun hc_7 => ?_)
          · replace hF := gT hc_7 hF
            refine lv_iconst (v := 0) hx hb dX12_plays_61 (by decide) ?_
            exact B_62 w_6 v_5 0 ls (lv_sub hl [1, 0] rfl) hF H locs hW hL
          · replace hF := gF hc_7 hF
            refine lv_aload_n hx hb dX12_plays_54 rfl (lv_at hl 1 rfl) ?_
            obtain ⟨v_9, w_10, hq_8, hF⟩ := gC_some hF
            refine g_Vi (As := []) (rest := []) ⟨hx, hb, hml, hown, hts⟩ hK hW hL hl.1 (gok_o (by decide)) gE_O rfl (c_X12_does l X w_6  v_9 w_10 hq_8) k226 rfl rfl (Nat.le_of_ble_eq_true rfl) dX12_plays_55 ⟨Nat.le_of_ble_eq_true rfl, Nat.le_of_ble_eq_true rfl⟩ (fun H locs hW hL => ?_)
            refine lv_goto (tgt := 62) hx hb dX12_plays_58 (by decide) ?_
            exact B_62 w_10 v_5 v_9 ls (lv_sub hl [1, 0] rfl) hF H locs hW hL
  rw [F_X12_plays] at hF
  obtain ⟨locs, hlocs⟩ : ∃ locs : List Loc, locs = [] := ⟨_, rfl⟩
  rw [← hlocs] at hL ⊢
  refine lv_aload_n hx hb dX12_plays_0 rfl (lv_at hl 0 rfl) ?_
  refine lv_iconst (v := 1) hx hb dX12_plays_1 (by decide) ?_
  obtain ⟨w_20, ew_20, hF⟩ := gS_some hF
  refine rp_X12_runs hx hb hts inX12 hown hK hW hL (Or.inr rfl) q28 dX12_plays_2 (fun H locs hW hL => ?_)
  rw [← ew_20] at hW
  refine lv_aload_n hx hb dX12_plays_5 rfl (lv_at hl 0 rfl) ?_
  refine lv_iconst (v := 0) hx hb dX12_plays_6 (by decide) ?_
  obtain ⟨w_21, ew_21, hF⟩ := gS_some hF
  refine rp_X12_spot hx hb hts inX12 hown hK hW hL q177 dX12_plays_7 (fun H locs hW hL => ?_)
  rw [← ew_21] at hW
  refine lv_aload_n hx hb dX12_plays_10 rfl (lv_at hl 0 rfl) ?_
  refine lv_iconst (v := 0) hx hb dX12_plays_11 (by decide) ?_
  obtain ⟨w_22, ew_22, hF⟩ := gS_some hF
  refine rp_X12_from hx hb hts inX12 hown hK hW hL q216 dX12_plays_12 (fun H locs hW hL => ?_)
  rw [← ew_22] at hW
  refine lv_aload_n hx hb dX12_plays_15 rfl (lv_at hl 0 rfl) ?_
  refine lv_iconst (v := 0) hx hb dX12_plays_16 (by decide) ?_
  obtain ⟨w_23, ew_23, hF⟩ := gS_some hF
  refine rp_X12_orders hx hb hts inX12 hown hK hW hL q219 dX12_plays_17 (fun H locs hW hL => ?_)
  rw [← ew_23] at hW
  refine lv_iconst (v := 1) hx hb dX12_plays_20 (by decide) ?_
  refine lv_istore_n (lv' := [(1, .int 1), (0, .ref (gA X 8 0))]) hx hb dX12_plays_21 rfl hl (by decide) rfl (fun ls hl => ?_)
  exact L_22 gFU w_23 1 ls (lv_sub hl [1, 0] rfl) hF H locs hW hL
abbrev rmX12_fault : Room := { frames := 8, cells := 0, slots := 0, locals := 176 }
abbrev wsX12_fault : List Cond := gws yX12_fault cX12_fault 3 (some .int)
set_option maxHeartbeats 4000000 in
set_option maxRecDepth 100000 in
theorem c_X12_fault (l : Launch) (X : gX) (w : gWd) (x1 : Int32) (r : Int32) (w' : gWd) (hF : F_X12_fault w x1 = some (r, w')) : Met l yX12_fault wsX12_fault rmX12_fault (gPc X [.ref (gA X 8 0), .int x1] w) (gQi X r w') 0 0 (gFr X) := by
  refine g_ofW (cc := cX12_fault) (maxL := 3) (ret := (some .int)) (by decide) rfl (Nat.le_of_ble_eq_true rfl) (fun p e s m args below meth c ls H hx hb hr hts hown hlocks hml hK hl hW => ?_)
  have hl : lv_has ls 3 [(0, .ref (gA X 8 0)), (1, .int x1)] := hl
  have hown : s.vm.findClass RX12 = some m.cls := hown
  have hL : gLo X [] := gLo_nil
  show W p l e rmX12_fault s m args below meth c H [] 0 0 _ _
  have inX12 : ∀ w ∈ wsX120, w ∈ wsX12_fault := fun w h => List.mem_cons_of_mem _ (inlX12 w h)
  have q16 := hts _ (List.mem_cons_of_mem _ wq_X12_16)
  have q216 := hts _ (List.mem_cons_of_mem _ wq_X12_216)
  have q229 := hts _ (List.mem_cons_of_mem _ wq_X12_229)
  have q232 := hts _ (List.mem_cons_of_mem _ wq_X12_232)
  have q7 := hts _ (List.mem_cons_of_mem _ wq_X12_7)
  have q75 := hts _ (List.mem_cons_of_mem _ wq_X12_75)
  have q85 := hts _ (List.mem_cons_of_mem _ wq_X12_85)
  have k235 : CallB rmX12_fault s args RX12 235 yX12_copies cX12_copies 3 none wsX12_copies rmX12_copies 0 0 2 ∧ (Cond.static yX12_copies).before args s = true := va_cwS 2 hts (gGoodS (fun w h => List.mem_cons_of_mem _ h) wk_X12_235) rfl rfl rfl (by decide +kernel) ⟨Nat.le_of_ble_eq_true rfl, Nat.le_of_ble_eq_true rfl⟩
  have k239 : CallW rmX12_fault s args RX12 RX12 239 yX12_plays cX12_plays 4 (some .boolean) wsX12_plays rmX12_plays 0 0 0 := cwV 0 hts (gGoodV (fun w h => List.mem_cons_of_mem _ h) wk_X12_239) rfl rfl rfl (by decide +kernel) ⟨Nat.le_of_ble_eq_true rfl, Nat.le_of_ble_eq_true rfl⟩
  have k36 : CallB rmX12_fault s args RX12 36 yX12_in cX12_in 3 (some .boolean) wsX12_in rmX12_in 0 0 3 ∧ (Cond.static yX12_in).before args s = true := va_cwS 3 hts (gGoodS (fun w h => List.mem_cons_of_mem _ h) wk_X12_36) rfl rfl rfl (by decide +kernel) ⟨Nat.le_of_ble_eq_true rfl, Nat.le_of_ble_eq_true rfl⟩
  rw [F_X12_fault] at hF
  obtain ⟨locs, hlocs⟩ : ∃ locs : List Loc, locs = [] := ⟨_, rfl⟩
  rw [← hlocs] at hL ⊢
  refine lv_iload_n hx hb dX12_fault_0 rfl (lv_at hl 1 rfl) ?_
  refine lv_iconst (v := 0) hx hb dX12_fault_1 (by decide) ?_
  refine lv_iconst (v := 2) hx hb dX12_fault_2 (by decide) ?_
  obtain ⟨v_2, hq_1, hF⟩ := gP_some hF
  refine g_Si (As := [.int x1, .int 0, .int 2]) (rest := []) ⟨hx, hb, hml, hown, hts⟩ hK hW hL hl.1 (c_X12_in l X w x1 0 2 v_2 hq_1) k36 rfl rfl (Nat.le_of_ble_eq_true rfl) dX12_fault_3 ⟨Nat.le_of_ble_eq_true rfl, Nat.le_of_ble_eq_true rfl⟩ (fun H locs hW hL => ?_)
  refine lv_if_ne (tgt := 12) hx hb dX12_fault_6 (by decide) (fun hc_3 => ?_) (fun hc_3 => ?_)
  · replace hF := gF hc_3 hF
    refine lv_aload_n hx hb dX12_fault_12 rfl (lv_at hl 0 rfl) ?_
    refine rg_X12_s hx hb hts inX12 hown hK hW q7 dX12_fault_13 ?_
    refine lv_aload_n hx hb dX12_fault_16 rfl (lv_at hl 0 rfl) ?_
    refine rg_X12_held hx hb hts inX12 hown hK hW q16 dX12_fault_17 ?_
    obtain ⟨w_5, hq_4, hF⟩ := gP_some hF
    refine g_Sv (As := [.ref (gA X 8 1), .ref (gA X 8 3)]) (rest := []) ⟨hx, hb, hml, hown, hts⟩ hK hW hL hl.1 (c_X12_copies l X w 1 hr1 3 hr3 w_5 hq_4) k235 rfl rfl (Nat.le_of_ble_eq_true rfl) dX12_fault_20 ⟨Nat.le_of_ble_eq_true rfl, Nat.le_of_ble_eq_true rfl⟩ (fun H locs hW hL => ?_)
    refine lv_aload_n hx hb dX12_fault_23 rfl (lv_at hl 0 rfl) ?_
    obtain ⟨v_7, w_8, hq_6, hF⟩ := gC_some hF
    refine g_Vi (As := []) (rest := []) ⟨hx, hb, hml, hown, hts⟩ hK hW hL hl.1 (gok_o (by decide)) gE_O rfl (c_X12_plays l X w_5  v_7 w_8 hq_6) k239 rfl rfl (Nat.le_of_ble_eq_true rfl) dX12_fault_24 ⟨Nat.le_of_ble_eq_true rfl, Nat.le_of_ble_eq_true rfl⟩ (fun H locs hW hL => ?_)
    refine lv_istore_n (lv' := [(2, .int v_7), (0, .ref (gA X 8 0)), (1, .int x1)]) hx hb dX12_fault_27 rfl hl (by decide) rfl (fun ls hl => ?_)
    refine lv_aload_n hx hb dX12_fault_28 rfl (lv_at hl 1 rfl) ?_
    refine rg_X12_held hx hb hts inX12 hown hK hW q16 dX12_fault_29 ?_
    refine lv_aload_n hx hb dX12_fault_32 rfl (lv_at hl 1 rfl) ?_
    refine rg_X12_s hx hb hts inX12 hown hK hW q7 dX12_fault_33 ?_
    obtain ⟨w_10, hq_9, hF⟩ := gP_some hF
    refine g_Sv (As := [.ref (gA X 8 3), .ref (gA X 8 1)]) (rest := []) ⟨hx, hb, hml, hown, hts⟩ hK hW hL hl.1 (c_X12_copies l X w_8 3 hr3 1 hr1 w_10 hq_9) k235 rfl rfl (Nat.le_of_ble_eq_true rfl) dX12_fault_36 ⟨Nat.le_of_ble_eq_true rfl, Nat.le_of_ble_eq_true rfl⟩ (fun H locs hW hL => ?_)
    refine lv_iload_n hx hb dX12_fault_39 rfl (lv_at hl 0 rfl) ?_
    refine lv_if_eq (tgt := 48) hx hb dX12_fault_40 (by decide) (fun hc_11 => ?_) (fun hc_11 => ?_)
    · replace hF := gT hc_11 hF
      refine lv_iload_n hx hb dX12_fault_48 rfl (lv_at hl 2 rfl) ?_
      refine lv_if_ne (tgt := 59) hx hb dX12_fault_49 (by decide) (fun hc_12 => ?_) (fun hc_12 => ?_)
      · replace hF := gF hc_12 hF
        refine lv_iload_n hx hb dX12_fault_59 rfl (lv_at hl 2 rfl) ?_
        refine lv_iconst (v := 1) hx hb dX12_fault_60 (by decide) ?_
        refine lv_icmp_ne (tgt := 71) hx hb dX12_fault_61 (by decide) (fun hc_13 => ?_) (fun hc_13 => ?_)
        · replace hF := gF hc_13 hF
          refine lv_aload_n hx hb dX12_fault_71 rfl (lv_at hl 1 rfl) ?_
          refine rg_X12_cause hx hb hts inX12 hown hK hW q232 dX12_fault_72 ?_
          exact g_ri hx hb hr hlocks (gW2 hF hW) hL (gI2 hF).1 dX12_fault_75
        · replace hF := gT hc_13 hF
          refine lv_aload_n hx hb dX12_fault_64 rfl (lv_at hl 1 rfl) ?_
          refine rg_X12_reason hx hb hts inX12 hown hK hW q229 dX12_fault_65 ?_
          refine lv_goto (tgt := 75) hx hb dX12_fault_68 (by decide) ?_
          exact g_ri hx hb hr hlocks (gW2 hF hW) hL (gI2 hF).1 dX12_fault_75
      · replace hF := gT hc_12 hF
        refine lv_aload_n hx hb dX12_fault_52 rfl (lv_at hl 1 rfl) ?_
        refine rg_X12_from hx hb hts inX12 hown hK hW q216 dX12_fault_53 ?_
        refine lv_goto (tgt := 75) hx hb dX12_fault_56 (by decide) ?_
        exact g_ri hx hb hr hlocks (gW2 hF hW) hL (gI2 hF).1 dX12_fault_75
    · replace hF := gF hc_11 hF
      refine lv_ldc hx hb hown q85 dX12_fault_43 ?_
      refine lv_goto (tgt := 75) hx hb dX12_fault_45 (by decide) ?_
      exact g_ri hx hb hr hlocks (gW2 hF hW) hL (gI2 hF).1 dX12_fault_75
  · replace hF := gT hc_3 hF
    refine lv_ldc hx hb hown q75 dX12_fault_9 ?_
    exact g_ri hx hb hr hlocks (gW2 hF hW) hL (gI2 hF).1 dX12_fault_11
abbrev rmX12_play : Room := { frames := 8, cells := 0, slots := 0, locals := 176 }
abbrev wsX12_play : List Cond := gws yX12_play cX12_play 2 (some .int)
set_option maxHeartbeats 4000000 in
set_option maxRecDepth 100000 in
theorem c_X12_play (l : Launch) (X : gX) (w : gWd)  (r : Int32) (w' : gWd) (hF : F_X12_play w = some (r, w')) : Met l yX12_play wsX12_play rmX12_play (gPc X [.ref (gA X 8 0)] w) (gQi X r w') 0 0 (gFr X) := by
  refine g_ofW (cc := cX12_play) (maxL := 2) (ret := (some .int)) (by decide) rfl (Nat.le_of_ble_eq_true rfl) (fun p e s m args below meth c ls H hx hb hr hts hown hlocks hml hK hl hW => ?_)
  have hl : lv_has ls 2 [(0, .ref (gA X 8 0))] := hl
  have hown : s.vm.findClass RX12 = some m.cls := hown
  have hL : gLo X [] := gLo_nil
  show W p l e rmX12_play s m args below meth c H [] 0 0 _ _
  have inX12 : ∀ w ∈ wsX120, w ∈ wsX12_play := fun w h => List.mem_cons_of_mem _ (inlX12 w h)
  have q16 := hts _ (List.mem_cons_of_mem _ wq_X12_16)
  have q219 := hts _ (List.mem_cons_of_mem _ wq_X12_219)
  have q7 := hts _ (List.mem_cons_of_mem _ wq_X12_7)
  have q76 := hts _ (List.mem_cons_of_mem _ wq_X12_76)
  have q85 := hts _ (List.mem_cons_of_mem _ wq_X12_85)
  have k235 : CallB rmX12_play s args RX12 235 yX12_copies cX12_copies 3 none wsX12_copies rmX12_copies 0 0 2 ∧ (Cond.static yX12_copies).before args s = true := va_cwS 2 hts (gGoodS (fun w h => List.mem_cons_of_mem _ h) wk_X12_235) rfl rfl rfl (by decide +kernel) ⟨Nat.le_of_ble_eq_true rfl, Nat.le_of_ble_eq_true rfl⟩
  have k239 : CallW rmX12_play s args RX12 RX12 239 yX12_plays cX12_plays 4 (some .boolean) wsX12_plays rmX12_plays 0 0 0 := cwV 0 hts (gGoodV (fun w h => List.mem_cons_of_mem _ h) wk_X12_239) rfl rfl rfl (by decide +kernel) ⟨Nat.le_of_ble_eq_true rfl, Nat.le_of_ble_eq_true rfl⟩
  have k78 : CallW rmX12_play s args RX12 RX12 78 yX12_changes cX12_changes 2 none wsX12_changes rmX12_changes 0 0 0 := cwV 0 hts (gGoodV (fun w h => List.mem_cons_of_mem _ h) wk_X12_78) rfl rfl rfl (by decide +kernel) ⟨Nat.le_of_ble_eq_true rfl, Nat.le_of_ble_eq_true rfl⟩
  rw [F_X12_play] at hF
  obtain ⟨locs, hlocs⟩ : ∃ locs : List Loc, locs = [] := ⟨_, rfl⟩
  rw [← hlocs] at hL ⊢
  refine lv_aload_n hx hb dX12_play_0 rfl (lv_at hl 0 rfl) ?_
  refine rg_X12_s hx hb hts inX12 hown hK hW q7 dX12_play_1 ?_
  refine lv_aload_n hx hb dX12_play_4 rfl (lv_at hl 0 rfl) ?_
  refine rg_X12_held hx hb hts inX12 hown hK hW q16 dX12_play_5 ?_
  obtain ⟨w_2, hq_1, hF⟩ := gP_some hF
  refine g_Sv (As := [.ref (gA X 8 1), .ref (gA X 8 3)]) (rest := []) ⟨hx, hb, hml, hown, hts⟩ hK hW hL hl.1 (c_X12_copies l X w 1 hr1 3 hr3 w_2 hq_1) k235 rfl rfl (Nat.le_of_ble_eq_true rfl) dX12_play_8 ⟨Nat.le_of_ble_eq_true rfl, Nat.le_of_ble_eq_true rfl⟩ (fun H locs hW hL => ?_)
  refine lv_aload_n hx hb dX12_play_11 rfl (lv_at hl 0 rfl) ?_
  obtain ⟨v_4, w_5, hq_3, hF⟩ := gC_some hF
  refine g_Vi (As := []) (rest := []) ⟨hx, hb, hml, hown, hts⟩ hK hW hL hl.1 (gok_o (by decide)) gE_O rfl (c_X12_plays l X w_2  v_4 w_5 hq_3) k239 rfl rfl (Nat.le_of_ble_eq_true rfl) dX12_play_12 ⟨Nat.le_of_ble_eq_true rfl, Nat.le_of_ble_eq_true rfl⟩ (fun H locs hW hL => ?_)
  refine lv_istore_n (lv' := [(1, .int v_4), (0, .ref (gA X 8 0))]) hx hb dX12_play_15 rfl hl (by decide) rfl (fun ls hl => ?_)
  refine lv_aload_n hx hb dX12_play_16 rfl (lv_at hl 1 rfl) ?_
  refine rg_X12_held hx hb hts inX12 hown hK hW q16 dX12_play_17 ?_
  refine lv_aload_n hx hb dX12_play_20 rfl (lv_at hl 1 rfl) ?_
  refine rg_X12_s hx hb hts inX12 hown hK hW q7 dX12_play_21 ?_
  obtain ⟨w_7, hq_6, hF⟩ := gP_some hF
  refine g_Sv (As := [.ref (gA X 8 3), .ref (gA X 8 1)]) (rest := []) ⟨hx, hb, hml, hown, hts⟩ hK hW hL hl.1 (c_X12_copies l X w_5 3 hr3 1 hr1 w_7 hq_6) k235 rfl rfl (Nat.le_of_ble_eq_true rfl) dX12_play_24 ⟨Nat.le_of_ble_eq_true rfl, Nat.le_of_ble_eq_true rfl⟩ (fun H locs hW hL => ?_)
  refine lv_iload_n hx hb dX12_play_27 rfl (lv_at hl 0 rfl) ?_
  refine lv_if_ne (tgt := 34) hx hb dX12_play_28 (by decide) (fun hc_8 => ?_) (fun hc_8 => ?_)
  · replace hF := gF hc_8 hF
    refine lv_aload_n hx hb dX12_play_34 rfl (lv_at hl 1 rfl) ?_
    obtain ⟨w_10, hq_9, hF⟩ := gP_some hF
    refine g_Vv (As := []) (rest := []) ⟨hx, hb, hml, hown, hts⟩ hK hW hL hl.1 (gok_o (by decide)) gE_O rfl (c_X12_changes l X w_7  w_10 hq_9) k78 rfl rfl (Nat.le_of_ble_eq_true rfl) dX12_play_35 ⟨Nat.le_of_ble_eq_true rfl, Nat.le_of_ble_eq_true rfl⟩ (fun H locs hW hL => ?_)
    refine lv_aload_n hx hb dX12_play_38 rfl (lv_at hl 1 rfl) ?_
    obtain ⟨v_12, w_13, hq_11, hF⟩ := gC_some hF
    refine g_Vi (As := []) (rest := []) ⟨hx, hb, hml, hown, hts⟩ hK hW hL hl.1 (gok_o (by decide)) gE_O rfl (c_X12_plays l X w_10  v_12 w_13 hq_11) k239 rfl rfl (Nat.le_of_ble_eq_true rfl) dX12_play_39 ⟨Nat.le_of_ble_eq_true rfl, Nat.le_of_ble_eq_true rfl⟩ (fun H locs hW hL => ?_)
    refine lv_if_eq (tgt := 52) hx hb dX12_play_42 (by decide) (fun hc_14 => ?_) (fun hc_14 => ?_)
    · replace hF := gT hc_14 hF
      refine lv_ldc hx hb hown q85 dX12_play_52 ?_
      exact g_ri hx hb hr hlocks (gW2 hF hW) hL (gI2 hF).1 dX12_play_54
    · replace hF := gF hc_14 hF
      refine lv_aload_n hx hb dX12_play_45 rfl (lv_at hl 1 rfl) ?_
      refine rg_X12_orders hx hb hts inX12 hown hK hW q219 dX12_play_46 ?_
      refine lv_goto (tgt := 54) hx hb dX12_play_49 (by decide) ?_
      exact g_ri hx hb hr hlocks (gW2 hF hW) hL (gI2 hF).1 dX12_play_54
  · replace hF := gT hc_8 hF
    refine lv_ldc hx hb hown q76 dX12_play_31 ?_
    exact g_ri hx hb hr hlocks (gW2 hF hW) hL (gI2 hF).1 dX12_play_33
