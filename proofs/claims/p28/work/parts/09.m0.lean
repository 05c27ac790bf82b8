abbrev rmL_cell : Room := { frames := 0, cells := 0, slots := 0, locals := 0 }
abbrev wsL_cell : List Cond := gws yL_cell cL_cell 2 (some .int)
set_option maxHeartbeats 4000000 in
set_option maxRecDepth 100000 in
theorem c_L_cell (l : Launch) (X : gX) (w : gWd) (x1 : Int32) (r : Int32) (hF : F_L_cell X.sL X.sx w x1 = some r) : Met l yL_cell wsL_cell rmL_cell (gPc X [.ref X.sB, .int x1] w) (gQi X r w) 0 0 (gFr X) := by
  refine g_ofW (cc := cL_cell) (maxL := 2) (ret := (some .int)) (by decide) rfl (Nat.le_of_ble_eq_true rfl) (fun p e s m args below meth c ls H hx hb hr hts hown hlocks hml hK hl hW => ?_)
  have hl : lv_has ls 2 [(0, .ref X.sB), (1, .int x1)] := hl
  have hown : s.vm.findClass RL = some m.cls := hown
  have hL : gLo X [] := gLo_nil
  show W p l e rmL_cell s m args below meth c H [] 0 0 _ _
  have q7 := hts _ (List.mem_cons_of_mem _ wq_L_7)
  rw [F_L_cell] at hF
  obtain ⟨locs, hlocs⟩ : ∃ locs : List Loc, locs = [] := ⟨_, rfl⟩
  rw [← hlocs] at hL ⊢
  refine lv_iload_n hx hb dL_cell_0 rfl (lv_at hl 1 rfl) ?_
  refine lv_aload_n hx hb dL_cell_1 rfl (lv_at hl 0 rfl) ?_
  refine g_slen hx hb hK hW dL_cell_2 ?_
  refine lv_icmp_ge (tgt := 12) hx hb dL_cell_3 (by decide) (fun hc_1 => ?_) (fun hc_1 => ?_)
  · replace hF := gT hc_1 hF
    refine lv_ldc hx hb hown q7 dL_cell_12 ?_
    refine lv_iload_n hx hb dL_cell_14 rfl (lv_at hl 1 rfl) ?_
    refine lv_iconst (v := 3) hx hb dL_cell_15 (by decide) ?_
    refine lv_iadd hx hb dL_cell_16 ?_
    refine lv_imul hx hb dL_cell_17 ?_
    exact g_ri hx hb hr hlocks hW hL (Option.some.inj hF) dL_cell_18
  · replace hF := gF hc_1 hF
    refine lv_aload_n hx hb dL_cell_6 rfl (lv_at hl 0 rfl) ?_
    refine lv_iload_n hx hb dL_cell_7 rfl (lv_at hl 1 rfl) ?_
    obtain ⟨hin_2, hF⟩ := gB_some hF
    obtain ⟨k_3, ek_3⟩ : ∃ k, k = Int32.toNatClampNeg x1 := ⟨_, rfl⟩
    rw [← ek_3] at hF
    refine g_sld hx hb hK hW hin_2 ek_3.symm dL_cell_8 ?_
    refine lv_goto (tgt := 18) hx hb dL_cell_9 (by decide) ?_
    exact g_ri hx hb hr hlocks hW hL (Option.some.inj hF) dL_cell_18
abbrev rmL_isAhead : Room := { frames := 0, cells := 0, slots := 0, locals := 0 }
abbrev wsL_isAhead : List Cond := gws yL_isAhead cL_isAhead 5 (some .boolean)
set_option maxHeartbeats 4000000 in
set_option maxRecDepth 100000 in
theorem c_L_isAhead (l : Launch) (X : gX) (w : gWd) (x1 : Int32) (x2 : Int32) (r : Int32) (hF : F_L_isAhead w x1 x2 = some r) : Met l yL_isAhead wsL_isAhead rmL_isAhead (gPc X [.ref (gA X 8 0), .int x1, .int x2] w) (gQi X r w) 0 0 (gFr X) := by
  refine g_ofW (cc := cL_isAhead) (maxL := 5) (ret := (some .boolean)) (by decide) rfl (Nat.le_of_ble_eq_true rfl) (fun p e s m args below meth c ls H hx hb hr hts hown hlocks hml hK hl hW => ?_)
  have hl : lv_has ls 5 [(0, .ref (gA X 8 0)), (1, .int x1), (2, .int x2)] := hl
  have hown : s.vm.findClass RL = some m.cls := hown
  have hL : gLo X [] := gLo_nil
  show W p l e rmL_isAhead s m args below meth c H [] 0 0 _ _
  have B_66 : ∀   (ls : Array Slot) (hl : lv_has ls 5 []) (hF : F_L_isAhead_66 w = some r) (H : Heap) (locs : List Loc) (hW : gWo X 252 (gE X w) H) (hL : gLo X locs), W p l e rmL_isAhead s m args below meth c H locs 0 0 (MQ below (gQi X r w) args s 0 0 (gFr X)) (F0 m 66 ls []) := by
    intro ls hl hF H locs hW hL
    rw [F_L_isAhead_66] at hF
    refine lv_iconst (v := 1) hx hb dL_isAhead_66 (by decide) ?_
    refine lv_goto (tgt := 71) hx hb dL_isAhead_67 (by decide) ?_
    exact g_rz hx hb hr hlocks hW hL (Or.inr rfl) (Option.some.inj hF) dL_isAhead_71
  have B_70 : ∀   (ls : Array Slot) (hl : lv_has ls 5 []) (hF : F_L_isAhead_70 w = some r) (H : Heap) (locs : List Loc) (hW : gWo X 252 (gE X w) H) (hL : gLo X locs), W p l e rmL_isAhead s m args below meth c H locs 0 0 (MQ below (gQi X r w) args s 0 0 (gFr X)) (F0 m 70 ls []) := by
    intro ls hl hF H locs hW hL
    rw [F_L_isAhead_70] at hF
    refine lv_iconst (v := 0) hx hb dL_isAhead_70 (by decide) ?_
    exact g_rz hx hb hr hlocks hW hL (Or.inl rfl) (Option.some.inj hF) dL_isAhead_71
  have B_47 : ∀ (x1 : Int32) (x2 : Int32) (x3 : Int32) (xs0 : Int32)  (ls : Array Slot) (hl : lv_has ls 5 [(1, .int x1), (2, .int x2), (3, .int x3)]) (hF : F_L_isAhead_47 w x1 x2 x3 xs0 = some r) (H : Heap) (locs : List Loc) (hW : gWo X 252 (gE X w) H) (hL : gLo X locs), W p l e rmL_isAhead s m args below meth c H locs 0 0 (MQ below (gQi X r w) args s 0 0 (gFr X)) (F0 m 47 ls [.int xs0]) := by
    intro x1 x2 x3 xs0 ls hl hF H locs hW hL
    rw [F_L_isAhead_47] at hF
    refine lv_istore (lv' := [(4, .int xs0), (1, .int x1), (2, .int x2), (3, .int x3)]) hx hb dL_isAhead_47 hl (by decide) rfl (fun ls hl => ?_)
    refine lv_iload_n hx hb dL_isAhead_49 rfl (lv_at hl 3 rfl) ?_
    refine lv_iload hx hb dL_isAhead_50 (lv_at hl 0 rfl) ?_
    refine lv_icmp_lt (tgt := 66) hx hb dL_isAhead_52 (by decide) (fun hc_6 => ?_) (fun hc_6 => ?_)
    · replace hF := gT hc_6 hF
      exact B_66  ls (lv_sub hl [] rfl) hF H locs hW hL
    · replace hF := gF hc_6 hF
      refine lv_iload_n hx hb dL_isAhead_55 rfl (lv_at hl 3 rfl) ?_
      refine lv_iload hx hb dL_isAhead_56 (lv_at hl 0 rfl) ?_
      refine lv_icmp_ne (tgt := 70) hx hb dL_isAhead_58 (by decide) (fun hc_7 => ?_) (fun hc_7 => ?_)
      · replace hF := gF hc_7 hF
        exact B_70  ls (lv_sub hl [] rfl) hF H locs hW hL
      · replace hF := gT hc_7 hF
        refine lv_iload_n hx hb dL_isAhead_61 rfl (lv_at hl 1 rfl) ?_
        refine lv_iload_n hx hb dL_isAhead_62 rfl (lv_at hl 2 rfl) ?_
        refine lv_icmp_ge (tgt := 70) hx hb dL_isAhead_63 (by decide) (fun hc_8 => ?_) (fun hc_8 => ?_)
        · replace hF := gT hc_8 hF
          exact B_70  ls (lv_sub hl [] rfl) hF H locs hW hL
        · replace hF := gF hc_8 hF
          exact B_66  ls (lv_sub hl [] rfl) hF H locs hW hL
  have B_23 : ∀ (x1 : Int32) (x2 : Int32) (xs0 : Int32)  (ls : Array Slot) (hl : lv_has ls 5 [(0, .ref (gA X 8 0)), (1, .int x1), (2, .int x2)]) (hF : F_L_isAhead_23 w x1 x2 xs0 = some r) (H : Heap) (locs : List Loc) (hW : gWo X 252 (gE X w) H) (hL : gLo X locs), W p l e rmL_isAhead s m args below meth c H locs 0 0 (MQ below (gQi X r w) args s 0 0 (gFr X)) (F0 m 23 ls [.int xs0]) := by
    intro x1 x2 xs0 ls hl hF H locs hW hL
    rw [F_L_isAhead_23] at hF
    refine lv_istore_n (lv' := [(3, .int xs0), (0, .ref (gA X 8 0)), (1, .int x1), (2, .int x2)]) hx hb dL_isAhead_23 rfl hl (by decide) rfl (fun ls hl => ?_)
    refine lv_aload_n hx hb dL_isAhead_24 rfl (lv_at hl 1 rfl) ?_
    refine lv_iconst (v := 3) hx hb dL_isAhead_25 (by decide) ?_
    refine lv_iload_n hx hb dL_isAhead_26 rfl (lv_at hl 3 rfl) ?_
    refine lv_imul hx hb dL_isAhead_27 ?_
    refine lv_iconst (v := 1) hx hb dL_isAhead_28 (by decide) ?_
    refine lv_iadd hx hb dL_isAhead_29 ?_
    obtain ⟨hin_1, hF⟩ := gB_some hF
    obtain ⟨k_2, ek_2⟩ : ∃ k, k = Int32.toNatClampNeg (((3 * x2) + 1)) := ⟨_, rfl⟩
    rw [← ek_2] at hF
    refine g_iald2 (k := k_2) hx hb hK hW (gok_o (by decide)) (gad_lt (gok_o (by decide))) gE_O0 hin_1 ek_2.symm dL_isAhead_30 ?_
    refine lv_if_ne (tgt := 40) hx hb dL_isAhead_31 (by decide) (fun hc_3 => ?_) (fun hc_3 => ?_)
    · replace hF := gF hc_3 hF
      refine lv_aload_n hx hb dL_isAhead_40 rfl (lv_at hl 1 rfl) ?_
      refine lv_iconst (v := 3) hx hb dL_isAhead_41 (by decide) ?_
      refine lv_iload_n hx hb dL_isAhead_42 rfl (lv_at hl 3 rfl) ?_
      refine lv_imul hx hb dL_isAhead_43 ?_
      refine lv_iconst (v := 1) hx hb dL_isAhead_44 (by decide) ?_
      refine lv_iadd hx hb dL_isAhead_45 ?_
      obtain ⟨hin_4, hF⟩ := gB_some hF
      obtain ⟨k_5, ek_5⟩ : ∃ k, k = Int32.toNatClampNeg (((3 * x2) + 1)) := ⟨_, rfl⟩
      rw [← ek_5] at hF
      refine g_iald2 (k := k_5) hx hb hK hW (gok_o (by decide)) (gad_lt (gok_o (by decide))) gE_O0 hin_4 ek_5.symm dL_isAhead_46 ?_
      exact B_47 x1 x2 xs0 ((w 8 0 k_5)) ls (lv_sub hl [2, 3, 0] rfl) hF H locs hW hL
    · replace hF := gT hc_3 hF
      refine lv_sipush (v := 9999) hx hb dL_isAhead_34 (by decide) ?_
      refine lv_goto (tgt := 47) hx hb dL_isAhead_37 (by decide) ?_
      exact B_47 x1 x2 xs0 9999 ls (lv_sub hl [2, 3, 0] rfl) hF H locs hW hL
  rw [F_L_isAhead] at hF
  obtain ⟨locs, hlocs⟩ : ∃ locs : List Loc, locs = [] := ⟨_, rfl⟩
  rw [← hlocs] at hL ⊢
  refine lv_aload_n hx hb dL_isAhead_0 rfl (lv_at hl 0 rfl) ?_
  refine lv_iconst (v := 3) hx hb dL_isAhead_1 (by decide) ?_
  refine lv_iload_n hx hb dL_isAhead_2 rfl (lv_at hl 1 rfl) ?_
  refine lv_imul hx hb dL_isAhead_3 ?_
  refine lv_iconst (v := 1) hx hb dL_isAhead_4 (by decide) ?_
  refine lv_iadd hx hb dL_isAhead_5 ?_
  obtain ⟨hin_9, hF⟩ := gB_some hF
  obtain ⟨k_10, ek_10⟩ : ∃ k, k = Int32.toNatClampNeg (((3 * x1) + 1)) := ⟨_, rfl⟩
  rw [← ek_10] at hF
  refine g_iald2 (k := k_10) hx hb hK hW (gok_o (by decide)) (gad_lt (gok_o (by decide))) gE_O0 hin_9 ek_10.symm dL_isAhead_6 ?_
  refine lv_if_ne (tgt := 16) hx hb dL_isAhead_7 (by decide) (fun hc_11 => ?_) (fun hc_11 => ?_)
  · replace hF := gF hc_11 hF
    refine lv_aload_n hx hb dL_isAhead_16 rfl (lv_at hl 0 rfl) ?_
    refine lv_iconst (v := 3) hx hb dL_isAhead_17 (by decide) ?_
    refine lv_iload_n hx hb dL_isAhead_18 rfl (lv_at hl 1 rfl) ?_
    refine lv_imul hx hb dL_isAhead_19 ?_
    refine lv_iconst (v := 1) hx hb dL_isAhead_20 (by decide) ?_
    refine lv_iadd hx hb dL_isAhead_21 ?_
    obtain ⟨hin_12, hF⟩ := gB_some hF
    obtain ⟨k_13, ek_13⟩ : ∃ k, k = Int32.toNatClampNeg (((3 * x1) + 1)) := ⟨_, rfl⟩
    rw [← ek_13] at hF
    refine g_iald2 (k := k_13) hx hb hK hW (gok_o (by decide)) (gad_lt (gok_o (by decide))) gE_O0 hin_12 ek_13.symm dL_isAhead_22 ?_
    exact B_23 x1 x2 ((w 8 0 k_13)) ls (hl) hF H locs hW hL
  · replace hF := gT hc_11 hF
    refine lv_sipush (v := 9999) hx hb dL_isAhead_10 (by decide) ?_
    refine lv_goto (tgt := 23) hx hb dL_isAhead_13 (by decide) ?_
    exact B_23 x1 x2 9999 ls (hl) hF H locs hW hL
abbrev rmL_rank : Room := { frames := 1, cells := 0, slots := 0, locals := 24 }
abbrev wsL_rank : List Cond := gws yL_rank cL_rank 5 (some .int)
set_option maxHeartbeats 4000000 in
set_option maxRecDepth 100000 in
theorem c_L_rank (l : Launch) (X : gX) (w : gWd) (x2 : Int32) (r : Int32) (hF : F_L_rank w x2 = some r) : Met l yL_rank wsL_rank rmL_rank (gPc X [.ref (gA X 8 0), .ref (gA X 8 5), .int x2] w) (gQi X r w) 0 0 (gFr X) := by
  refine g_ofW (cc := cL_rank) (maxL := 5) (ret := (some .int)) (by decide) rfl (Nat.le_of_ble_eq_true rfl) (fun p e s m args below meth c ls H hx hb hr hts hown hlocks hml hK hl hW => ?_)
  have hl : lv_has ls 5 [(0, .ref (gA X 8 0)), (1, .ref (gA X 8 5)), (2, .int x2)] := hl
  have hown : s.vm.findClass RL = some m.cls := hown
  have hL : gLo X [] := gLo_nil
  show W p l e rmL_rank s m args below meth c H [] 0 0 _ _
  have k9 : CallB rmL_rank s args RL 9 yL_isAhead cL_isAhead 5 (some .boolean) wsL_isAhead rmL_isAhead 0 0 3 ∧ (Cond.static yL_isAhead).before args s = true := va_cwS 3 hts (gGoodS (fun w h => List.mem_cons_of_mem _ h) wk_L_9) rfl rfl rfl (by decide +kernel) ⟨Nat.le_of_ble_eq_true rfl, Nat.le_of_ble_eq_true rfl⟩
  have L_5 : ∀ (fu : Nat) (x2 : Int32) (x3 : Int32) (x4 : Int32)  (ls : Array Slot) (hl : lv_has ls 5 [(0, .ref (gA X 8 0)), (1, .ref (gA X 8 5)), (2, .int x2), (3, .int x3), (4, .int x4)]) (hF : F_L_rank_5 fu w x2 x3 x4 = some r) (H : Heap) (locs : List Loc) (hW : gWo X 252 (gE X w) H) (hL : gLo X locs), W p l e rmL_rank s m args below meth c H locs 0 0 (MQ below (gQi X r w) args s 0 0 (gFr X)) (F0 m 5 ls []) := by
    intro fu
    induction fu with
    | zero => intro x2 x3 x4 ls hl hF H locs hW hL; rw [F_L_rank_5_z] at hF; cases hF
    | succ fu5 ih5 =>
      have B_39 : ∀ (x2 : Int32) (x4 : Int32) (xs0 : Int32)  (ls : Array Slot) (hl : lv_has ls 5 [(0, .ref (gA X 8 0)), (1, .ref (gA X 8 5)), (2, .int x2), (4, .int x4)]) (hF : F_L_rank_39 (F_L_rank_5 fu5) w x2 x4 xs0 = some r) (H : Heap) (locs : List Loc) (hW : gWo X 252 (gE X w) H) (hL : gLo X locs), W p l e rmL_rank s m args below meth c H locs 0 0 (MQ below (gQi X r w) args s 0 0 (gFr X)) (F0 m 39 ls [.int xs0]) := by
        intro x2 x4 xs0 ls hl hF H locs hW hL
        rw [F_L_rank_39] at hF
        refine lv_iconst (v := 0) hx hb dL_rank_39 (by decide) ?_
        refine lv_iadd hx hb dL_rank_40 ?_
        obtain ⟨x3_10, ex3_10, hF⟩ := gS_some hF
        refine g_top ex3_10 ?_
        refine lv_istore_n (lv' := [(3, .int x3_10), (0, .ref (gA X 8 0)), (1, .ref (gA X 8 5)), (2, .int x2), (4, .int x4)]) hx hb dL_rank_41 rfl hl (by decide) rfl (fun ls hl => ?_)
        obtain ⟨x4_11, ex4_11, hF⟩ := gS_some hF
        refine lv_iinc (v := x4_11) (lv' := [(4, .int x4_11), (3, .int x3_10), (0, .ref (gA X 8 0)), (1, .ref (gA X 8 5)), (2, .int x2)]) hx hb dL_rank_42 hl (k := 4) rfl (by rw [ex4_11]; rfl) (by decide) rfl (fun ls hl => ?_)
        refine lv_goto (tgt := 5) hx hb dL_rank_45 (by decide) ?_
        exact ih5 x2 x3_10 x4_11 ls (lv_sub hl [2, 3, 4, 1, 0] rfl) hF H locs hW hL
      intro x2 x3 x4 ls hl hF H locs hW hL
      rw [F_L_rank_5_s] at hF
      refine lv_iload hx hb dL_rank_5 (lv_at hl 4 rfl) ?_
      refine lv_aload_n hx hb dL_rank_7 rfl (lv_at hl 1 rfl) ?_
      refine lv_iconst (v := 1) hx hb dL_rank_8 (by decide) ?_
      refine g_iald2 (k := 1) hx hb hK hW (gok_o (by decide)) (gad_lt (gok_o (by decide))) gE_O5 (gin (by decide)) (by decide) dL_rank_9 ?_
      refine lv_icmp_ge (tgt := 48) hx hb dL_rank_10 (by decide) (fun hc_1 => ?_) (fun hc_1 => ?_)
      · replace hF := gT hc_1 hF
        refine lv_iload_n hx hb dL_rank_48 rfl (lv_at hl 3 rfl) ?_
        exact g_ri hx hb hr hlocks hW hL (Option.some.inj hF) dL_rank_49
      · replace hF := gF hc_1 hF
        refine lv_iload_n hx hb dL_rank_13 rfl (lv_at hl 3 rfl) ?_
        refine lv_aload_n hx hb dL_rank_14 rfl (lv_at hl 0 rfl) ?_
        refine lv_iconst (v := 3) hx hb dL_rank_15 (by decide) ?_
        refine lv_iload hx hb dL_rank_16 (lv_at hl 4 rfl) ?_
        refine lv_imul hx hb dL_rank_18 ?_
        refine lv_iconst (v := 2) hx hb dL_rank_19 (by decide) ?_
        refine lv_iadd hx hb dL_rank_20 ?_
        obtain ⟨hin_2, hF⟩ := gB_some hF
        obtain ⟨k_3, ek_3⟩ : ∃ k, k = Int32.toNatClampNeg (((3 * x4) + 2)) := ⟨_, rfl⟩
        rw [← ek_3] at hF
        refine g_iald2 (k := k_3) hx hb hK hW (gok_o (by decide)) (gad_lt (gok_o (by decide))) gE_O0 hin_2 ek_3.symm dL_rank_21 ?_
        refine lv_if_ne (tgt := 39) hx hb dL_rank_22 (by decide) (fun hc_4 => ?_) (fun hc_4 => ?_)
        · replace hF := gF hc_4 hF
          exact B_39 x2 x4 x3 ls (lv_sub hl [0, 1, 2, 4] rfl) hF H locs hW hL
        · replace hF := gT hc_4 hF
          refine lv_aload_n hx hb dL_rank_25 rfl (lv_at hl 0 rfl) ?_
          refine lv_iload hx hb dL_rank_26 (lv_at hl 4 rfl) ?_
          refine lv_iload_n hx hb dL_rank_28 rfl (lv_at hl 2 rfl) ?_
          obtain ⟨v_6, hq_5, hF⟩ := gP_some hF
          refine g_Si (As := [.ref (gA X 8 0), .int x4, .int x2]) (rest := [.int x3]) ⟨hx, hb, hml, hown, hts⟩ hK hW hL hl.1 (c_L_isAhead l X w x4 x2 v_6 hq_5) k9 rfl rfl (Nat.le_of_ble_eq_true rfl) dL_rank_29 ⟨Nat.le_of_ble_eq_true rfl, Nat.le_of_ble_eq_true rfl⟩ (fun H locs hW hL => ?_)
          refine lv_if_eq (tgt := 39) hx hb dL_rank_32 (by decide) (fun hc_7 => ?_) (fun hc_7 => ?_)
          · replace hF := gT hc_7 hF
            exact B_39 x2 x4 x3 ls (lv_sub hl [0, 1, 2, 4] rfl) hF H locs hW hL
          · replace hF := gF hc_7 hF
            refine lv_iconst (v := 1) hx hb dL_rank_35 (by decide) ?_
            refine lv_goto (tgt := 40) hx hb dL_rank_36 (by decide) ?_
            refine lv_iadd hx hb dL_rank_40 ?_
            obtain ⟨x3_8, ex3_8, hF⟩ := gS_some hF
            refine g_top ex3_8 ?_
            refine lv_istore_n (lv' := [(3, .int x3_8), (0, .ref (gA X 8 0)), (1, .ref (gA X 8 5)), (2, .int x2), (4, .int x4)]) hx hb dL_rank_41 rfl hl (by decide) rfl (fun ls hl => ?_)
            obtain ⟨x4_9, ex4_9, hF⟩ := gS_some hF
            refine lv_iinc (v := x4_9) (lv' := [(4, .int x4_9), (3, .int x3_8), (0, .ref (gA X 8 0)), (1, .ref (gA X 8 5)), (2, .int x2)]) hx hb dL_rank_42 hl (k := 4) rfl (by rw [ex4_9]; rfl) (by decide) rfl (fun ls hl => ?_)
            refine lv_goto (tgt := 5) hx hb dL_rank_45 (by decide) ?_
            exact ih5 x2 x3_8 x4_9 ls (lv_sub hl [2, 3, 4, 1, 0] rfl) hF H locs hW hL
  rw [F_L_rank] at hF
  obtain ⟨locs, hlocs⟩ : ∃ locs : List Loc, locs = [] := ⟨_, rfl⟩
  rw [← hlocs] at hL ⊢
  refine lv_iconst (v := 0) hx hb dL_rank_0 (by decide) ?_
  refine lv_istore_n (lv' := [(3, .int 0), (0, .ref (gA X 8 0)), (1, .ref (gA X 8 5)), (2, .int x2)]) hx hb dL_rank_1 rfl hl (by decide) rfl (fun ls hl => ?_)
  refine lv_iconst (v := 0) hx hb dL_rank_2 (by decide) ?_
  refine lv_istore (lv' := [(4, .int 0), (3, .int 0), (0, .ref (gA X 8 0)), (1, .ref (gA X 8 5)), (2, .int x2)]) hx hb dL_rank_3 hl (by decide) rfl (fun ls hl => ?_)
  exact L_5 gFU x2 0 0 ls (lv_sub hl [2, 3, 4, 1, 0] rfl) hF H locs hW hL
abbrev rmL_timeRank : Room := { frames := 1, cells := 0, slots := 0, locals := 24 }
abbrev wsL_timeRank : List Cond := gws yL_timeRank cL_timeRank 7 (some .int)
set_option maxHeartbeats 4000000 in
set_option maxRecDepth 100000 in
theorem c_L_timeRank (l : Launch) (X : gX) (w : gWd) (x3 : Int32) (r : Int32) (hF : F_L_timeRank w x3 = some r) : Met l yL_timeRank wsL_timeRank rmL_timeRank (gPc X [.ref (gA X 8 0), .ref (gA X 8 1), .ref (gA X 8 5), .int x3] w) (gQi X r w) 0 0 (gFr X) := by
  refine g_ofW (cc := cL_timeRank) (maxL := 7) (ret := (some .int)) (by decide) rfl (Nat.le_of_ble_eq_true rfl) (fun p e s m args below meth c ls H hx hb hr hts hown hlocks hml hK hl hW => ?_)
  have hl : lv_has ls 7 [(0, .ref (gA X 8 0)), (1, .ref (gA X 8 1)), (2, .ref (gA X 8 5)), (3, .int x3)] := hl
  have hown : s.vm.findClass RL = some m.cls := hown
  have hL : gLo X [] := gLo_nil
  show W p l e rmL_timeRank s m args below meth c H [] 0 0 _ _
  have k9 : CallB rmL_timeRank s args RL 9 yL_isAhead cL_isAhead 5 (some .boolean) wsL_isAhead rmL_isAhead 0 0 3 ∧ (Cond.static yL_isAhead).before args s = true := va_cwS 3 hts (gGoodS (fun w h => List.mem_cons_of_mem _ h) wk_L_9) rfl rfl rfl (by decide +kernel) ⟨Nat.le_of_ble_eq_true rfl, Nat.le_of_ble_eq_true rfl⟩
  have L_6 : ∀ (fu : Nat) (x3 : Int32) (x4 : Int32) (x5 : Int32)  (ls : Array Slot) (hl : lv_has ls 7 [(0, .ref (gA X 8 0)), (1, .ref (gA X 8 1)), (2, .ref (gA X 8 5)), (3, .int x3), (4, .int x4), (5, .int x5)]) (hF : F_L_timeRank_6 fu w x3 x4 x5 = some r) (H : Heap) (locs : List Loc) (hW : gWo X 252 (gE X w) H) (hL : gLo X locs), W p l e rmL_timeRank s m args below meth c H locs 0 0 (MQ below (gQi X r w) args s 0 0 (gFr X)) (F0 m 6 ls []) := by
    intro fu
    induction fu with
    | zero => intro x3 x4 x5 ls hl hF H locs hW hL; rw [F_L_timeRank_6_z] at hF; cases hF
    | succ fu6 ih6 =>
      have B_90 : ∀ (x3 : Int32) (x5 : Int32) (xs0 : Int32)  (ls : Array Slot) (hl : lv_has ls 7 [(0, .ref (gA X 8 0)), (1, .ref (gA X 8 1)), (2, .ref (gA X 8 5)), (3, .int x3), (5, .int x5)]) (hF : F_L_timeRank_90 (F_L_timeRank_6 fu6) w x3 x5 xs0 = some r) (H : Heap) (locs : List Loc) (hW : gWo X 252 (gE X w) H) (hL : gLo X locs), W p l e rmL_timeRank s m args below meth c H locs 0 0 (MQ below (gQi X r w) args s 0 0 (gFr X)) (F0 m 90 ls [.int xs0]) := by
        intro x3 x5 xs0 ls hl hF H locs hW hL
        rw [F_L_timeRank_90] at hF
        refine lv_iconst (v := 0) hx hb dL_timeRank_90 (by decide) ?_
        refine lv_iadd hx hb dL_timeRank_91 ?_
        obtain ⟨x4_21, ex4_21, hF⟩ := gS_some hF
        refine g_top ex4_21 ?_
        refine lv_istore (lv' := [(4, .int x4_21), (0, .ref (gA X 8 0)), (1, .ref (gA X 8 1)), (2, .ref (gA X 8 5)), (3, .int x3), (5, .int x5)]) hx hb dL_timeRank_92 hl (by decide) rfl (fun ls hl => ?_)
        obtain ⟨x5_22, ex5_22, hF⟩ := gS_some hF
        refine lv_iinc (v := x5_22) (lv' := [(5, .int x5_22), (4, .int x4_21), (0, .ref (gA X 8 0)), (1, .ref (gA X 8 1)), (2, .ref (gA X 8 5)), (3, .int x3)]) hx hb dL_timeRank_94 hl (k := 5) rfl (by rw [ex5_22]; rfl) (by decide) rfl (fun ls hl => ?_)
        refine lv_goto (tgt := 6) hx hb dL_timeRank_97 (by decide) ?_
        exact ih6 x3 x4_21 x5_22 ls (lv_sub hl [2, 3, 4, 5, 1, 0] rfl) hF H locs hW hL
      have B_65 : ∀ (x3 : Int32) (x4 : Int32) (x5 : Int32) (xs0 : Int32)  (ls : Array Slot) (hl : lv_has ls 7 [(0, .ref (gA X 8 0)), (1, .ref (gA X 8 1)), (2, .ref (gA X 8 5)), (3, .int x3), (4, .int x4), (5, .int x5)]) (hF : F_L_timeRank_65 (F_L_timeRank_6 fu6) w x3 x4 x5 xs0 = some r) (H : Heap) (locs : List Loc) (hW : gWo X 252 (gE X w) H) (hL : gLo X locs), W p l e rmL_timeRank s m args below meth c H locs 0 0 (MQ below (gQi X r w) args s 0 0 (gFr X)) (F0 m 65 ls [.int xs0]) := by
        intro x3 x4 x5 xs0 ls hl hF H locs hW hL
        rw [F_L_timeRank_65] at hF
        refine lv_istore (lv' := [(6, .int xs0), (0, .ref (gA X 8 0)), (1, .ref (gA X 8 1)), (2, .ref (gA X 8 5)), (3, .int x3), (4, .int x4), (5, .int x5)]) hx hb dL_timeRank_65 hl (by decide) rfl (fun ls hl => ?_)
        refine lv_iload hx hb dL_timeRank_67 (lv_at hl 5 rfl) ?_
        refine lv_aload_n hx hb dL_timeRank_69 rfl (lv_at hl 2 rfl) ?_
        refine lv_iconst (v := 3) hx hb dL_timeRank_70 (by decide) ?_
        refine lv_iload hx hb dL_timeRank_71 (lv_at hl 6 rfl) ?_
        refine lv_imul hx hb dL_timeRank_73 ?_
        refine lv_iconst (v := 2) hx hb dL_timeRank_74 (by decide) ?_
        refine lv_iadd hx hb dL_timeRank_75 ?_
        obtain ⟨hin_15, hF⟩ := gB_some hF
        obtain ⟨k_16, ek_16⟩ : ∃ k, k = Int32.toNatClampNeg (((3 * x5) + 2)) := ⟨_, rfl⟩
        rw [← ek_16] at hF
        refine g_iald2 (k := k_16) hx hb hK hW (gok_o (by decide)) (gad_lt (gok_o (by decide))) gE_O1 hin_15 ek_16.symm dL_timeRank_76 ?_
        refine lv_iconst (v := 1) hx hb dL_timeRank_77 (by decide) ?_
        refine lv_icmp_le (tgt := 90) hx hb dL_timeRank_78 (by decide) (fun hc_17 => ?_) (fun hc_17 => ?_)
        · replace hF := gT hc_17 hF
          exact B_90 x3 x5 x4 ls (lv_sub hl [1, 2, 3, 4, 6] rfl) hF H locs hW hL
        · replace hF := gF hc_17 hF
          refine lv_iload hx hb dL_timeRank_81 (lv_at hl 0 rfl) ?_
          refine lv_if_eq (tgt := 90) hx hb dL_timeRank_83 (by decide) (fun hc_18 => ?_) (fun hc_18 => ?_)
          · replace hF := gT hc_18 hF
            exact B_90 x3 x5 x4 ls (lv_sub hl [1, 2, 3, 4, 6] rfl) hF H locs hW hL
          · replace hF := gF hc_18 hF
            refine lv_iconst (v := 1) hx hb dL_timeRank_86 (by decide) ?_
            refine lv_goto (tgt := 91) hx hb dL_timeRank_87 (by decide) ?_
            refine lv_iadd hx hb dL_timeRank_91 ?_
            obtain ⟨x4_19, ex4_19, hF⟩ := gS_some hF
            refine g_top ex4_19 ?_
            refine lv_istore (lv' := [(4, .int x4_19), (6, .int xs0), (0, .ref (gA X 8 0)), (1, .ref (gA X 8 1)), (2, .ref (gA X 8 5)), (3, .int x3), (5, .int x5)]) hx hb dL_timeRank_92 hl (by decide) rfl (fun ls hl => ?_)
            obtain ⟨x5_20, ex5_20, hF⟩ := gS_some hF
            refine lv_iinc (v := x5_20) (lv' := [(5, .int x5_20), (4, .int x4_19), (6, .int xs0), (0, .ref (gA X 8 0)), (1, .ref (gA X 8 1)), (2, .ref (gA X 8 5)), (3, .int x3)]) hx hb dL_timeRank_94 hl (k := 6) rfl (by rw [ex5_20]; rfl) (by decide) rfl (fun ls hl => ?_)
            refine lv_goto (tgt := 6) hx hb dL_timeRank_97 (by decide) ?_
            exact ih6 x3 x4_19 x5_20 ls (lv_sub hl [3, 4, 5, 6, 1, 0] rfl) hF H locs hW hL
      have B_60 : ∀ (x3 : Int32) (x4 : Int32) (x5 : Int32)  (ls : Array Slot) (hl : lv_has ls 7 [(0, .ref (gA X 8 0)), (1, .ref (gA X 8 1)), (2, .ref (gA X 8 5)), (3, .int x3), (4, .int x4), (5, .int x5)]) (hF : F_L_timeRank_60 (F_L_timeRank_6 fu6) w x3 x4 x5 = some r) (H : Heap) (locs : List Loc) (hW : gWo X 252 (gE X w) H) (hL : gLo X locs), W p l e rmL_timeRank s m args below meth c H locs 0 0 (MQ below (gQi X r w) args s 0 0 (gFr X)) (F0 m 60 ls []) := by
        intro x3 x4 x5 ls hl hF H locs hW hL
        rw [F_L_timeRank_60] at hF
        refine lv_iconst (v := 1) hx hb dL_timeRank_60 (by decide) ?_
        refine lv_goto (tgt := 65) hx hb dL_timeRank_61 (by decide) ?_
        exact B_65 x3 x4 x5 1 ls (hl) hF H locs hW hL
      have B_64 : ∀ (x3 : Int32) (x4 : Int32) (x5 : Int32)  (ls : Array Slot) (hl : lv_has ls 7 [(0, .ref (gA X 8 0)), (1, .ref (gA X 8 1)), (2, .ref (gA X 8 5)), (3, .int x3), (4, .int x4), (5, .int x5)]) (hF : F_L_timeRank_64 (F_L_timeRank_6 fu6) w x3 x4 x5 = some r) (H : Heap) (locs : List Loc) (hW : gWo X 252 (gE X w) H) (hL : gLo X locs), W p l e rmL_timeRank s m args below meth c H locs 0 0 (MQ below (gQi X r w) args s 0 0 (gFr X)) (F0 m 64 ls []) := by
        intro x3 x4 x5 ls hl hF H locs hW hL
        rw [F_L_timeRank_64] at hF
        refine lv_iconst (v := 0) hx hb dL_timeRank_64 (by decide) ?_
        exact B_65 x3 x4 x5 0 ls (hl) hF H locs hW hL
      intro x3 x4 x5 ls hl hF H locs hW hL
      rw [F_L_timeRank_6_s] at hF
      refine lv_iload hx hb dL_timeRank_6 (lv_at hl 5 rfl) ?_
      refine lv_aload_n hx hb dL_timeRank_8 rfl (lv_at hl 2 rfl) ?_
      refine lv_iconst (v := 1) hx hb dL_timeRank_9 (by decide) ?_
      refine g_iald2 (k := 1) hx hb hK hW (gok_o (by decide)) (gad_lt (gok_o (by decide))) gE_O5 (gin (by decide)) (by decide) dL_timeRank_10 ?_
      refine lv_icmp_ge (tgt := 100) hx hb dL_timeRank_11 (by decide) (fun hc_1 => ?_) (fun hc_1 => ?_)
      · replace hF := gT hc_1 hF
        refine lv_iload hx hb dL_timeRank_100 (lv_at hl 4 rfl) ?_
        exact g_ri hx hb hr hlocks hW hL (Option.some.inj hF) dL_timeRank_102
      · replace hF := gF hc_1 hF
        refine lv_aload_n hx hb dL_timeRank_14 rfl (lv_at hl 1 rfl) ?_
        refine lv_iconst (v := 3) hx hb dL_timeRank_15 (by decide) ?_
        refine lv_iload hx hb dL_timeRank_16 (lv_at hl 5 rfl) ?_
        refine lv_imul hx hb dL_timeRank_18 ?_
        refine lv_iconst (v := 2) hx hb dL_timeRank_19 (by decide) ?_
        refine lv_iadd hx hb dL_timeRank_20 ?_
        obtain ⟨hin_2, hF⟩ := gB_some hF
        obtain ⟨k_3, ek_3⟩ : ∃ k, k = Int32.toNatClampNeg (((3 * x5) + 2)) := ⟨_, rfl⟩
        rw [← ek_3] at hF
        refine g_iald2 (k := k_3) hx hb hK hW (gok_o (by decide)) (gad_lt (gok_o (by decide))) gE_O1 hin_2 ek_3.symm dL_timeRank_21 ?_
        refine lv_aload_n hx hb dL_timeRank_22 rfl (lv_at hl 1 rfl) ?_
        refine lv_iconst (v := 3) hx hb dL_timeRank_23 (by decide) ?_
        refine lv_iload_n hx hb dL_timeRank_24 rfl (lv_at hl 3 rfl) ?_
        refine lv_imul hx hb dL_timeRank_25 ?_
        refine lv_iconst (v := 2) hx hb dL_timeRank_26 (by decide) ?_
        refine lv_iadd hx hb dL_timeRank_27 ?_
        obtain ⟨hin_4, hF⟩ := gB_some hF
        obtain ⟨k_5, ek_5⟩ : ∃ k, k = Int32.toNatClampNeg (((3 * x3) + 2)) := ⟨_, rfl⟩
        rw [← ek_5] at hF
        refine g_iald2 (k := k_5) hx hb hK hW (gok_o (by decide)) (gad_lt (gok_o (by decide))) gE_O1 hin_4 ek_5.symm dL_timeRank_28 ?_
        refine lv_icmp_lt (tgt := 60) hx hb dL_timeRank_29 (by decide) (fun hc_6 => ?_) (fun hc_6 => ?_)
        · replace hF := gT hc_6 hF
          exact B_60 x3 x4 x5 ls (hl) hF H locs hW hL
        · replace hF := gF hc_6 hF
          refine lv_aload_n hx hb dL_timeRank_32 rfl (lv_at hl 1 rfl) ?_
          refine lv_iconst (v := 3) hx hb dL_timeRank_33 (by decide) ?_
          refine lv_iload hx hb dL_timeRank_34 (lv_at hl 5 rfl) ?_
          refine lv_imul hx hb dL_timeRank_36 ?_
          refine lv_iconst (v := 2) hx hb dL_timeRank_37 (by decide) ?_
          refine lv_iadd hx hb dL_timeRank_38 ?_
          obtain ⟨hin_7, hF⟩ := gB_some hF
          obtain ⟨k_8, ek_8⟩ : ∃ k, k = Int32.toNatClampNeg (((3 * x5) + 2)) := ⟨_, rfl⟩
          rw [← ek_8] at hF
          refine g_iald2 (k := k_8) hx hb hK hW (gok_o (by decide)) (gad_lt (gok_o (by decide))) gE_O1 hin_7 ek_8.symm dL_timeRank_39 ?_
          refine lv_aload_n hx hb dL_timeRank_40 rfl (lv_at hl 1 rfl) ?_
          refine lv_iconst (v := 3) hx hb dL_timeRank_41 (by decide) ?_
          refine lv_iload_n hx hb dL_timeRank_42 rfl (lv_at hl 3 rfl) ?_
          refine lv_imul hx hb dL_timeRank_43 ?_
          refine lv_iconst (v := 2) hx hb dL_timeRank_44 (by decide) ?_
          refine lv_iadd hx hb dL_timeRank_45 ?_
          obtain ⟨hin_9, hF⟩ := gB_some hF
          obtain ⟨k_10, ek_10⟩ : ∃ k, k = Int32.toNatClampNeg (((3 * x3) + 2)) := ⟨_, rfl⟩
          rw [← ek_10] at hF
          refine g_iald2 (k := k_10) hx hb hK hW (gok_o (by decide)) (gad_lt (gok_o (by decide))) gE_O1 hin_9 ek_10.symm dL_timeRank_46 ?_
          refine lv_icmp_ne (tgt := 64) hx hb dL_timeRank_47 (by decide) (fun hc_11 => ?_) (fun hc_11 => ?_)
          · replace hF := gF hc_11 hF
            exact B_64 x3 x4 x5 ls (hl) hF H locs hW hL
          · replace hF := gT hc_11 hF
            refine lv_aload_n hx hb dL_timeRank_50 rfl (lv_at hl 0 rfl) ?_
            refine lv_iload hx hb dL_timeRank_51 (lv_at hl 5 rfl) ?_
            refine lv_iload_n hx hb dL_timeRank_53 rfl (lv_at hl 3 rfl) ?_
            obtain ⟨v_13, hq_12, hF⟩ := gP_some hF
            refine g_Si (As := [.ref (gA X 8 0), .int x5, .int x3]) (rest := []) ⟨hx, hb, hml, hown, hts⟩ hK hW hL hl.1 (c_L_isAhead l X w x5 x3 v_13 hq_12) k9 rfl rfl (Nat.le_of_ble_eq_true rfl) dL_timeRank_54 ⟨Nat.le_of_ble_eq_true rfl, Nat.le_of_ble_eq_true rfl⟩ (fun H locs hW hL => ?_)
            refine lv_if_eq (tgt := 64) hx hb dL_timeRank_57 (by decide) (fun hc_14 => ?_) (fun hc_14 => ?_)
            · replace hF := gT hc_14 hF
              exact B_64 x3 x4 x5 ls (hl) hF H locs hW hL
            · replace hF := gF hc_14 hF
              exact B_60 x3 x4 x5 ls (hl) hF H locs hW hL
  rw [F_L_timeRank] at hF
  obtain ⟨locs, hlocs⟩ : ∃ locs : List Loc, locs = [] := ⟨_, rfl⟩
  rw [← hlocs] at hL ⊢
  refine lv_iconst (v := 0) hx hb dL_timeRank_0 (by decide) ?_
  refine lv_istore (lv' := [(4, .int 0), (0, .ref (gA X 8 0)), (1, .ref (gA X 8 1)), (2, .ref (gA X 8 5)), (3, .int x3)]) hx hb dL_timeRank_1 hl (by decide) rfl (fun ls hl => ?_)
  refine lv_iconst (v := 0) hx hb dL_timeRank_3 (by decide) ?_
  refine lv_istore (lv' := [(5, .int 0), (4, .int 0), (0, .ref (gA X 8 0)), (1, .ref (gA X 8 1)), (2, .ref (gA X 8 5)), (3, .int x3)]) hx hb dL_timeRank_4 hl (by decide) rfl (fun ls hl => ?_)
  exact L_6 gFU x3 0 0 ls (lv_sub hl [2, 3, 4, 5, 1, 0] rfl) hF H locs hW hL
abbrev rmL_lane : Room := { frames := 0, cells := 0, slots := 0, locals := 0 }
abbrev wsL_lane : List Cond := gws yL_lane cL_lane 4 (some .int)
set_option maxHeartbeats 4000000 in
set_option maxRecDepth 100000 in
theorem c_L_lane (l : Launch) (X : gX) (w : gWd) (x0 : Int32) (x1 : Int32) (r : Int32) (hF : F_L_lane w x0 x1 = some r) : Met l yL_lane wsL_lane rmL_lane (gPc X [.int x0, .int x1] w) (gQi X r w) 0 0 (gFr X) := by
  refine g_ofW (cc := cL_lane) (maxL := 4) (ret := (some .int)) (by decide) rfl (Nat.le_of_ble_eq_true rfl) (fun p e s m args below meth c ls H hx hb hr hts hown hlocks hml hK hl hW => ?_)
  have hl : lv_has ls 4 [(0, .int x0), (1, .int x1)] := hl
  have hown : s.vm.findClass RL = some m.cls := hown
  have hL : gLo X [] := gLo_nil
  show W p l e rmL_lane s m args below meth c H [] 0 0 _ _
  have L_8 : ∀ (fu : Nat) (x1 : Int32) (x2 : Int32) (x3 : Int32)  (ls : Array Slot) (hl : lv_has ls 4 [(1, .int x1), (2, .int x2), (3, .int x3)]) (hF : F_L_lane_8 fu w x1 x2 x3 = some r) (H : Heap) (locs : List Loc) (hW : gWo X 252 (gE X w) H) (hL : gLo X locs), W p l e rmL_lane s m args below meth c H locs 0 0 (MQ below (gQi X r w) args s 0 0 (gFr X)) (F0 m 8 ls []) := by
    intro fu
    induction fu with
    | zero => intro x1 x2 x3 ls hl hF H locs hW hL; rw [F_L_lane_8_z] at hF; cases hF
    | succ fu8 ih8 =>
      intro x1 x2 x3 ls hl hF H locs hW hL
      rw [F_L_lane_8_s] at hF
      refine lv_iload_n hx hb dL_lane_8 rfl (lv_at hl 2 rfl) ?_
      refine lv_iload_n hx hb dL_lane_9 rfl (lv_at hl 0 rfl) ?_
      refine lv_icmp_gt (tgt := 35) hx hb dL_lane_10 (by decide) (fun hc_1 => ?_) (fun hc_1 => ?_)
      · replace hF := gT hc_1 hF
        refine lv_iload_n hx hb dL_lane_35 rfl (lv_at hl 1 rfl) ?_
        exact g_ri hx hb hr hlocks hW hL (Option.some.inj hF) dL_lane_36
      · replace hF := gF hc_1 hF
        refine lv_iload_n hx hb dL_lane_13 rfl (lv_at hl 1 rfl) ?_
        refine lv_iload_n hx hb dL_lane_14 rfl (lv_at hl 2 rfl) ?_
        refine lv_iconst (v := 2) hx hb dL_lane_15 (by decide) ?_
        refine lv_irem hx hb dL_lane_16 (by decide) ?_
        refine lv_iconst (v := 1) hx hb dL_lane_17 (by decide) ?_
        refine lv_icmp_ne (tgt := 25) hx hb dL_lane_18 (by decide) (fun hc_2 => ?_) (fun hc_2 => ?_)
        · replace hF := gF hc_2 hF
          refine lv_iload_n hx hb dL_lane_25 rfl (lv_at hl 2 rfl) ?_
          refine lv_ineg hx hb dL_lane_26 ?_
          refine lv_iadd hx hb dL_lane_27 ?_
          obtain ⟨x2_3, ex2_3, hF⟩ := gS_some hF
          refine g_top ex2_3 ?_
          refine lv_istore_n (lv' := [(2, .int x2_3), (1, .int x1), (3, .int x3)]) hx hb dL_lane_28 rfl hl (by decide) rfl (fun ls hl => ?_)
          obtain ⟨x3_4, ex3_4, hF⟩ := gS_some hF
          refine lv_iinc (v := x3_4) (lv' := [(3, .int x3_4), (2, .int x2_3), (1, .int x1)]) hx hb dL_lane_29 hl (k := 2) rfl (by rw [ex3_4]; rfl) (by decide) rfl (fun ls hl => ?_)
          refine lv_goto (tgt := 8) hx hb dL_lane_32 (by decide) ?_
          exact ih8 x1 x2_3 x3_4 ls (lv_sub hl [2, 1, 0] rfl) hF H locs hW hL
        · replace hF := gT hc_2 hF
          refine lv_iload_n hx hb dL_lane_21 rfl (lv_at hl 2 rfl) ?_
          refine lv_goto (tgt := 27) hx hb dL_lane_22 (by decide) ?_
          refine lv_iadd hx hb dL_lane_27 ?_
          obtain ⟨x2_5, ex2_5, hF⟩ := gS_some hF
          refine g_top ex2_5 ?_
          refine lv_istore_n (lv' := [(2, .int x2_5), (1, .int x1), (3, .int x3)]) hx hb dL_lane_28 rfl hl (by decide) rfl (fun ls hl => ?_)
          obtain ⟨x3_6, ex3_6, hF⟩ := gS_some hF
          refine lv_iinc (v := x3_6) (lv' := [(3, .int x3_6), (2, .int x2_5), (1, .int x1)]) hx hb dL_lane_29 hl (k := 2) rfl (by rw [ex3_6]; rfl) (by decide) rfl (fun ls hl => ?_)
          refine lv_goto (tgt := 8) hx hb dL_lane_32 (by decide) ?_
          exact ih8 x1 x2_5 x3_6 ls (lv_sub hl [2, 1, 0] rfl) hF H locs hW hL
  rw [F_L_lane] at hF
  obtain ⟨locs, hlocs⟩ : ∃ locs : List Loc, locs = [] := ⟨_, rfl⟩
  rw [← hlocs] at hL ⊢
  refine lv_iload_n hx hb dL_lane_0 rfl (lv_at hl 0 rfl) ?_
  refine lv_iconst (v := 1) hx hb dL_lane_1 (by decide) ?_
  refine lv_iadd hx hb dL_lane_2 ?_
  refine lv_iconst (v := 2) hx hb dL_lane_3 (by decide) ?_
  refine lv_idiv hx hb dL_lane_4 (by decide) ?_
  obtain ⟨x2_7, ex2_7, hF⟩ := gS_some hF
  refine g_top ex2_7 ?_
  refine lv_istore_n (lv' := [(2, .int x2_7), (0, .int x0), (1, .int x1)]) hx hb dL_lane_5 rfl hl (by decide) rfl (fun ls hl => ?_)
  refine lv_iconst (v := 1) hx hb dL_lane_6 (by decide) ?_
  refine lv_istore_n (lv' := [(3, .int 1), (2, .int x2_7), (0, .int x0), (1, .int x1)]) hx hb dL_lane_7 rfl hl (by decide) rfl (fun ls hl => ?_)
  exact L_8 gFU x1 x2_7 1 ls (lv_sub hl [3, 1, 0] rfl) hF H locs hW hL
abbrev rmL_plan : Room := { frames := 2, cells := 0, slots := 0, locals := 48 }
abbrev wsL_plan : List Cond := gws yL_plan cL_plan 9 (some .int)
set_option maxHeartbeats 4000000 in
set_option maxRecDepth 100000 in
theorem c_L_plan (l : Launch) (X : gX) (w : gWd)  (r : Int32) (w' : gWd) (hF : F_L_plan w = some (r, w')) : Met l yL_plan wsL_plan rmL_plan (gPc X [.ref (gA X 8 0), .ref (gA X 8 5), .ref (gA X 8 7)] w) (gQi X r w') 0 0 (gFr X) := by
  refine g_ofW (cc := cL_plan) (maxL := 9) (ret := (some .int)) (by decide) rfl (Nat.le_of_ble_eq_true rfl) (fun p e s m args below meth c ls H hx hb hr hts hown hlocks hml hK hl hW => ?_)
  have hl : lv_has ls 9 [(0, .ref (gA X 8 0)), (1, .ref (gA X 8 5)), (2, .ref (gA X 8 7))] := hl
  have hown : s.vm.findClass RL = some m.cls := hown
  have hL : gLo X [] := gLo_nil
  show W p l e rmL_plan s m args below meth c H [] 0 0 _ _
  have k15 : CallB rmL_plan s args RL 15 yL_rank cL_rank 5 (some .int) wsL_rank rmL_rank 0 0 3 ∧ (Cond.static yL_rank).before args s = true := va_cwS 3 hts (gGoodS (fun w h => List.mem_cons_of_mem _ h) wk_L_15) rfl rfl rfl (by decide +kernel) ⟨Nat.le_of_ble_eq_true rfl, Nat.le_of_ble_eq_true rfl⟩
  have L_174 : ∀ (fu : Nat) (w : gWd) (x5 : Int32) (x6 : Int32) (x7 : Int32)  (ls : Array Slot) (hl : lv_has ls 9 [(1, .ref (gA X 8 5)), (2, .ref (gA X 8 7)), (5, .int x5), (6, .int x6), (7, .int x7)]) (hF : F_L_plan_174 fu w x5 x6 x7 = some (r, w')) (H : Heap) (locs : List Loc) (hW : gWo X 252 (gE X w) H) (hL : gLo X locs), W p l e rmL_plan s m args below meth c H locs 0 0 (MQ below (gQi X r w') args s 0 0 (gFr X)) (F0 m 174 ls []) := by
    intro fu
    induction fu with
    | zero => intro w x5 x6 x7 ls hl hF H locs hW hL; rw [F_L_plan_174_z] at hF; cases hF
    | succ fu174 ih174 =>
      have B_243 : ∀ (w : gWd) (x5 : Int32) (x6 : Int32) (x7 : Int32) (xs0 : Int32) (xs1 : Int32)  (ls : Array Slot) (hl : lv_has ls 9 [(1, .ref (gA X 8 5)), (2, .ref (gA X 8 7)), (5, .int x5), (6, .int x6), (7, .int x7)]) (hF : F_L_plan_243 (F_L_plan_174 fu174) w x5 x6 x7 xs0 xs1 = some (r, w')) (H : Heap) (locs : List Loc) (hW : gWo X 252 (gE X w) H) (hL : gLo X locs), W p l e rmL_plan s m args below meth c H locs 0 0 (MQ below (gQi X r w') args s 0 0 (gFr X)) (F0 m 243 ls [.int xs0, .int xs1, .ref (gA X 8 7)]) := by
        intro w x5 x6 x7 xs0 xs1 ls hl hF H locs hW hL
        rw [F_L_plan_243] at hF
        obtain ⟨hin_44, hF⟩ := gB_some hF
        obtain ⟨k_45, ek_45⟩ : ∃ k, k = Int32.toNatClampNeg xs1 := ⟨_, rfl⟩
        rw [← ek_45] at hF
        obtain ⟨w_46, ew_46, hF⟩ := gS_some hF
        refine g_iast2 (k := k_45) hx hb hK hW hL (gok_o (by decide)) (fun w => gE_O7 (w := w)) hin_44 ek_45.symm dL_plan_243 (fun H locs hW hL => ?_)
        rw [← ew_46] at hW
        obtain ⟨x7_47, ex7_47, hF⟩ := gS_some hF
        refine lv_iinc (v := x7_47) (lv' := [(7, .int x7_47), (1, .ref (gA X 8 5)), (2, .ref (gA X 8 7)), (5, .int x5), (6, .int x6)]) hx hb dL_plan_244 hl (k := 4) rfl (by rw [ex7_47]; rfl) (by decide) rfl (fun ls hl => ?_)
        refine lv_goto (tgt := 174) hx hb dL_plan_247 (by decide) ?_
        exact ih174 w_46 x5 x6 x7_47 ls (lv_sub hl [1, 2, 3, 4, 0] rfl) hF H locs hW hL
      have B_212 : ∀ (w : gWd) (x5 : Int32) (x7 : Int32) (xs0 : Int32) (xs1 : Int32)  (ls : Array Slot) (hl : lv_has ls 9 [(1, .ref (gA X 8 5)), (2, .ref (gA X 8 7)), (5, .int x5), (7, .int x7)]) (hF : F_L_plan_212 (F_L_plan_174 fu174) w x5 x7 xs0 xs1 = some (r, w')) (H : Heap) (locs : List Loc) (hW : gWo X 252 (gE X w) H) (hL : gLo X locs), W p l e rmL_plan s m args below meth c H locs 0 0 (MQ below (gQi X r w') args s 0 0 (gFr X)) (F0 m 212 ls [.int xs0, .int xs1]) := by
        intro w x5 x7 xs0 xs1 ls hl hF H locs hW hL
        rw [F_L_plan_212] at hF
        refine lv_iadd hx hb dL_plan_212 ?_
        obtain ⟨x6_38, ex6_38, hF⟩ := gS_some hF
        refine g_top ex6_38 ?_
        refine lv_istore (lv' := [(6, .int x6_38), (1, .ref (gA X 8 5)), (2, .ref (gA X 8 7)), (5, .int x5), (7, .int x7)]) hx hb dL_plan_213 hl (by decide) rfl (fun ls hl => ?_)
        refine lv_aload_n hx hb dL_plan_215 rfl (lv_at hl 2 rfl) ?_
        refine lv_bipush (v := 20) hx hb dL_plan_216 (by decide) ?_
        refine lv_iload hx hb dL_plan_218 (lv_at hl 4 rfl) ?_
        refine lv_iadd hx hb dL_plan_220 ?_
        refine lv_aload_n hx hb dL_plan_221 rfl (lv_at hl 2 rfl) ?_
        refine lv_bipush (v := 20) hx hb dL_plan_222 (by decide) ?_
        refine lv_iload hx hb dL_plan_224 (lv_at hl 4 rfl) ?_
        refine lv_iadd hx hb dL_plan_226 ?_
        obtain ⟨hin_39, hF⟩ := gB_some hF
        obtain ⟨k_40, ek_40⟩ : ∃ k, k = Int32.toNatClampNeg ((20 + x7)) := ⟨_, rfl⟩
        rw [← ek_40] at hF
        refine g_iald2 (k := k_40) hx hb hK hW (gok_o (by decide)) (gad_lt (gok_o (by decide))) gE_O7 hin_39 ek_40.symm dL_plan_227 ?_
        refine lv_iconst (v := 1) hx hb dL_plan_228 (by decide) ?_
        refine lv_icmp_ne (tgt := 236) hx hb dL_plan_229 (by decide) (fun hc_41 => ?_) (fun hc_41 => ?_)
        · replace hF := gF hc_41 hF
          refine lv_aload_n hx hb dL_plan_236 rfl (lv_at hl 2 rfl) ?_
          refine lv_bipush (v := 20) hx hb dL_plan_237 (by decide) ?_
          refine lv_iload hx hb dL_plan_239 (lv_at hl 4 rfl) ?_
          refine lv_iadd hx hb dL_plan_241 ?_
          obtain ⟨hin_42, hF⟩ := gB_some hF
          obtain ⟨k_43, ek_43⟩ : ∃ k, k = Int32.toNatClampNeg ((20 + x7)) := ⟨_, rfl⟩
          rw [← ek_43] at hF
          refine g_iald2 (k := k_43) hx hb hK hW (gok_o (by decide)) (gad_lt (gok_o (by decide))) gE_O7 hin_42 ek_43.symm dL_plan_242 ?_
          exact B_243 w x5 x6_38 x7 ((w 8 7 k_43)) ((20 + x7)) ls (lv_sub hl [1, 2, 3, 0, 4] rfl) hF H locs hW hL
        · replace hF := gT hc_41 hF
          refine lv_iconst (v := 0) hx hb dL_plan_232 (by decide) ?_
          refine lv_goto (tgt := 243) hx hb dL_plan_233 (by decide) ?_
          exact B_243 w x5 x6_38 x7 0 ((20 + x7)) ls (lv_sub hl [1, 2, 3, 0, 4] rfl) hF H locs hW hL
      intro w x5 x6 x7 ls hl hF H locs hW hL
      rw [F_L_plan_174_s] at hF
      refine lv_iload hx hb dL_plan_174 (lv_at hl 4 rfl) ?_
      refine lv_if_le (tgt := 250) hx hb dL_plan_176 (by decide) (fun hc_32 => ?_) (fun hc_32 => ?_)
      · replace hF := gT hc_32 hF
        refine lv_iload hx hb dL_plan_250 (lv_at hl 2 rfl) ?_
        exact g_ri hx hb hr hlocks (gW2 hF hW) hL (gI2 hF).1 dL_plan_252
      · replace hF := gF hc_32 hF
        refine lv_iload hx hb dL_plan_179 (lv_at hl 2 rfl) ?_
        refine lv_iconst (v := 3) hx hb dL_plan_181 (by decide) ?_
        refine lv_icmp_le (tgt := 250) hx hb dL_plan_182 (by decide) (fun hc_33 => ?_) (fun hc_33 => ?_)
        · replace hF := gT hc_33 hF
          refine lv_iload hx hb dL_plan_250 (lv_at hl 2 rfl) ?_
          exact g_ri hx hb hr hlocks (gW2 hF hW) hL (gI2 hF).1 dL_plan_252
        · replace hF := gF hc_33 hF
          refine lv_iload hx hb dL_plan_185 (lv_at hl 3 rfl) ?_
          refine lv_aload_n hx hb dL_plan_187 rfl (lv_at hl 0 rfl) ?_
          refine lv_bipush (v := 8) hx hb dL_plan_188 (by decide) ?_
          refine g_iald2 (k := 8) hx hb hK hW (gok_o (by decide)) (gad_lt (gok_o (by decide))) gE_O5 (gin (by decide)) (by decide) dL_plan_190 ?_
          refine lv_icmp_ge (tgt := 250) hx hb dL_plan_191 (by decide) (fun hc_34 => ?_) (fun hc_34 => ?_)
          · replace hF := gT hc_34 hF
            refine lv_iload hx hb dL_plan_250 (lv_at hl 2 rfl) ?_
            exact g_ri hx hb hr hlocks (gW2 hF hW) hL (gI2 hF).1 dL_plan_252
          · replace hF := gF hc_34 hF
            refine lv_iload hx hb dL_plan_194 (lv_at hl 3 rfl) ?_
            refine lv_aload_n hx hb dL_plan_196 rfl (lv_at hl 1 rfl) ?_
            refine lv_bipush (v := 20) hx hb dL_plan_197 (by decide) ?_
            refine lv_iload hx hb dL_plan_199 (lv_at hl 4 rfl) ?_
            refine lv_iadd hx hb dL_plan_201 ?_
            obtain ⟨hin_35, hF⟩ := gB_some hF
            obtain ⟨k_36, ek_36⟩ : ∃ k, k = Int32.toNatClampNeg ((20 + x7)) := ⟨_, rfl⟩
            rw [← ek_36] at hF
            refine g_iald2 (k := k_36) hx hb hK hW (gok_o (by decide)) (gad_lt (gok_o (by decide))) gE_O7 hin_35 ek_36.symm dL_plan_202 ?_
            refine lv_iconst (v := 1) hx hb dL_plan_203 (by decide) ?_
            refine lv_icmp_ne (tgt := 211) hx hb dL_plan_204 (by decide) (fun hc_37 => ?_) (fun hc_37 => ?_)
            · replace hF := gF hc_37 hF
              refine lv_iconst (v := 0) hx hb dL_plan_211 (by decide) ?_
              exact B_212 w x5 x7 0 x6 ls (lv_sub hl [0, 1, 2, 4] rfl) hF H locs hW hL
            · replace hF := gT hc_37 hF
              refine lv_iconst (v := 1) hx hb dL_plan_207 (by decide) ?_
              refine lv_goto (tgt := 212) hx hb dL_plan_208 (by decide) ?_
              exact B_212 w x5 x7 1 x6 ls (lv_sub hl [0, 1, 2, 4] rfl) hF H locs hW hL
  have L_75 : ∀ (fu : Nat) (w : gWd) (x3 : Int32) (x4 : Int32) (x5 : Int32) (x6 : Int32) (x7 : Int32)  (ls : Array Slot) (hl : lv_has ls 9 [(1, .ref (gA X 8 5)), (2, .ref (gA X 8 7)), (3, .int x3), (4, .int x4), (5, .int x5), (6, .int x6), (7, .int x7)]) (hF : F_L_plan_75 fu w x3 x4 x5 x6 x7 = some (r, w')) (H : Heap) (locs : List Loc) (hW : gWo X 252 (gE X w) H) (hL : gLo X locs), W p l e rmL_plan s m args below meth c H locs 0 0 (MQ below (gQi X r w') args s 0 0 (gFr X)) (F0 m 75 ls []) := by
    intro fu
    induction fu with
    | zero => intro w x3 x4 x5 x6 x7 ls hl hF H locs hW hL; rw [F_L_plan_75_z] at hF; cases hF
    | succ fu75 ih75 =>
      have B_137 : ∀ (w : gWd) (x3 : Int32) (x4 : Int32) (x5 : Int32) (x6 : Int32) (x7 : Int32) (xs0 : Int32)  (ls : Array Slot) (hl : lv_has ls 9 [(1, .ref (gA X 8 5)), (2, .ref (gA X 8 7)), (3, .int x3), (4, .int x4), (5, .int x5), (6, .int x6), (7, .int x7)]) (hF : F_L_plan_137 (F_L_plan_75 fu75) w x3 x4 x5 x6 x7 xs0 = some (r, w')) (H : Heap) (locs : List Loc) (hW : gWo X 252 (gE X w) H) (hL : gLo X locs), W p l e rmL_plan s m args below meth c H locs 0 0 (MQ below (gQi X r w') args s 0 0 (gFr X)) (F0 m 137 ls [.int xs0]) := by
        intro w x3 x4 x5 x6 x7 xs0 ls hl hF H locs hW hL
        rw [F_L_plan_137] at hF
        refine lv_istore (lv' := [(8, .int xs0), (1, .ref (gA X 8 5)), (2, .ref (gA X 8 7)), (3, .int x3), (4, .int x4), (5, .int x5), (6, .int x6), (7, .int x7)]) hx hb dL_plan_137 hl (by decide) rfl (fun ls hl => ?_)
        refine lv_aload_n hx hb dL_plan_139 rfl (lv_at hl 2 rfl) ?_
        refine lv_bipush (v := 20) hx hb dL_plan_140 (by decide) ?_
        refine lv_iload hx hb dL_plan_142 (lv_at hl 7 rfl) ?_
        refine lv_iadd hx hb dL_plan_144 ?_
        refine lv_iload hx hb dL_plan_145 (lv_at hl 0 rfl) ?_
        obtain ⟨hin_24, hF⟩ := gB_some hF
        obtain ⟨k_25, ek_25⟩ : ∃ k, k = Int32.toNatClampNeg ((20 + x7)) := ⟨_, rfl⟩
        rw [← ek_25] at hF
        obtain ⟨w_26, ew_26, hF⟩ := gS_some hF
        refine g_iast2 (k := k_25) hx hb hK hW hL (gok_o (by decide)) (fun w => gE_O7 (w := w)) hin_24 ek_25.symm dL_plan_147 (fun H locs hW hL => ?_)
        rw [← ew_26] at hW
        refine lv_iload hx hb dL_plan_148 (lv_at hl 6 rfl) ?_
        refine lv_iload hx hb dL_plan_150 (lv_at hl 0 rfl) ?_
        refine lv_if_ne (tgt := 159) hx hb dL_plan_152 (by decide) (fun hc_27 => ?_) (fun hc_27 => ?_)
        · replace hF := gF hc_27 hF
          refine lv_iconst (v := 0) hx hb dL_plan_159 (by decide) ?_
          refine lv_iadd hx hb dL_plan_160 ?_
          obtain ⟨x6_28, ex6_28, hF⟩ := gS_some hF
          refine g_top ex6_28 ?_
          refine lv_istore (lv' := [(6, .int x6_28), (8, .int xs0), (1, .ref (gA X 8 5)), (2, .ref (gA X 8 7)), (3, .int x3), (4, .int x4), (5, .int x5), (7, .int x7)]) hx hb dL_plan_161 hl (by decide) rfl (fun ls hl => ?_)
          obtain ⟨x7_29, ex7_29, hF⟩ := gS_some hF
          refine lv_iinc (v := x7_29) (lv' := [(7, .int x7_29), (6, .int x6_28), (8, .int xs0), (1, .ref (gA X 8 5)), (2, .ref (gA X 8 7)), (3, .int x3), (4, .int x4), (5, .int x5)]) hx hb dL_plan_163 hl (k := 7) rfl (by rw [ex7_29]; rfl) (by decide) rfl (fun ls hl => ?_)
          refine lv_goto (tgt := 75) hx hb dL_plan_166 (by decide) ?_
          exact ih75 w_26 x3 x4 x5 x6_28 x7_29 ls (lv_sub hl [3, 4, 5, 6, 7, 1, 0] rfl) hF H locs hW hL
        · replace hF := gT hc_27 hF
          refine lv_iconst (v := 1) hx hb dL_plan_155 (by decide) ?_
          refine lv_goto (tgt := 160) hx hb dL_plan_156 (by decide) ?_
          refine lv_iadd hx hb dL_plan_160 ?_
          obtain ⟨x6_30, ex6_30, hF⟩ := gS_some hF
          refine g_top ex6_30 ?_
          refine lv_istore (lv' := [(6, .int x6_30), (8, .int xs0), (1, .ref (gA X 8 5)), (2, .ref (gA X 8 7)), (3, .int x3), (4, .int x4), (5, .int x5), (7, .int x7)]) hx hb dL_plan_161 hl (by decide) rfl (fun ls hl => ?_)
          obtain ⟨x7_31, ex7_31, hF⟩ := gS_some hF
          refine lv_iinc (v := x7_31) (lv' := [(7, .int x7_31), (6, .int x6_30), (8, .int xs0), (1, .ref (gA X 8 5)), (2, .ref (gA X 8 7)), (3, .int x3), (4, .int x4), (5, .int x5)]) hx hb dL_plan_163 hl (k := 7) rfl (by rw [ex7_31]; rfl) (by decide) rfl (fun ls hl => ?_)
          refine lv_goto (tgt := 75) hx hb dL_plan_166 (by decide) ?_
          exact ih75 w_26 x3 x4 x5 x6_30 x7_31 ls (lv_sub hl [3, 4, 5, 6, 7, 1, 0] rfl) hF H locs hW hL
      intro w x3 x4 x5 x6 x7 ls hl hF H locs hW hL
      rw [F_L_plan_75_s] at hF
      refine lv_iload hx hb dL_plan_75 (lv_at hl 6 rfl) ?_
      refine lv_iload_n hx hb dL_plan_77 rfl (lv_at hl 2 rfl) ?_
      refine lv_icmp_ge (tgt := 169) hx hb dL_plan_78 (by decide) (fun hc_18 => ?_) (fun hc_18 => ?_)
      · replace hF := gT hc_18 hF
        refine lv_iload_n hx hb dL_plan_169 rfl (lv_at hl 2 rfl) ?_
        refine lv_iconst (v := 1) hx hb dL_plan_170 (by decide) ?_
        refine lv_isub hx hb dL_plan_171 ?_
        obtain ⟨x7_19, ex7_19, hF⟩ := gS_some hF
        refine g_top ex7_19 ?_
        refine lv_istore (lv' := [(7, .int x7_19), (1, .ref (gA X 8 5)), (2, .ref (gA X 8 7)), (3, .int x3), (4, .int x4), (5, .int x5), (6, .int x6)]) hx hb dL_plan_172 hl (by decide) rfl (fun ls hl => ?_)
        exact L_174 gFU w x5 x6 x7_19 ls (lv_sub hl [1, 2, 5, 6, 0] rfl) hF H locs hW hL
      · replace hF := gF hc_18 hF
        refine lv_iload hx hb dL_plan_81 (lv_at hl 4 rfl) ?_
        refine lv_iconst (v := 2) hx hb dL_plan_83 (by decide) ?_
        refine lv_icmp_ge (tgt := 91) hx hb dL_plan_84 (by decide) (fun hc_20 => ?_) (fun hc_20 => ?_)
        · replace hF := gT hc_20 hF
          refine lv_iload hx hb dL_plan_91 (lv_at hl 4 rfl) ?_
          refine lv_iconst (v := 2) hx hb dL_plan_93 (by decide) ?_
          refine lv_icmp_ne (tgt := 106) hx hb dL_plan_94 (by decide) (fun hc_21 => ?_) (fun hc_21 => ?_)
          · replace hF := gF hc_21 hF
            refine lv_iload hx hb dL_plan_106 (lv_at hl 6 rfl) ?_
            refine lv_iconst (v := 3) hx hb dL_plan_108 (by decide) ?_
            refine lv_iload hx hb dL_plan_109 (lv_at hl 3 rfl) ?_
            refine lv_imul hx hb dL_plan_111 ?_
            refine lv_icmp_lt (tgt := 128) hx hb dL_plan_112 (by decide) (fun hc_22 => ?_) (fun hc_22 => ?_)
            · replace hF := gT hc_22 hF
              refine lv_iload hx hb dL_plan_128 (lv_at hl 4 rfl) ?_
              refine lv_iconst (v := 1) hx hb dL_plan_130 (by decide) ?_
              refine lv_isub hx hb dL_plan_131 ?_
              refine lv_iload hx hb dL_plan_132 (lv_at hl 6 rfl) ?_
              refine lv_iconst (v := 3) hx hb dL_plan_134 (by decide) ?_
              refine lv_irem hx hb dL_plan_135 (by decide) ?_
              refine lv_isub hx hb dL_plan_136 ?_
              exact B_137 w x3 x4 x5 x6 x7 (((x5 - 1) - (x7 - x7 / 3 * 3))) ls (hl) hF H locs hW hL
            · replace hF := gF hc_22 hF
              refine lv_iload hx hb dL_plan_115 (lv_at hl 4 rfl) ?_
              refine lv_iconst (v := 1) hx hb dL_plan_117 (by decide) ?_
              refine lv_isub hx hb dL_plan_118 ?_
              refine lv_iload hx hb dL_plan_119 (lv_at hl 6 rfl) ?_
              refine lv_iload hx hb dL_plan_121 (lv_at hl 3 rfl) ?_
              obtain ⟨hd_23, hF⟩ := gD_some hF
              refine lv_idiv hx hb dL_plan_123 hd_23 ?_
              refine lv_isub hx hb dL_plan_124 ?_
              refine lv_goto (tgt := 137) hx hb dL_plan_125 (by decide) ?_
              exact B_137 w x3 x4 x5 x6 x7 (((x5 - 1) - (x7 / x4))) ls (hl) hF H locs hW hL
          · replace hF := gT hc_21 hF
            refine lv_iconst (v := 1) hx hb dL_plan_97 (by decide) ?_
            refine lv_iload hx hb dL_plan_98 (lv_at hl 6 rfl) ?_
            refine lv_iconst (v := 2) hx hb dL_plan_100 (by decide) ?_
            refine lv_irem hx hb dL_plan_101 (by decide) ?_
            refine lv_isub hx hb dL_plan_102 ?_
            refine lv_goto (tgt := 137) hx hb dL_plan_103 (by decide) ?_
            exact B_137 w x3 x4 x5 x6 x7 ((1 - (x7 - x7 / 2 * 2))) ls (hl) hF H locs hW hL
        · replace hF := gF hc_20 hF
          refine lv_iconst (v := 0) hx hb dL_plan_87 (by decide) ?_
          refine lv_goto (tgt := 137) hx hb dL_plan_88 (by decide) ?_
          exact B_137 w x3 x4 x5 x6 x7 0 ls (hl) hF H locs hW hL
  have B_66 : ∀ (w : gWd) (x3 : Int32) (x4 : Int32) (xs0 : Int32) (xs1 : Int32)  (ls : Array Slot) (hl : lv_has ls 9 [(1, .ref (gA X 8 5)), (2, .ref (gA X 8 7)), (3, .int x3), (4, .int x4)]) (hF : F_L_plan_66 w x3 x4 xs0 xs1 = some (r, w')) (H : Heap) (locs : List Loc) (hW : gWo X 252 (gE X w) H) (hL : gLo X locs), W p l e rmL_plan s m args below meth c H locs 0 0 (MQ below (gQi X r w') args s 0 0 (gFr X)) (F0 m 66 ls [.int xs0, .int xs1]) := by
    intro w x3 x4 xs0 xs1 ls hl hF H locs hW hL
    rw [F_L_plan_66] at hF
    refine lv_iadd hx hb dL_plan_66 ?_
    obtain ⟨x5_17, ex5_17, hF⟩ := gS_some hF
    refine g_top ex5_17 ?_
    refine lv_istore (lv' := [(5, .int x5_17), (1, .ref (gA X 8 5)), (2, .ref (gA X 8 7)), (3, .int x3), (4, .int x4)]) hx hb dL_plan_67 hl (by decide) rfl (fun ls hl => ?_)
    refine lv_iconst (v := 0) hx hb dL_plan_69 (by decide) ?_
    refine lv_istore (lv' := [(6, .int 0), (5, .int x5_17), (1, .ref (gA X 8 5)), (2, .ref (gA X 8 7)), (3, .int x3), (4, .int x4)]) hx hb dL_plan_70 hl (by decide) rfl (fun ls hl => ?_)
    refine lv_iconst (v := 0) hx hb dL_plan_72 (by decide) ?_
    refine lv_istore (lv' := [(7, .int 0), (6, .int 0), (5, .int x5_17), (1, .ref (gA X 8 5)), (2, .ref (gA X 8 7)), (3, .int x3), (4, .int x4)]) hx hb dL_plan_73 hl (by decide) rfl (fun ls hl => ?_)
    exact L_75 gFU w x3 x4 x5_17 0 0 ls (lv_sub hl [3, 4, 5, 6, 2, 1, 0] rfl) hF H locs hW hL
  have L_5 : ∀ (fu : Nat) (w : gWd) (x3 : Int32) (x4 : Int32)  (ls : Array Slot) (hl : lv_has ls 9 [(0, .ref (gA X 8 0)), (1, .ref (gA X 8 5)), (2, .ref (gA X 8 7)), (3, .int x3), (4, .int x4)]) (hF : F_L_plan_5 fu w x3 x4 = some (r, w')) (H : Heap) (locs : List Loc) (hW : gWo X 252 (gE X w) H) (hL : gLo X locs), W p l e rmL_plan s m args below meth c H locs 0 0 (MQ below (gQi X r w') args s 0 0 (gFr X)) (F0 m 5 ls []) := by
    intro fu
    induction fu with
    | zero => intro w x3 x4 ls hl hF H locs hW hL; rw [F_L_plan_5_z] at hF; cases hF
    | succ fu5 ih5 =>
      intro w x3 x4 ls hl hF H locs hW hL
      rw [F_L_plan_5_s] at hF
      refine lv_iload hx hb dL_plan_5 (lv_at hl 4 rfl) ?_
      refine lv_aload_n hx hb dL_plan_7 rfl (lv_at hl 1 rfl) ?_
      refine lv_iconst (v := 1) hx hb dL_plan_8 (by decide) ?_
      refine g_iald2 (k := 1) hx hb hK hW (gok_o (by decide)) (gad_lt (gok_o (by decide))) gE_O5 (gin (by decide)) (by decide) dL_plan_9 ?_
      refine lv_icmp_ge (tgt := 44) hx hb dL_plan_10 (by decide) (fun hc_1 => ?_) (fun hc_1 => ?_)
      · replace hF := gT hc_1 hF
        refine lv_aload_n hx hb dL_plan_44 rfl (lv_at hl 1 rfl) ?_
        refine lv_bipush (v := 7) hx hb dL_plan_45 (by decide) ?_
        refine g_iald2 (k := 7) hx hb hK hW (gok_o (by decide)) (gad_lt (gok_o (by decide))) gE_O5 (gin (by decide)) (by decide) dL_plan_47 ?_
        obtain ⟨x4_2, ex4_2, hF⟩ := gS_some hF
        refine g_top ex4_2 ?_
        refine lv_istore (lv' := [(4, .int x4_2), (0, .ref (gA X 8 0)), (1, .ref (gA X 8 5)), (2, .ref (gA X 8 7)), (3, .int x3)]) hx hb dL_plan_48 hl (by decide) rfl (fun ls hl => ?_)
        refine lv_iload_n hx hb dL_plan_50 rfl (lv_at hl 4 rfl) ?_
        refine lv_iload hx hb dL_plan_51 (lv_at hl 0 rfl) ?_
        obtain ⟨hd_3, hF⟩ := gD_some hF
        refine lv_idiv hx hb dL_plan_53 hd_3 ?_
        refine lv_iload_n hx hb dL_plan_54 rfl (lv_at hl 4 rfl) ?_
        refine lv_iload hx hb dL_plan_55 (lv_at hl 0 rfl) ?_
        obtain ⟨hd_4, hF⟩ := gD_some hF
        refine lv_irem hx hb dL_plan_57 hd_4 ?_
        refine lv_if_le (tgt := 65) hx hb dL_plan_58 (by decide) (fun hc_5 => ?_) (fun hc_5 => ?_)
        · replace hF := gT hc_5 hF
          refine lv_iconst (v := 0) hx hb dL_plan_65 (by decide) ?_
          exact B_66 w x3 x4_2 0 ((x3 / x4_2)) ls (lv_sub hl [2, 3, 4, 0] rfl) hF H locs hW hL
        · replace hF := gF hc_5 hF
          refine lv_iconst (v := 1) hx hb dL_plan_61 (by decide) ?_
          refine lv_goto (tgt := 66) hx hb dL_plan_62 (by decide) ?_
          exact B_66 w x3 x4_2 1 ((x3 / x4_2)) ls (lv_sub hl [2, 3, 4, 0] rfl) hF H locs hW hL
      · replace hF := gF hc_1 hF
        refine lv_aload_n hx hb dL_plan_13 rfl (lv_at hl 0 rfl) ?_
        refine lv_iconst (v := 3) hx hb dL_plan_14 (by decide) ?_
        refine lv_iload hx hb dL_plan_15 (lv_at hl 4 rfl) ?_
        refine lv_imul hx hb dL_plan_17 ?_
        refine lv_iconst (v := 2) hx hb dL_plan_18 (by decide) ?_
        refine lv_iadd hx hb dL_plan_19 ?_
        obtain ⟨hin_6, hF⟩ := gB_some hF
        obtain ⟨k_7, ek_7⟩ : ∃ k, k = Int32.toNatClampNeg (((3 * x4) + 2)) := ⟨_, rfl⟩
        rw [← ek_7] at hF
        refine g_iald2 (k := k_7) hx hb hK hW (gok_o (by decide)) (gad_lt (gok_o (by decide))) gE_O0 hin_6 ek_7.symm dL_plan_20 ?_
        refine lv_if_ne (tgt := 38) hx hb dL_plan_21 (by decide) (fun hc_8 => ?_) (fun hc_8 => ?_)
        · replace hF := gF hc_8 hF
          obtain ⟨x4_9, ex4_9, hF⟩ := gS_some hF
          refine lv_iinc (v := x4_9) (lv' := [(4, .int x4_9), (0, .ref (gA X 8 0)), (1, .ref (gA X 8 5)), (2, .ref (gA X 8 7)), (3, .int x3)]) hx hb dL_plan_38 hl (k := 4) rfl (by rw [ex4_9]; rfl) (by decide) rfl (fun ls hl => ?_)
          refine lv_goto (tgt := 5) hx hb dL_plan_41 (by decide) ?_
          exact ih5 w x3 x4_9 ls (lv_sub hl [1, 2, 3, 4, 0] rfl) hF H locs hW hL
        · replace hF := gT hc_8 hF
          refine lv_aload_n hx hb dL_plan_24 rfl (lv_at hl 2 rfl) ?_
          refine lv_aload_n hx hb dL_plan_25 rfl (lv_at hl 0 rfl) ?_
          refine lv_aload_n hx hb dL_plan_26 rfl (lv_at hl 1 rfl) ?_
          refine lv_iload hx hb dL_plan_27 (lv_at hl 4 rfl) ?_
          obtain ⟨v_11, hq_10, hF⟩ := gP_some hF
          refine g_Si (As := [.ref (gA X 8 0), .ref (gA X 8 5), .int x4]) (rest := [.ref (gA X 8 7)]) ⟨hx, hb, hml, hown, hts⟩ hK hW hL hl.1 (c_L_rank l X w x4 v_11 hq_10) k15 rfl rfl (Nat.le_of_ble_eq_true rfl) dL_plan_29 ⟨Nat.le_of_ble_eq_true rfl, Nat.le_of_ble_eq_true rfl⟩ (fun H locs hW hL => ?_)
          refine lv_iload hx hb dL_plan_32 (lv_at hl 4 rfl) ?_
          obtain ⟨hin_12, hF⟩ := gB_some hF
          obtain ⟨k_13, ek_13⟩ : ∃ k, k = Int32.toNatClampNeg v_11 := ⟨_, rfl⟩
          rw [← ek_13] at hF
          obtain ⟨w_14, ew_14, hF⟩ := gS_some hF
          refine g_iast2 (k := k_13) hx hb hK hW hL (gok_o (by decide)) (fun w => gE_O7 (w := w)) hin_12 ek_13.symm dL_plan_34 (fun H locs hW hL => ?_)
          rw [← ew_14] at hW
          obtain ⟨x3_15, ex3_15, hF⟩ := gS_some hF
          refine lv_iinc (v := x3_15) (lv' := [(3, .int x3_15), (0, .ref (gA X 8 0)), (1, .ref (gA X 8 5)), (2, .ref (gA X 8 7)), (4, .int x4)]) hx hb dL_plan_35 hl (k := 3) rfl (by rw [ex3_15]; rfl) (by decide) rfl (fun ls hl => ?_)
          obtain ⟨x4_16, ex4_16, hF⟩ := gS_some hF
          refine lv_iinc (v := x4_16) (lv' := [(4, .int x4_16), (3, .int x3_15), (0, .ref (gA X 8 0)), (1, .ref (gA X 8 5)), (2, .ref (gA X 8 7))]) hx hb dL_plan_38 hl (k := 4) rfl (by rw [ex4_16]; rfl) (by decide) rfl (fun ls hl => ?_)
          refine lv_goto (tgt := 5) hx hb dL_plan_41 (by decide) ?_
          exact ih5 w_14 x3_15 x4_16 ls (lv_sub hl [2, 3, 4, 1, 0] rfl) hF H locs hW hL
  rw [F_L_plan] at hF
  obtain ⟨locs, hlocs⟩ : ∃ locs : List Loc, locs = [] := ⟨_, rfl⟩
  rw [← hlocs] at hL ⊢
  refine lv_iconst (v := 0) hx hb dL_plan_0 (by decide) ?_
  refine lv_istore_n (lv' := [(3, .int 0), (0, .ref (gA X 8 0)), (1, .ref (gA X 8 5)), (2, .ref (gA X 8 7))]) hx hb dL_plan_1 rfl hl (by decide) rfl (fun ls hl => ?_)
  refine lv_iconst (v := 0) hx hb dL_plan_2 (by decide) ?_
  refine lv_istore (lv' := [(4, .int 0), (3, .int 0), (0, .ref (gA X 8 0)), (1, .ref (gA X 8 5)), (2, .ref (gA X 8 7))]) hx hb dL_plan_3 hl (by decide) rfl (fun ls hl => ?_)
  exact L_5 gFU w 0 0 ls (lv_sub hl [2, 3, 4, 1, 0] rfl) hF H locs hW hL
abbrev rmL_planLane : Room := { frames := 1, cells := 0, slots := 0, locals := 23 }
abbrev wsL_planLane : List Cond := gws yL_planLane cL_planLane 5 (some .int)
set_option maxHeartbeats 4000000 in
set_option maxRecDepth 100000 in
theorem c_L_planLane (l : Launch) (X : gX) (w : gWd) (x2 : Int32) (r : Int32) (hF : F_L_planLane w x2 = some r) : Met l yL_planLane wsL_planLane rmL_planLane (gPc X [.ref (gA X 8 5), .ref (gA X 8 7), .int x2] w) (gQi X r w) 0 0 (gFr X) := by
  refine g_ofW (cc := cL_planLane) (maxL := 5) (ret := (some .int)) (by decide) rfl (Nat.le_of_ble_eq_true rfl) (fun p e s m args below meth c ls H hx hb hr hts hown hlocks hml hK hl hW => ?_)
  have hl : lv_has ls 5 [(0, .ref (gA X 8 5)), (1, .ref (gA X 8 7)), (2, .int x2)] := hl
  have hown : s.vm.findClass RL = some m.cls := hown
  have hL : gLo X [] := gLo_nil
  show W p l e rmL_planLane s m args below meth c H [] 0 0 _ _
  have k19 : CallB rmL_planLane s args RL 19 yL_lane cL_lane 4 (some .int) wsL_lane rmL_lane 0 0 2 ∧ (Cond.static yL_lane).before args s = true := va_cwS 2 hts (gGoodS (fun w h => List.mem_cons_of_mem _ h) wk_L_19) rfl rfl rfl (by decide +kernel) ⟨Nat.le_of_ble_eq_true rfl, Nat.le_of_ble_eq_true rfl⟩
  have L_5 : ∀ (fu : Nat) (x2 : Int32) (x3 : Int32) (x4 : Int32)  (ls : Array Slot) (hl : lv_has ls 5 [(0, .ref (gA X 8 5)), (1, .ref (gA X 8 7)), (2, .int x2), (3, .int x3), (4, .int x4)]) (hF : F_L_planLane_5 fu w x2 x3 x4 = some r) (H : Heap) (locs : List Loc) (hW : gWo X 252 (gE X w) H) (hL : gLo X locs), W p l e rmL_planLane s m args below meth c H locs 0 0 (MQ below (gQi X r w) args s 0 0 (gFr X)) (F0 m 5 ls []) := by
    intro fu
    induction fu with
    | zero => intro x2 x3 x4 ls hl hF H locs hW hL; rw [F_L_planLane_5_z] at hF; cases hF
    | succ fu5 ih5 =>
      intro x2 x3 x4 ls hl hF H locs hW hL
      rw [F_L_planLane_5_s] at hF
      refine lv_iload hx hb dL_planLane_5 (lv_at hl 4 rfl) ?_
      refine lv_iload_n hx hb dL_planLane_7 rfl (lv_at hl 2 rfl) ?_
      refine lv_icmp_ge (tgt := 41) hx hb dL_planLane_8 (by decide) (fun hc_1 => ?_) (fun hc_1 => ?_)
      · replace hF := gT hc_1 hF
        refine lv_aload_n hx hb dL_planLane_41 rfl (lv_at hl 0 rfl) ?_
        refine lv_bipush (v := 7) hx hb dL_planLane_42 (by decide) ?_
        refine g_iald2 (k := 7) hx hb hK hW (gok_o (by decide)) (gad_lt (gok_o (by decide))) gE_O5 (gin (by decide)) (by decide) dL_planLane_44 ?_
        refine lv_iload_n hx hb dL_planLane_45 rfl (lv_at hl 3 rfl) ?_
        obtain ⟨v_3, hq_2, hF⟩ := gP_some hF
        refine g_Si (As := [.int (w 8 5 7), .int x3]) (rest := []) ⟨hx, hb, hml, hown, hts⟩ hK hW hL hl.1 (c_L_lane l X w ((w 8 5 7)) x3 v_3 hq_2) k19 rfl rfl (Nat.le_of_ble_eq_true rfl) dL_planLane_46 ⟨Nat.le_of_ble_eq_true rfl, Nat.le_of_ble_eq_true rfl⟩ (fun H locs hW hL => ?_)
        exact g_ri hx hb hr hlocks hW hL (Option.some.inj hF) dL_planLane_49
      · replace hF := gF hc_1 hF
        refine lv_iload_n hx hb dL_planLane_11 rfl (lv_at hl 3 rfl) ?_
        refine lv_aload_n hx hb dL_planLane_12 rfl (lv_at hl 1 rfl) ?_
        refine lv_bipush (v := 20) hx hb dL_planLane_13 (by decide) ?_
        refine lv_iload hx hb dL_planLane_15 (lv_at hl 4 rfl) ?_
        refine lv_iadd hx hb dL_planLane_17 ?_
        obtain ⟨hin_4, hF⟩ := gB_some hF
        obtain ⟨k_5, ek_5⟩ : ∃ k, k = Int32.toNatClampNeg ((20 + x4)) := ⟨_, rfl⟩
        rw [← ek_5] at hF
        refine g_iald2 (k := k_5) hx hb hK hW (gok_o (by decide)) (gad_lt (gok_o (by decide))) gE_O7 hin_4 ek_5.symm dL_planLane_18 ?_
        refine lv_aload_n hx hb dL_planLane_19 rfl (lv_at hl 1 rfl) ?_
        refine lv_bipush (v := 20) hx hb dL_planLane_20 (by decide) ?_
        refine lv_iload_n hx hb dL_planLane_22 rfl (lv_at hl 2 rfl) ?_
        refine lv_iadd hx hb dL_planLane_23 ?_
        obtain ⟨hin_6, hF⟩ := gB_some hF
        obtain ⟨k_7, ek_7⟩ : ∃ k, k = Int32.toNatClampNeg ((20 + x2)) := ⟨_, rfl⟩
        rw [← ek_7] at hF
        refine g_iald2 (k := k_7) hx hb hK hW (gok_o (by decide)) (gad_lt (gok_o (by decide))) gE_O7 hin_6 ek_7.symm dL_planLane_24 ?_
        refine lv_icmp_ne (tgt := 32) hx hb dL_planLane_25 (by decide) (fun hc_8 => ?_) (fun hc_8 => ?_)
        · replace hF := gF hc_8 hF
          refine lv_iconst (v := 0) hx hb dL_planLane_32 (by decide) ?_
          refine lv_iadd hx hb dL_planLane_33 ?_
          obtain ⟨x3_9, ex3_9, hF⟩ := gS_some hF
          refine g_top ex3_9 ?_
          refine lv_istore_n (lv' := [(3, .int x3_9), (0, .ref (gA X 8 5)), (1, .ref (gA X 8 7)), (2, .int x2), (4, .int x4)]) hx hb dL_planLane_34 rfl hl (by decide) rfl (fun ls hl => ?_)
          obtain ⟨x4_10, ex4_10, hF⟩ := gS_some hF
          refine lv_iinc (v := x4_10) (lv' := [(4, .int x4_10), (3, .int x3_9), (0, .ref (gA X 8 5)), (1, .ref (gA X 8 7)), (2, .int x2)]) hx hb dL_planLane_35 hl (k := 4) rfl (by rw [ex4_10]; rfl) (by decide) rfl (fun ls hl => ?_)
          refine lv_goto (tgt := 5) hx hb dL_planLane_38 (by decide) ?_
          exact ih5 x2 x3_9 x4_10 ls (lv_sub hl [2, 3, 4, 1, 0] rfl) hF H locs hW hL
        · replace hF := gT hc_8 hF
          refine lv_iconst (v := 1) hx hb dL_planLane_28 (by decide) ?_
          refine lv_goto (tgt := 33) hx hb dL_planLane_29 (by decide) ?_
          refine lv_iadd hx hb dL_planLane_33 ?_
          obtain ⟨x3_11, ex3_11, hF⟩ := gS_some hF
          refine g_top ex3_11 ?_
          refine lv_istore_n (lv' := [(3, .int x3_11), (0, .ref (gA X 8 5)), (1, .ref (gA X 8 7)), (2, .int x2), (4, .int x4)]) hx hb dL_planLane_34 rfl hl (by decide) rfl (fun ls hl => ?_)
          obtain ⟨x4_12, ex4_12, hF⟩ := gS_some hF
          refine lv_iinc (v := x4_12) (lv' := [(4, .int x4_12), (3, .int x3_11), (0, .ref (gA X 8 5)), (1, .ref (gA X 8 7)), (2, .int x2)]) hx hb dL_planLane_35 hl (k := 4) rfl (by rw [ex4_12]; rfl) (by decide) rfl (fun ls hl => ?_)
          refine lv_goto (tgt := 5) hx hb dL_planLane_38 (by decide) ?_
          exact ih5 x2 x3_11 x4_12 ls (lv_sub hl [2, 3, 4, 1, 0] rfl) hF H locs hW hL
  rw [F_L_planLane] at hF
  obtain ⟨locs, hlocs⟩ : ∃ locs : List Loc, locs = [] := ⟨_, rfl⟩
  rw [← hlocs] at hL ⊢
  refine lv_iconst (v := 0) hx hb dL_planLane_0 (by decide) ?_
  refine lv_istore_n (lv' := [(3, .int 0), (0, .ref (gA X 8 5)), (1, .ref (gA X 8 7)), (2, .int x2)]) hx hb dL_planLane_1 rfl hl (by decide) rfl (fun ls hl => ?_)
  refine lv_iconst (v := 0) hx hb dL_planLane_2 (by decide) ?_
  refine lv_istore (lv' := [(4, .int 0), (3, .int 0), (0, .ref (gA X 8 5)), (1, .ref (gA X 8 7)), (2, .int x2)]) hx hb dL_planLane_3 hl (by decide) rfl (fun ls hl => ?_)
  exact L_5 gFU x2 0 0 ls (lv_sub hl [2, 3, 4, 1, 0] rfl) hF H locs hW hL
abbrev rmL_isAsked : Room := { frames := 0, cells := 0, slots := 0, locals := 0 }
abbrev wsL_isAsked : List Cond := gws yL_isAsked cL_isAsked 5 (some .boolean)
set_option maxHeartbeats 4000000 in
set_option maxRecDepth 100000 in
theorem c_L_isAsked (l : Launch) (X : gX) (w : gWd) (x4 : Int32) (r : Int32) (hF : F_L_isAsked w x4 = some r) : Met l yL_isAsked wsL_isAsked rmL_isAsked (gPc X [.ref (gA X 8 0), .ref (gA X 8 1), .ref (gA X 8 2), .ref (gA X 8 5), .int x4] w) (gQi X r w) 0 0 (gFr X) := by
  refine g_ofW (cc := cL_isAsked) (maxL := 5) (ret := (some .boolean)) (by decide) rfl (Nat.le_of_ble_eq_true rfl) (fun p e s m args below meth c ls H hx hb hr hts hown hlocks hml hK hl hW => ?_)
  have hl : lv_has ls 5 [(0, .ref (gA X 8 0)), (1, .ref (gA X 8 1)), (2, .ref (gA X 8 2)), (3, .ref (gA X 8 5)), (4, .int x4)] := hl
  have hown : s.vm.findClass RL = some m.cls := hown
  have hL : gLo X [] := gLo_nil
  show W p l e rmL_isAsked s m args below meth c H [] 0 0 _ _
  have B_43 : ∀   (ls : Array Slot) (hl : lv_has ls 5 []) (hF : F_L_isAsked_43 w = some r) (H : Heap) (locs : List Loc) (hW : gWo X 252 (gE X w) H) (hL : gLo X locs), W p l e rmL_isAsked s m args below meth c H locs 0 0 (MQ below (gQi X r w) args s 0 0 (gFr X)) (F0 m 43 ls []) := by
    intro ls hl hF H locs hW hL
    rw [F_L_isAsked_43] at hF
    refine lv_iconst (v := 1) hx hb dL_isAsked_43 (by decide) ?_
    refine lv_goto (tgt := 48) hx hb dL_isAsked_44 (by decide) ?_
    exact g_rz hx hb hr hlocks hW hL (Or.inr rfl) (Option.some.inj hF) dL_isAsked_48
  have B_47 : ∀   (ls : Array Slot) (hl : lv_has ls 5 []) (hF : F_L_isAsked_47 w = some r) (H : Heap) (locs : List Loc) (hW : gWo X 252 (gE X w) H) (hL : gLo X locs), W p l e rmL_isAsked s m args below meth c H locs 0 0 (MQ below (gQi X r w) args s 0 0 (gFr X)) (F0 m 47 ls []) := by
    intro ls hl hF H locs hW hL
    rw [F_L_isAsked_47] at hF
    refine lv_iconst (v := 0) hx hb dL_isAsked_47 (by decide) ?_
    exact g_rz hx hb hr hlocks hW hL (Or.inl rfl) (Option.some.inj hF) dL_isAsked_48
  have B_27 : ∀ (x4 : Int32)  (ls : Array Slot) (hl : lv_has ls 5 [(2, .ref (gA X 8 2)), (3, .ref (gA X 8 5)), (4, .int x4)]) (hF : F_L_isAsked_27 w x4 = some r) (H : Heap) (locs : List Loc) (hW : gWo X 252 (gE X w) H) (hL : gLo X locs), W p l e rmL_isAsked s m args below meth c H locs 0 0 (MQ below (gQi X r w) args s 0 0 (gFr X)) (F0 m 27 ls []) := by
    intro x4 ls hl hF H locs hW hL
    rw [F_L_isAsked_27] at hF
    refine lv_aload_n hx hb dL_isAsked_27 rfl (lv_at hl 1 rfl) ?_
    refine lv_iconst (v := 0) hx hb dL_isAsked_28 (by decide) ?_
    refine g_iald2 (k := 0) hx hb hK hW (gok_o (by decide)) (gad_lt (gok_o (by decide))) gE_O5 (gin (by decide)) (by decide) dL_isAsked_29 ?_
    refine lv_iconst (v := 2) hx hb dL_isAsked_30 (by decide) ?_
    refine lv_icmp_ne (tgt := 47) hx hb dL_isAsked_31 (by decide) (fun hc_1 => ?_) (fun hc_1 => ?_)
    · replace hF := gF hc_1 hF
      exact B_47  ls (lv_sub hl [] rfl) hF H locs hW hL
    · replace hF := gT hc_1 hF
      refine lv_aload_n hx hb dL_isAsked_34 rfl (lv_at hl 0 rfl) ?_
      refine lv_iconst (v := 3) hx hb dL_isAsked_35 (by decide) ?_
      refine lv_iload hx hb dL_isAsked_36 (lv_at hl 2 rfl) ?_
      refine lv_imul hx hb dL_isAsked_38 ?_
      obtain ⟨hin_2, hF⟩ := gB_some hF
      obtain ⟨k_3, ek_3⟩ : ∃ k, k = Int32.toNatClampNeg ((3 * x4)) := ⟨_, rfl⟩
      rw [← ek_3] at hF
      refine g_iald2 (k := k_3) hx hb hK hW (gok_o (by decide)) (gad_lt (gok_o (by decide))) gE_O2 hin_2 ek_3.symm dL_isAsked_39 ?_
      refine lv_if_le (tgt := 47) hx hb dL_isAsked_40 (by decide) (fun hc_4 => ?_) (fun hc_4 => ?_)
      · replace hF := gT hc_4 hF
        exact B_47  ls (lv_sub hl [] rfl) hF H locs hW hL
      · replace hF := gF hc_4 hF
        exact B_43  ls (lv_sub hl [] rfl) hF H locs hW hL
  rw [F_L_isAsked] at hF
  obtain ⟨locs, hlocs⟩ : ∃ locs : List Loc, locs = [] := ⟨_, rfl⟩
  rw [← hlocs] at hL ⊢
  refine lv_aload_n hx hb dL_isAsked_0 rfl (lv_at hl 0 rfl) ?_
  refine lv_iconst (v := 3) hx hb dL_isAsked_1 (by decide) ?_
  refine lv_iload hx hb dL_isAsked_2 (lv_at hl 4 rfl) ?_
  refine lv_imul hx hb dL_isAsked_4 ?_
  refine lv_iconst (v := 2) hx hb dL_isAsked_5 (by decide) ?_
  refine lv_iadd hx hb dL_isAsked_6 ?_
  obtain ⟨hin_5, hF⟩ := gB_some hF
  obtain ⟨k_6, ek_6⟩ : ∃ k, k = Int32.toNatClampNeg (((3 * x4) + 2)) := ⟨_, rfl⟩
  rw [← ek_6] at hF
  refine g_iald2 (k := k_6) hx hb hK hW (gok_o (by decide)) (gad_lt (gok_o (by decide))) gE_O0 hin_5 ek_6.symm dL_isAsked_7 ?_
  refine lv_if_ne (tgt := 47) hx hb dL_isAsked_8 (by decide) (fun hc_7 => ?_) (fun hc_7 => ?_)
  · replace hF := gF hc_7 hF
    exact B_47  ls (lv_sub hl [] rfl) hF H locs hW hL
  · replace hF := gT hc_7 hF
    refine lv_aload_n hx hb dL_isAsked_11 rfl (lv_at hl 3 rfl) ?_
    refine lv_iconst (v := 0) hx hb dL_isAsked_12 (by decide) ?_
    refine g_iald2 (k := 0) hx hb hK hW (gok_o (by decide)) (gad_lt (gok_o (by decide))) gE_O5 (gin (by decide)) (by decide) dL_isAsked_13 ?_
    refine lv_iconst (v := 1) hx hb dL_isAsked_14 (by decide) ?_
    refine lv_icmp_ne (tgt := 27) hx hb dL_isAsked_15 (by decide) (fun hc_8 => ?_) (fun hc_8 => ?_)
    · replace hF := gF hc_8 hF
      exact B_27 x4 ls (lv_sub hl [2, 3, 4] rfl) hF H locs hW hL
    · replace hF := gT hc_8 hF
      refine lv_aload_n hx hb dL_isAsked_18 rfl (lv_at hl 1 rfl) ?_
      refine lv_iconst (v := 3) hx hb dL_isAsked_19 (by decide) ?_
      refine lv_iload hx hb dL_isAsked_20 (lv_at hl 4 rfl) ?_
      refine lv_imul hx hb dL_isAsked_22 ?_
      obtain ⟨hin_9, hF⟩ := gB_some hF
      obtain ⟨k_10, ek_10⟩ : ∃ k, k = Int32.toNatClampNeg ((3 * x4)) := ⟨_, rfl⟩
      rw [← ek_10] at hF
      refine g_iald2 (k := k_10) hx hb hK hW (gok_o (by decide)) (gad_lt (gok_o (by decide))) gE_O1 hin_9 ek_10.symm dL_isAsked_23 ?_
      refine lv_if_gt (tgt := 43) hx hb dL_isAsked_24 (by decide) (fun hc_11 => ?_) (fun hc_11 => ?_)
      · replace hF := gT hc_11 hF
        exact B_43  ls (lv_sub hl [] rfl) hF H locs hW hL
      · replace hF := gF hc_11 hF
        exact B_27 x4 ls (lv_sub hl [2, 3, 4] rfl) hF H locs hW hL
abbrev rmL_time : Room := { frames := 0, cells := 0, slots := 0, locals := 0 }
abbrev wsL_time : List Cond := gws yL_time cL_time 4 (some .int)
set_option maxHeartbeats 4000000 in
set_option maxRecDepth 100000 in
theorem c_L_time (l : Launch) (X : gX) (w : gWd) (x3 : Int32) (r : Int32) (hF : F_L_time w x3 = some r) : Met l yL_time wsL_time rmL_time (gPc X [.ref (gA X 8 1), .ref (gA X 8 2), .ref (gA X 8 5), .int x3] w) (gQi X r w) 0 0 (gFr X) := by
  refine g_ofW (cc := cL_time) (maxL := 4) (ret := (some .int)) (by decide) rfl (Nat.le_of_ble_eq_true rfl) (fun p e s m args below meth c ls H hx hb hr hts hown hlocks hml hK hl hW => ?_)
  have hl : lv_has ls 4 [(0, .ref (gA X 8 1)), (1, .ref (gA X 8 2)), (2, .ref (gA X 8 5)), (3, .int x3)] := hl
  have hown : s.vm.findClass RL = some m.cls := hown
  have hL : gLo X [] := gLo_nil
  show W p l e rmL_time s m args below meth c H [] 0 0 _ _
  rw [F_L_time] at hF
  obtain ⟨locs, hlocs⟩ : ∃ locs : List Loc, locs = [] := ⟨_, rfl⟩
  rw [← hlocs] at hL ⊢
  refine lv_aload_n hx hb dL_time_0 rfl (lv_at hl 2 rfl) ?_
  refine lv_iconst (v := 0) hx hb dL_time_1 (by decide) ?_
  refine g_iald2 (k := 0) hx hb hK hW (gok_o (by decide)) (gad_lt (gok_o (by decide))) gE_O5 (gin (by decide)) (by decide) dL_time_2 ?_
  refine lv_iconst (v := 1) hx hb dL_time_3 (by decide) ?_
  refine lv_icmp_ne (tgt := 17) hx hb dL_time_4 (by decide) (fun hc_1 => ?_) (fun hc_1 => ?_)
  · replace hF := gF hc_1 hF
    refine lv_aload_n hx hb dL_time_17 rfl (lv_at hl 1 rfl) ?_
    refine lv_iconst (v := 3) hx hb dL_time_18 (by decide) ?_
    refine lv_iload_n hx hb dL_time_19 rfl (lv_at hl 3 rfl) ?_
    refine lv_imul hx hb dL_time_20 ?_
    refine lv_iconst (v := 1) hx hb dL_time_21 (by decide) ?_
    refine lv_iadd hx hb dL_time_22 ?_
    obtain ⟨hin_2, hF⟩ := gB_some hF
    obtain ⟨k_3, ek_3⟩ : ∃ k, k = Int32.toNatClampNeg (((3 * x3) + 1)) := ⟨_, rfl⟩
    rw [← ek_3] at hF
    refine g_iald2 (k := k_3) hx hb hK hW (gok_o (by decide)) (gad_lt (gok_o (by decide))) gE_O2 hin_2 ek_3.symm dL_time_23 ?_
    exact g_ri hx hb hr hlocks hW hL (Option.some.inj hF) dL_time_24
  · replace hF := gT hc_1 hF
    refine lv_aload_n hx hb dL_time_7 rfl (lv_at hl 0 rfl) ?_
    refine lv_iconst (v := 3) hx hb dL_time_8 (by decide) ?_
    refine lv_iload_n hx hb dL_time_9 rfl (lv_at hl 3 rfl) ?_
    refine lv_imul hx hb dL_time_10 ?_
    refine lv_iconst (v := 2) hx hb dL_time_11 (by decide) ?_
    refine lv_iadd hx hb dL_time_12 ?_
    obtain ⟨hin_4, hF⟩ := gB_some hF
    obtain ⟨k_5, ek_5⟩ : ∃ k, k = Int32.toNatClampNeg (((3 * x3) + 2)) := ⟨_, rfl⟩
    rw [← ek_5] at hF
    refine g_iald2 (k := k_5) hx hb hK hW (gok_o (by decide)) (gad_lt (gok_o (by decide))) gE_O1 hin_4 ek_5.symm dL_time_13 ?_
    refine lv_goto (tgt := 24) hx hb dL_time_14 (by decide) ?_
    exact g_ri hx hb hr hlocks hW hL (Option.some.inj hF) dL_time_24
abbrev rmL_why : Room := { frames := 1, cells := 0, slots := 0, locals := 24 }
abbrev wsL_why : List Cond := gws yL_why cL_why 8 (some .int)
set_option maxHeartbeats 4000000 in
set_option maxRecDepth 100000 in
theorem c_L_why (l : Launch) (X : gX) (w : gWd)  (r : Int32) (hF : F_L_why w = some r) : Met l yL_why wsL_why rmL_why (gPc X [.ref (gA X 8 0), .ref (gA X 8 1), .ref (gA X 8 2), .ref (gA X 8 5)] w) (gQi X r w) 0 0 (gFr X) := by
  refine g_ofW (cc := cL_why) (maxL := 8) (ret := (some .int)) (by decide) rfl (Nat.le_of_ble_eq_true rfl) (fun p e s m args below meth c ls H hx hb hr hts hown hlocks hml hK hl hW => ?_)
  have hl : lv_has ls 8 [(0, .ref (gA X 8 0)), (1, .ref (gA X 8 1)), (2, .ref (gA X 8 2)), (3, .ref (gA X 8 5))] := hl
  have hown : s.vm.findClass RL = some m.cls := hown
  have hL : gLo X [] := gLo_nil
  show W p l e rmL_why s m args below meth c H [] 0 0 _ _
  have k23 : CallB rmL_why s args RL 23 yL_isAsked cL_isAsked 5 (some .boolean) wsL_isAsked rmL_isAsked 0 0 5 ∧ (Cond.static yL_isAsked).before args s = true := va_cwS 5 hts (gGoodS (fun w h => List.mem_cons_of_mem _ h) wk_L_23) rfl rfl rfl (by decide +kernel) ⟨Nat.le_of_ble_eq_true rfl, Nat.le_of_ble_eq_true rfl⟩
  have k27 : CallB rmL_why s args RL 27 yL_time cL_time 4 (some .int) wsL_time rmL_time 0 0 4 ∧ (Cond.static yL_time).before args s = true := va_cwS 4 hts (gGoodS (fun w h => List.mem_cons_of_mem _ h) wk_L_27) rfl rfl rfl (by decide +kernel) ⟨Nat.le_of_ble_eq_true rfl, Nat.le_of_ble_eq_true rfl⟩
  have B_151 : ∀   (ls : Array Slot) (hl : lv_has ls 8 []) (hF : F_L_why_151 w = some r) (H : Heap) (locs : List Loc) (hW : gWo X 252 (gE X w) H) (hL : gLo X locs), W p l e rmL_why s m args below meth c H locs 0 0 (MQ below (gQi X r w) args s 0 0 (gFr X)) (F0 m 151 ls []) := by
    intro ls hl hF H locs hW hL
    rw [F_L_why_151] at hF
    refine lv_iconst (v := 0) hx hb dL_why_151 (by decide) ?_
    exact g_ri hx hb hr hlocks hW hL (Option.some.inj hF) dL_why_152
  have L_12 : ∀ (fu : Nat) (x4 : Int32) (x5 : Int32) (x6 : Int32) (x7 : Int32)  (ls : Array Slot) (hl : lv_has ls 8 [(0, .ref (gA X 8 0)), (1, .ref (gA X 8 1)), (2, .ref (gA X 8 2)), (3, .ref (gA X 8 5)), (4, .int x4), (5, .int x5), (6, .int x6), (7, .int x7)]) (hF : F_L_why_12 fu w x4 x5 x6 x7 = some r) (H : Heap) (locs : List Loc) (hW : gWo X 252 (gE X w) H) (hL : gLo X locs), W p l e rmL_why s m args below meth c H locs 0 0 (MQ below (gQi X r w) args s 0 0 (gFr X)) (F0 m 12 ls []) := by
    intro fu
    induction fu with
    | zero => intro x4 x5 x6 x7 ls hl hF H locs hW hL; rw [F_L_why_12_z] at hF; cases hF
    | succ fu12 ih12 =>
      have B_65 : ∀ (x4 : Int32) (x6 : Int32) (x7 : Int32) (xs0 : Int32) (xs1 : Int32)  (ls : Array Slot) (hl : lv_has ls 8 [(0, .ref (gA X 8 0)), (1, .ref (gA X 8 1)), (2, .ref (gA X 8 2)), (3, .ref (gA X 8 5)), (4, .int x4), (6, .int x6), (7, .int x7)]) (hF : F_L_why_65 (F_L_why_12 fu12) w x4 x6 x7 xs0 xs1 = some r) (H : Heap) (locs : List Loc) (hW : gWo X 252 (gE X w) H) (hL : gLo X locs), W p l e rmL_why s m args below meth c H locs 0 0 (MQ below (gQi X r w) args s 0 0 (gFr X)) (F0 m 65 ls [.int xs0, .int xs1]) := by
        intro x4 x6 x7 xs0 xs1 ls hl hF H locs hW hL
        rw [F_L_why_65] at hF
        refine lv_iadd hx hb dL_why_65 ?_
        obtain ⟨x5_17, ex5_17, hF⟩ := gS_some hF
        refine g_top ex5_17 ?_
        refine lv_istore (lv' := [(5, .int x5_17), (0, .ref (gA X 8 0)), (1, .ref (gA X 8 1)), (2, .ref (gA X 8 2)), (3, .ref (gA X 8 5)), (4, .int x4), (6, .int x6), (7, .int x7)]) hx hb dL_why_66 hl (by decide) rfl (fun ls hl => ?_)
        refine lv_iload hx hb dL_why_68 (lv_at hl 6 rfl) ?_
        refine lv_aload_n hx hb dL_why_70 rfl (lv_at hl 2 rfl) ?_
        refine lv_iconst (v := 3) hx hb dL_why_71 (by decide) ?_
        refine lv_iload hx hb dL_why_72 (lv_at hl 7 rfl) ?_
        refine lv_imul hx hb dL_why_74 ?_
        refine lv_iconst (v := 2) hx hb dL_why_75 (by decide) ?_
        refine lv_iadd hx hb dL_why_76 ?_
        obtain ⟨hin_18, hF⟩ := gB_some hF
        obtain ⟨k_19, ek_19⟩ : ∃ k, k = Int32.toNatClampNeg (((3 * x7) + 2)) := ⟨_, rfl⟩
        rw [← ek_19] at hF
        refine g_iald2 (k := k_19) hx hb hK hW (gok_o (by decide)) (gad_lt (gok_o (by decide))) gE_O1 hin_18 ek_19.symm dL_why_77 ?_
        refine lv_iconst (v := 1) hx hb dL_why_78 (by decide) ?_
        refine lv_icmp_le (tgt := 86) hx hb dL_why_79 (by decide) (fun hc_20 => ?_) (fun hc_20 => ?_)
        · replace hF := gT hc_20 hF
          refine lv_iconst (v := 0) hx hb dL_why_86 (by decide) ?_
          refine lv_iadd hx hb dL_why_87 ?_
          obtain ⟨x6_21, ex6_21, hF⟩ := gS_some hF
          refine g_top ex6_21 ?_
          refine lv_istore (lv' := [(6, .int x6_21), (5, .int x5_17), (0, .ref (gA X 8 0)), (1, .ref (gA X 8 1)), (2, .ref (gA X 8 2)), (3, .ref (gA X 8 5)), (4, .int x4), (7, .int x7)]) hx hb dL_why_88 hl (by decide) rfl (fun ls hl => ?_)
          obtain ⟨x7_22, ex7_22, hF⟩ := gS_some hF
          refine lv_iinc (v := x7_22) (lv' := [(7, .int x7_22), (6, .int x6_21), (5, .int x5_17), (0, .ref (gA X 8 0)), (1, .ref (gA X 8 1)), (2, .ref (gA X 8 2)), (3, .ref (gA X 8 5)), (4, .int x4)]) hx hb dL_why_90 hl (k := 7) rfl (by rw [ex7_22]; rfl) (by decide) rfl (fun ls hl => ?_)
          refine lv_goto (tgt := 12) hx hb dL_why_93 (by decide) ?_
          exact ih12 x4 x5_17 x6_21 x7_22 ls (lv_sub hl [3, 4, 5, 6, 7, 2, 1, 0] rfl) hF H locs hW hL
        · replace hF := gF hc_20 hF
          refine lv_iconst (v := 1) hx hb dL_why_82 (by decide) ?_
          refine lv_goto (tgt := 87) hx hb dL_why_83 (by decide) ?_
          refine lv_iadd hx hb dL_why_87 ?_
          obtain ⟨x6_23, ex6_23, hF⟩ := gS_some hF
          refine g_top ex6_23 ?_
          refine lv_istore (lv' := [(6, .int x6_23), (5, .int x5_17), (0, .ref (gA X 8 0)), (1, .ref (gA X 8 1)), (2, .ref (gA X 8 2)), (3, .ref (gA X 8 5)), (4, .int x4), (7, .int x7)]) hx hb dL_why_88 hl (by decide) rfl (fun ls hl => ?_)
          obtain ⟨x7_24, ex7_24, hF⟩ := gS_some hF
          refine lv_iinc (v := x7_24) (lv' := [(7, .int x7_24), (6, .int x6_23), (5, .int x5_17), (0, .ref (gA X 8 0)), (1, .ref (gA X 8 1)), (2, .ref (gA X 8 2)), (3, .ref (gA X 8 5)), (4, .int x4)]) hx hb dL_why_90 hl (k := 7) rfl (by rw [ex7_24]; rfl) (by decide) rfl (fun ls hl => ?_)
          refine lv_goto (tgt := 12) hx hb dL_why_93 (by decide) ?_
          exact ih12 x4 x5_17 x6_23 x7_24 ls (lv_sub hl [3, 4, 5, 6, 7, 2, 1, 0] rfl) hF H locs hW hL
      have B_64 : ∀ (x4 : Int32) (x6 : Int32) (x7 : Int32) (xs0 : Int32)  (ls : Array Slot) (hl : lv_has ls 8 [(0, .ref (gA X 8 0)), (1, .ref (gA X 8 1)), (2, .ref (gA X 8 2)), (3, .ref (gA X 8 5)), (4, .int x4), (6, .int x6), (7, .int x7)]) (hF : F_L_why_64 (F_L_why_12 fu12) w x4 x6 x7 xs0 = some r) (H : Heap) (locs : List Loc) (hW : gWo X 252 (gE X w) H) (hL : gLo X locs), W p l e rmL_why s m args below meth c H locs 0 0 (MQ below (gQi X r w) args s 0 0 (gFr X)) (F0 m 64 ls [.int xs0]) := by
        intro x4 x6 x7 xs0 ls hl hF H locs hW hL
        rw [F_L_why_64] at hF
        refine lv_iconst (v := 0) hx hb dL_why_64 (by decide) ?_
        exact B_65 x4 x6 x7 0 xs0 ls (hl) hF H locs hW hL
      intro x4 x5 x6 x7 ls hl hF H locs hW hL
      rw [F_L_why_12_s] at hF
      refine lv_iload hx hb dL_why_12 (lv_at hl 7 rfl) ?_
      refine lv_aload_n hx hb dL_why_14 rfl (lv_at hl 3 rfl) ?_
      refine lv_iconst (v := 1) hx hb dL_why_15 (by decide) ?_
      refine g_iald2 (k := 1) hx hb hK hW (gok_o (by decide)) (gad_lt (gok_o (by decide))) gE_O5 (gin (by decide)) (by decide) dL_why_16 ?_
      refine lv_icmp_ge (tgt := 96) hx hb dL_why_17 (by decide) (fun hc_1 => ?_) (fun hc_1 => ?_)
      · replace hF := gT hc_1 hF
        refine lv_aload_n hx hb dL_why_96 rfl (lv_at hl 3 rfl) ?_
        refine lv_iconst (v := 0) hx hb dL_why_97 (by decide) ?_
        refine g_iald2 (k := 0) hx hb hK hW (gok_o (by decide)) (gad_lt (gok_o (by decide))) gE_O5 (gin (by decide)) (by decide) dL_why_98 ?_
        refine lv_if_ne (tgt := 115) hx hb dL_why_99 (by decide) (fun hc_2 => ?_) (fun hc_2 => ?_)
        · replace hF := gF hc_2 hF
          refine lv_aload_n hx hb dL_why_115 rfl (lv_at hl 3 rfl) ?_
          refine lv_iconst (v := 0) hx hb dL_why_116 (by decide) ?_
          refine g_iald2 (k := 0) hx hb hK hW (gok_o (by decide)) (gad_lt (gok_o (by decide))) gE_O5 (gin (by decide)) (by decide) dL_why_117 ?_
          refine lv_iconst (v := 3) hx hb dL_why_118 (by decide) ?_
          refine lv_icmp_ne (tgt := 126) hx hb dL_why_119 (by decide) (fun hc_3 => ?_) (fun hc_3 => ?_)
          · replace hF := gF hc_3 hF
            refine lv_iload hx hb dL_why_126 (lv_at hl 5 rfl) ?_
            refine lv_if_le (tgt := 135) hx hb dL_why_128 (by decide) (fun hc_4 => ?_) (fun hc_4 => ?_)
            · replace hF := gT hc_4 hF
              refine lv_aload_n hx hb dL_why_135 rfl (lv_at hl 3 rfl) ?_
              refine lv_iconst (v := 0) hx hb dL_why_136 (by decide) ?_
              refine g_iald2 (k := 0) hx hb hK hW (gok_o (by decide)) (gad_lt (gok_o (by decide))) gE_O5 (gin (by decide)) (by decide) dL_why_137 ?_
              refine lv_iconst (v := 1) hx hb dL_why_138 (by decide) ?_
              refine lv_icmp_ne (tgt := 151) hx hb dL_why_139 (by decide) (fun hc_5 => ?_) (fun hc_5 => ?_)
              · replace hF := gF hc_5 hF
                exact B_151  ls (lv_sub hl [] rfl) hF H locs hW hL
              · replace hF := gT hc_5 hF
                refine lv_iload hx hb dL_why_142 (lv_at hl 6 rfl) ?_
                refine lv_if_ne (tgt := 151) hx hb dL_why_144 (by decide) (fun hc_6 => ?_) (fun hc_6 => ?_)
                · replace hF := gF hc_6 hF
                  exact B_151  ls (lv_sub hl [] rfl) hF H locs hW hL
                · replace hF := gT hc_6 hF
                  refine lv_iconst (v := 1) hx hb dL_why_147 (by decide) ?_
                  refine lv_goto (tgt := 152) hx hb dL_why_148 (by decide) ?_
                  exact g_ri hx hb hr hlocks hW hL (Option.some.inj hF) dL_why_152
            · replace hF := gF hc_4 hF
              refine lv_iconst (v := 2) hx hb dL_why_131 (by decide) ?_
              refine lv_goto (tgt := 152) hx hb dL_why_132 (by decide) ?_
              exact g_ri hx hb hr hlocks hW hL (Option.some.inj hF) dL_why_152
          · replace hF := gT hc_3 hF
            refine lv_iconst (v := 0) hx hb dL_why_122 (by decide) ?_
            refine lv_goto (tgt := 152) hx hb dL_why_123 (by decide) ?_
            exact g_ri hx hb hr hlocks hW hL (Option.some.inj hF) dL_why_152
        · replace hF := gT hc_2 hF
          refine lv_iload hx hb dL_why_102 (lv_at hl 4 rfl) ?_
          refine lv_if_le (tgt := 111) hx hb dL_why_104 (by decide) (fun hc_7 => ?_) (fun hc_7 => ?_)
          · replace hF := gT hc_7 hF
            refine lv_iconst (v := 1) hx hb dL_why_111 (by decide) ?_
            refine lv_goto (tgt := 152) hx hb dL_why_112 (by decide) ?_
            exact g_ri hx hb hr hlocks hW hL (Option.some.inj hF) dL_why_152
          · replace hF := gF hc_7 hF
            refine lv_iconst (v := 0) hx hb dL_why_107 (by decide) ?_
            refine lv_goto (tgt := 152) hx hb dL_why_108 (by decide) ?_
            exact g_ri hx hb hr hlocks hW hL (Option.some.inj hF) dL_why_152
      · replace hF := gF hc_1 hF
        refine lv_iload hx hb dL_why_20 (lv_at hl 4 rfl) ?_
        refine lv_iconst (v := 1) hx hb dL_why_22 (by decide) ?_
        refine lv_aload_n hx hb dL_why_23 rfl (lv_at hl 0 rfl) ?_
        refine lv_iconst (v := 3) hx hb dL_why_24 (by decide) ?_
        refine lv_iload hx hb dL_why_25 (lv_at hl 7 rfl) ?_
        refine lv_imul hx hb dL_why_27 ?_
        refine lv_iconst (v := 2) hx hb dL_why_28 (by decide) ?_
        refine lv_iadd hx hb dL_why_29 ?_
        obtain ⟨hin_8, hF⟩ := gB_some hF
        obtain ⟨k_9, ek_9⟩ : ∃ k, k = Int32.toNatClampNeg (((3 * x7) + 2)) := ⟨_, rfl⟩
        rw [← ek_9] at hF
        refine g_iald2 (k := k_9) hx hb hK hW (gok_o (by decide)) (gad_lt (gok_o (by decide))) gE_O0 hin_8 ek_9.symm dL_why_30 ?_
        refine lv_isub hx hb dL_why_31 ?_
        refine lv_iadd hx hb dL_why_32 ?_
        obtain ⟨x4_10, ex4_10, hF⟩ := gS_some hF
        refine g_top ex4_10 ?_
        refine lv_istore (lv' := [(4, .int x4_10), (0, .ref (gA X 8 0)), (1, .ref (gA X 8 1)), (2, .ref (gA X 8 2)), (3, .ref (gA X 8 5)), (5, .int x5), (6, .int x6), (7, .int x7)]) hx hb dL_why_33 hl (by decide) rfl (fun ls hl => ?_)
        refine lv_iload hx hb dL_why_35 (lv_at hl 5 rfl) ?_
        refine lv_aload_n hx hb dL_why_37 rfl (lv_at hl 1 rfl) ?_
        refine lv_aload_n hx hb dL_why_38 rfl (lv_at hl 2 rfl) ?_
        refine lv_aload_n hx hb dL_why_39 rfl (lv_at hl 3 rfl) ?_
        refine lv_aload_n hx hb dL_why_40 rfl (lv_at hl 4 rfl) ?_
        refine lv_iload hx hb dL_why_41 (lv_at hl 7 rfl) ?_
        obtain ⟨v_12, hq_11, hF⟩ := gP_some hF
        refine g_Si (As := [.ref (gA X 8 0), .ref (gA X 8 1), .ref (gA X 8 2), .ref (gA X 8 5), .int x7]) (rest := [.int x5]) ⟨hx, hb, hml, hown, hts⟩ hK hW hL hl.1 (c_L_isAsked l X w x7 v_12 hq_11) k23 rfl rfl (Nat.le_of_ble_eq_true rfl) dL_why_43 ⟨Nat.le_of_ble_eq_true rfl, Nat.le_of_ble_eq_true rfl⟩ (fun H locs hW hL => ?_)
        refine lv_if_eq (tgt := 64) hx hb dL_why_46 (by decide) (fun hc_13 => ?_) (fun hc_13 => ?_)
        · replace hF := gT hc_13 hF
          exact B_64 x4_10 x6 x7 x5 ls (lv_sub hl [1, 2, 3, 4, 0, 6, 7] rfl) hF H locs hW hL
        · replace hF := gF hc_13 hF
          refine lv_aload_n hx hb dL_why_49 rfl (lv_at hl 2 rfl) ?_
          refine lv_aload_n hx hb dL_why_50 rfl (lv_at hl 3 rfl) ?_
          refine lv_aload_n hx hb dL_why_51 rfl (lv_at hl 4 rfl) ?_
          refine lv_iload hx hb dL_why_52 (lv_at hl 7 rfl) ?_
          obtain ⟨v_15, hq_14, hF⟩ := gP_some hF
          refine g_Si (As := [.ref (gA X 8 1), .ref (gA X 8 2), .ref (gA X 8 5), .int x7]) (rest := [.int x5]) ⟨hx, hb, hml, hown, hts⟩ hK hW hL hl.1 (c_L_time l X w x7 v_15 hq_14) k27 rfl rfl (Nat.le_of_ble_eq_true rfl) dL_why_54 ⟨Nat.le_of_ble_eq_true rfl, Nat.le_of_ble_eq_true rfl⟩ (fun H locs hW hL => ?_)
          refine lv_if_ne (tgt := 64) hx hb dL_why_57 (by decide) (fun hc_16 => ?_) (fun hc_16 => ?_)
          · replace hF := gF hc_16 hF
            exact B_64 x4_10 x6 x7 x5 ls (lv_sub hl [1, 2, 3, 4, 0, 6, 7] rfl) hF H locs hW hL
          · replace hF := gT hc_16 hF
            refine lv_iconst (v := 1) hx hb dL_why_60 (by decide) ?_
            refine lv_goto (tgt := 65) hx hb dL_why_61 (by decide) ?_
            exact B_65 x4_10 x6 x7 1 x5 ls (lv_sub hl [1, 2, 3, 4, 0, 6, 7] rfl) hF H locs hW hL
  rw [F_L_why] at hF
  obtain ⟨locs, hlocs⟩ : ∃ locs : List Loc, locs = [] := ⟨_, rfl⟩
  rw [← hlocs] at hL ⊢
  refine lv_iconst (v := 0) hx hb dL_why_0 (by decide) ?_
  refine lv_istore (lv' := [(4, .int 0), (0, .ref (gA X 8 0)), (1, .ref (gA X 8 1)), (2, .ref (gA X 8 2)), (3, .ref (gA X 8 5))]) hx hb dL_why_1 hl (by decide) rfl (fun ls hl => ?_)
  refine lv_iconst (v := 0) hx hb dL_why_3 (by decide) ?_
  refine lv_istore (lv' := [(5, .int 0), (4, .int 0), (0, .ref (gA X 8 0)), (1, .ref (gA X 8 1)), (2, .ref (gA X 8 2)), (3, .ref (gA X 8 5))]) hx hb dL_why_4 hl (by decide) rfl (fun ls hl => ?_)
  refine lv_iconst (v := 0) hx hb dL_why_6 (by decide) ?_
  refine lv_istore (lv' := [(6, .int 0), (5, .int 0), (4, .int 0), (0, .ref (gA X 8 0)), (1, .ref (gA X 8 1)), (2, .ref (gA X 8 2)), (3, .ref (gA X 8 5))]) hx hb dL_why_7 hl (by decide) rfl (fun ls hl => ?_)
  refine lv_iconst (v := 0) hx hb dL_why_9 (by decide) ?_
  refine lv_istore (lv' := [(7, .int 0), (6, .int 0), (5, .int 0), (4, .int 0), (0, .ref (gA X 8 0)), (1, .ref (gA X 8 1)), (2, .ref (gA X 8 2)), (3, .ref (gA X 8 5))]) hx hb dL_why_10 hl (by decide) rfl (fun ls hl => ?_)
  exact L_12 gFU 0 0 0 0 ls (lv_sub hl [4, 5, 6, 7, 3, 2, 1, 0] rfl) hF H locs hW hL
