abbrev rmX12_in : Room := { frames := 0, cells := 0, slots := 0, locals := 0 }
abbrev wsX12_in : List Cond := gws yX12_in cX12_in 3 (some .boolean)
set_option maxHeartbeats 4000000 in
set_option maxRecDepth 100000 in
theorem c_X12_in (l : Launch) (X : gX) (w : gWd) (x0 : Int32) (x1 : Int32) (x2 : Int32) (r : Int32) (hF : F_X12_in w x0 x1 x2 = some r) : Met l yX12_in wsX12_in rmX12_in (gPc X [.int x0, .int x1, .int x2] w) (gQi X r w) 0 0 (gFr X) := by
  refine g_ofW (cc := cX12_in) (maxL := 3) (ret := (some .boolean)) (by decide) rfl (Nat.le_of_ble_eq_true rfl) (fun p e s m args below meth c ls H hx hb hr hts hown hlocks hml hK hl hW => ?_)
  have hl : lv_has ls 3 [(0, .int x0), (1, .int x1), (2, .int x2)] := hl
  have hown : s.vm.findClass RX12 = some m.cls := hown
  have hL : gLo X [] := gLo_nil
  show W p l e rmX12_in s m args below meth c H [] 0 0 _ _
  have B_14 : ∀   (ls : Array Slot) (hl : lv_has ls 3 []) (hF : F_X12_in_14 w = some r) (H : Heap) (locs : List Loc) (hW : gWo X 251 (gE X w) H) (hL : gLo X locs), W p l e rmX12_in s m args below meth c H locs 0 0 (MQ below (gQi X r w) args s 0 0 (gFr X)) (F0 m 14 ls []) := by
    intro ls hl hF H locs hW hL
    rw [F_X12_in_14] at hF
    refine lv_iconst (v := 0) hx hb dX12_in_14 (by decide) ?_
    exact g_rz hx hb hr hlocks hW hL (Or.inl rfl) (Option.some.inj hF) dX12_in_15
  rw [F_X12_in] at hF
  obtain ⟨locs, hlocs⟩ : ∃ locs : List Loc, locs = [] := ⟨_, rfl⟩
  rw [← hlocs] at hL ⊢
  refine lv_iload_n hx hb dX12_in_0 rfl (lv_at hl 0 rfl) ?_
  refine lv_iload_n hx hb dX12_in_1 rfl (lv_at hl 1 rfl) ?_
  refine lv_icmp_lt (tgt := 14) hx hb dX12_in_2 (by decide) (fun hc_1 => ?_) (fun hc_1 => ?_)
  · replace hF := gT hc_1 hF
    exact B_14  ls (lv_sub hl [] rfl) hF H locs hW hL
  · replace hF := gF hc_1 hF
    refine lv_iload_n hx hb dX12_in_5 rfl (lv_at hl 0 rfl) ?_
    refine lv_iload_n hx hb dX12_in_6 rfl (lv_at hl 2 rfl) ?_
    refine lv_icmp_gt (tgt := 14) hx hb dX12_in_7 (by decide) (fun hc_2 => ?_) (fun hc_2 => ?_)
    · replace hF := gT hc_2 hF
      exact B_14  ls (lv_sub hl [] rfl) hF H locs hW hL
    · replace hF := gF hc_2 hF
      refine lv_iconst (v := 1) hx hb dX12_in_10 (by decide) ?_
      refine lv_goto (tgt := 15) hx hb dX12_in_11 (by decide) ?_
      exact g_rz hx hb hr hlocks hW hL (Or.inr rfl) (Option.some.inj hF) dX12_in_15
abbrev rmX12_copies : Room := { frames := 0, cells := 0, slots := 0, locals := 0 }
abbrev wsX12_copies : List Cond := gws yX12_copies cX12_copies 3 none
set_option maxHeartbeats 4000000 in
set_option maxRecDepth 100000 in
theorem c_X12_copies (l : Launch) (X : gX) (w : gWd) (r0 : Nat) (hr0 : r0 = 1 ∨ r0 = 3) (r1 : Nat) (hr1 : r1 = 1 ∨ r1 = 3) (w' : gWd) (hF : F_X12_copies w r0 r1 = some w') : Met l yX12_copies wsX12_copies rmX12_copies (gPc X [.ref (gA X 8 r0), .ref (gA X 8 r1)] w) (gQv X w') 0 0 (gFr X) := by
  refine g_ofW (cc := cX12_copies) (maxL := 3) (ret := none) (by decide) rfl (Nat.le_of_ble_eq_true rfl) (fun p e s m args below meth c ls H hx hb hr hts hown hlocks hml hK hl hW => ?_)
  have hl : lv_has ls 3 [(0, .ref (gA X 8 r0)), (1, .ref (gA X 8 r1))] := hl
  have hown : s.vm.findClass RX12 = some m.cls := hown
  have hL : gLo X [] := gLo_nil
  show W p l e rmX12_copies s m args below meth c H [] 0 0 _ _
  have L_2 : ∀ (fu : Nat) (w : gWd) (r0 : Nat) (r1 : Nat) (x2 : Int32) (hr0 : r0 = 1 ∨ r0 = 3) (hr1 : r1 = 1 ∨ r1 = 3) (ls : Array Slot) (hl : lv_has ls 3 [(0, .ref (gA X 8 r0)), (1, .ref (gA X 8 r1)), (2, .int x2)]) (hF : F_X12_copies_2 fu w r0 r1 x2 = some w') (H : Heap) (locs : List Loc) (hW : gWo X 251 (gE X w) H) (hL : gLo X locs), W p l e rmX12_copies s m args below meth c H locs 0 0 (MQ below (gQv X w') args s 0 0 (gFr X)) (F0 m 2 ls []) := by
    intro fu
    induction fu with
    | zero => intro w r0 r1 x2 hr0 hr1 ls hl hF H locs hW hL; rw [F_X12_copies_2_z] at hF; cases hF
    | succ fu2 ih2 =>
      intro w r0 r1 x2 hr0 hr1 ls hl hF H locs hW hL
      rw [F_X12_copies_2_s] at hF
      refine lv_iload_n hx hb dX12_copies_2 rfl (lv_at hl 2 rfl) ?_
      refine lv_sipush (v := 320) hx hb dX12_copies_3 (by decide) ?_
      refine lv_icmp_ge (tgt := 21) hx hb dX12_copies_6 (by decide) (fun hc_1 => ?_) (fun hc_1 => ?_)
      · replace hF := gT hc_1 hF
        exact g_rv hx hb hr hlocks (gW1 hF hW) hL dX12_copies_21
      · replace hF := gF hc_1 hF
        refine lv_aload_n hx hb dX12_copies_9 rfl (lv_at hl 1 rfl) ?_
        refine lv_iload_n hx hb dX12_copies_10 rfl (lv_at hl 2 rfl) ?_
        refine lv_aload_n hx hb dX12_copies_11 rfl (lv_at hl 0 rfl) ?_
        refine lv_iload_n hx hb dX12_copies_12 rfl (lv_at hl 2 rfl) ?_
        obtain ⟨hin_2, hF⟩ := gB_some hF
        obtain ⟨k_3, ek_3⟩ : ∃ k, k = Int32.toNatClampNeg x2 := ⟨_, rfl⟩
        rw [← ek_3] at hF
        refine g_iald2 (k := k_3) hx hb hK hW (gok_a hr0) (gad_lt (gok_a hr0)) (gE_Oa hr0) hin_2 ek_3.symm dX12_copies_13 ?_
        obtain ⟨hin_4, hF⟩ := gB_some hF
        obtain ⟨k_5, ek_5⟩ : ∃ k, k = Int32.toNatClampNeg x2 := ⟨_, rfl⟩
        rw [← ek_5] at hF
        obtain ⟨w_6, ew_6, hF⟩ := gS_some hF
        refine g_iast2 (k := k_5) hx hb hK hW hL (gok_a hr1) (fun w => gE_Oa (w := w) hr1) hin_4 ek_5.symm dX12_copies_14 (fun H locs hW hL => ?_)
        rw [← ew_6] at hW
        obtain ⟨x2_7, ex2_7, hF⟩ := gS_some hF
        refine lv_iinc (v := x2_7) (lv' := [(2, .int x2_7), (0, .ref (gA X 8 r0)), (1, .ref (gA X 8 r1))]) hx hb dX12_copies_15 hl (k := 2) rfl (by rw [ex2_7]; rfl) (by decide) rfl (fun ls hl => ?_)
        refine lv_goto (tgt := 2) hx hb dX12_copies_18 (by decide) ?_
        exact ih2 w_6 r0 r1 x2_7 hr0 hr1 ls (lv_sub hl [1, 2, 0] rfl) hF H locs hW hL
  rw [F_X12_copies] at hF
  obtain ⟨locs, hlocs⟩ : ∃ locs : List Loc, locs = [] := ⟨_, rfl⟩
  rw [← hlocs] at hL ⊢
  refine lv_iconst (v := 0) hx hb dX12_copies_0 (by decide) ?_
  refine lv_istore_n (lv' := [(2, .int 0), (0, .ref (gA X 8 r0)), (1, .ref (gA X 8 r1))]) hx hb dX12_copies_1 rfl hl (by decide) rfl (fun ls hl => ?_)
  exact L_2 gFU w r0 r1 0 hr0 hr1 ls (lv_sub hl [1, 2, 0] rfl) hF H locs hW hL
abbrev rmX12_changes : Room := { frames := 0, cells := 0, slots := 0, locals := 0 }
abbrev wsX12_changes : List Cond := gws yX12_changes cX12_changes 2 none
set_option maxHeartbeats 4000000 in
set_option maxRecDepth 100000 in
theorem c_X12_changes (l : Launch) (X : gX) (w : gWd)  (w' : gWd) (hF : F_X12_changes w = some w') : Met l yX12_changes wsX12_changes rmX12_changes (gPc X [.ref (gA X 8 0)] w) (gQv X w') 0 0 (gFr X) := by
  refine g_ofW (cc := cX12_changes) (maxL := 2) (ret := none) (by decide) rfl (Nat.le_of_ble_eq_true rfl) (fun p e s m args below meth c ls H hx hb hr hts hown hlocks hml hK hl hW => ?_)
  have hl : lv_has ls 2 [(0, .ref (gA X 8 0))] := hl
  have hown : s.vm.findClass RX12 = some m.cls := hown
  have hL : gLo X [] := gLo_nil
  show W p l e rmX12_changes s m args below meth c H [] 0 0 _ _
  have inX12 : ∀ w ∈ wsX120, w ∈ wsX12_changes := fun w h => List.mem_cons_of_mem _ (inlX12 w h)
  have q13 := hts _ (List.mem_cons_of_mem _ wq_X12_13)
  have q28 := hts _ (List.mem_cons_of_mem _ wq_X12_28)
  have q32 := hts _ (List.mem_cons_of_mem _ wq_X12_32)
  have q7 := hts _ (List.mem_cons_of_mem _ wq_X12_7)
  have L_59 : ∀ (fu : Nat) (w : gWd) (x1 : Int32)  (ls : Array Slot) (hl : lv_has ls 2 [(0, .ref (gA X 8 0)), (1, .int x1)]) (hF : F_X12_changes_59 fu w x1 = some w') (H : Heap) (locs : List Loc) (hW : gWo X 251 (gE X w) H) (hL : gLo X locs), W p l e rmX12_changes s m args below meth c H locs 0 0 (MQ below (gQv X w') args s 0 0 (gFr X)) (F0 m 59 ls []) := by
    intro fu
    induction fu with
    | zero => intro w x1 ls hl hF H locs hW hL; rw [F_X12_changes_59_z] at hF; cases hF
    | succ fu59 ih59 =>
      intro w x1 ls hl hF H locs hW hL
      rw [F_X12_changes_59_s] at hF
      refine lv_iload_n hx hb dX12_changes_59 rfl (lv_at hl 1 rfl) ?_
      refine lv_sipush (v := 320) hx hb dX12_changes_60 (by decide) ?_
      refine lv_icmp_ge (tgt := 93) hx hb dX12_changes_63 (by decide) (fun hc_9 => ?_) (fun hc_9 => ?_)
      · replace hF := gT hc_9 hF
        refine lv_aload_n hx hb dX12_changes_93 rfl (lv_at hl 0 rfl) ?_
        refine lv_dup hx hb dX12_changes_94 rfl ?_
        refine rg_X12_pasts hx hb hts inX12 hown hK hW q32 dX12_changes_95 ?_
        refine lv_iconst (v := 1) hx hb dX12_changes_98 (by decide) ?_
        refine lv_iadd hx hb dX12_changes_99 ?_
        obtain ⟨w_10, ew_10, hF⟩ := gS_some hF
        refine rp_X12_pasts hx hb hts inX12 hown hK hW hL q32 dX12_changes_100 (fun H locs hW hL => ?_)
        rw [← ew_10] at hW
        exact g_rv hx hb hr hlocks (gW1 hF hW) hL dX12_changes_103
      · replace hF := gF hc_9 hF
        refine lv_aload_n hx hb dX12_changes_66 rfl (lv_at hl 0 rfl) ?_
        refine rg_X12_past hx hb hts inX12 hown hK hW q13 dX12_changes_67 ?_
        refine lv_sipush (v := 320) hx hb dX12_changes_70 (by decide) ?_
        refine lv_aload_n hx hb dX12_changes_73 rfl (lv_at hl 0 rfl) ?_
        refine rg_X12_pasts hx hb hts inX12 hown hK hW q32 dX12_changes_74 ?_
        refine lv_imul hx hb dX12_changes_77 ?_
        refine lv_iload_n hx hb dX12_changes_78 rfl (lv_at hl 1 rfl) ?_
        refine lv_iadd hx hb dX12_changes_79 ?_
        refine lv_aload_n hx hb dX12_changes_80 rfl (lv_at hl 0 rfl) ?_
        refine rg_X12_s hx hb hts inX12 hown hK hW q7 dX12_changes_81 ?_
        refine lv_iload_n hx hb dX12_changes_84 rfl (lv_at hl 1 rfl) ?_
        obtain ⟨hin_11, hF⟩ := gB_some hF
        obtain ⟨k_12, ek_12⟩ : ∃ k, k = Int32.toNatClampNeg x1 := ⟨_, rfl⟩
        rw [← ek_12] at hF
        refine g_iald2 (k := k_12) hx hb hK hW (gok_o (by decide)) (gad_lt (gok_o (by decide))) gE_O1 hin_11 ek_12.symm dX12_changes_85 ?_
        obtain ⟨hin_13, hF⟩ := gB_some hF
        obtain ⟨k_14, ek_14⟩ : ∃ k, k = Int32.toNatClampNeg (((320 * (w 8 0 3)) + x1)) := ⟨_, rfl⟩
        rw [← ek_14] at hF
        obtain ⟨w_15, ew_15, hF⟩ := gS_some hF
        refine g_iast2 (k := k_14) hx hb hK hW hL (gok_o (by decide)) (fun w => gE_O2 (w := w)) hin_13 ek_14.symm dX12_changes_86 (fun H locs hW hL => ?_)
        rw [← ew_15] at hW
        obtain ⟨x1_16, ex1_16, hF⟩ := gS_some hF
        refine lv_iinc (v := x1_16) (lv' := [(1, .int x1_16), (0, .ref (gA X 8 0))]) hx hb dX12_changes_87 hl (k := 1) rfl (by rw [ex1_16]; rfl) (by decide) rfl (fun ls hl => ?_)
        refine lv_goto (tgt := 59) hx hb dX12_changes_90 (by decide) ?_
        exact ih59 w_15 x1_16 ls (lv_sub hl [1, 0] rfl) hF H locs hW hL
  have L_18 : ∀ (fu : Nat) (w : gWd) (x1 : Int32)  (ls : Array Slot) (hl : lv_has ls 2 [(0, .ref (gA X 8 0)), (1, .int x1)]) (hF : F_X12_changes_18 fu w x1 = some w') (H : Heap) (locs : List Loc) (hW : gWo X 251 (gE X w) H) (hL : gLo X locs), W p l e rmX12_changes s m args below meth c H locs 0 0 (MQ below (gQv X w') args s 0 0 (gFr X)) (F0 m 18 ls []) := by
    intro fu
    induction fu with
    | zero => intro w x1 ls hl hF H locs hW hL; rw [F_X12_changes_18_z] at hF; cases hF
    | succ fu18 ih18 =>
      intro w x1 ls hl hF H locs hW hL
      rw [F_X12_changes_18_s] at hF
      refine lv_iload_n hx hb dX12_changes_18 rfl (lv_at hl 1 rfl) ?_
      refine lv_sipush (v := 960) hx hb dX12_changes_19 (by decide) ?_
      refine lv_icmp_ge (tgt := 47) hx hb dX12_changes_22 (by decide) (fun hc_1 => ?_) (fun hc_1 => ?_)
      · replace hF := gT hc_1 hF
        refine lv_aload_n hx hb dX12_changes_47 rfl (lv_at hl 0 rfl) ?_
        refine lv_dup hx hb dX12_changes_48 rfl ?_
        refine rg_X12_pasts hx hb hts inX12 hown hK hW q32 dX12_changes_49 ?_
        refine lv_iconst (v := 1) hx hb dX12_changes_52 (by decide) ?_
        refine lv_isub hx hb dX12_changes_53 ?_
        obtain ⟨w_2, ew_2, hF⟩ := gS_some hF
        refine rp_X12_pasts hx hb hts inX12 hown hK hW hL q32 dX12_changes_54 (fun H locs hW hL => ?_)
        rw [← ew_2] at hW
        refine lv_iconst (v := 0) hx hb dX12_changes_57 (by decide) ?_
        refine lv_istore_n (lv' := [(1, .int 0), (0, .ref (gA X 8 0))]) hx hb dX12_changes_58 rfl hl (by decide) rfl (fun ls hl => ?_)
        exact L_59 gFU w_2 0 ls (lv_sub hl [1, 0] rfl) hF H locs hW hL
      · replace hF := gF hc_1 hF
        refine lv_aload_n hx hb dX12_changes_25 rfl (lv_at hl 0 rfl) ?_
        refine rg_X12_past hx hb hts inX12 hown hK hW q13 dX12_changes_26 ?_
        refine lv_iload_n hx hb dX12_changes_29 rfl (lv_at hl 1 rfl) ?_
        refine lv_aload_n hx hb dX12_changes_30 rfl (lv_at hl 0 rfl) ?_
        refine rg_X12_past hx hb hts inX12 hown hK hW q13 dX12_changes_31 ?_
        refine lv_iload_n hx hb dX12_changes_34 rfl (lv_at hl 1 rfl) ?_
        refine lv_sipush (v := 320) hx hb dX12_changes_35 (by decide) ?_
        refine lv_iadd hx hb dX12_changes_38 ?_
        obtain ⟨hin_3, hF⟩ := gB_some hF
        obtain ⟨k_4, ek_4⟩ : ∃ k, k = Int32.toNatClampNeg ((x1 + 320)) := ⟨_, rfl⟩
        rw [← ek_4] at hF
        refine g_iald2 (k := k_4) hx hb hK hW (gok_o (by decide)) (gad_lt (gok_o (by decide))) gE_O2 hin_3 ek_4.symm dX12_changes_39 ?_
        obtain ⟨hin_5, hF⟩ := gB_some hF
        obtain ⟨k_6, ek_6⟩ : ∃ k, k = Int32.toNatClampNeg x1 := ⟨_, rfl⟩
        rw [← ek_6] at hF
        obtain ⟨w_7, ew_7, hF⟩ := gS_some hF
        refine g_iast2 (k := k_6) hx hb hK hW hL (gok_o (by decide)) (fun w => gE_O2 (w := w)) hin_5 ek_6.symm dX12_changes_40 (fun H locs hW hL => ?_)
        rw [← ew_7] at hW
        obtain ⟨x1_8, ex1_8, hF⟩ := gS_some hF
        refine lv_iinc (v := x1_8) (lv' := [(1, .int x1_8), (0, .ref (gA X 8 0))]) hx hb dX12_changes_41 hl (k := 1) rfl (by rw [ex1_8]; rfl) (by decide) rfl (fun ls hl => ?_)
        refine lv_goto (tgt := 18) hx hb dX12_changes_44 (by decide) ?_
        exact ih18 w_7 x1_8 ls (lv_sub hl [1, 0] rfl) hF H locs hW hL
  rw [F_X12_changes] at hF
  obtain ⟨locs, hlocs⟩ : ∃ locs : List Loc, locs = [] := ⟨_, rfl⟩
  rw [← hlocs] at hL ⊢
  refine lv_aload_n hx hb dX12_changes_0 rfl (lv_at hl 0 rfl) ?_
  refine rg_X12_runs hx hb hts inX12 hown hK hW q28 dX12_changes_1 ?_
  refine lv_if_eq (tgt := 8) hx hb dX12_changes_4 (by decide) (fun hc_17 => ?_) (fun hc_17 => ?_)
  · replace hF := gT hc_17 hF
    refine lv_aload_n hx hb dX12_changes_8 rfl (lv_at hl 0 rfl) ?_
    refine rg_X12_pasts hx hb hts inX12 hown hK hW q32 dX12_changes_9 ?_
    refine lv_iconst (v := 4) hx hb dX12_changes_12 (by decide) ?_
    refine lv_icmp_ne (tgt := 57) hx hb dX12_changes_13 (by decide) (fun hc_18 => ?_) (fun hc_18 => ?_)
    · replace hF := gF hc_18 hF
      refine lv_iconst (v := 0) hx hb dX12_changes_57 (by decide) ?_
      refine lv_istore_n (lv' := [(1, .int 0), (0, .ref (gA X 8 0))]) hx hb dX12_changes_58 rfl hl (by decide) rfl (fun ls hl => ?_)
      exact L_59 gFU w 0 ls (lv_sub hl [1, 0] rfl) hF H locs hW hL
    · replace hF := gT hc_18 hF
      refine lv_iconst (v := 0) hx hb dX12_changes_16 (by decide) ?_
      refine lv_istore_n (lv' := [(1, .int 0), (0, .ref (gA X 8 0))]) hx hb dX12_changes_17 rfl hl (by decide) rfl (fun ls hl => ?_)
      exact L_18 gFU w 0 ls (lv_sub hl [1, 0] rfl) hF H locs hW hL
  · replace hF := gF hc_17 hF
    exact g_rv hx hb hr hlocks (gW1 hF hW) hL dX12_changes_7
abbrev rmX12_of : Room := { frames := 0, cells := 0, slots := 0, locals := 0 }
abbrev wsX12_of : List Cond := gws yX12_of cX12_of 3 (some .int)
set_option maxHeartbeats 4000000 in
set_option maxRecDepth 100000 in
theorem c_X12_of (l : Launch) (X : gX) (w : gWd) (x1 : Int32) (x2 : Int32) (r : Int32) (hF : F_X12_of w x1 x2 = some r) : Met l yX12_of wsX12_of rmX12_of (gPc X [.ref (gA X 8 0), .int x1, .int x2] w) (gQi X r w) 0 0 (gFr X) := by
  refine g_ofW (cc := cX12_of) (maxL := 3) (ret := (some .int)) (by decide) rfl (Nat.le_of_ble_eq_true rfl) (fun p e s m args below meth c ls H hx hb hr hts hown hlocks hml hK hl hW => ?_)
  have hl : lv_has ls 3 [(0, .ref (gA X 8 0)), (1, .int x1), (2, .int x2)] := hl
  have hown : s.vm.findClass RX12 = some m.cls := hown
  have hL : gLo X [] := gLo_nil
  show W p l e rmX12_of s m args below meth c H [] 0 0 _ _
  have inX12 : ∀ w ∈ wsX120, w ∈ wsX12_of := fun w h => List.mem_cons_of_mem _ (inlX12 w h)
  have q7 := hts _ (List.mem_cons_of_mem _ wq_X12_7)
  rw [F_X12_of] at hF
  obtain ⟨locs, hlocs⟩ : ∃ locs : List Loc, locs = [] := ⟨_, rfl⟩
  rw [← hlocs] at hL ⊢
  refine lv_aload_n hx hb dX12_of_0 rfl (lv_at hl 0 rfl) ?_
  refine rg_X12_s hx hb hts inX12 hown hK hW q7 dX12_of_1 ?_
  refine lv_bipush (v := 10) hx hb dX12_of_4 (by decide) ?_
  refine lv_iload_n hx hb dX12_of_6 rfl (lv_at hl 1 rfl) ?_
  refine lv_imul hx hb dX12_of_7 ?_
  refine lv_iload_n hx hb dX12_of_8 rfl (lv_at hl 2 rfl) ?_
  refine lv_iadd hx hb dX12_of_9 ?_
  obtain ⟨hin_1, hF⟩ := gB_some hF
  obtain ⟨k_2, ek_2⟩ : ∃ k, k = Int32.toNatClampNeg (((10 * x1) + x2)) := ⟨_, rfl⟩
  rw [← ek_2] at hF
  refine g_iald2 (k := k_2) hx hb hK hW (gok_o (by decide)) (gad_lt (gok_o (by decide))) gE_O1 hin_1 ek_2.symm dX12_of_10 ?_
  exact g_ri hx hb hr hlocks hW hL (Option.some.inj hF) dX12_of_11
abbrev rmX12_lay : Room := { frames := 0, cells := 0, slots := 0, locals := 0 }
abbrev wsX12_lay : List Cond := gws yX12_lay cX12_lay 4 none
set_option maxHeartbeats 4000000 in
set_option maxRecDepth 100000 in
theorem c_X12_lay (l : Launch) (X : gX) (w : gWd) (x1 : Int32) (x2 : Int32) (x3 : Int32) (w' : gWd) (hF : F_X12_lay w x1 x2 x3 = some w') : Met l yX12_lay wsX12_lay rmX12_lay (gPc X [.ref (gA X 8 0), .int x1, .int x2, .int x3] w) (gQv X w') 0 0 (gFr X) := by
  refine g_ofW (cc := cX12_lay) (maxL := 4) (ret := none) (by decide) rfl (Nat.le_of_ble_eq_true rfl) (fun p e s m args below meth c ls H hx hb hr hts hown hlocks hml hK hl hW => ?_)
  have hl : lv_has ls 4 [(0, .ref (gA X 8 0)), (1, .int x1), (2, .int x2), (3, .int x3)] := hl
  have hown : s.vm.findClass RX12 = some m.cls := hown
  have hL : gLo X [] := gLo_nil
  show W p l e rmX12_lay s m args below meth c H [] 0 0 _ _
  have inX12 : ∀ w ∈ wsX120, w ∈ wsX12_lay := fun w h => List.mem_cons_of_mem _ (inlX12 w h)
  have q7 := hts _ (List.mem_cons_of_mem _ wq_X12_7)
  rw [F_X12_lay] at hF
  obtain ⟨locs, hlocs⟩ : ∃ locs : List Loc, locs = [] := ⟨_, rfl⟩
  rw [← hlocs] at hL ⊢
  refine lv_aload_n hx hb dX12_lay_0 rfl (lv_at hl 0 rfl) ?_
  refine rg_X12_s hx hb hts inX12 hown hK hW q7 dX12_lay_1 ?_
  refine lv_bipush (v := 10) hx hb dX12_lay_4 (by decide) ?_
  refine lv_iload_n hx hb dX12_lay_6 rfl (lv_at hl 1 rfl) ?_
  refine lv_imul hx hb dX12_lay_7 ?_
  refine lv_iload_n hx hb dX12_lay_8 rfl (lv_at hl 2 rfl) ?_
  refine lv_iadd hx hb dX12_lay_9 ?_
  refine lv_iload_n hx hb dX12_lay_10 rfl (lv_at hl 3 rfl) ?_
  obtain ⟨hin_1, hF⟩ := gB_some hF
  obtain ⟨k_2, ek_2⟩ : ∃ k, k = Int32.toNatClampNeg (((10 * x1) + x2)) := ⟨_, rfl⟩
  rw [← ek_2] at hF
  obtain ⟨w_3, ew_3, hF⟩ := gS_some hF
  refine g_iast2 (k := k_2) hx hb hK hW hL (gok_o (by decide)) (fun w => gE_O1 (w := w)) hin_1 ek_2.symm dX12_lay_11 (fun H locs hW hL => ?_)
  rw [← ew_3] at hW
  exact g_rv hx hb hr hlocks (gW1 hF hW) hL dX12_lay_12
abbrev rmX12_isSwimmer : Room := { frames := 1, cells := 0, slots := 0, locals := 22 }
abbrev wsX12_isSwimmer : List Cond := gws yX12_isSwimmer cX12_isSwimmer 2 (some .boolean)
set_option maxHeartbeats 4000000 in
set_option maxRecDepth 100000 in
theorem c_X12_isSwimmer (l : Launch) (X : gX) (w : gWd) (x1 : Int32) (r : Int32) (hF : F_X12_isSwimmer w x1 = some r) : Met l yX12_isSwimmer wsX12_isSwimmer rmX12_isSwimmer (gPc X [.ref (gA X 8 0), .int x1] w) (gQi X r w) 0 0 (gFr X) := by
  refine g_ofW (cc := cX12_isSwimmer) (maxL := 2) (ret := (some .boolean)) (by decide) rfl (Nat.le_of_ble_eq_true rfl) (fun p e s m args below meth c ls H hx hb hr hts hown hlocks hml hK hl hW => ?_)
  have hl : lv_has ls 2 [(0, .ref (gA X 8 0)), (1, .int x1)] := hl
  have hown : s.vm.findClass RX12 = some m.cls := hown
  have hL : gLo X [] := gLo_nil
  show W p l e rmX12_isSwimmer s m args below meth c H [] 0 0 _ _
  have inX12 : ∀ w ∈ wsX120, w ∈ wsX12_isSwimmer := fun w h => List.mem_cons_of_mem _ (inlX12 w h)
  have q7 := hts _ (List.mem_cons_of_mem _ wq_X12_7)
  have k36 : CallB rmX12_isSwimmer s args RX12 36 yX12_in cX12_in 3 (some .boolean) wsX12_in rmX12_in 0 0 3 ∧ (Cond.static yX12_in).before args s = true := va_cwS 3 hts (gGoodS (fun w h => List.mem_cons_of_mem _ h) wk_X12_36) rfl rfl rfl (by decide +kernel) ⟨Nat.le_of_ble_eq_true rfl, Nat.le_of_ble_eq_true rfl⟩
  rw [F_X12_isSwimmer] at hF
  obtain ⟨locs, hlocs⟩ : ∃ locs : List Loc, locs = [] := ⟨_, rfl⟩
  rw [← hlocs] at hL ⊢
  refine lv_iload_n hx hb dX12_isSwimmer_0 rfl (lv_at hl 1 rfl) ?_
  refine lv_iconst (v := 0) hx hb dX12_isSwimmer_1 (by decide) ?_
  refine lv_aload_n hx hb dX12_isSwimmer_2 rfl (lv_at hl 0 rfl) ?_
  refine rg_X12_s hx hb hts inX12 hown hK hW q7 dX12_isSwimmer_3 ?_
  refine lv_sipush (v := 311) hx hb dX12_isSwimmer_6 (by decide) ?_
  refine g_iald2 (k := 311) hx hb hK hW (gok_o (by decide)) (gad_lt (gok_o (by decide))) gE_O1 (gin (by decide)) (by decide) dX12_isSwimmer_9 ?_
  refine lv_iconst (v := 1) hx hb dX12_isSwimmer_10 (by decide) ?_
  refine lv_isub hx hb dX12_isSwimmer_11 ?_
  obtain ⟨v_2, hq_1, hF⟩ := gP_some hF
  refine g_Si (As := [.int x1, .int 0, .int ((w 8 1 311) - 1)]) (rest := []) ⟨hx, hb, hml, hown, hts⟩ hK hW hL hl.1 (c_X12_in l X w x1 0 (((w 8 1 311) - 1)) v_2 hq_1) k36 rfl rfl (Nat.le_of_ble_eq_true rfl) dX12_isSwimmer_12 ⟨Nat.le_of_ble_eq_true rfl, Nat.le_of_ble_eq_true rfl⟩ (fun H locs hW hL => ?_)
  obtain ⟨hz_3, hF⟩ := gZ_some hF
  exact g_rz hx hb hr hlocks hW hL hz_3 (Option.some.inj hF) dX12_isSwimmer_15
abbrev rmX12_isGone : Room := { frames := 1, cells := 0, slots := 0, locals := 22 }
abbrev wsX12_isGone : List Cond := gws yX12_isGone cX12_isGone 2 (some .boolean)
set_option maxHeartbeats 4000000 in
set_option maxRecDepth 100000 in
theorem c_X12_isGone (l : Launch) (X : gX) (w : gWd) (x1 : Int32) (r : Int32) (hF : F_X12_isGone w x1 = some r) : Met l yX12_isGone wsX12_isGone rmX12_isGone (gPc X [.ref (gA X 8 0), .int x1] w) (gQi X r w) 0 0 (gFr X) := by
  refine g_ofW (cc := cX12_isGone) (maxL := 2) (ret := (some .boolean)) (by decide) rfl (Nat.le_of_ble_eq_true rfl) (fun p e s m args below meth c ls H hx hb hr hts hown hlocks hml hK hl hW => ?_)
  have hl : lv_has ls 2 [(0, .ref (gA X 8 0)), (1, .int x1)] := hl
  have hown : s.vm.findClass RX12 = some m.cls := hown
  have hL : gLo X [] := gLo_nil
  show W p l e rmX12_isGone s m args below meth c H [] 0 0 _ _
  have k40 : CallW rmX12_isGone s args RX12 RX12 40 yX12_of cX12_of 3 (some .int) wsX12_of rmX12_of 0 0 2 := cwV 2 hts (gGoodV (fun w h => List.mem_cons_of_mem _ h) wk_X12_40) rfl rfl rfl (by decide +kernel) ⟨Nat.le_of_ble_eq_true rfl, Nat.le_of_ble_eq_true rfl⟩
  rw [F_X12_isGone] at hF
  obtain ⟨locs, hlocs⟩ : ∃ locs : List Loc, locs = [] := ⟨_, rfl⟩
  rw [← hlocs] at hL ⊢
  refine lv_aload_n hx hb dX12_isGone_0 rfl (lv_at hl 0 rfl) ?_
  refine lv_iload_n hx hb dX12_isGone_1 rfl (lv_at hl 1 rfl) ?_
  refine lv_iconst (v := 2) hx hb dX12_isGone_2 (by decide) ?_
  obtain ⟨v_2, hq_1, hF⟩ := gP_some hF
  refine g_Vi (As := [.int x1, .int 2]) (rest := []) ⟨hx, hb, hml, hown, hts⟩ hK hW hL hl.1 (gok_o (by decide)) gE_O rfl (c_X12_of l X w x1 2 v_2 hq_1) k40 rfl rfl (Nat.le_of_ble_eq_true rfl) dX12_isGone_3 ⟨Nat.le_of_ble_eq_true rfl, Nat.le_of_ble_eq_true rfl⟩ (fun H locs hW hL => ?_)
  refine lv_iconst (v := 1) hx hb dX12_isGone_6 (by decide) ?_
  refine lv_icmp_ne (tgt := 14) hx hb dX12_isGone_7 (by decide) (fun hc_3 => ?_) (fun hc_3 => ?_)
  · replace hF := gF hc_3 hF
    refine lv_iconst (v := 0) hx hb dX12_isGone_14 (by decide) ?_
    exact g_rz hx hb hr hlocks hW hL (Or.inl rfl) (Option.some.inj hF) dX12_isGone_15
  · replace hF := gT hc_3 hF
    refine lv_iconst (v := 1) hx hb dX12_isGone_10 (by decide) ?_
    refine lv_goto (tgt := 15) hx hb dX12_isGone_11 (by decide) ?_
    exact g_rz hx hb hr hlocks hW hL (Or.inr rfl) (Option.some.inj hF) dX12_isGone_15
abbrev rmX12_lanes : Room := { frames := 0, cells := 0, slots := 0, locals := 0 }
abbrev wsX12_lanes : List Cond := gws yX12_lanes cX12_lanes 1 (some .int)
set_option maxHeartbeats 4000000 in
set_option maxRecDepth 100000 in
theorem c_X12_lanes (l : Launch) (X : gX) (w : gWd)  (r : Int32) (hF : F_X12_lanes w = some r) : Met l yX12_lanes wsX12_lanes rmX12_lanes (gPc X [.ref (gA X 8 0)] w) (gQi X r w) 0 0 (gFr X) := by
  refine g_ofW (cc := cX12_lanes) (maxL := 1) (ret := (some .int)) (by decide) rfl (Nat.le_of_ble_eq_true rfl) (fun p e s m args below meth c ls H hx hb hr hts hown hlocks hml hK hl hW => ?_)
  have hl : lv_has ls 1 [(0, .ref (gA X 8 0))] := hl
  have hown : s.vm.findClass RX12 = some m.cls := hown
  have hL : gLo X [] := gLo_nil
  show W p l e rmX12_lanes s m args below meth c H [] 0 0 _ _
  have inX12 : ∀ w ∈ wsX120, w ∈ wsX12_lanes := fun w h => List.mem_cons_of_mem _ (inlX12 w h)
  have q7 := hts _ (List.mem_cons_of_mem _ wq_X12_7)
  rw [F_X12_lanes] at hF
  obtain ⟨locs, hlocs⟩ : ∃ locs : List Loc, locs = [] := ⟨_, rfl⟩
  rw [← hlocs] at hL ⊢
  refine lv_aload_n hx hb dX12_lanes_0 rfl (lv_at hl 0 rfl) ?_
  refine rg_X12_s hx hb hts inX12 hown hK hW q7 dX12_lanes_1 ?_
  refine lv_sipush (v := 317) hx hb dX12_lanes_4 (by decide) ?_
  refine g_iald2 (k := 317) hx hb hK hW (gok_o (by decide)) (gad_lt (gok_o (by decide))) gE_O1 (gin (by decide)) (by decide) dX12_lanes_7 ?_
  exact g_ri hx hb hr hlocks hW hL (Option.some.inj hF) dX12_lanes_8
abbrev rmX12_entryKey : Room := { frames := 1, cells := 0, slots := 0, locals := 22 }
abbrev wsX12_entryKey : List Cond := gws yX12_entryKey cX12_entryKey 3 (some .int)
set_option maxHeartbeats 4000000 in
set_option maxRecDepth 100000 in
theorem c_X12_entryKey (l : Launch) (X : gX) (w : gWd) (x1 : Int32) (r : Int32) (hF : F_X12_entryKey w x1 = some r) : Met l yX12_entryKey wsX12_entryKey rmX12_entryKey (gPc X [.ref (gA X 8 0), .int x1] w) (gQi X r w) 0 0 (gFr X) := by
  refine g_ofW (cc := cX12_entryKey) (maxL := 3) (ret := (some .int)) (by decide) rfl (Nat.le_of_ble_eq_true rfl) (fun p e s m args below meth c ls H hx hb hr hts hown hlocks hml hK hl hW => ?_)
  have hl : lv_has ls 3 [(0, .ref (gA X 8 0)), (1, .int x1)] := hl
  have hown : s.vm.findClass RX12 = some m.cls := hown
  have hL : gLo X [] := gLo_nil
  show W p l e rmX12_entryKey s m args below meth c H [] 0 0 _ _
  have k40 : CallW rmX12_entryKey s args RX12 RX12 40 yX12_of cX12_of 3 (some .int) wsX12_of rmX12_of 0 0 2 := cwV 2 hts (gGoodV (fun w h => List.mem_cons_of_mem _ h) wk_X12_40) rfl rfl rfl (by decide +kernel) ⟨Nat.le_of_ble_eq_true rfl, Nat.le_of_ble_eq_true rfl⟩
  rw [F_X12_entryKey] at hF
  obtain ⟨locs, hlocs⟩ : ∃ locs : List Loc, locs = [] := ⟨_, rfl⟩
  rw [← hlocs] at hL ⊢
  refine lv_aload_n hx hb dX12_entryKey_0 rfl (lv_at hl 0 rfl) ?_
  refine lv_iload_n hx hb dX12_entryKey_1 rfl (lv_at hl 1 rfl) ?_
  refine lv_iconst (v := 1) hx hb dX12_entryKey_2 (by decide) ?_
  obtain ⟨v_2, hq_1, hF⟩ := gP_some hF
  refine g_Vi (As := [.int x1, .int 1]) (rest := []) ⟨hx, hb, hml, hown, hts⟩ hK hW hL hl.1 (gok_o (by decide)) gE_O rfl (c_X12_of l X w x1 1 v_2 hq_1) k40 rfl rfl (Nat.le_of_ble_eq_true rfl) dX12_entryKey_3 ⟨Nat.le_of_ble_eq_true rfl, Nat.le_of_ble_eq_true rfl⟩ (fun H locs hW hL => ?_)
  refine lv_istore_n (lv' := [(2, .int v_2), (0, .ref (gA X 8 0)), (1, .int x1)]) hx hb dX12_entryKey_6 rfl hl (by decide) rfl (fun ls hl => ?_)
  refine lv_bipush (v := 32) hx hb dX12_entryKey_7 (by decide) ?_
  refine lv_iload_n hx hb dX12_entryKey_9 rfl (lv_at hl 0 rfl) ?_
  refine lv_if_ne (tgt := 19) hx hb dX12_entryKey_10 (by decide) (fun hc_3 => ?_) (fun hc_3 => ?_)
  · replace hF := gF hc_3 hF
    refine lv_iload_n hx hb dX12_entryKey_19 rfl (lv_at hl 0 rfl) ?_
    refine lv_imul hx hb dX12_entryKey_20 ?_
    refine lv_iload_n hx hb dX12_entryKey_21 rfl (lv_at hl 2 rfl) ?_
    refine lv_iadd hx hb dX12_entryKey_22 ?_
    exact g_ri hx hb hr hlocks hW hL (Option.some.inj hF) dX12_entryKey_23
  · replace hF := gT hc_3 hF
    refine lv_sipush (v := 1000) hx hb dX12_entryKey_13 (by decide) ?_
    refine lv_goto (tgt := 20) hx hb dX12_entryKey_16 (by decide) ?_
    refine lv_imul hx hb dX12_entryKey_20 ?_
    refine lv_iload_n hx hb dX12_entryKey_21 rfl (lv_at hl 2 rfl) ?_
    refine lv_iadd hx hb dX12_entryKey_22 ?_
    exact g_ri hx hb hr hlocks hW hL (Option.some.inj hF) dX12_entryKey_23
abbrev rmX12_entryRank : Room := { frames := 2, cells := 0, slots := 0, locals := 44 }
abbrev wsX12_entryRank : List Cond := gws yX12_entryRank cX12_entryRank 4 (some .int)
set_option maxHeartbeats 4000000 in
set_option maxRecDepth 100000 in
theorem c_X12_entryRank (l : Launch) (X : gX) (w : gWd) (x1 : Int32) (r : Int32) (hF : F_X12_entryRank w x1 = some r) : Met l yX12_entryRank wsX12_entryRank rmX12_entryRank (gPc X [.ref (gA X 8 0), .int x1] w) (gQi X r w) 0 0 (gFr X) := by
  refine g_ofW (cc := cX12_entryRank) (maxL := 4) (ret := (some .int)) (by decide) rfl (Nat.le_of_ble_eq_true rfl) (fun p e s m args below meth c ls H hx hb hr hts hown hlocks hml hK hl hW => ?_)
  have hl : lv_has ls 4 [(0, .ref (gA X 8 0)), (1, .int x1)] := hl
  have hown : s.vm.findClass RX12 = some m.cls := hown
  have hL : gLo X [] := gLo_nil
  show W p l e rmX12_entryRank s m args below meth c H [] 0 0 _ _
  have inX12 : ∀ w ∈ wsX120, w ∈ wsX12_entryRank := fun w h => List.mem_cons_of_mem _ (inlX12 w h)
  have q7 := hts _ (List.mem_cons_of_mem _ wq_X12_7)
  have k44 : CallW rmX12_entryRank s args RX12 RX12 44 yX12_isGone cX12_isGone 2 (some .boolean) wsX12_isGone rmX12_isGone 0 0 1 := cwV 1 hts (gGoodV (fun w h => List.mem_cons_of_mem _ h) wk_X12_44) rfl rfl rfl (by decide +kernel) ⟨Nat.le_of_ble_eq_true rfl, Nat.le_of_ble_eq_true rfl⟩
  have k48 : CallW rmX12_entryRank s args RX12 RX12 48 yX12_entryKey cX12_entryKey 3 (some .int) wsX12_entryKey rmX12_entryKey 0 0 1 := cwV 1 hts (gGoodV (fun w h => List.mem_cons_of_mem _ h) wk_X12_48) rfl rfl rfl (by decide +kernel) ⟨Nat.le_of_ble_eq_true rfl, Nat.le_of_ble_eq_true rfl⟩
  have L_4 : ∀ (fu : Nat) (x1 : Int32) (x2 : Int32) (x3 : Int32)  (ls : Array Slot) (hl : lv_has ls 4 [(0, .ref (gA X 8 0)), (1, .int x1), (2, .int x2), (3, .int x3)]) (hF : F_X12_entryRank_4 fu w x1 x2 x3 = some r) (H : Heap) (locs : List Loc) (hW : gWo X 251 (gE X w) H) (hL : gLo X locs), W p l e rmX12_entryRank s m args below meth c H locs 0 0 (MQ below (gQi X r w) args s 0 0 (gFr X)) (F0 m 4 ls []) := by
    intro fu
    induction fu with
    | zero => intro x1 x2 x3 ls hl hF H locs hW hL; rw [F_X12_entryRank_4_z] at hF; cases hF
    | succ fu4 ih4 =>
      have B_42 : ∀ (x1 : Int32) (x3 : Int32) (xs0 : Int32)  (ls : Array Slot) (hl : lv_has ls 4 [(0, .ref (gA X 8 0)), (1, .int x1), (3, .int x3)]) (hF : F_X12_entryRank_42 (F_X12_entryRank_4 fu4) w x1 x3 xs0 = some r) (H : Heap) (locs : List Loc) (hW : gWo X 251 (gE X w) H) (hL : gLo X locs), W p l e rmX12_entryRank s m args below meth c H locs 0 0 (MQ below (gQi X r w) args s 0 0 (gFr X)) (F0 m 42 ls [.int xs0]) := by
        intro x1 x3 xs0 ls hl hF H locs hW hL
        rw [F_X12_entryRank_42] at hF
        refine lv_iconst (v := 0) hx hb dX12_entryRank_42 (by decide) ?_
        refine lv_iadd hx hb dX12_entryRank_43 ?_
        obtain ⟨x2_12, ex2_12, hF⟩ := gS_some hF
        refine g_top ex2_12 ?_
        refine lv_istore_n (lv' := [(2, .int x2_12), (0, .ref (gA X 8 0)), (1, .int x1), (3, .int x3)]) hx hb dX12_entryRank_44 rfl hl (by decide) rfl (fun ls hl => ?_)
        obtain ⟨x3_13, ex3_13, hF⟩ := gS_some hF
        refine lv_iinc (v := x3_13) (lv' := [(3, .int x3_13), (2, .int x2_12), (0, .ref (gA X 8 0)), (1, .int x1)]) hx hb dX12_entryRank_45 hl (k := 3) rfl (by rw [ex3_13]; rfl) (by decide) rfl (fun ls hl => ?_)
        refine lv_goto (tgt := 4) hx hb dX12_entryRank_48 (by decide) ?_
        exact ih4 x1 x2_12 x3_13 ls (lv_sub hl [2, 3, 1, 0] rfl) hF H locs hW hL
      intro x1 x2 x3 ls hl hF H locs hW hL
      rw [F_X12_entryRank_4_s] at hF
      refine lv_iload_n hx hb dX12_entryRank_4 rfl (lv_at hl 3 rfl) ?_
      refine lv_aload_n hx hb dX12_entryRank_5 rfl (lv_at hl 0 rfl) ?_
      refine rg_X12_s hx hb hts inX12 hown hK hW q7 dX12_entryRank_6 ?_
      refine lv_sipush (v := 311) hx hb dX12_entryRank_9 (by decide) ?_
      refine g_iald2 (k := 311) hx hb hK hW (gok_o (by decide)) (gad_lt (gok_o (by decide))) gE_O1 (gin (by decide)) (by decide) dX12_entryRank_12 ?_
      refine lv_icmp_ge (tgt := 51) hx hb dX12_entryRank_13 (by decide) (fun hc_1 => ?_) (fun hc_1 => ?_)
      · replace hF := gT hc_1 hF
        refine lv_iload_n hx hb dX12_entryRank_51 rfl (lv_at hl 2 rfl) ?_
        exact g_ri hx hb hr hlocks hW hL (Option.some.inj hF) dX12_entryRank_52
      · replace hF := gF hc_1 hF
        refine lv_iload_n hx hb dX12_entryRank_16 rfl (lv_at hl 2 rfl) ?_
        refine lv_aload_n hx hb dX12_entryRank_17 rfl (lv_at hl 0 rfl) ?_
        refine lv_iload_n hx hb dX12_entryRank_18 rfl (lv_at hl 3 rfl) ?_
        obtain ⟨v_3, hq_2, hF⟩ := gP_some hF
        refine g_Vi (As := [.int x3]) (rest := [.int x2]) ⟨hx, hb, hml, hown, hts⟩ hK hW hL hl.1 (gok_o (by decide)) gE_O rfl (c_X12_isGone l X w x3 v_3 hq_2) k44 rfl rfl (Nat.le_of_ble_eq_true rfl) dX12_entryRank_19 ⟨Nat.le_of_ble_eq_true rfl, Nat.le_of_ble_eq_true rfl⟩ (fun H locs hW hL => ?_)
        refine lv_if_ne (tgt := 42) hx hb dX12_entryRank_22 (by decide) (fun hc_4 => ?_) (fun hc_4 => ?_)
        · replace hF := gF hc_4 hF
          exact B_42 x1 x3 x2 ls (lv_sub hl [0, 1, 3] rfl) hF H locs hW hL
        · replace hF := gT hc_4 hF
          refine lv_aload_n hx hb dX12_entryRank_25 rfl (lv_at hl 0 rfl) ?_
          refine lv_iload_n hx hb dX12_entryRank_26 rfl (lv_at hl 3 rfl) ?_
          obtain ⟨v_6, hq_5, hF⟩ := gP_some hF
          refine g_Vi (As := [.int x3]) (rest := [.int x2]) ⟨hx, hb, hml, hown, hts⟩ hK hW hL hl.1 (gok_o (by decide)) gE_O rfl (c_X12_entryKey l X w x3 v_6 hq_5) k48 rfl rfl (Nat.le_of_ble_eq_true rfl) dX12_entryRank_27 ⟨Nat.le_of_ble_eq_true rfl, Nat.le_of_ble_eq_true rfl⟩ (fun H locs hW hL => ?_)
          refine lv_aload_n hx hb dX12_entryRank_30 rfl (lv_at hl 0 rfl) ?_
          refine lv_iload_n hx hb dX12_entryRank_31 rfl (lv_at hl 1 rfl) ?_
          obtain ⟨v_8, hq_7, hF⟩ := gP_some hF
          refine g_Vi (As := [.int x1]) (rest := [.int v_6, .int x2]) ⟨hx, hb, hml, hown, hts⟩ hK hW hL hl.1 (gok_o (by decide)) gE_O rfl (c_X12_entryKey l X w x1 v_8 hq_7) k48 rfl rfl (Nat.le_of_ble_eq_true rfl) dX12_entryRank_32 ⟨Nat.le_of_ble_eq_true rfl, Nat.le_of_ble_eq_true rfl⟩ (fun H locs hW hL => ?_)
          refine lv_icmp_ge (tgt := 42) hx hb dX12_entryRank_35 (by decide) (fun hc_9 => ?_) (fun hc_9 => ?_)
          · replace hF := gT hc_9 hF
            exact B_42 x1 x3 x2 ls (lv_sub hl [0, 1, 3] rfl) hF H locs hW hL
          · replace hF := gF hc_9 hF
            refine lv_iconst (v := 1) hx hb dX12_entryRank_38 (by decide) ?_
            refine lv_goto (tgt := 43) hx hb dX12_entryRank_39 (by decide) ?_
            refine lv_iadd hx hb dX12_entryRank_43 ?_
            obtain ⟨x2_10, ex2_10, hF⟩ := gS_some hF
            refine g_top ex2_10 ?_
            refine lv_istore_n (lv' := [(2, .int x2_10), (0, .ref (gA X 8 0)), (1, .int x1), (3, .int x3)]) hx hb dX12_entryRank_44 rfl hl (by decide) rfl (fun ls hl => ?_)
            obtain ⟨x3_11, ex3_11, hF⟩ := gS_some hF
            refine lv_iinc (v := x3_11) (lv' := [(3, .int x3_11), (2, .int x2_10), (0, .ref (gA X 8 0)), (1, .int x1)]) hx hb dX12_entryRank_45 hl (k := 3) rfl (by rw [ex3_11]; rfl) (by decide) rfl (fun ls hl => ?_)
            refine lv_goto (tgt := 4) hx hb dX12_entryRank_48 (by decide) ?_
            exact ih4 x1 x2_10 x3_11 ls (lv_sub hl [2, 3, 1, 0] rfl) hF H locs hW hL
  rw [F_X12_entryRank] at hF
  obtain ⟨locs, hlocs⟩ : ∃ locs : List Loc, locs = [] := ⟨_, rfl⟩
  rw [← hlocs] at hL ⊢
  refine lv_iconst (v := 0) hx hb dX12_entryRank_0 (by decide) ?_
  refine lv_istore_n (lv' := [(2, .int 0), (0, .ref (gA X 8 0)), (1, .int x1)]) hx hb dX12_entryRank_1 rfl hl (by decide) rfl (fun ls hl => ?_)
  refine lv_iconst (v := 0) hx hb dX12_entryRank_2 (by decide) ?_
  refine lv_istore_n (lv' := [(3, .int 0), (2, .int 0), (0, .ref (gA X 8 0)), (1, .int x1)]) hx hb dX12_entryRank_3 rfl hl (by decide) rfl (fun ls hl => ?_)
  exact L_4 gFU x1 0 0 ls (lv_sub hl [2, 3, 1, 0] rfl) hF H locs hW hL
abbrev rmX12_hasTime : Room := { frames := 1, cells := 0, slots := 0, locals := 22 }
abbrev wsX12_hasTime : List Cond := gws yX12_hasTime cX12_hasTime 2 (some .boolean)
set_option maxHeartbeats 4000000 in
set_option maxRecDepth 100000 in
theorem c_X12_hasTime (l : Launch) (X : gX) (w : gWd) (x1 : Int32) (r : Int32) (hF : F_X12_hasTime w x1 = some r) : Met l yX12_hasTime wsX12_hasTime rmX12_hasTime (gPc X [.ref (gA X 8 0), .int x1] w) (gQi X r w) 0 0 (gFr X) := by
  refine g_ofW (cc := cX12_hasTime) (maxL := 2) (ret := (some .boolean)) (by decide) rfl (Nat.le_of_ble_eq_true rfl) (fun p e s m args below meth c ls H hx hb hr hts hown hlocks hml hK hl hW => ?_)
  have hl : lv_has ls 2 [(0, .ref (gA X 8 0)), (1, .int x1)] := hl
  have hown : s.vm.findClass RX12 = some m.cls := hown
  have hL : gLo X [] := gLo_nil
  show W p l e rmX12_hasTime s m args below meth c H [] 0 0 _ _
  have k40 : CallW rmX12_hasTime s args RX12 RX12 40 yX12_of cX12_of 3 (some .int) wsX12_of rmX12_of 0 0 2 := cwV 2 hts (gGoodV (fun w h => List.mem_cons_of_mem _ h) wk_X12_40) rfl rfl rfl (by decide +kernel) ⟨Nat.le_of_ble_eq_true rfl, Nat.le_of_ble_eq_true rfl⟩
  rw [F_X12_hasTime] at hF
  obtain ⟨locs, hlocs⟩ : ∃ locs : List Loc, locs = [] := ⟨_, rfl⟩
  rw [← hlocs] at hL ⊢
  refine lv_aload_n hx hb dX12_hasTime_0 rfl (lv_at hl 0 rfl) ?_
  refine lv_iload_n hx hb dX12_hasTime_1 rfl (lv_at hl 1 rfl) ?_
  refine lv_iconst (v := 5) hx hb dX12_hasTime_2 (by decide) ?_
  obtain ⟨v_2, hq_1, hF⟩ := gP_some hF
  refine g_Vi (As := [.int x1, .int 5]) (rest := []) ⟨hx, hb, hml, hown, hts⟩ hK hW hL hl.1 (gok_o (by decide)) gE_O rfl (c_X12_of l X w x1 5 v_2 hq_1) k40 rfl rfl (Nat.le_of_ble_eq_true rfl) dX12_hasTime_3 ⟨Nat.le_of_ble_eq_true rfl, Nat.le_of_ble_eq_true rfl⟩ (fun H locs hW hL => ?_)
  refine lv_iconst (v := 1) hx hb dX12_hasTime_6 (by decide) ?_
  refine lv_icmp_le (tgt := 14) hx hb dX12_hasTime_7 (by decide) (fun hc_3 => ?_) (fun hc_3 => ?_)
  · replace hF := gT hc_3 hF
    refine lv_iconst (v := 0) hx hb dX12_hasTime_14 (by decide) ?_
    exact g_rz hx hb hr hlocks hW hL (Or.inl rfl) (Option.some.inj hF) dX12_hasTime_15
  · replace hF := gF hc_3 hF
    refine lv_iconst (v := 1) hx hb dX12_hasTime_10 (by decide) ?_
    refine lv_goto (tgt := 15) hx hb dX12_hasTime_11 (by decide) ?_
    exact g_rz hx hb hr hlocks hW hL (Or.inr rfl) (Option.some.inj hF) dX12_hasTime_15
abbrev rmX12_isFaster : Room := { frames := 2, cells := 0, slots := 0, locals := 44 }
abbrev wsX12_isFaster : List Cond := gws yX12_isFaster cX12_isFaster 4 (some .boolean)
set_option maxHeartbeats 4000000 in
set_option maxRecDepth 100000 in
theorem c_X12_isFaster (l : Launch) (X : gX) (w : gWd) (x1 : Int32) (x2 : Int32) (r : Int32) (hF : F_X12_isFaster w x1 x2 = some r) : Met l yX12_isFaster wsX12_isFaster rmX12_isFaster (gPc X [.ref (gA X 8 0), .int x1, .int x2] w) (gQi X r w) 0 0 (gFr X) := by
  refine g_ofW (cc := cX12_isFaster) (maxL := 4) (ret := (some .boolean)) (by decide) rfl (Nat.le_of_ble_eq_true rfl) (fun p e s m args below meth c ls H hx hb hr hts hown hlocks hml hK hl hW => ?_)
  have hl : lv_has ls 4 [(0, .ref (gA X 8 0)), (1, .int x1), (2, .int x2)] := hl
  have hown : s.vm.findClass RX12 = some m.cls := hown
  have hL : gLo X [] := gLo_nil
  show W p l e rmX12_isFaster s m args below meth c H [] 0 0 _ _
  have k40 : CallW rmX12_isFaster s args RX12 RX12 40 yX12_of cX12_of 3 (some .int) wsX12_of rmX12_of 0 0 2 := cwV 2 hts (gGoodV (fun w h => List.mem_cons_of_mem _ h) wk_X12_40) rfl rfl rfl (by decide +kernel) ⟨Nat.le_of_ble_eq_true rfl, Nat.le_of_ble_eq_true rfl⟩
  have k48 : CallW rmX12_isFaster s args RX12 RX12 48 yX12_entryKey cX12_entryKey 3 (some .int) wsX12_entryKey rmX12_entryKey 0 0 1 := cwV 1 hts (gGoodV (fun w h => List.mem_cons_of_mem _ h) wk_X12_48) rfl rfl rfl (by decide +kernel) ⟨Nat.le_of_ble_eq_true rfl, Nat.le_of_ble_eq_true rfl⟩
  have B_35 : ∀   (ls : Array Slot) (hl : lv_has ls 4 []) (hF : F_X12_isFaster_35 w = some r) (H : Heap) (locs : List Loc) (hW : gWo X 251 (gE X w) H) (hL : gLo X locs), W p l e rmX12_isFaster s m args below meth c H locs 0 0 (MQ below (gQi X r w) args s 0 0 (gFr X)) (F0 m 35 ls []) := by
    intro ls hl hF H locs hW hL
    rw [F_X12_isFaster_35] at hF
    refine lv_iconst (v := 1) hx hb dX12_isFaster_35 (by decide) ?_
    refine lv_goto (tgt := 40) hx hb dX12_isFaster_36 (by decide) ?_
    exact g_rz hx hb hr hlocks hW hL (Or.inr rfl) (Option.some.inj hF) dX12_isFaster_40
  have B_39 : ∀   (ls : Array Slot) (hl : lv_has ls 4 []) (hF : F_X12_isFaster_39 w = some r) (H : Heap) (locs : List Loc) (hW : gWo X 251 (gE X w) H) (hL : gLo X locs), W p l e rmX12_isFaster s m args below meth c H locs 0 0 (MQ below (gQi X r w) args s 0 0 (gFr X)) (F0 m 39 ls []) := by
    intro ls hl hF H locs hW hL
    rw [F_X12_isFaster_39] at hF
    refine lv_iconst (v := 0) hx hb dX12_isFaster_39 (by decide) ?_
    exact g_rz hx hb hr hlocks hW hL (Or.inl rfl) (Option.some.inj hF) dX12_isFaster_40
  rw [F_X12_isFaster] at hF
  obtain ⟨locs, hlocs⟩ : ∃ locs : List Loc, locs = [] := ⟨_, rfl⟩
  rw [← hlocs] at hL ⊢
  refine lv_aload_n hx hb dX12_isFaster_0 rfl (lv_at hl 0 rfl) ?_
  refine lv_iload_n hx hb dX12_isFaster_1 rfl (lv_at hl 1 rfl) ?_
  refine lv_iconst (v := 5) hx hb dX12_isFaster_2 (by decide) ?_
  obtain ⟨v_2, hq_1, hF⟩ := gP_some hF
  refine g_Vi (As := [.int x1, .int 5]) (rest := []) ⟨hx, hb, hml, hown, hts⟩ hK hW hL hl.1 (gok_o (by decide)) gE_O rfl (c_X12_of l X w x1 5 v_2 hq_1) k40 rfl rfl (Nat.le_of_ble_eq_true rfl) dX12_isFaster_3 ⟨Nat.le_of_ble_eq_true rfl, Nat.le_of_ble_eq_true rfl⟩ (fun H locs hW hL => ?_)
  refine lv_aload_n hx hb dX12_isFaster_6 rfl (lv_at hl 0 rfl) ?_
  refine lv_iload_n hx hb dX12_isFaster_7 rfl (lv_at hl 2 rfl) ?_
  refine lv_iconst (v := 5) hx hb dX12_isFaster_8 (by decide) ?_
  obtain ⟨v_4, hq_3, hF⟩ := gP_some hF
  refine g_Vi (As := [.int x2, .int 5]) (rest := [.int v_2]) ⟨hx, hb, hml, hown, hts⟩ hK hW hL hl.1 (gok_o (by decide)) gE_O rfl (c_X12_of l X w x2 5 v_4 hq_3) k40 rfl rfl (Nat.le_of_ble_eq_true rfl) dX12_isFaster_9 ⟨Nat.le_of_ble_eq_true rfl, Nat.le_of_ble_eq_true rfl⟩ (fun H locs hW hL => ?_)
  refine lv_isub hx hb dX12_isFaster_12 ?_
  obtain ⟨x3_5, ex3_5, hF⟩ := gS_some hF
  refine g_top ex3_5 ?_
  refine lv_istore_n (lv' := [(3, .int x3_5), (0, .ref (gA X 8 0)), (1, .int x1), (2, .int x2)]) hx hb dX12_isFaster_13 rfl hl (by decide) rfl (fun ls hl => ?_)
  refine lv_iload_n hx hb dX12_isFaster_14 rfl (lv_at hl 0 rfl) ?_
  refine lv_if_lt (tgt := 35) hx hb dX12_isFaster_15 (by decide) (fun hc_6 => ?_) (fun hc_6 => ?_)
  · replace hF := gT hc_6 hF
    exact B_35  ls (lv_sub hl [] rfl) hF H locs hW hL
  · replace hF := gF hc_6 hF
    refine lv_iload_n hx hb dX12_isFaster_18 rfl (lv_at hl 0 rfl) ?_
    refine lv_if_ne (tgt := 39) hx hb dX12_isFaster_19 (by decide) (fun hc_7 => ?_) (fun hc_7 => ?_)
    · replace hF := gF hc_7 hF
      exact B_39  ls (lv_sub hl [] rfl) hF H locs hW hL
    · replace hF := gT hc_7 hF
      refine lv_aload_n hx hb dX12_isFaster_22 rfl (lv_at hl 1 rfl) ?_
      refine lv_iload_n hx hb dX12_isFaster_23 rfl (lv_at hl 2 rfl) ?_
      obtain ⟨v_9, hq_8, hF⟩ := gP_some hF
      refine g_Vi (As := [.int x1]) (rest := []) ⟨hx, hb, hml, hown, hts⟩ hK hW hL hl.1 (gok_o (by decide)) gE_O rfl (c_X12_entryKey l X w x1 v_9 hq_8) k48 rfl rfl (Nat.le_of_ble_eq_true rfl) dX12_isFaster_24 ⟨Nat.le_of_ble_eq_true rfl, Nat.le_of_ble_eq_true rfl⟩ (fun H locs hW hL => ?_)
      refine lv_aload_n hx hb dX12_isFaster_27 rfl (lv_at hl 1 rfl) ?_
      refine lv_iload_n hx hb dX12_isFaster_28 rfl (lv_at hl 3 rfl) ?_
      obtain ⟨v_11, hq_10, hF⟩ := gP_some hF
      refine g_Vi (As := [.int x2]) (rest := [.int v_9]) ⟨hx, hb, hml, hown, hts⟩ hK hW hL hl.1 (gok_o (by decide)) gE_O rfl (c_X12_entryKey l X w x2 v_11 hq_10) k48 rfl rfl (Nat.le_of_ble_eq_true rfl) dX12_isFaster_29 ⟨Nat.le_of_ble_eq_true rfl, Nat.le_of_ble_eq_true rfl⟩ (fun H locs hW hL => ?_)
      refine lv_icmp_ge (tgt := 39) hx hb dX12_isFaster_32 (by decide) (fun hc_12 => ?_) (fun hc_12 => ?_)
      · replace hF := gT hc_12 hF
        exact B_39  ls (lv_sub hl [] rfl) hF H locs hW hL
      · replace hF := gF hc_12 hF
        exact B_35  ls (lv_sub hl [] rfl) hF H locs hW hL
abbrev rmX12_timeRank : Room := { frames := 3, cells := 0, slots := 0, locals := 67 }
abbrev wsX12_timeRank : List Cond := gws yX12_timeRank cX12_timeRank 4 (some .int)
set_option maxHeartbeats 4000000 in
set_option maxRecDepth 100000 in
theorem c_X12_timeRank (l : Launch) (X : gX) (w : gWd) (x1 : Int32) (r : Int32) (hF : F_X12_timeRank w x1 = some r) : Met l yX12_timeRank wsX12_timeRank rmX12_timeRank (gPc X [.ref (gA X 8 0), .int x1] w) (gQi X r w) 0 0 (gFr X) := by
  refine g_ofW (cc := cX12_timeRank) (maxL := 4) (ret := (some .int)) (by decide) rfl (Nat.le_of_ble_eq_true rfl) (fun p e s m args below meth c ls H hx hb hr hts hown hlocks hml hK hl hW => ?_)
  have hl : lv_has ls 4 [(0, .ref (gA X 8 0)), (1, .int x1)] := hl
  have hown : s.vm.findClass RX12 = some m.cls := hown
  have hL : gLo X [] := gLo_nil
  show W p l e rmX12_timeRank s m args below meth c H [] 0 0 _ _
  have inX12 : ∀ w ∈ wsX120, w ∈ wsX12_timeRank := fun w h => List.mem_cons_of_mem _ (inlX12 w h)
  have q7 := hts _ (List.mem_cons_of_mem _ wq_X12_7)
  have k52 : CallW rmX12_timeRank s args RX12 RX12 52 yX12_hasTime cX12_hasTime 2 (some .boolean) wsX12_hasTime rmX12_hasTime 0 0 1 := cwV 1 hts (gGoodV (fun w h => List.mem_cons_of_mem _ h) wk_X12_52) rfl rfl rfl (by decide +kernel) ⟨Nat.le_of_ble_eq_true rfl, Nat.le_of_ble_eq_true rfl⟩
  have k55 : CallW rmX12_timeRank s args RX12 RX12 55 yX12_isFaster cX12_isFaster 4 (some .boolean) wsX12_isFaster rmX12_isFaster 0 0 2 := cwV 2 hts (gGoodV (fun w h => List.mem_cons_of_mem _ h) wk_X12_55) rfl rfl rfl (by decide +kernel) ⟨Nat.le_of_ble_eq_true rfl, Nat.le_of_ble_eq_true rfl⟩
  have L_4 : ∀ (fu : Nat) (x1 : Int32) (x2 : Int32) (x3 : Int32)  (ls : Array Slot) (hl : lv_has ls 4 [(0, .ref (gA X 8 0)), (1, .int x1), (2, .int x2), (3, .int x3)]) (hF : F_X12_timeRank_4 fu w x1 x2 x3 = some r) (H : Heap) (locs : List Loc) (hW : gWo X 251 (gE X w) H) (hL : gLo X locs), W p l e rmX12_timeRank s m args below meth c H locs 0 0 (MQ below (gQi X r w) args s 0 0 (gFr X)) (F0 m 4 ls []) := by
    intro fu
    induction fu with
    | zero => intro x1 x2 x3 ls hl hF H locs hW hL; rw [F_X12_timeRank_4_z] at hF; cases hF
    | succ fu4 ih4 =>
      have B_38 : ∀ (x1 : Int32) (x3 : Int32) (xs0 : Int32)  (ls : Array Slot) (hl : lv_has ls 4 [(0, .ref (gA X 8 0)), (1, .int x1), (3, .int x3)]) (hF : F_X12_timeRank_38 (F_X12_timeRank_4 fu4) w x1 x3 xs0 = some r) (H : Heap) (locs : List Loc) (hW : gWo X 251 (gE X w) H) (hL : gLo X locs), W p l e rmX12_timeRank s m args below meth c H locs 0 0 (MQ below (gQi X r w) args s 0 0 (gFr X)) (F0 m 38 ls [.int xs0]) := by
        intro x1 x3 xs0 ls hl hF H locs hW hL
        rw [F_X12_timeRank_38] at hF
        refine lv_iconst (v := 0) hx hb dX12_timeRank_38 (by decide) ?_
        refine lv_iadd hx hb dX12_timeRank_39 ?_
        obtain ⟨x2_10, ex2_10, hF⟩ := gS_some hF
        refine g_top ex2_10 ?_
        refine lv_istore_n (lv' := [(2, .int x2_10), (0, .ref (gA X 8 0)), (1, .int x1), (3, .int x3)]) hx hb dX12_timeRank_40 rfl hl (by decide) rfl (fun ls hl => ?_)
        obtain ⟨x3_11, ex3_11, hF⟩ := gS_some hF
        refine lv_iinc (v := x3_11) (lv' := [(3, .int x3_11), (2, .int x2_10), (0, .ref (gA X 8 0)), (1, .int x1)]) hx hb dX12_timeRank_41 hl (k := 3) rfl (by rw [ex3_11]; rfl) (by decide) rfl (fun ls hl => ?_)
        refine lv_goto (tgt := 4) hx hb dX12_timeRank_44 (by decide) ?_
        exact ih4 x1 x2_10 x3_11 ls (lv_sub hl [2, 3, 1, 0] rfl) hF H locs hW hL
      intro x1 x2 x3 ls hl hF H locs hW hL
      rw [F_X12_timeRank_4_s] at hF
      refine lv_iload_n hx hb dX12_timeRank_4 rfl (lv_at hl 3 rfl) ?_
      refine lv_aload_n hx hb dX12_timeRank_5 rfl (lv_at hl 0 rfl) ?_
      refine rg_X12_s hx hb hts inX12 hown hK hW q7 dX12_timeRank_6 ?_
      refine lv_sipush (v := 311) hx hb dX12_timeRank_9 (by decide) ?_
      refine g_iald2 (k := 311) hx hb hK hW (gok_o (by decide)) (gad_lt (gok_o (by decide))) gE_O1 (gin (by decide)) (by decide) dX12_timeRank_12 ?_
      refine lv_icmp_ge (tgt := 47) hx hb dX12_timeRank_13 (by decide) (fun hc_1 => ?_) (fun hc_1 => ?_)
      · replace hF := gT hc_1 hF
        refine lv_iload_n hx hb dX12_timeRank_47 rfl (lv_at hl 2 rfl) ?_
        exact g_ri hx hb hr hlocks hW hL (Option.some.inj hF) dX12_timeRank_48
      · replace hF := gF hc_1 hF
        refine lv_iload_n hx hb dX12_timeRank_16 rfl (lv_at hl 2 rfl) ?_
        refine lv_aload_n hx hb dX12_timeRank_17 rfl (lv_at hl 0 rfl) ?_
        refine lv_iload_n hx hb dX12_timeRank_18 rfl (lv_at hl 3 rfl) ?_
        obtain ⟨v_3, hq_2, hF⟩ := gP_some hF
        refine g_Vi (As := [.int x3]) (rest := [.int x2]) ⟨hx, hb, hml, hown, hts⟩ hK hW hL hl.1 (gok_o (by decide)) gE_O rfl (c_X12_hasTime l X w x3 v_3 hq_2) k52 rfl rfl (Nat.le_of_ble_eq_true rfl) dX12_timeRank_19 ⟨Nat.le_of_ble_eq_true rfl, Nat.le_of_ble_eq_true rfl⟩ (fun H locs hW hL => ?_)
        refine lv_if_eq (tgt := 38) hx hb dX12_timeRank_22 (by decide) (fun hc_4 => ?_) (fun hc_4 => ?_)
        · replace hF := gT hc_4 hF
          exact B_38 x1 x3 x2 ls (lv_sub hl [0, 1, 3] rfl) hF H locs hW hL
        · replace hF := gF hc_4 hF
          refine lv_aload_n hx hb dX12_timeRank_25 rfl (lv_at hl 0 rfl) ?_
          refine lv_iload_n hx hb dX12_timeRank_26 rfl (lv_at hl 3 rfl) ?_
          refine lv_iload_n hx hb dX12_timeRank_27 rfl (lv_at hl 1 rfl) ?_
          obtain ⟨v_6, hq_5, hF⟩ := gP_some hF
          refine g_Vi (As := [.int x3, .int x1]) (rest := [.int x2]) ⟨hx, hb, hml, hown, hts⟩ hK hW hL hl.1 (gok_o (by decide)) gE_O rfl (c_X12_isFaster l X w x3 x1 v_6 hq_5) k55 rfl rfl (Nat.le_of_ble_eq_true rfl) dX12_timeRank_28 ⟨Nat.le_of_ble_eq_true rfl, Nat.le_of_ble_eq_true rfl⟩ (fun H locs hW hL => ?_)
          refine lv_if_eq (tgt := 38) hx hb dX12_timeRank_31 (by decide) (fun hc_7 => ?_) (fun hc_7 => ?_)
          · replace hF := gT hc_7 hF
            exact B_38 x1 x3 x2 ls (lv_sub hl [0, 1, 3] rfl) hF H locs hW hL
          · replace hF := gF hc_7 hF
            refine lv_iconst (v := 1) hx hb dX12_timeRank_34 (by decide) ?_
            refine lv_goto (tgt := 39) hx hb dX12_timeRank_35 (by decide) ?_
            refine lv_iadd hx hb dX12_timeRank_39 ?_
            obtain ⟨x2_8, ex2_8, hF⟩ := gS_some hF
            refine g_top ex2_8 ?_
            refine lv_istore_n (lv' := [(2, .int x2_8), (0, .ref (gA X 8 0)), (1, .int x1), (3, .int x3)]) hx hb dX12_timeRank_40 rfl hl (by decide) rfl (fun ls hl => ?_)
            obtain ⟨x3_9, ex3_9, hF⟩ := gS_some hF
            refine lv_iinc (v := x3_9) (lv' := [(3, .int x3_9), (2, .int x2_8), (0, .ref (gA X 8 0)), (1, .int x1)]) hx hb dX12_timeRank_41 hl (k := 3) rfl (by rw [ex3_9]; rfl) (by decide) rfl (fun ls hl => ?_)
            refine lv_goto (tgt := 4) hx hb dX12_timeRank_44 (by decide) ?_
            exact ih4 x1 x2_8 x3_9 ls (lv_sub hl [2, 3, 1, 0] rfl) hF H locs hW hL
  rw [F_X12_timeRank] at hF
  obtain ⟨locs, hlocs⟩ : ∃ locs : List Loc, locs = [] := ⟨_, rfl⟩
  rw [← hlocs] at hL ⊢
  refine lv_iconst (v := 0) hx hb dX12_timeRank_0 (by decide) ?_
  refine lv_istore_n (lv' := [(2, .int 0), (0, .ref (gA X 8 0)), (1, .int x1)]) hx hb dX12_timeRank_1 rfl hl (by decide) rfl (fun ls hl => ?_)
  refine lv_iconst (v := 0) hx hb dX12_timeRank_2 (by decide) ?_
  refine lv_istore_n (lv' := [(3, .int 0), (2, .int 0), (0, .ref (gA X 8 0)), (1, .int x1)]) hx hb dX12_timeRank_3 rfl hl (by decide) rfl (fun ls hl => ?_)
  exact L_4 gFU x1 0 0 ls (lv_sub hl [2, 3, 1, 0] rfl) hF H locs hW hL
abbrev rmX12_laneOf : Room := { frames := 1, cells := 0, slots := 0, locals := 20 }
abbrev wsX12_laneOf : List Cond := gws yX12_laneOf cX12_laneOf 4 (some .int)
set_option maxHeartbeats 4000000 in
set_option maxRecDepth 100000 in
theorem c_X12_laneOf (l : Launch) (X : gX) (w : gWd) (x1 : Int32) (r : Int32) (hF : F_X12_laneOf w x1 = some r) : Met l yX12_laneOf wsX12_laneOf rmX12_laneOf (gPc X [.ref (gA X 8 0), .int x1] w) (gQi X r w) 0 0 (gFr X) := by
  refine g_ofW (cc := cX12_laneOf) (maxL := 4) (ret := (some .int)) (by decide) rfl (Nat.le_of_ble_eq_true rfl) (fun p e s m args below meth c ls H hx hb hr hts hown hlocks hml hK hl hW => ?_)
  have hl : lv_has ls 4 [(0, .ref (gA X 8 0)), (1, .int x1)] := hl
  have hown : s.vm.findClass RX12 = some m.cls := hown
  have hL : gLo X [] := gLo_nil
  show W p l e rmX12_laneOf s m args below meth c H [] 0 0 _ _
  have k59 : CallW rmX12_laneOf s args RX12 RX12 59 yX12_lanes cX12_lanes 1 (some .int) wsX12_lanes rmX12_lanes 0 0 0 := cwV 0 hts (gGoodV (fun w h => List.mem_cons_of_mem _ h) wk_X12_59) rfl rfl rfl (by decide +kernel) ⟨Nat.le_of_ble_eq_true rfl, Nat.le_of_ble_eq_true rfl⟩
  rw [F_X12_laneOf] at hF
  obtain ⟨locs, hlocs⟩ : ∃ locs : List Loc, locs = [] := ⟨_, rfl⟩
  rw [← hlocs] at hL ⊢
  refine lv_aload_n hx hb dX12_laneOf_0 rfl (lv_at hl 0 rfl) ?_
  obtain ⟨v_2, hq_1, hF⟩ := gP_some hF
  refine g_Vi (As := []) (rest := []) ⟨hx, hb, hml, hown, hts⟩ hK hW hL hl.1 (gok_o (by decide)) gE_O rfl (c_X12_lanes l X w  v_2 hq_1) k59 rfl rfl (Nat.le_of_ble_eq_true rfl) dX12_laneOf_1 ⟨Nat.le_of_ble_eq_true rfl, Nat.le_of_ble_eq_true rfl⟩ (fun H locs hW hL => ?_)
  refine lv_iconst (v := 1) hx hb dX12_laneOf_4 (by decide) ?_
  refine lv_iadd hx hb dX12_laneOf_5 ?_
  refine lv_iconst (v := 2) hx hb dX12_laneOf_6 (by decide) ?_
  refine lv_idiv hx hb dX12_laneOf_7 (by decide) ?_
  obtain ⟨x2_3, ex2_3, hF⟩ := gS_some hF
  refine g_top ex2_3 ?_
  refine lv_istore_n (lv' := [(2, .int x2_3), (0, .ref (gA X 8 0)), (1, .int x1)]) hx hb dX12_laneOf_8 rfl hl (by decide) rfl (fun ls hl => ?_)
  refine lv_iload_n hx hb dX12_laneOf_9 rfl (lv_at hl 2 rfl) ?_
  refine lv_iconst (v := 1) hx hb dX12_laneOf_10 (by decide) ?_
  refine lv_iadd hx hb dX12_laneOf_11 ?_
  refine lv_iconst (v := 2) hx hb dX12_laneOf_12 (by decide) ?_
  refine lv_idiv hx hb dX12_laneOf_13 (by decide) ?_
  obtain ⟨x3_4, ex3_4, hF⟩ := gS_some hF
  refine g_top ex3_4 ?_
  refine lv_istore_n (lv' := [(3, .int x3_4), (2, .int x2_3), (0, .ref (gA X 8 0)), (1, .int x1)]) hx hb dX12_laneOf_14 rfl hl (by decide) rfl (fun ls hl => ?_)
  refine lv_iload_n hx hb dX12_laneOf_15 rfl (lv_at hl 3 rfl) ?_
  refine lv_iconst (v := 2) hx hb dX12_laneOf_16 (by decide) ?_
  refine lv_irem hx hb dX12_laneOf_17 (by decide) ?_
  refine lv_iconst (v := 1) hx hb dX12_laneOf_18 (by decide) ?_
  refine lv_icmp_ne (tgt := 28) hx hb dX12_laneOf_19 (by decide) (fun hc_5 => ?_) (fun hc_5 => ?_)
  · replace hF := gF hc_5 hF
    refine lv_iload_n hx hb dX12_laneOf_28 rfl (lv_at hl 1 rfl) ?_
    refine lv_iload_n hx hb dX12_laneOf_29 rfl (lv_at hl 0 rfl) ?_
    refine lv_isub hx hb dX12_laneOf_30 ?_
    exact g_ri hx hb hr hlocks hW hL (Option.some.inj hF) dX12_laneOf_31
  · replace hF := gT hc_5 hF
    refine lv_iload_n hx hb dX12_laneOf_22 rfl (lv_at hl 1 rfl) ?_
    refine lv_iload_n hx hb dX12_laneOf_23 rfl (lv_at hl 0 rfl) ?_
    refine lv_iadd hx hb dX12_laneOf_24 ?_
    refine lv_goto (tgt := 31) hx hb dX12_laneOf_25 (by decide) ?_
    exact g_ri hx hb hr hlocks hW hL (Option.some.inj hF) dX12_laneOf_31
abbrev rmX12_rankOf : Room := { frames := 2, cells := 0, slots := 0, locals := 43 }
abbrev wsX12_rankOf : List Cond := gws yX12_rankOf cX12_rankOf 3 (some .int)
set_option maxHeartbeats 4000000 in
set_option maxRecDepth 100000 in
theorem c_X12_rankOf (l : Launch) (X : gX) (w : gWd) (x1 : Int32) (r : Int32) (hF : F_X12_rankOf w x1 = some r) : Met l yX12_rankOf wsX12_rankOf rmX12_rankOf (gPc X [.ref (gA X 8 0), .int x1] w) (gQi X r w) 0 0 (gFr X) := by
  refine g_ofW (cc := cX12_rankOf) (maxL := 3) (ret := (some .int)) (by decide) rfl (Nat.le_of_ble_eq_true rfl) (fun p e s m args below meth c ls H hx hb hr hts hown hlocks hml hK hl hW => ?_)
  have hl : lv_has ls 3 [(0, .ref (gA X 8 0)), (1, .int x1)] := hl
  have hown : s.vm.findClass RX12 = some m.cls := hown
  have hL : gLo X [] := gLo_nil
  show W p l e rmX12_rankOf s m args below meth c H [] 0 0 _ _
  have k63 : CallW rmX12_rankOf s args RX12 RX12 63 yX12_laneOf cX12_laneOf 4 (some .int) wsX12_laneOf rmX12_laneOf 0 0 1 := cwV 1 hts (gGoodV (fun w h => List.mem_cons_of_mem _ h) wk_X12_63) rfl rfl rfl (by decide +kernel) ⟨Nat.le_of_ble_eq_true rfl, Nat.le_of_ble_eq_true rfl⟩
  have L_2 : ∀ (fu : Nat) (x1 : Int32) (x2 : Int32)  (ls : Array Slot) (hl : lv_has ls 3 [(0, .ref (gA X 8 0)), (1, .int x1), (2, .int x2)]) (hF : F_X12_rankOf_2 fu w x1 x2 = some r) (H : Heap) (locs : List Loc) (hW : gWo X 251 (gE X w) H) (hL : gLo X locs), W p l e rmX12_rankOf s m args below meth c H locs 0 0 (MQ below (gQi X r w) args s 0 0 (gFr X)) (F0 m 2 ls []) := by
    intro fu
    induction fu with
    | zero => intro x1 x2 ls hl hF H locs hW hL; rw [F_X12_rankOf_2_z] at hF; cases hF
    | succ fu2 ih2 =>
      intro x1 x2 ls hl hF H locs hW hL
      rw [F_X12_rankOf_2_s] at hF
      refine lv_aload_n hx hb dX12_rankOf_2 rfl (lv_at hl 0 rfl) ?_
      refine lv_iload_n hx hb dX12_rankOf_3 rfl (lv_at hl 2 rfl) ?_
      obtain ⟨v_2, hq_1, hF⟩ := gP_some hF
      refine g_Vi (As := [.int x2]) (rest := []) ⟨hx, hb, hml, hown, hts⟩ hK hW hL hl.1 (gok_o (by decide)) gE_O rfl (c_X12_laneOf l X w x2 v_2 hq_1) k63 rfl rfl (Nat.le_of_ble_eq_true rfl) dX12_rankOf_4 ⟨Nat.le_of_ble_eq_true rfl, Nat.le_of_ble_eq_true rfl⟩ (fun H locs hW hL => ?_)
      refine lv_iload_n hx hb dX12_rankOf_7 rfl (lv_at hl 1 rfl) ?_
      refine lv_icmp_eq (tgt := 17) hx hb dX12_rankOf_8 (by decide) (fun hc_3 => ?_) (fun hc_3 => ?_)
      · replace hF := gT hc_3 hF
        refine lv_iload_n hx hb dX12_rankOf_17 rfl (lv_at hl 2 rfl) ?_
        exact g_ri hx hb hr hlocks hW hL (Option.some.inj hF) dX12_rankOf_18
      · replace hF := gF hc_3 hF
        obtain ⟨x2_4, ex2_4, hF⟩ := gS_some hF
        refine lv_iinc (v := x2_4) (lv' := [(2, .int x2_4), (0, .ref (gA X 8 0)), (1, .int x1)]) hx hb dX12_rankOf_11 hl (k := 2) rfl (by rw [ex2_4]; rfl) (by decide) rfl (fun ls hl => ?_)
        refine lv_goto (tgt := 2) hx hb dX12_rankOf_14 (by decide) ?_
        exact ih2 x1 x2_4 ls (lv_sub hl [1, 2, 0] rfl) hF H locs hW hL
  rw [F_X12_rankOf] at hF
  obtain ⟨locs, hlocs⟩ : ∃ locs : List Loc, locs = [] := ⟨_, rfl⟩
  rw [← hlocs] at hL ⊢
  refine lv_iconst (v := 0) hx hb dX12_rankOf_0 (by decide) ?_
  refine lv_istore_n (lv' := [(2, .int 0), (0, .ref (gA X 8 0)), (1, .int x1)]) hx hb dX12_rankOf_1 rfl hl (by decide) rfl (fun ls hl => ?_)
  exact L_2 gFU x1 0 ls (lv_sub hl [1, 2, 0] rfl) hF H locs hW hL
abbrev rmX12_present : Room := { frames := 2, cells := 0, slots := 0, locals := 43 }
abbrev wsX12_present : List Cond := gws yX12_present cX12_present 3 (some .int)
set_option maxHeartbeats 4000000 in
set_option maxRecDepth 100000 in
theorem c_X12_present (l : Launch) (X : gX) (w : gWd)  (r : Int32) (hF : F_X12_present w = some r) : Met l yX12_present wsX12_present rmX12_present (gPc X [.ref (gA X 8 0)] w) (gQi X r w) 0 0 (gFr X) := by
  refine g_ofW (cc := cX12_present) (maxL := 3) (ret := (some .int)) (by decide) rfl (Nat.le_of_ble_eq_true rfl) (fun p e s m args below meth c ls H hx hb hr hts hown hlocks hml hK hl hW => ?_)
  have hl : lv_has ls 3 [(0, .ref (gA X 8 0))] := hl
  have hown : s.vm.findClass RX12 = some m.cls := hown
  have hL : gLo X [] := gLo_nil
  show W p l e rmX12_present s m args below meth c H [] 0 0 _ _
  have inX12 : ∀ w ∈ wsX120, w ∈ wsX12_present := fun w h => List.mem_cons_of_mem _ (inlX12 w h)
  have q7 := hts _ (List.mem_cons_of_mem _ wq_X12_7)
  have k44 : CallW rmX12_present s args RX12 RX12 44 yX12_isGone cX12_isGone 2 (some .boolean) wsX12_isGone rmX12_isGone 0 0 1 := cwV 1 hts (gGoodV (fun w h => List.mem_cons_of_mem _ h) wk_X12_44) rfl rfl rfl (by decide +kernel) ⟨Nat.le_of_ble_eq_true rfl, Nat.le_of_ble_eq_true rfl⟩
  have L_4 : ∀ (fu : Nat) (x1 : Int32) (x2 : Int32)  (ls : Array Slot) (hl : lv_has ls 3 [(0, .ref (gA X 8 0)), (1, .int x1), (2, .int x2)]) (hF : F_X12_present_4 fu w x1 x2 = some r) (H : Heap) (locs : List Loc) (hW : gWo X 251 (gE X w) H) (hL : gLo X locs), W p l e rmX12_present s m args below meth c H locs 0 0 (MQ below (gQi X r w) args s 0 0 (gFr X)) (F0 m 4 ls []) := by
    intro fu
    induction fu with
    | zero => intro x1 x2 ls hl hF H locs hW hL; rw [F_X12_present_4_z] at hF; cases hF
    | succ fu4 ih4 =>
      intro x1 x2 ls hl hF H locs hW hL
      rw [F_X12_present_4_s] at hF
      refine lv_iload_n hx hb dX12_present_4 rfl (lv_at hl 2 rfl) ?_
      refine lv_aload_n hx hb dX12_present_5 rfl (lv_at hl 0 rfl) ?_
      refine rg_X12_s hx hb hts inX12 hown hK hW q7 dX12_present_6 ?_
      refine lv_sipush (v := 311) hx hb dX12_present_9 (by decide) ?_
      refine g_iald2 (k := 311) hx hb hK hW (gok_o (by decide)) (gad_lt (gok_o (by decide))) gE_O1 (gin (by decide)) (by decide) dX12_present_12 ?_
      refine lv_icmp_ge (tgt := 38) hx hb dX12_present_13 (by decide) (fun hc_1 => ?_) (fun hc_1 => ?_)
      · replace hF := gT hc_1 hF
        refine lv_iload_n hx hb dX12_present_38 rfl (lv_at hl 1 rfl) ?_
        exact g_ri hx hb hr hlocks hW hL (Option.some.inj hF) dX12_present_39
      · replace hF := gF hc_1 hF
        refine lv_iload_n hx hb dX12_present_16 rfl (lv_at hl 1 rfl) ?_
        refine lv_aload_n hx hb dX12_present_17 rfl (lv_at hl 0 rfl) ?_
        refine lv_iload_n hx hb dX12_present_18 rfl (lv_at hl 2 rfl) ?_
        obtain ⟨v_3, hq_2, hF⟩ := gP_some hF
        refine g_Vi (As := [.int x2]) (rest := [.int x1]) ⟨hx, hb, hml, hown, hts⟩ hK hW hL hl.1 (gok_o (by decide)) gE_O rfl (c_X12_isGone l X w x2 v_3 hq_2) k44 rfl rfl (Nat.le_of_ble_eq_true rfl) dX12_present_19 ⟨Nat.le_of_ble_eq_true rfl, Nat.le_of_ble_eq_true rfl⟩ (fun H locs hW hL => ?_)
        refine lv_if_eq (tgt := 29) hx hb dX12_present_22 (by decide) (fun hc_4 => ?_) (fun hc_4 => ?_)
        · replace hF := gT hc_4 hF
          refine lv_iconst (v := 1) hx hb dX12_present_29 (by decide) ?_
          refine lv_iadd hx hb dX12_present_30 ?_
          obtain ⟨x1_5, ex1_5, hF⟩ := gS_some hF
          refine g_top ex1_5 ?_
          refine lv_istore_n (lv' := [(1, .int x1_5), (0, .ref (gA X 8 0)), (2, .int x2)]) hx hb dX12_present_31 rfl hl (by decide) rfl (fun ls hl => ?_)
          obtain ⟨x2_6, ex2_6, hF⟩ := gS_some hF
          refine lv_iinc (v := x2_6) (lv' := [(2, .int x2_6), (1, .int x1_5), (0, .ref (gA X 8 0))]) hx hb dX12_present_32 hl (k := 2) rfl (by rw [ex2_6]; rfl) (by decide) rfl (fun ls hl => ?_)
          refine lv_goto (tgt := 4) hx hb dX12_present_35 (by decide) ?_
          exact ih4 x1_5 x2_6 ls (lv_sub hl [2, 1, 0] rfl) hF H locs hW hL
        · replace hF := gF hc_4 hF
          refine lv_iconst (v := 0) hx hb dX12_present_25 (by decide) ?_
          refine lv_goto (tgt := 30) hx hb dX12_present_26 (by decide) ?_
          refine lv_iadd hx hb dX12_present_30 ?_
          obtain ⟨x1_7, ex1_7, hF⟩ := gS_some hF
          refine g_top ex1_7 ?_
          refine lv_istore_n (lv' := [(1, .int x1_7), (0, .ref (gA X 8 0)), (2, .int x2)]) hx hb dX12_present_31 rfl hl (by decide) rfl (fun ls hl => ?_)
          obtain ⟨x2_8, ex2_8, hF⟩ := gS_some hF
          refine lv_iinc (v := x2_8) (lv' := [(2, .int x2_8), (1, .int x1_7), (0, .ref (gA X 8 0))]) hx hb dX12_present_32 hl (k := 2) rfl (by rw [ex2_8]; rfl) (by decide) rfl (fun ls hl => ?_)
          refine lv_goto (tgt := 4) hx hb dX12_present_35 (by decide) ?_
          exact ih4 x1_7 x2_8 ls (lv_sub hl [2, 1, 0] rfl) hF H locs hW hL
  rw [F_X12_present] at hF
  obtain ⟨locs, hlocs⟩ : ∃ locs : List Loc, locs = [] := ⟨_, rfl⟩
  rw [← hlocs] at hL ⊢
  refine lv_iconst (v := 0) hx hb dX12_present_0 (by decide) ?_
  refine lv_istore_n (lv' := [(1, .int 0), (0, .ref (gA X 8 0))]) hx hb dX12_present_1 rfl hl (by decide) rfl (fun ls hl => ?_)
  refine lv_iconst (v := 0) hx hb dX12_present_2 (by decide) ?_
  refine lv_istore_n (lv' := [(2, .int 0), (1, .int 0), (0, .ref (gA X 8 0))]) hx hb dX12_present_3 rfl hl (by decide) rfl (fun ls hl => ?_)
  exact L_4 gFU 0 0 ls (lv_sub hl [2, 1, 0] rfl) hF H locs hW hL
abbrev rmX12_sizeOf : Room := { frames := 0, cells := 0, slots := 0, locals := 0 }
abbrev wsX12_sizeOf : List Cond := gws yX12_sizeOf cX12_sizeOf 5 (some .int)
set_option maxHeartbeats 4000000 in
set_option maxRecDepth 100000 in
theorem c_X12_sizeOf (l : Launch) (X : gX) (w : gWd) (x1 : Int32) (x2 : Int32) (r : Int32) (hF : F_X12_sizeOf w x1 x2 = some r) : Met l yX12_sizeOf wsX12_sizeOf rmX12_sizeOf (gPc X [.ref (gA X 8 0), .int x1, .int x2] w) (gQi X r w) 0 0 (gFr X) := by
  refine g_ofW (cc := cX12_sizeOf) (maxL := 5) (ret := (some .int)) (by decide) rfl (Nat.le_of_ble_eq_true rfl) (fun p e s m args below meth c ls H hx hb hr hts hown hlocks hml hK hl hW => ?_)
  have hl : lv_has ls 5 [(0, .ref (gA X 8 0)), (1, .int x1), (2, .int x2)] := hl
  have hown : s.vm.findClass RX12 = some m.cls := hown
  have hL : gLo X [] := gLo_nil
  show W p l e rmX12_sizeOf s m args below meth c H [] 0 0 _ _
  have inX12 : ∀ w ∈ wsX120, w ∈ wsX12_sizeOf := fun w h => List.mem_cons_of_mem _ (inlX12 w h)
  have q22 := hts _ (List.mem_cons_of_mem _ wq_X12_22)
  have L_5 : ∀ (fu : Nat) (x1 : Int32) (x2 : Int32) (x3 : Int32) (x4 : Int32)  (ls : Array Slot) (hl : lv_has ls 5 [(0, .ref (gA X 8 0)), (1, .int x1), (2, .int x2), (3, .int x3), (4, .int x4)]) (hF : F_X12_sizeOf_5 fu w x1 x2 x3 x4 = some r) (H : Heap) (locs : List Loc) (hW : gWo X 251 (gE X w) H) (hL : gLo X locs), W p l e rmX12_sizeOf s m args below meth c H locs 0 0 (MQ below (gQi X r w) args s 0 0 (gFr X)) (F0 m 5 ls []) := by
    intro fu
    induction fu with
    | zero => intro x1 x2 x3 x4 ls hl hF H locs hW hL; rw [F_X12_sizeOf_5_z] at hF; cases hF
    | succ fu5 ih5 =>
      intro x1 x2 x3 x4 ls hl hF H locs hW hL
      rw [F_X12_sizeOf_5_s] at hF
      refine lv_iload hx hb dX12_sizeOf_5 (lv_at hl 4 rfl) ?_
      refine lv_iload_n hx hb dX12_sizeOf_7 rfl (lv_at hl 2 rfl) ?_
      refine lv_icmp_ge (tgt := 36) hx hb dX12_sizeOf_8 (by decide) (fun hc_1 => ?_) (fun hc_1 => ?_)
      · replace hF := gT hc_1 hF
        refine lv_iload_n hx hb dX12_sizeOf_36 rfl (lv_at hl 3 rfl) ?_
        exact g_ri hx hb hr hlocks hW hL (Option.some.inj hF) dX12_sizeOf_37
      · replace hF := gF hc_1 hF
        refine lv_iload_n hx hb dX12_sizeOf_11 rfl (lv_at hl 3 rfl) ?_
        refine lv_aload_n hx hb dX12_sizeOf_12 rfl (lv_at hl 0 rfl) ?_
        refine rg_X12_drawn hx hb hts inX12 hown hK hW q22 dX12_sizeOf_13 ?_
        refine lv_iload hx hb dX12_sizeOf_16 (lv_at hl 4 rfl) ?_
        obtain ⟨hin_2, hF⟩ := gB_some hF
        obtain ⟨k_3, ek_3⟩ : ∃ k, k = Int32.toNatClampNeg x4 := ⟨_, rfl⟩
        rw [← ek_3] at hF
        refine g_iald2 (k := k_3) hx hb hK hW (gok_o (by decide)) (gad_lt (gok_o (by decide))) gE_O5 hin_2 ek_3.symm dX12_sizeOf_18 ?_
        refine lv_iload_n hx hb dX12_sizeOf_19 rfl (lv_at hl 1 rfl) ?_
        refine lv_icmp_ne (tgt := 27) hx hb dX12_sizeOf_20 (by decide) (fun hc_4 => ?_) (fun hc_4 => ?_)
        · replace hF := gF hc_4 hF
          refine lv_iconst (v := 0) hx hb dX12_sizeOf_27 (by decide) ?_
          refine lv_iadd hx hb dX12_sizeOf_28 ?_
          obtain ⟨x3_5, ex3_5, hF⟩ := gS_some hF
          refine g_top ex3_5 ?_
          refine lv_istore_n (lv' := [(3, .int x3_5), (0, .ref (gA X 8 0)), (1, .int x1), (2, .int x2), (4, .int x4)]) hx hb dX12_sizeOf_29 rfl hl (by decide) rfl (fun ls hl => ?_)
          obtain ⟨x4_6, ex4_6, hF⟩ := gS_some hF
          refine lv_iinc (v := x4_6) (lv' := [(4, .int x4_6), (3, .int x3_5), (0, .ref (gA X 8 0)), (1, .int x1), (2, .int x2)]) hx hb dX12_sizeOf_30 hl (k := 4) rfl (by rw [ex4_6]; rfl) (by decide) rfl (fun ls hl => ?_)
          refine lv_goto (tgt := 5) hx hb dX12_sizeOf_33 (by decide) ?_
          exact ih5 x1 x2 x3_5 x4_6 ls (lv_sub hl [2, 3, 4, 1, 0] rfl) hF H locs hW hL
        · replace hF := gT hc_4 hF
          refine lv_iconst (v := 1) hx hb dX12_sizeOf_23 (by decide) ?_
          refine lv_goto (tgt := 28) hx hb dX12_sizeOf_24 (by decide) ?_
          refine lv_iadd hx hb dX12_sizeOf_28 ?_
          obtain ⟨x3_7, ex3_7, hF⟩ := gS_some hF
          refine g_top ex3_7 ?_
          refine lv_istore_n (lv' := [(3, .int x3_7), (0, .ref (gA X 8 0)), (1, .int x1), (2, .int x2), (4, .int x4)]) hx hb dX12_sizeOf_29 rfl hl (by decide) rfl (fun ls hl => ?_)
          obtain ⟨x4_8, ex4_8, hF⟩ := gS_some hF
          refine lv_iinc (v := x4_8) (lv' := [(4, .int x4_8), (3, .int x3_7), (0, .ref (gA X 8 0)), (1, .int x1), (2, .int x2)]) hx hb dX12_sizeOf_30 hl (k := 4) rfl (by rw [ex4_8]; rfl) (by decide) rfl (fun ls hl => ?_)
          refine lv_goto (tgt := 5) hx hb dX12_sizeOf_33 (by decide) ?_
          exact ih5 x1 x2 x3_7 x4_8 ls (lv_sub hl [2, 3, 4, 1, 0] rfl) hF H locs hW hL
  rw [F_X12_sizeOf] at hF
  obtain ⟨locs, hlocs⟩ : ∃ locs : List Loc, locs = [] := ⟨_, rfl⟩
  rw [← hlocs] at hL ⊢
  refine lv_iconst (v := 0) hx hb dX12_sizeOf_0 (by decide) ?_
  refine lv_istore_n (lv' := [(3, .int 0), (0, .ref (gA X 8 0)), (1, .int x1), (2, .int x2)]) hx hb dX12_sizeOf_1 rfl hl (by decide) rfl (fun ls hl => ?_)
  refine lv_iconst (v := 0) hx hb dX12_sizeOf_2 (by decide) ?_
  refine lv_istore (lv' := [(4, .int 0), (3, .int 0), (0, .ref (gA X 8 0)), (1, .int x1), (2, .int x2)]) hx hb dX12_sizeOf_3 hl (by decide) rfl (fun ls hl => ?_)
  exact L_5 gFU x1 x2 0 0 ls (lv_sub hl [2, 3, 4, 1, 0] rfl) hF H locs hW hL
abbrev rmX12_heatFor : Room := { frames := 1, cells := 0, slots := 0, locals := 20 }
abbrev wsX12_heatFor : List Cond := gws yX12_heatFor cX12_heatFor 3 (some .int)
set_option maxHeartbeats 4000000 in
set_option maxRecDepth 100000 in
theorem c_X12_heatFor (l : Launch) (X : gX) (w : gWd) (x1 : Int32) (x2 : Int32) (r : Int32) (hF : F_X12_heatFor w x1 x2 = some r) : Met l yX12_heatFor wsX12_heatFor rmX12_heatFor (gPc X [.ref (gA X 8 0), .int x1, .int x2] w) (gQi X r w) 0 0 (gFr X) := by
  refine g_ofW (cc := cX12_heatFor) (maxL := 3) (ret := (some .int)) (by decide) rfl (Nat.le_of_ble_eq_true rfl) (fun p e s m args below meth c ls H hx hb hr hts hown hlocks hml hK hl hW => ?_)
  have hl : lv_has ls 3 [(0, .ref (gA X 8 0)), (1, .int x1), (2, .int x2)] := hl
  have hown : s.vm.findClass RX12 = some m.cls := hown
  have hL : gLo X [] := gLo_nil
  show W p l e rmX12_heatFor s m args below meth c H [] 0 0 _ _
  have k59 : CallW rmX12_heatFor s args RX12 RX12 59 yX12_lanes cX12_lanes 1 (some .int) wsX12_lanes rmX12_lanes 0 0 0 := cwV 0 hts (gGoodV (fun w h => List.mem_cons_of_mem _ h) wk_X12_59) rfl rfl rfl (by decide +kernel) ⟨Nat.le_of_ble_eq_true rfl, Nat.le_of_ble_eq_true rfl⟩
  rw [F_X12_heatFor] at hF
  obtain ⟨locs, hlocs⟩ : ∃ locs : List Loc, locs = [] := ⟨_, rfl⟩
  rw [← hlocs] at hL ⊢
  refine lv_iload_n hx hb dX12_heatFor_0 rfl (lv_at hl 2 rfl) ?_
  refine lv_iconst (v := 3) hx hb dX12_heatFor_1 (by decide) ?_
  refine lv_icmp_ge (tgt := 20) hx hb dX12_heatFor_2 (by decide) (fun hc_1 => ?_) (fun hc_1 => ?_)
  · replace hF := gT hc_1 hF
    refine lv_iload_n hx hb dX12_heatFor_20 rfl (lv_at hl 1 rfl) ?_
    refine lv_iconst (v := 3) hx hb dX12_heatFor_21 (by decide) ?_
    refine lv_aload_n hx hb dX12_heatFor_22 rfl (lv_at hl 0 rfl) ?_
    obtain ⟨v_3, hq_2, hF⟩ := gP_some hF
    refine g_Vi (As := []) (rest := [.int 3, .int x1]) ⟨hx, hb, hml, hown, hts⟩ hK hW hL hl.1 (gok_o (by decide)) gE_O rfl (c_X12_lanes l X w  v_3 hq_2) k59 rfl rfl (Nat.le_of_ble_eq_true rfl) dX12_heatFor_23 ⟨Nat.le_of_ble_eq_true rfl, Nat.le_of_ble_eq_true rfl⟩ (fun H locs hW hL => ?_)
    refine lv_imul hx hb dX12_heatFor_26 ?_
    refine lv_icmp_ge (tgt := 40) hx hb dX12_heatFor_27 (by decide) (fun hc_4 => ?_) (fun hc_4 => ?_)
    · replace hF := gT hc_4 hF
      refine lv_iload_n hx hb dX12_heatFor_40 rfl (lv_at hl 2 rfl) ?_
      refine lv_iconst (v := 1) hx hb dX12_heatFor_41 (by decide) ?_
      refine lv_isub hx hb dX12_heatFor_42 ?_
      refine lv_iload_n hx hb dX12_heatFor_43 rfl (lv_at hl 1 rfl) ?_
      refine lv_aload_n hx hb dX12_heatFor_44 rfl (lv_at hl 0 rfl) ?_
      obtain ⟨v_6, hq_5, hF⟩ := gP_some hF
      refine g_Vi (As := []) (rest := [.int x1, .int (x2 - 1)]) ⟨hx, hb, hml, hown, hts⟩ hK hW hL hl.1 (gok_o (by decide)) gE_O rfl (c_X12_lanes l X w  v_6 hq_5) k59 rfl rfl (Nat.le_of_ble_eq_true rfl) dX12_heatFor_45 ⟨Nat.le_of_ble_eq_true rfl, Nat.le_of_ble_eq_true rfl⟩ (fun H locs hW hL => ?_)
      obtain ⟨hd_7, hF⟩ := gD_some hF
      refine lv_idiv hx hb dX12_heatFor_48 hd_7 ?_
      refine lv_isub hx hb dX12_heatFor_49 ?_
      exact g_ri hx hb hr hlocks hW hL (Option.some.inj hF) dX12_heatFor_50
    · replace hF := gF hc_4 hF
      refine lv_iload_n hx hb dX12_heatFor_30 rfl (lv_at hl 2 rfl) ?_
      refine lv_iconst (v := 1) hx hb dX12_heatFor_31 (by decide) ?_
      refine lv_isub hx hb dX12_heatFor_32 ?_
      refine lv_iload_n hx hb dX12_heatFor_33 rfl (lv_at hl 1 rfl) ?_
      refine lv_iconst (v := 3) hx hb dX12_heatFor_34 (by decide) ?_
      refine lv_irem hx hb dX12_heatFor_35 (by decide) ?_
      refine lv_isub hx hb dX12_heatFor_36 ?_
      refine lv_goto (tgt := 50) hx hb dX12_heatFor_37 (by decide) ?_
      exact g_ri hx hb hr hlocks hW hL (Option.some.inj hF) dX12_heatFor_50
  · replace hF := gF hc_1 hF
    refine lv_iload_n hx hb dX12_heatFor_5 rfl (lv_at hl 2 rfl) ?_
    refine lv_iconst (v := 1) hx hb dX12_heatFor_6 (by decide) ?_
    refine lv_icmp_ne (tgt := 14) hx hb dX12_heatFor_7 (by decide) (fun hc_8 => ?_) (fun hc_8 => ?_)
    · replace hF := gF hc_8 hF
      refine lv_iconst (v := 1) hx hb dX12_heatFor_14 (by decide) ?_
      refine lv_iload_n hx hb dX12_heatFor_15 rfl (lv_at hl 1 rfl) ?_
      refine lv_iconst (v := 2) hx hb dX12_heatFor_16 (by decide) ?_
      refine lv_irem hx hb dX12_heatFor_17 (by decide) ?_
      refine lv_isub hx hb dX12_heatFor_18 ?_
      exact g_ri hx hb hr hlocks hW hL (Option.some.inj hF) dX12_heatFor_19
    · replace hF := gT hc_8 hF
      refine lv_iconst (v := 0) hx hb dX12_heatFor_10 (by decide) ?_
      refine lv_goto (tgt := 19) hx hb dX12_heatFor_11 (by decide) ?_
      exact g_ri hx hb hr hlocks hW hL (Option.some.inj hF) dX12_heatFor_19
abbrev rmX12_plans : Room := { frames := 3, cells := 0, slots := 0, locals := 65 }
abbrev wsX12_plans : List Cond := gws yX12_plans cX12_plans 5 (some .int)
set_option maxHeartbeats 4000000 in
set_option maxRecDepth 100000 in
theorem c_X12_plans (l : Launch) (X : gX) (w : gWd)  (r : Int32) (w' : gWd) (hF : F_X12_plans w = some (r, w')) : Met l yX12_plans wsX12_plans rmX12_plans (gPc X [.ref (gA X 8 0)] w) (gQi X r w') 0 0 (gFr X) := by
  refine g_ofW (cc := cX12_plans) (maxL := 5) (ret := (some .int)) (by decide) rfl (Nat.le_of_ble_eq_true rfl) (fun p e s m args below meth c ls H hx hb hr hts hown hlocks hml hK hl hW => ?_)
  have hl : lv_has ls 5 [(0, .ref (gA X 8 0))] := hl
  have hown : s.vm.findClass RX12 = some m.cls := hown
  have hL : gLo X [] := gLo_nil
  show W p l e rmX12_plans s m args below meth c H [] 0 0 _ _
  have inX12 : ∀ w ∈ wsX120, w ∈ wsX12_plans := fun w h => List.mem_cons_of_mem _ (inlX12 w h)
  have q22 := hts _ (List.mem_cons_of_mem _ wq_X12_22)
  have q7 := hts _ (List.mem_cons_of_mem _ wq_X12_7)
  have k59 : CallW rmX12_plans s args RX12 RX12 59 yX12_lanes cX12_lanes 1 (some .int) wsX12_lanes rmX12_lanes 0 0 0 := cwV 0 hts (gGoodV (fun w h => List.mem_cons_of_mem _ h) wk_X12_59) rfl rfl rfl (by decide +kernel) ⟨Nat.le_of_ble_eq_true rfl, Nat.le_of_ble_eq_true rfl⟩
  have k66 : CallW rmX12_plans s args RX12 RX12 66 yX12_present cX12_present 3 (some .int) wsX12_present rmX12_present 0 0 0 := cwV 0 hts (gGoodV (fun w h => List.mem_cons_of_mem _ h) wk_X12_66) rfl rfl rfl (by decide +kernel) ⟨Nat.le_of_ble_eq_true rfl, Nat.le_of_ble_eq_true rfl⟩
  have k69 : CallW rmX12_plans s args RX12 RX12 69 yX12_heatFor cX12_heatFor 3 (some .int) wsX12_heatFor rmX12_heatFor 0 0 2 := cwV 2 hts (gGoodV (fun w h => List.mem_cons_of_mem _ h) wk_X12_69) rfl rfl rfl (by decide +kernel) ⟨Nat.le_of_ble_eq_true rfl, Nat.le_of_ble_eq_true rfl⟩
  have k72 : CallW rmX12_plans s args RX12 RX12 72 yX12_sizeOf cX12_sizeOf 5 (some .int) wsX12_sizeOf rmX12_sizeOf 0 0 2 := cwV 2 hts (gGoodV (fun w h => List.mem_cons_of_mem _ h) wk_X12_72) rfl rfl rfl (by decide +kernel) ⟨Nat.le_of_ble_eq_true rfl, Nat.le_of_ble_eq_true rfl⟩
  have L_74 : ∀ (fu : Nat) (w : gWd) (x2 : Int32) (x3 : Int32) (x4 : Int32)  (ls : Array Slot) (hl : lv_has ls 5 [(0, .ref (gA X 8 0)), (2, .int x2), (3, .int x3), (4, .int x4)]) (hF : F_X12_plans_74 fu w x2 x3 x4 = some (r, w')) (H : Heap) (locs : List Loc) (hW : gWo X 251 (gE X w) H) (hL : gLo X locs), W p l e rmX12_plans s m args below meth c H locs 0 0 (MQ below (gQi X r w') args s 0 0 (gFr X)) (F0 m 74 ls []) := by
    intro fu
    induction fu with
    | zero => intro w x2 x3 x4 ls hl hF H locs hW hL; rw [F_X12_plans_74_z] at hF; cases hF
    | succ fu74 ih74 =>
      intro w x2 x3 x4 ls hl hF H locs hW hL
      rw [F_X12_plans_74_s] at hF
      refine lv_iload hx hb dX12_plans_74 (lv_at hl 3 rfl) ?_
      refine lv_if_lt (tgt := 111) hx hb dX12_plans_76 (by decide) (fun hc_14 => ?_) (fun hc_14 => ?_)
      · replace hF := gT hc_14 hF
        refine lv_iload_n hx hb dX12_plans_111 rfl (lv_at hl 1 rfl) ?_
        exact g_ri hx hb hr hlocks (gW2 hF hW) hL (gI2 hF).1 dX12_plans_112
      · replace hF := gF hc_14 hF
        refine lv_iload_n hx hb dX12_plans_79 rfl (lv_at hl 2 rfl) ?_
        refine lv_if_le (tgt := 111) hx hb dX12_plans_80 (by decide) (fun hc_15 => ?_) (fun hc_15 => ?_)
        · replace hF := gT hc_15 hF
          refine lv_iload_n hx hb dX12_plans_111 rfl (lv_at hl 1 rfl) ?_
          exact g_ri hx hb hr hlocks (gW2 hF hW) hL (gI2 hF).1 dX12_plans_112
        · replace hF := gF hc_15 hF
          refine lv_aload_n hx hb dX12_plans_83 rfl (lv_at hl 0 rfl) ?_
          refine rg_X12_drawn hx hb hts inX12 hown hK hW q22 dX12_plans_84 ?_
          refine lv_iload hx hb dX12_plans_87 (lv_at hl 3 rfl) ?_
          obtain ⟨hin_16, hF⟩ := gB_some hF
          obtain ⟨k_17, ek_17⟩ : ∃ k, k = Int32.toNatClampNeg x4 := ⟨_, rfl⟩
          rw [← ek_17] at hF
          refine g_iald2 (k := k_17) hx hb hK hW (gok_o (by decide)) (gad_lt (gok_o (by decide))) gE_O5 hin_16 ek_17.symm dX12_plans_89 ?_
          refine lv_iconst (v := 1) hx hb dX12_plans_90 (by decide) ?_
          refine lv_icmp_ne (tgt := 105) hx hb dX12_plans_91 (by decide) (fun hc_18 => ?_) (fun hc_18 => ?_)
          · replace hF := gF hc_18 hF
            obtain ⟨x4_19, ex4_19, hF⟩ := gS_some hF
            refine lv_iinc (v := x4_19) (lv' := [(4, .int x4_19), (0, .ref (gA X 8 0)), (2, .int x2), (3, .int x3)]) hx hb dX12_plans_105 hl (k := 3) rfl (by rw [ex4_19]; rfl) (by decide) rfl (fun ls hl => ?_)
            refine lv_goto (tgt := 74) hx hb dX12_plans_108 (by decide) ?_
            exact ih74 w x2 x3 x4_19 ls (lv_sub hl [1, 2, 3, 0] rfl) hF H locs hW hL
          · replace hF := gT hc_18 hF
            refine lv_aload_n hx hb dX12_plans_94 rfl (lv_at hl 0 rfl) ?_
            refine rg_X12_drawn hx hb hts inX12 hown hK hW q22 dX12_plans_95 ?_
            refine lv_iload hx hb dX12_plans_98 (lv_at hl 3 rfl) ?_
            refine lv_iconst (v := 0) hx hb dX12_plans_100 (by decide) ?_
            obtain ⟨hin_20, hF⟩ := gB_some hF
            obtain ⟨k_21, ek_21⟩ : ∃ k, k = Int32.toNatClampNeg x4 := ⟨_, rfl⟩
            rw [← ek_21] at hF
            obtain ⟨w_22, ew_22, hF⟩ := gS_some hF
            refine g_iast2 (k := k_21) hx hb hK hW hL (gok_o (by decide)) (fun w => gE_O5 (w := w)) hin_20 ek_21.symm dX12_plans_101 (fun H locs hW hL => ?_)
            rw [← ew_22] at hW
            obtain ⟨x3_23, ex3_23, hF⟩ := gS_some hF
            refine lv_iinc (v := x3_23) (lv' := [(3, .int x3_23), (0, .ref (gA X 8 0)), (2, .int x2), (4, .int x4)]) hx hb dX12_plans_102 hl (k := 2) rfl (by rw [ex3_23]; rfl) (by decide) rfl (fun ls hl => ?_)
            obtain ⟨x4_24, ex4_24, hF⟩ := gS_some hF
            refine lv_iinc (v := x4_24) (lv' := [(4, .int x4_24), (3, .int x3_23), (0, .ref (gA X 8 0)), (2, .int x2)]) hx hb dX12_plans_105 hl (k := 3) rfl (by rw [ex4_24]; rfl) (by decide) rfl (fun ls hl => ?_)
            refine lv_goto (tgt := 74) hx hb dX12_plans_108 (by decide) ?_
            exact ih74 w_22 x2 x3_23 x4_24 ls (lv_sub hl [2, 3, 1, 0] rfl) hF H locs hW hL
  have L_21 : ∀ (fu : Nat) (w : gWd) (x1 : Int32) (x2 : Int32) (x3 : Int32)  (ls : Array Slot) (hl : lv_has ls 5 [(0, .ref (gA X 8 0)), (1, .int x1), (2, .int x2), (3, .int x3)]) (hF : F_X12_plans_21 fu w x1 x2 x3 = some (r, w')) (H : Heap) (locs : List Loc) (hW : gWo X 251 (gE X w) H) (hL : gLo X locs), W p l e rmX12_plans s m args below meth c H locs 0 0 (MQ below (gQi X r w') args s 0 0 (gFr X)) (F0 m 21 ls []) := by
    intro fu
    induction fu with
    | zero => intro w x1 x2 x3 ls hl hF H locs hW hL; rw [F_X12_plans_21_z] at hF; cases hF
    | succ fu21 ih21 =>
      intro w x1 x2 x3 ls hl hF H locs hW hL
      rw [F_X12_plans_21_s] at hF
      refine lv_iload_n hx hb dX12_plans_21 rfl (lv_at hl 3 rfl) ?_
      refine lv_iload_n hx hb dX12_plans_22 rfl (lv_at hl 1 rfl) ?_
      refine lv_icmp_ge (tgt := 44) hx hb dX12_plans_23 (by decide) (fun hc_1 => ?_) (fun hc_1 => ?_)
      · replace hF := gT hc_1 hF
        refine lv_iload_n hx hb dX12_plans_44 rfl (lv_at hl 2 rfl) ?_
        refine lv_iconst (v := 4) hx hb dX12_plans_45 (by decide) ?_
        refine lv_icmp_ge (tgt := 53) hx hb dX12_plans_46 (by decide) (fun hc_2 => ?_) (fun hc_2 => ?_)
        · replace hF := gT hc_2 hF
          refine lv_aload_n hx hb dX12_plans_53 rfl (lv_at hl 0 rfl) ?_
          refine rg_X12_s hx hb hts inX12 hown hK hW q7 dX12_plans_54 ?_
          refine lv_sipush (v := 318) hx hb dX12_plans_57 (by decide) ?_
          refine g_iald2 (k := 318) hx hb hK hW (gok_o (by decide)) (gad_lt (gok_o (by decide))) gE_O1 (gin (by decide)) (by decide) dX12_plans_60 ?_
          refine lv_aload_n hx hb dX12_plans_61 rfl (lv_at hl 0 rfl) ?_
          refine lv_iconst (v := 0) hx hb dX12_plans_62 (by decide) ?_
          refine lv_iload_n hx hb dX12_plans_63 rfl (lv_at hl 1 rfl) ?_
          obtain ⟨v_4, hq_3, hF⟩ := gP_some hF
          refine g_Vi (As := [.int 0, .int x1]) (rest := [.int (w 8 1 318)]) ⟨hx, hb, hml, hown, hts⟩ hK hW hL hl.1 (gok_o (by decide)) gE_O rfl (c_X12_sizeOf l X w 0 x1 v_4 hq_3) k72 rfl rfl (Nat.le_of_ble_eq_true rfl) dX12_plans_64 ⟨Nat.le_of_ble_eq_true rfl, Nat.le_of_ble_eq_true rfl⟩ (fun H locs hW hL => ?_)
          refine lv_isub hx hb dX12_plans_67 ?_
          obtain ⟨x3_5, ex3_5, hF⟩ := gS_some hF
          refine g_top ex3_5 ?_
          refine lv_istore_n (lv' := [(3, .int x3_5), (0, .ref (gA X 8 0)), (1, .int x1), (2, .int x2)]) hx hb dX12_plans_68 rfl hl (by decide) rfl (fun ls hl => ?_)
          refine lv_iload_n hx hb dX12_plans_69 rfl (lv_at hl 2 rfl) ?_
          refine lv_iconst (v := 1) hx hb dX12_plans_70 (by decide) ?_
          refine lv_isub hx hb dX12_plans_71 ?_
          obtain ⟨x4_6, ex4_6, hF⟩ := gS_some hF
          refine g_top ex4_6 ?_
          refine lv_istore (lv' := [(4, .int x4_6), (3, .int x3_5), (0, .ref (gA X 8 0)), (1, .int x1), (2, .int x2)]) hx hb dX12_plans_72 hl (by decide) rfl (fun ls hl => ?_)
          exact L_74 gFU w x2 x3_5 x4_6 ls (lv_sub hl [2, 4, 1, 0] rfl) hF H locs hW hL
        · replace hF := gF hc_2 hF
          refine lv_iconst (v := 0) hx hb dX12_plans_49 (by decide) ?_
          refine lv_goto (tgt := 68) hx hb dX12_plans_50 (by decide) ?_
          refine lv_istore_n (lv' := [(3, .int 0), (0, .ref (gA X 8 0)), (1, .int x1), (2, .int x2)]) hx hb dX12_plans_68 rfl hl (by decide) rfl (fun ls hl => ?_)
          refine lv_iload_n hx hb dX12_plans_69 rfl (lv_at hl 2 rfl) ?_
          refine lv_iconst (v := 1) hx hb dX12_plans_70 (by decide) ?_
          refine lv_isub hx hb dX12_plans_71 ?_
          obtain ⟨x4_7, ex4_7, hF⟩ := gS_some hF
          refine g_top ex4_7 ?_
          refine lv_istore (lv' := [(4, .int x4_7), (3, .int 0), (0, .ref (gA X 8 0)), (1, .int x1), (2, .int x2)]) hx hb dX12_plans_72 hl (by decide) rfl (fun ls hl => ?_)
          exact L_74 gFU w x2 0 x4_7 ls (lv_sub hl [2, 4, 1, 0] rfl) hF H locs hW hL
      · replace hF := gF hc_1 hF
        refine lv_aload_n hx hb dX12_plans_26 rfl (lv_at hl 0 rfl) ?_
        refine rg_X12_drawn hx hb hts inX12 hown hK hW q22 dX12_plans_27 ?_
        refine lv_iload_n hx hb dX12_plans_30 rfl (lv_at hl 3 rfl) ?_
        refine lv_aload_n hx hb dX12_plans_31 rfl (lv_at hl 0 rfl) ?_
        refine lv_iload_n hx hb dX12_plans_32 rfl (lv_at hl 3 rfl) ?_
        refine lv_iload_n hx hb dX12_plans_33 rfl (lv_at hl 2 rfl) ?_
        obtain ⟨v_9, hq_8, hF⟩ := gP_some hF
        refine g_Vi (As := [.int x3, .int x2]) (rest := [.int x3, .ref (gA X 8 5)]) ⟨hx, hb, hml, hown, hts⟩ hK hW hL hl.1 (gok_o (by decide)) gE_O rfl (c_X12_heatFor l X w x3 x2 v_9 hq_8) k69 rfl rfl (Nat.le_of_ble_eq_true rfl) dX12_plans_34 ⟨Nat.le_of_ble_eq_true rfl, Nat.le_of_ble_eq_true rfl⟩ (fun H locs hW hL => ?_)
        obtain ⟨hin_10, hF⟩ := gB_some hF
        obtain ⟨k_11, ek_11⟩ : ∃ k, k = Int32.toNatClampNeg x3 := ⟨_, rfl⟩
        rw [← ek_11] at hF
        obtain ⟨w_12, ew_12, hF⟩ := gS_some hF
        refine g_iast2 (k := k_11) hx hb hK hW hL (gok_o (by decide)) (fun w => gE_O5 (w := w)) hin_10 ek_11.symm dX12_plans_37 (fun H locs hW hL => ?_)
        rw [← ew_12] at hW
        obtain ⟨x3_13, ex3_13, hF⟩ := gS_some hF
        refine lv_iinc (v := x3_13) (lv' := [(3, .int x3_13), (0, .ref (gA X 8 0)), (1, .int x1), (2, .int x2)]) hx hb dX12_plans_38 hl (k := 3) rfl (by rw [ex3_13]; rfl) (by decide) rfl (fun ls hl => ?_)
        refine lv_goto (tgt := 21) hx hb dX12_plans_41 (by decide) ?_
        exact ih21 w_12 x1 x2 x3_13 ls (lv_sub hl [1, 2, 3, 0] rfl) hF H locs hW hL
  rw [F_X12_plans] at hF
  obtain ⟨locs, hlocs⟩ : ∃ locs : List Loc, locs = [] := ⟨_, rfl⟩
  rw [← hlocs] at hL ⊢
  refine lv_aload_n hx hb dX12_plans_0 rfl (lv_at hl 0 rfl) ?_
  obtain ⟨v_26, hq_25, hF⟩ := gP_some hF
  refine g_Vi (As := []) (rest := []) ⟨hx, hb, hml, hown, hts⟩ hK hW hL hl.1 (gok_o (by decide)) gE_O rfl (c_X12_present l X w  v_26 hq_25) k66 rfl rfl (Nat.le_of_ble_eq_true rfl) dX12_plans_1 ⟨Nat.le_of_ble_eq_true rfl, Nat.le_of_ble_eq_true rfl⟩ (fun H locs hW hL => ?_)
  refine lv_istore_n (lv' := [(1, .int v_26), (0, .ref (gA X 8 0))]) hx hb dX12_plans_4 rfl hl (by decide) rfl (fun ls hl => ?_)
  refine lv_iload_n hx hb dX12_plans_5 rfl (lv_at hl 0 rfl) ?_
  refine lv_aload_n hx hb dX12_plans_6 rfl (lv_at hl 1 rfl) ?_
  obtain ⟨v_28, hq_27, hF⟩ := gP_some hF
  refine g_Vi (As := []) (rest := [.int v_26]) ⟨hx, hb, hml, hown, hts⟩ hK hW hL hl.1 (gok_o (by decide)) gE_O rfl (c_X12_lanes l X w  v_28 hq_27) k59 rfl rfl (Nat.le_of_ble_eq_true rfl) dX12_plans_7 ⟨Nat.le_of_ble_eq_true rfl, Nat.le_of_ble_eq_true rfl⟩ (fun H locs hW hL => ?_)
  refine lv_iadd hx hb dX12_plans_10 ?_
  refine lv_iconst (v := 1) hx hb dX12_plans_11 (by decide) ?_
  refine lv_isub hx hb dX12_plans_12 ?_
  refine lv_aload_n hx hb dX12_plans_13 rfl (lv_at hl 1 rfl) ?_
  obtain ⟨v_30, hq_29, hF⟩ := gP_some hF
  refine g_Vi (As := []) (rest := [.int ((v_26 + v_28) - 1)]) ⟨hx, hb, hml, hown, hts⟩ hK hW hL hl.1 (gok_o (by decide)) gE_O rfl (c_X12_lanes l X w  v_30 hq_29) k59 rfl rfl (Nat.le_of_ble_eq_true rfl) dX12_plans_14 ⟨Nat.le_of_ble_eq_true rfl, Nat.le_of_ble_eq_true rfl⟩ (fun H locs hW hL => ?_)
  obtain ⟨hd_31, hF⟩ := gD_some hF
  refine lv_idiv hx hb dX12_plans_17 hd_31 ?_
  obtain ⟨x2_32, ex2_32, hF⟩ := gS_some hF
  refine g_top ex2_32 ?_
  refine lv_istore_n (lv' := [(2, .int x2_32), (1, .int v_26), (0, .ref (gA X 8 0))]) hx hb dX12_plans_18 rfl hl (by decide) rfl (fun ls hl => ?_)
  refine lv_iconst (v := 0) hx hb dX12_plans_19 (by decide) ?_
  refine lv_istore_n (lv' := [(3, .int 0), (2, .int x2_32), (1, .int v_26), (0, .ref (gA X 8 0))]) hx hb dX12_plans_20 rfl hl (by decide) rfl (fun ls hl => ?_)
  exact L_21 gFU w v_26 x2_32 0 ls (lv_sub hl [3, 2, 1, 0] rfl) hF H locs hW hL
abbrev rmX12_laneIn : Room := { frames := 2, cells := 0, slots := 0, locals := 43 }
abbrev wsX12_laneIn : List Cond := gws yX12_laneIn cX12_laneIn 2 (some .int)
set_option maxHeartbeats 4000000 in
set_option maxRecDepth 100000 in
theorem c_X12_laneIn (l : Launch) (X : gX) (w : gWd) (x1 : Int32) (r : Int32) (hF : F_X12_laneIn w x1 = some r) : Met l yX12_laneIn wsX12_laneIn rmX12_laneIn (gPc X [.ref (gA X 8 0), .int x1] w) (gQi X r w) 0 0 (gFr X) := by
  refine g_ofW (cc := cX12_laneIn) (maxL := 2) (ret := (some .int)) (by decide) rfl (Nat.le_of_ble_eq_true rfl) (fun p e s m args below meth c ls H hx hb hr hts hown hlocks hml hK hl hW => ?_)
  have hl : lv_has ls 2 [(0, .ref (gA X 8 0)), (1, .int x1)] := hl
  have hown : s.vm.findClass RX12 = some m.cls := hown
  have hL : gLo X [] := gLo_nil
  show W p l e rmX12_laneIn s m args below meth c H [] 0 0 _ _
  have inX12 : ∀ w ∈ wsX120, w ∈ wsX12_laneIn := fun w h => List.mem_cons_of_mem _ (inlX12 w h)
  have q22 := hts _ (List.mem_cons_of_mem _ wq_X12_22)
  have k63 : CallW rmX12_laneIn s args RX12 RX12 63 yX12_laneOf cX12_laneOf 4 (some .int) wsX12_laneOf rmX12_laneOf 0 0 1 := cwV 1 hts (gGoodV (fun w h => List.mem_cons_of_mem _ h) wk_X12_63) rfl rfl rfl (by decide +kernel) ⟨Nat.le_of_ble_eq_true rfl, Nat.le_of_ble_eq_true rfl⟩
  have k72 : CallW rmX12_laneIn s args RX12 RX12 72 yX12_sizeOf cX12_sizeOf 5 (some .int) wsX12_sizeOf rmX12_sizeOf 0 0 2 := cwV 2 hts (gGoodV (fun w h => List.mem_cons_of_mem _ h) wk_X12_72) rfl rfl rfl (by decide +kernel) ⟨Nat.le_of_ble_eq_true rfl, Nat.le_of_ble_eq_true rfl⟩
  rw [F_X12_laneIn] at hF
  obtain ⟨locs, hlocs⟩ : ∃ locs : List Loc, locs = [] := ⟨_, rfl⟩
  rw [← hlocs] at hL ⊢
  refine lv_aload_n hx hb dX12_laneIn_0 rfl (lv_at hl 0 rfl) ?_
  refine lv_aload_n hx hb dX12_laneIn_1 rfl (lv_at hl 0 rfl) ?_
  refine lv_aload_n hx hb dX12_laneIn_2 rfl (lv_at hl 0 rfl) ?_
  refine rg_X12_drawn hx hb hts inX12 hown hK hW q22 dX12_laneIn_3 ?_
  refine lv_iload_n hx hb dX12_laneIn_6 rfl (lv_at hl 1 rfl) ?_
  obtain ⟨hin_1, hF⟩ := gB_some hF
  obtain ⟨k_2, ek_2⟩ : ∃ k, k = Int32.toNatClampNeg x1 := ⟨_, rfl⟩
  rw [← ek_2] at hF
  refine g_iald2 (k := k_2) hx hb hK hW (gok_o (by decide)) (gad_lt (gok_o (by decide))) gE_O5 hin_1 ek_2.symm dX12_laneIn_7 ?_
  refine lv_iload_n hx hb dX12_laneIn_8 rfl (lv_at hl 1 rfl) ?_
  obtain ⟨v_4, hq_3, hF⟩ := gP_some hF
  refine g_Vi (As := [.int (w 8 5 k_2), .int x1]) (rest := [.ref (gA X 8 0)]) ⟨hx, hb, hml, hown, hts⟩ hK hW hL hl.1 (gok_o (by decide)) gE_O rfl (c_X12_sizeOf l X w ((w 8 5 k_2)) x1 v_4 hq_3) k72 rfl rfl (Nat.le_of_ble_eq_true rfl) dX12_laneIn_9 ⟨Nat.le_of_ble_eq_true rfl, Nat.le_of_ble_eq_true rfl⟩ (fun H locs hW hL => ?_)
  obtain ⟨v_6, hq_5, hF⟩ := gP_some hF
  refine g_Vi (As := [.int v_4]) (rest := []) ⟨hx, hb, hml, hown, hts⟩ hK hW hL hl.1 (gok_o (by decide)) gE_O rfl (c_X12_laneOf l X w v_4 v_6 hq_5) k63 rfl rfl (Nat.le_of_ble_eq_true rfl) dX12_laneIn_12 ⟨Nat.le_of_ble_eq_true rfl, Nat.le_of_ble_eq_true rfl⟩ (fun H locs hW hL => ?_)
  exact g_ri hx hb hr hlocks hW hL (Option.some.inj hF) dX12_laneIn_15
