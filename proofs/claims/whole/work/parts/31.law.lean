set_option maxHeartbeats 8000000 in
set_option maxRecDepth 100000 in
theorem law_walk {p : Program} {e : Env} {s : State} {m : MethodId} {below : List Frame} {meth : Method} {c : Code} (l : Launch) {b L : Nat} {xs : Nat → Int32} (X : gX) (w' : gWd) (hBs : X.B = s.heap.size) (hbB : b < X.B) (hx : p.tables.exec = Jvm.exec) (hb : c.code = code) (hr : meth.sig.returnType = ret) (hml : c.maxLocals = 4) (hown : (s.setDrawn s.drawn).vm.findClass RL = some m.cls) (hts : ∀ w ∈ wsL_law, w.before #[Value.ref b] (s.setDrawn s.drawn) = true) (hX : va_X b L xs (s.setDrawn s.drawn) X.H0) (hlocks : meth.locks = false) (hK : gKt X (s.setDrawn s.drawn)) (hd0 : s.drawn.sameBut s.drawn lw_cs) : ∀ (fu : Nat) (w : gWd) (x3 : Int32)  (ls : Array Slot) (hl : lv_has ls 4 [(0, .ref b), (1, .ref (gA X 7 0)), (2, .ref (gA X 8 0)), (3, .int x3)]) (hF : F_L_law_18 L xs fu w x3 = some (1, w')) (H : Heap) (locs : List Loc) (hW : gWo X 251 (gE X w) H) (hL : gLo X locs), W p l e room_1 (s.setDrawn s.drawn) m #[Value.ref b] below meth c H locs 600000 7302250 (lw_Z below #[Value.ref b] s) (F0 m 18 ls []) := by
  have k100 : CallW room_1 (s.setDrawn s.drawn) #[Value.ref b] RL RX11 100 yX11_type cX11_type 2 (some .int) wsX11_type rmX11_type 0 0 1 := cwV 1 hts (gGoodV (fun w h => h) wk_L_100) rfl rfl rfl (by decide +kernel) ⟨Nat.le_of_ble_eq_true rfl, Nat.le_of_ble_eq_true rfl⟩
  have k103 : CallW room_1 (s.setDrawn s.drawn) #[Value.ref b] RL RX12 103 yX12_type cX12_type 2 (some .int) wsX12_type rmX12_type 0 0 1 := cwV 1 hts (gGoodV (fun w h => h) wk_L_103) rfl rfl rfl (by decide +kernel) ⟨Nat.le_of_ble_eq_true rfl, Nat.le_of_ble_eq_true rfl⟩
  have k104 : CallW room_1 (s.setDrawn s.drawn) #[Value.ref b] RL RX11 104 yX11_clearText cX11_clearText 1 (some .int) wsX11_clearText rmX11_clearText 0 0 0 := cwV 0 hts (gGoodV (fun w h => h) wk_L_104) rfl rfl rfl (by decide +kernel) ⟨Nat.le_of_ble_eq_true rfl, Nat.le_of_ble_eq_true rfl⟩
  have k107 : CallW room_1 (s.setDrawn s.drawn) #[Value.ref b] RL RX12 107 yX12_clearText cX12_clearText 2 (some .int) wsX12_clearText rmX12_clearText 0 0 0 := cwV 0 hts (gGoodV (fun w h => h) wk_L_107) rfl rfl rfl (by decide +kernel) ⟨Nat.le_of_ble_eq_true rfl, Nat.le_of_ble_eq_true rfl⟩
  have k108 : CallW room_1 (s.setDrawn s.drawn) #[Value.ref b] RL RX11 108 yX11_fault cX11_fault 2 (some .int) wsX11_fault rmX11_fault 0 0 1 := cwV 1 hts (gGoodV (fun w h => h) wk_L_108) rfl rfl rfl (by decide +kernel) ⟨Nat.le_of_ble_eq_true rfl, Nat.le_of_ble_eq_true rfl⟩
  have k111 : CallW room_1 (s.setDrawn s.drawn) #[Value.ref b] RL RX12 111 yX12_fault cX12_fault 3 (some .int) wsX12_fault rmX12_fault 0 0 1 := cwV 1 hts (gGoodV (fun w h => h) wk_L_111) rfl rfl rfl (by decide +kernel) ⟨Nat.le_of_ble_eq_true rfl, Nat.le_of_ble_eq_true rfl⟩
  have k112 : CallW room_1 (s.setDrawn s.drawn) #[Value.ref b] RL RX11 112 yX11_play cX11_play 1 (some .int) wsX11_play rmX11_play 0 0 0 := cwV 0 hts (gGoodV (fun w h => h) wk_L_112) rfl rfl rfl (by decide +kernel) ⟨Nat.le_of_ble_eq_true rfl, Nat.le_of_ble_eq_true rfl⟩
  have k115 : CallW room_1 (s.setDrawn s.drawn) #[Value.ref b] RL RX12 115 yX12_play cX12_play 2 (some .int) wsX12_play rmX12_play 0 0 0 := cwV 0 hts (gGoodV (fun w h => h) wk_L_115) rfl rfl rfl (by decide +kernel) ⟨Nat.le_of_ble_eq_true rfl, Nat.le_of_ble_eq_true rfl⟩
  have k13 : CallW room_1 (s.setDrawn s.drawn) #[Value.ref b] RL RX11 13 yX11_enter cX11_enter 3 (some .int) wsX11_enter rmX11_enter 0 0 2 := cwV 2 hts (gGoodV (fun w h => h) wk_L_13) rfl rfl rfl (by decide +kernel) ⟨Nat.le_of_ble_eq_true rfl, Nat.le_of_ble_eq_true rfl⟩
  have k17 : CallW room_1 (s.setDrawn s.drawn) #[Value.ref b] RL RX12 17 yX12_enter cX12_enter 3 (some .int) wsX12_enter rmX12_enter 0 0 2 := cwV 2 hts (gGoodV (fun w h => h) wk_L_17) rfl rfl rfl (by decide +kernel) ⟨Nat.le_of_ble_eq_true rfl, Nat.le_of_ble_eq_true rfl⟩
  have k18 : CallW room_1 (s.setDrawn s.drawn) #[Value.ref b] RL RX11 18 yX11_scratch cX11_scratch 2 (some .int) wsX11_scratch rmX11_scratch 0 0 1 := cwV 1 hts (gGoodV (fun w h => h) wk_L_18) rfl rfl rfl (by decide +kernel) ⟨Nat.le_of_ble_eq_true rfl, Nat.le_of_ble_eq_true rfl⟩
  have k22 : CallW room_1 (s.setDrawn s.drawn) #[Value.ref b] RL RX12 22 yX12_scratch cX12_scratch 3 (some .int) wsX12_scratch rmX12_scratch 0 0 1 := cwV 1 hts (gGoodV (fun w h => h) wk_L_22) rfl rfl rfl (by decide +kernel) ⟨Nat.le_of_ble_eq_true rfl, Nat.le_of_ble_eq_true rfl⟩
  have k23 : CallW room_1 (s.setDrawn s.drawn) #[Value.ref b] RL RX11 23 yX11_set cX11_set 3 (some .int) wsX11_set rmX11_set 0 0 2 := cwV 2 hts (gGoodV (fun w h => h) wk_L_23) rfl rfl rfl (by decide +kernel) ⟨Nat.le_of_ble_eq_true rfl, Nat.le_of_ble_eq_true rfl⟩
  have k26 : CallW room_1 (s.setDrawn s.drawn) #[Value.ref b] RL RX12 26 yX12_set cX12_set 4 (some .int) wsX12_set rmX12_set 0 0 2 := cwV 2 hts (gGoodV (fun w h => h) wk_L_26) rfl rfl rfl (by decide +kernel) ⟨Nat.le_of_ble_eq_true rfl, Nat.le_of_ble_eq_true rfl⟩
  have k27 : CallW room_1 (s.setDrawn s.drawn) #[Value.ref b] RL RX11 27 yX11_draw cX11_draw 1 (some .int) wsX11_draw rmX11_draw 0 0 0 := cwV 0 hts (gGoodV (fun w h => h) wk_L_27) rfl rfl rfl (by decide +kernel) ⟨Nat.le_of_ble_eq_true rfl, Nat.le_of_ble_eq_true rfl⟩
  have k31 : CallW room_1 (s.setDrawn s.drawn) #[Value.ref b] RL RX12 31 yX12_draw cX12_draw 4 (some .int) wsX12_draw rmX12_draw 0 0 0 := cwV 0 hts (gGoodV (fun w h => h) wk_L_31) rfl rfl rfl (by decide +kernel) ⟨Nat.le_of_ble_eq_true rfl, Nat.le_of_ble_eq_true rfl⟩
  have k32 : CallW room_1 (s.setDrawn s.drawn) #[Value.ref b] RL RX11 32 yX11_swim cX11_swim 3 (some .int) wsX11_swim rmX11_swim 0 0 2 := cwV 2 hts (gGoodV (fun w h => h) wk_L_32) rfl rfl rfl (by decide +kernel) ⟨Nat.le_of_ble_eq_true rfl, Nat.le_of_ble_eq_true rfl⟩
  have k35 : CallW room_1 (s.setDrawn s.drawn) #[Value.ref b] RL RX12 35 yX12_swim cX12_swim 6 (some .int) wsX12_swim rmX12_swim 0 0 2 := cwV 2 hts (gGoodV (fun w h => h) wk_L_35) rfl rfl rfl (by decide +kernel) ⟨Nat.le_of_ble_eq_true rfl, Nat.le_of_ble_eq_true rfl⟩
  have k36 : CallW room_1 (s.setDrawn s.drawn) #[Value.ref b] RL RX11 36 yX11_finals cX11_finals 1 (some .int) wsX11_finals rmX11_finals 0 0 0 := cwV 0 hts (gGoodV (fun w h => h) wk_L_36) rfl rfl rfl (by decide +kernel) ⟨Nat.le_of_ble_eq_true rfl, Nat.le_of_ble_eq_true rfl⟩
  have k39 : CallW room_1 (s.setDrawn s.drawn) #[Value.ref b] RL RX12 39 yX12_finals cX12_finals 3 (some .int) wsX12_finals rmX12_finals 0 0 0 := cwV 0 hts (gGoodV (fun w h => h) wk_L_39) rfl rfl rfl (by decide +kernel) ⟨Nat.le_of_ble_eq_true rfl, Nat.le_of_ble_eq_true rfl⟩
  have k40 : CallW room_1 (s.setDrawn s.drawn) #[Value.ref b] RL RX11 40 yX11_end cX11_end 1 (some .int) wsX11_end rmX11_end 0 0 0 := cwV 0 hts (gGoodV (fun w h => h) wk_L_40) rfl rfl rfl (by decide +kernel) ⟨Nat.le_of_ble_eq_true rfl, Nat.le_of_ble_eq_true rfl⟩
  have k43 : CallW room_1 (s.setDrawn s.drawn) #[Value.ref b] RL RX12 43 yX12_end cX12_end 8 (some .int) wsX12_end rmX12_end 0 0 0 := cwV 0 hts (gGoodV (fun w h => h) wk_L_43) rfl rfl rfl (by decide +kernel) ⟨Nat.le_of_ble_eq_true rfl, Nat.le_of_ble_eq_true rfl⟩
  have k44 : CallW room_1 (s.setDrawn s.drawn) #[Value.ref b] RL RX11 44 yX11_next cX11_next 1 (some .int) wsX11_next rmX11_next 0 0 0 := cwV 0 hts (gGoodV (fun w h => h) wk_L_44) rfl rfl rfl (by decide +kernel) ⟨Nat.le_of_ble_eq_true rfl, Nat.le_of_ble_eq_true rfl⟩
  have k47 : CallW room_1 (s.setDrawn s.drawn) #[Value.ref b] RL RX12 47 yX12_next cX12_next 6 (some .int) wsX12_next rmX12_next 0 0 0 := cwV 0 hts (gGoodV (fun w h => h) wk_L_47) rfl rfl rfl (by decide +kernel) ⟨Nat.le_of_ble_eq_true rfl, Nat.le_of_ble_eq_true rfl⟩
  have k48 : CallW room_1 (s.setDrawn s.drawn) #[Value.ref b] RL RX11 48 yX11_swimmer cX11_swimmer 3 (some .int) wsX11_swimmer rmX11_swimmer 0 0 2 := cwV 2 hts (gGoodV (fun w h => h) wk_L_48) rfl rfl rfl (by decide +kernel) ⟨Nat.le_of_ble_eq_true rfl, Nat.le_of_ble_eq_true rfl⟩
  have k51 : CallW room_1 (s.setDrawn s.drawn) #[Value.ref b] RL RX12 51 yX12_swimmer cX12_swimmer 3 (some .int) wsX12_swimmer rmX12_swimmer 0 0 2 := cwV 2 hts (gGoodV (fun w h => h) wk_L_51) rfl rfl rfl (by decide +kernel) ⟨Nat.le_of_ble_eq_true rfl, Nat.le_of_ble_eq_true rfl⟩
  have k52 : CallW room_1 (s.setDrawn s.drawn) #[Value.ref b] RL RX11 52 yX11_at cX11_at 3 (some .int) wsX11_at rmX11_at 0 0 2 := cwV 2 hts (gGoodV (fun w h => h) wk_L_52) rfl rfl rfl (by decide +kernel) ⟨Nat.le_of_ble_eq_true rfl, Nat.le_of_ble_eq_true rfl⟩
  have k55 : CallW room_1 (s.setDrawn s.drawn) #[Value.ref b] RL RX12 55 yX12_at cX12_at 4 (some .int) wsX12_at rmX12_at 0 0 2 := cwV 2 hts (gGoodV (fun w h => h) wk_L_55) rfl rfl rfl (by decide +kernel) ⟨Nat.le_of_ble_eq_true rfl, Nat.le_of_ble_eq_true rfl⟩
  have k56 : CallW room_1 (s.setDrawn s.drawn) #[Value.ref b] RL RX11 56 yX11_heat cX11_heat 3 (some .int) wsX11_heat rmX11_heat 0 0 2 := cwV 2 hts (gGoodV (fun w h => h) wk_L_56) rfl rfl rfl (by decide +kernel) ⟨Nat.le_of_ble_eq_true rfl, Nat.le_of_ble_eq_true rfl⟩
  have k59 : CallW room_1 (s.setDrawn s.drawn) #[Value.ref b] RL RX12 59 yX12_heat cX12_heat 8 (some .int) wsX12_heat rmX12_heat 0 0 2 := cwV 2 hts (gGoodV (fun w h => h) wk_L_59) rfl rfl rfl (by decide +kernel) ⟨Nat.le_of_ble_eq_true rfl, Nat.le_of_ble_eq_true rfl⟩
  have k60 : CallW room_1 (s.setDrawn s.drawn) #[Value.ref b] RL RX11 60 yX11_reserve cX11_reserve 2 (some .int) wsX11_reserve rmX11_reserve 0 0 1 := cwV 1 hts (gGoodV (fun w h => h) wk_L_60) rfl rfl rfl (by decide +kernel) ⟨Nat.le_of_ble_eq_true rfl, Nat.le_of_ble_eq_true rfl⟩
  have k63 : CallW room_1 (s.setDrawn s.drawn) #[Value.ref b] RL RX12 63 yX12_reserve cX12_reserve 4 (some .int) wsX12_reserve rmX12_reserve 0 0 1 := cwV 1 hts (gGoodV (fun w h => h) wk_L_63) rfl rfl rfl (by decide +kernel) ⟨Nat.le_of_ble_eq_true rfl, Nat.le_of_ble_eq_true rfl⟩
  have k64 : CallW room_1 (s.setDrawn s.drawn) #[Value.ref b] RL RX11 64 yX11_points cX11_points 2 (some .int) wsX11_points rmX11_points 0 0 1 := cwV 1 hts (gGoodV (fun w h => h) wk_L_64) rfl rfl rfl (by decide +kernel) ⟨Nat.le_of_ble_eq_true rfl, Nat.le_of_ble_eq_true rfl⟩
  have k67 : CallW room_1 (s.setDrawn s.drawn) #[Value.ref b] RL RX12 67 yX12_points cX12_points 2 (some .int) wsX12_points rmX12_points 0 0 1 := cwV 1 hts (gGoodV (fun w h => h) wk_L_67) rfl rfl rfl (by decide +kernel) ⟨Nat.le_of_ble_eq_true rfl, Nat.le_of_ble_eq_true rfl⟩
  have k68 : CallW room_1 (s.setDrawn s.drawn) #[Value.ref b] RL RX11 68 yX11_ifDrawn cX11_ifDrawn 4 (some .int) wsX11_ifDrawn rmX11_ifDrawn 0 0 2 := cwV 2 hts (gGoodV (fun w h => h) wk_L_68) rfl rfl rfl (by decide +kernel) ⟨Nat.le_of_ble_eq_true rfl, Nat.le_of_ble_eq_true rfl⟩
  have k71 : CallW room_1 (s.setDrawn s.drawn) #[Value.ref b] RL RX12 71 yX12_ifDrawn cX12_ifDrawn 5 (some .int) wsX12_ifDrawn rmX12_ifDrawn 0 0 2 := cwV 2 hts (gGoodV (fun w h => h) wk_L_71) rfl rfl rfl (by decide +kernel) ⟨Nat.le_of_ble_eq_true rfl, Nat.le_of_ble_eq_true rfl⟩
  have k72 : CallW room_1 (s.setDrawn s.drawn) #[Value.ref b] RL RX11 72 yX11_lane cX11_lane 3 (some .int) wsX11_lane rmX11_lane 0 0 2 := cwV 2 hts (gGoodV (fun w h => h) wk_L_72) rfl rfl rfl (by decide +kernel) ⟨Nat.le_of_ble_eq_true rfl, Nat.le_of_ble_eq_true rfl⟩
  have k75 : CallW room_1 (s.setDrawn s.drawn) #[Value.ref b] RL RX12 75 yX12_lane cX12_lane 3 (some .int) wsX12_lane rmX12_lane 0 0 2 := cwV 2 hts (gGoodV (fun w h => h) wk_L_75) rfl rfl rfl (by decide +kernel) ⟨Nat.le_of_ble_eq_true rfl, Nat.le_of_ble_eq_true rfl⟩
  have k76 : CallW room_1 (s.setDrawn s.drawn) #[Value.ref b] RL RX11 76 yX11_why cX11_why 1 (some .int) wsX11_why rmX11_why 0 0 0 := cwV 0 hts (gGoodV (fun w h => h) wk_L_76) rfl rfl rfl (by decide +kernel) ⟨Nat.le_of_ble_eq_true rfl, Nat.le_of_ble_eq_true rfl⟩
  have k79 : CallW room_1 (s.setDrawn s.drawn) #[Value.ref b] RL RX12 79 yX12_why cX12_why 1 (some .int) wsX12_why rmX12_why 0 0 0 := cwV 0 hts (gGoodV (fun w h => h) wk_L_79) rfl rfl rfl (by decide +kernel) ⟨Nat.le_of_ble_eq_true rfl, Nat.le_of_ble_eq_true rfl⟩
  have k80 : CallW room_1 (s.setDrawn s.drawn) #[Value.ref b] RL RX11 80 yX11_missing cX11_missing 2 (some .int) wsX11_missing rmX11_missing 0 0 1 := cwV 1 hts (gGoodV (fun w h => h) wk_L_80) rfl rfl rfl (by decide +kernel) ⟨Nat.le_of_ble_eq_true rfl, Nat.le_of_ble_eq_true rfl⟩
  have k83 : CallW room_1 (s.setDrawn s.drawn) #[Value.ref b] RL RX12 83 yX12_missing cX12_missing 4 (some .int) wsX12_missing rmX12_missing 0 0 1 := cwV 1 hts (gGoodV (fun w h => h) wk_L_83) rfl rfl rfl (by decide +kernel) ⟨Nat.le_of_ble_eq_true rfl, Nat.le_of_ble_eq_true rfl⟩
  have k84 : CallW room_1 (s.setDrawn s.drawn) #[Value.ref b] RL RX11 84 yX11_leader cX11_leader 2 (some .int) wsX11_leader rmX11_leader 0 0 1 := cwV 1 hts (gGoodV (fun w h => h) wk_L_84) rfl rfl rfl (by decide +kernel) ⟨Nat.le_of_ble_eq_true rfl, Nat.le_of_ble_eq_true rfl⟩
  have k87 : CallW room_1 (s.setDrawn s.drawn) #[Value.ref b] RL RX12 87 yX12_leader cX12_leader 7 (some .int) wsX12_leader rmX12_leader 0 0 1 := cwV 1 hts (gGoodV (fun w h => h) wk_L_87) rfl rfl rfl (by decide +kernel) ⟨Nat.le_of_ble_eq_true rfl, Nat.le_of_ble_eq_true rfl⟩
  have k88 : CallW room_1 (s.setDrawn s.drawn) #[Value.ref b] RL RX11 88 yX11_mean cX11_mean 1 (some .int) wsX11_mean rmX11_mean 0 0 0 := cwV 0 hts (gGoodV (fun w h => h) wk_L_88) rfl rfl rfl (by decide +kernel) ⟨Nat.le_of_ble_eq_true rfl, Nat.le_of_ble_eq_true rfl⟩
  have k91 : CallW room_1 (s.setDrawn s.drawn) #[Value.ref b] RL RX12 91 yX12_mean cX12_mean 5 (some .int) wsX12_mean rmX12_mean 0 0 0 := cwV 0 hts (gGoodV (fun w h => h) wk_L_91) rfl rfl rfl (by decide +kernel) ⟨Nat.le_of_ble_eq_true rfl, Nat.le_of_ble_eq_true rfl⟩
  have k92 : CallW room_1 (s.setDrawn s.drawn) #[Value.ref b] RL RX11 92 yX11_count cX11_count 2 (some .int) wsX11_count rmX11_count 0 0 1 := cwV 1 hts (gGoodV (fun w h => h) wk_L_92) rfl rfl rfl (by decide +kernel) ⟨Nat.le_of_ble_eq_true rfl, Nat.le_of_ble_eq_true rfl⟩
  have k95 : CallW room_1 (s.setDrawn s.drawn) #[Value.ref b] RL RX12 95 yX12_count cX12_count 2 (some .int) wsX12_count rmX12_count 0 0 1 := cwV 1 hts (gGoodV (fun w h => h) wk_L_95) rfl rfl rfl (by decide +kernel) ⟨Nat.le_of_ble_eq_true rfl, Nat.le_of_ble_eq_true rfl⟩
  have k96 : CallW room_1 (s.setDrawn s.drawn) #[Value.ref b] RL RX11 96 yX11_undo cX11_undo 1 (some .int) wsX11_undo rmX11_undo 0 0 0 := cwV 0 hts (gGoodV (fun w h => h) wk_L_96) rfl rfl rfl (by decide +kernel) ⟨Nat.le_of_ble_eq_true rfl, Nat.le_of_ble_eq_true rfl⟩
  have k99 : CallW room_1 (s.setDrawn s.drawn) #[Value.ref b] RL RX12 99 yX12_undo cX12_undo 2 (some .int) wsX12_undo rmX12_undo 0 0 0 := cwV 0 hts (gGoodV (fun w h => h) wk_L_99) rfl rfl rfl (by decide +kernel) ⟨Nat.le_of_ble_eq_true rfl, Nat.le_of_ble_eq_true rfl⟩
  have L_18 : ∀ (fu : Nat) (w : gWd) (x3 : Int32)  (ls : Array Slot) (hl : lv_has ls 4 [(0, .ref b), (1, .ref (gA X 7 0)), (2, .ref (gA X 8 0)), (3, .int x3)]) (hF : F_L_law_18 L xs fu w x3 = some (1, w')) (H : Heap) (locs : List Loc) (hW : gWo X 251 (gE X w) H) (hL : gLo X locs), W p l e room_1 (s.setDrawn s.drawn) m #[Value.ref b] below meth c H locs 600000 7302250 (lw_Z below #[Value.ref b] s) (F0 m 18 ls []) := by
    intro fu
    induction fu with
    | zero => intro w x3 ls hl hF H locs hW hL; rw [F_L_law_18_z] at hF; cases hF
    | succ fu18 ih18 =>
      intro w x3 ls hl hF H locs hW hL
      rw [F_L_law_18_s] at hF
      refine lv_iload_n hx hb dL_law_18 rfl (lv_at hl 3 rfl) ?_
      refine lv_aload_n hx hb dL_law_19 rfl (lv_at hl 0 rfl) ?_
      refine g_slen hx hb hX hbB hW dL_law_20 ?_
      refine lv_iconst (v := 3) hx hb dL_law_21 (by decide) ?_
      refine lv_isub hx hb dL_law_22 ?_
      refine lv_icmp_gt (tgt := 719) hx hb dL_law_23 (by decide) (fun hc_1 => ?_) (fun hc_1 => ?_)
      · replace hF := gT hc_1 hF
        refine lv_iconst (v := 1) hx hb dL_law_719 (by decide) ?_
        refine va_forget (fun q hq => Nat.le_trans (Nat.le_of_eq hBs.symm) (hL q hq)) ?_
        exact lw_ret hd0 hx hb hr hlocks dL_law_720
      · replace hF := gF hc_1 hF
        refine lv_aload_n hx hb dL_law_26 rfl (lv_at hl 0 rfl) ?_
        refine lv_iload_n hx hb dL_law_27 rfl (lv_at hl 3 rfl) ?_
        obtain ⟨hin_2, hF⟩ := gB_some hF
        obtain ⟨k_3, ek_3⟩ : ∃ k, k = Int32.toNatClampNeg x3 := ⟨_, rfl⟩
        rw [← ek_3] at hF
        refine g_sld hx hb hX hbB hW hin_2 ek_3.symm dL_law_28 ?_
        refine lv_bipush (v := 31) hx hb dL_law_29 (by decide) ?_
        refine lv_iand hx hb dL_law_31 ?_
        by_cases hc_4 : ((xs k_3) &&& 31) = 0
        · replace hF := gT hc_4 hF
          refine lv_tableIn (off := 116) (tgt := 148) hx hb dL_law_32 (by rw [hc_4]; decide) (by rw [hc_4]; decide) (by rw [hc_4]; rfl) (by decide) ?_
          refine lv_aload_n hx hb dL_law_148 rfl (lv_at hl 1 rfl) ?_
          refine lv_aload_n hx hb dL_law_149 rfl (lv_at hl 0 rfl) ?_
          refine lv_iload_n hx hb dL_law_150 rfl (lv_at hl 3 rfl) ?_
          refine lv_iconst (v := 1) hx hb dL_law_151 (by decide) ?_
          refine lv_iadd hx hb dL_law_152 ?_
          obtain ⟨hin_5, hF⟩ := gB_some hF
          obtain ⟨k_6, ek_6⟩ : ∃ k, k = Int32.toNatClampNeg ((x3 + 1)) := ⟨_, rfl⟩
          rw [← ek_6] at hF
          refine g_sld hx hb hX hbB hW hin_5 ek_6.symm dL_law_153 ?_
          refine lv_aload_n hx hb dL_law_154 rfl (lv_at hl 0 rfl) ?_
          refine lv_iload_n hx hb dL_law_155 rfl (lv_at hl 3 rfl) ?_
          refine lv_iconst (v := 2) hx hb dL_law_156 (by decide) ?_
          refine lv_iadd hx hb dL_law_157 ?_
          obtain ⟨hin_7, hF⟩ := gB_some hF
          obtain ⟨k_8, ek_8⟩ : ∃ k, k = Int32.toNatClampNeg ((x3 + 2)) := ⟨_, rfl⟩
          rw [← ek_8] at hF
          refine g_sld hx hb hX hbB hW hin_7 ek_8.symm dL_law_158 ?_
          obtain ⟨v_10, w_11, hq_9, hF⟩ := gC_some hF
          refine g_Vi (As := [.int (xs k_6), .int (xs k_8)]) (rest := []) ⟨hx, hb, hml, hown, hts⟩ hK hW hL hl.1 (gok_c (by decide)) gE_G rfl (c_X11_enter l X w ((xs k_6)) ((xs k_8)) v_10 w_11 hq_9) k13 rfl rfl (Nat.le_of_ble_eq_true rfl) dL_law_159 ⟨Nat.le_of_ble_eq_true rfl, Nat.le_of_ble_eq_true rfl⟩ (fun H locs hW hL => ?_)
          refine lv_aload_n hx hb dL_law_162 rfl (lv_at hl 2 rfl) ?_
          refine lv_aload_n hx hb dL_law_163 rfl (lv_at hl 0 rfl) ?_
          refine lv_iload_n hx hb dL_law_164 rfl (lv_at hl 3 rfl) ?_
          refine lv_iconst (v := 1) hx hb dL_law_165 (by decide) ?_
          refine lv_iadd hx hb dL_law_166 ?_
          obtain ⟨hin_12, hF⟩ := gB_some hF
          obtain ⟨k_13, ek_13⟩ : ∃ k, k = Int32.toNatClampNeg ((x3 + 1)) := ⟨_, rfl⟩
          rw [← ek_13] at hF
          refine g_sld hx hb hX hbB hW hin_12 ek_13.symm dL_law_167 ?_
          refine lv_aload_n hx hb dL_law_168 rfl (lv_at hl 0 rfl) ?_
          refine lv_iload_n hx hb dL_law_169 rfl (lv_at hl 3 rfl) ?_
          refine lv_iconst (v := 2) hx hb dL_law_170 (by decide) ?_
          refine lv_iadd hx hb dL_law_171 ?_
          obtain ⟨hin_14, hF⟩ := gB_some hF
          obtain ⟨k_15, ek_15⟩ : ∃ k, k = Int32.toNatClampNeg ((x3 + 2)) := ⟨_, rfl⟩
          rw [← ek_15] at hF
          refine g_sld hx hb hX hbB hW hin_14 ek_15.symm dL_law_172 ?_
          obtain ⟨v_17, w_18, hq_16, hF⟩ := gC_some hF
          refine g_Vi (As := [.int (xs k_13), .int (xs k_15)]) (rest := [.int v_10]) ⟨hx, hb, hml, hown, hts⟩ hK hW hL hl.1 (gok_o (by decide)) gE_O rfl (c_X12_enter l X w_11 ((xs k_13)) ((xs k_15)) v_17 w_18 hq_16) k17 rfl rfl (Nat.le_of_ble_eq_true rfl) dL_law_173 ⟨Nat.le_of_ble_eq_true rfl, Nat.le_of_ble_eq_true rfl⟩ (fun H locs hW hL => ?_)
          refine lv_icmp_eq (tgt := 713) hx hb dL_law_176 (by decide) (fun hc_19 => ?_) (fun hc_19 => ?_)
          · replace hF := gT hc_19 hF
            obtain ⟨x3_20, ex3_20, hF⟩ := gS_some hF
            refine lv_iinc (v := x3_20) (lv' := [(3, .int x3_20), (0, .ref b), (1, .ref (gA X 7 0)), (2, .ref (gA X 8 0))]) hx hb dL_law_713 hl (k := 3) rfl (by rw [ex3_20]; rfl) (by decide) rfl (fun ls hl => ?_)
            refine lv_goto (tgt := 18) hx hb dL_law_716 (by decide) ?_
            exact ih18 w_18 x3_20 ls (lv_sub hl [1, 2, 3, 0] rfl) hF H locs hW hL
          · replace hF := gF hc_19 hF
            refine lv_iconst (v := 0) hx hb dL_law_179 (by decide) ?_
            exact absurd (gI2 hF).1 (by decide)
        · replace hF := gF hc_4 hF
          by_cases hc_21 : ((xs k_3) &&& 31) = 1
          · replace hF := gT hc_21 hF
            refine lv_tableIn (off := 149) (tgt := 181) hx hb dL_law_32 (by rw [hc_21]; decide) (by rw [hc_21]; decide) (by rw [hc_21]; rfl) (by decide) ?_
            refine lv_aload_n hx hb dL_law_181 rfl (lv_at hl 1 rfl) ?_
            refine lv_aload_n hx hb dL_law_182 rfl (lv_at hl 0 rfl) ?_
            refine lv_iload_n hx hb dL_law_183 rfl (lv_at hl 3 rfl) ?_
            refine lv_iconst (v := 1) hx hb dL_law_184 (by decide) ?_
            refine lv_iadd hx hb dL_law_185 ?_
            obtain ⟨hin_22, hF⟩ := gB_some hF
            obtain ⟨k_23, ek_23⟩ : ∃ k, k = Int32.toNatClampNeg ((x3 + 1)) := ⟨_, rfl⟩
            rw [← ek_23] at hF
            refine g_sld hx hb hX hbB hW hin_22 ek_23.symm dL_law_186 ?_
            obtain ⟨v_25, w_26, hq_24, hF⟩ := gC_some hF
            refine g_Vi (As := [.int (xs k_23)]) (rest := []) ⟨hx, hb, hml, hown, hts⟩ hK hW hL hl.1 (gok_c (by decide)) gE_G rfl (c_X11_scratch l X w ((xs k_23)) v_25 w_26 hq_24) k18 rfl rfl (Nat.le_of_ble_eq_true rfl) dL_law_187 ⟨Nat.le_of_ble_eq_true rfl, Nat.le_of_ble_eq_true rfl⟩ (fun H locs hW hL => ?_)
            refine lv_aload_n hx hb dL_law_190 rfl (lv_at hl 2 rfl) ?_
            refine lv_aload_n hx hb dL_law_191 rfl (lv_at hl 0 rfl) ?_
            refine lv_iload_n hx hb dL_law_192 rfl (lv_at hl 3 rfl) ?_
            refine lv_iconst (v := 1) hx hb dL_law_193 (by decide) ?_
            refine lv_iadd hx hb dL_law_194 ?_
            obtain ⟨hin_27, hF⟩ := gB_some hF
            obtain ⟨k_28, ek_28⟩ : ∃ k, k = Int32.toNatClampNeg ((x3 + 1)) := ⟨_, rfl⟩
            rw [← ek_28] at hF
            refine g_sld hx hb hX hbB hW hin_27 ek_28.symm dL_law_195 ?_
            obtain ⟨v_30, w_31, hq_29, hF⟩ := gC_some hF
            refine g_Vi (As := [.int (xs k_28)]) (rest := [.int v_25]) ⟨hx, hb, hml, hown, hts⟩ hK hW hL hl.1 (gok_o (by decide)) gE_O rfl (c_X12_scratch l X w_26 ((xs k_28)) v_30 w_31 hq_29) k22 rfl rfl (Nat.le_of_ble_eq_true rfl) dL_law_196 ⟨Nat.le_of_ble_eq_true rfl, Nat.le_of_ble_eq_true rfl⟩ (fun H locs hW hL => ?_)
            refine lv_icmp_eq (tgt := 713) hx hb dL_law_199 (by decide) (fun hc_32 => ?_) (fun hc_32 => ?_)
            · replace hF := gT hc_32 hF
              obtain ⟨x3_33, ex3_33, hF⟩ := gS_some hF
              refine lv_iinc (v := x3_33) (lv' := [(3, .int x3_33), (0, .ref b), (1, .ref (gA X 7 0)), (2, .ref (gA X 8 0))]) hx hb dL_law_713 hl (k := 3) rfl (by rw [ex3_33]; rfl) (by decide) rfl (fun ls hl => ?_)
              refine lv_goto (tgt := 18) hx hb dL_law_716 (by decide) ?_
              exact ih18 w_31 x3_33 ls (lv_sub hl [1, 2, 3, 0] rfl) hF H locs hW hL
            · replace hF := gF hc_32 hF
              refine lv_iconst (v := 0) hx hb dL_law_202 (by decide) ?_
              exact absurd (gI2 hF).1 (by decide)
          · replace hF := gF hc_21 hF
            by_cases hc_34 : ((xs k_3) &&& 31) = 2
            · replace hF := gT hc_34 hF
              refine lv_tableIn (off := 172) (tgt := 204) hx hb dL_law_32 (by rw [hc_34]; decide) (by rw [hc_34]; decide) (by rw [hc_34]; rfl) (by decide) ?_
              refine lv_aload_n hx hb dL_law_204 rfl (lv_at hl 1 rfl) ?_
              refine lv_aload_n hx hb dL_law_205 rfl (lv_at hl 0 rfl) ?_
              refine lv_iload_n hx hb dL_law_206 rfl (lv_at hl 3 rfl) ?_
              refine lv_iconst (v := 1) hx hb dL_law_207 (by decide) ?_
              refine lv_iadd hx hb dL_law_208 ?_
              obtain ⟨hin_35, hF⟩ := gB_some hF
              obtain ⟨k_36, ek_36⟩ : ∃ k, k = Int32.toNatClampNeg ((x3 + 1)) := ⟨_, rfl⟩
              rw [← ek_36] at hF
              refine g_sld hx hb hX hbB hW hin_35 ek_36.symm dL_law_209 ?_
              refine lv_aload_n hx hb dL_law_210 rfl (lv_at hl 0 rfl) ?_
              refine lv_iload_n hx hb dL_law_211 rfl (lv_at hl 3 rfl) ?_
              refine lv_iconst (v := 2) hx hb dL_law_212 (by decide) ?_
              refine lv_iadd hx hb dL_law_213 ?_
              obtain ⟨hin_37, hF⟩ := gB_some hF
              obtain ⟨k_38, ek_38⟩ : ∃ k, k = Int32.toNatClampNeg ((x3 + 2)) := ⟨_, rfl⟩
              rw [← ek_38] at hF
              refine g_sld hx hb hX hbB hW hin_37 ek_38.symm dL_law_214 ?_
              obtain ⟨v_40, w_41, hq_39, hF⟩ := gC_some hF
              refine g_Vi (As := [.int (xs k_36), .int (xs k_38)]) (rest := []) ⟨hx, hb, hml, hown, hts⟩ hK hW hL hl.1 (gok_c (by decide)) gE_G rfl (c_X11_set l X w ((xs k_36)) ((xs k_38)) v_40 w_41 hq_39) k23 rfl rfl (Nat.le_of_ble_eq_true rfl) dL_law_215 ⟨Nat.le_of_ble_eq_true rfl, Nat.le_of_ble_eq_true rfl⟩ (fun H locs hW hL => ?_)
              refine lv_aload_n hx hb dL_law_218 rfl (lv_at hl 2 rfl) ?_
              refine lv_aload_n hx hb dL_law_219 rfl (lv_at hl 0 rfl) ?_
              refine lv_iload_n hx hb dL_law_220 rfl (lv_at hl 3 rfl) ?_
              refine lv_iconst (v := 1) hx hb dL_law_221 (by decide) ?_
              refine lv_iadd hx hb dL_law_222 ?_
              obtain ⟨hin_42, hF⟩ := gB_some hF
              obtain ⟨k_43, ek_43⟩ : ∃ k, k = Int32.toNatClampNeg ((x3 + 1)) := ⟨_, rfl⟩
              rw [← ek_43] at hF
              refine g_sld hx hb hX hbB hW hin_42 ek_43.symm dL_law_223 ?_
              refine lv_aload_n hx hb dL_law_224 rfl (lv_at hl 0 rfl) ?_
              refine lv_iload_n hx hb dL_law_225 rfl (lv_at hl 3 rfl) ?_
              refine lv_iconst (v := 2) hx hb dL_law_226 (by decide) ?_
              refine lv_iadd hx hb dL_law_227 ?_
              obtain ⟨hin_44, hF⟩ := gB_some hF
              obtain ⟨k_45, ek_45⟩ : ∃ k, k = Int32.toNatClampNeg ((x3 + 2)) := ⟨_, rfl⟩
              rw [← ek_45] at hF
              refine g_sld hx hb hX hbB hW hin_44 ek_45.symm dL_law_228 ?_
              obtain ⟨v_47, w_48, hq_46, hF⟩ := gC_some hF
              refine g_Vi (As := [.int (xs k_43), .int (xs k_45)]) (rest := [.int v_40]) ⟨hx, hb, hml, hown, hts⟩ hK hW hL hl.1 (gok_o (by decide)) gE_O rfl (c_X12_set l X w_41 ((xs k_43)) ((xs k_45)) v_47 w_48 hq_46) k26 rfl rfl (Nat.le_of_ble_eq_true rfl) dL_law_229 ⟨Nat.le_of_ble_eq_true rfl, Nat.le_of_ble_eq_true rfl⟩ (fun H locs hW hL => ?_)
              refine lv_icmp_eq (tgt := 713) hx hb dL_law_232 (by decide) (fun hc_49 => ?_) (fun hc_49 => ?_)
              · replace hF := gT hc_49 hF
                obtain ⟨x3_50, ex3_50, hF⟩ := gS_some hF
                refine lv_iinc (v := x3_50) (lv' := [(3, .int x3_50), (0, .ref b), (1, .ref (gA X 7 0)), (2, .ref (gA X 8 0))]) hx hb dL_law_713 hl (k := 3) rfl (by rw [ex3_50]; rfl) (by decide) rfl (fun ls hl => ?_)
                refine lv_goto (tgt := 18) hx hb dL_law_716 (by decide) ?_
                exact ih18 w_48 x3_50 ls (lv_sub hl [1, 2, 3, 0] rfl) hF H locs hW hL
              · replace hF := gF hc_49 hF
                refine lv_iconst (v := 0) hx hb dL_law_235 (by decide) ?_
                exact absurd (gI2 hF).1 (by decide)
            · replace hF := gF hc_34 hF
              by_cases hc_51 : ((xs k_3) &&& 31) = 3
              · replace hF := gT hc_51 hF
                refine lv_tableIn (off := 205) (tgt := 237) hx hb dL_law_32 (by rw [hc_51]; decide) (by rw [hc_51]; decide) (by rw [hc_51]; rfl) (by decide) ?_
                refine lv_aload_n hx hb dL_law_237 rfl (lv_at hl 1 rfl) ?_
                obtain ⟨v_53, w_54, hq_52, hF⟩ := gC_some hF
                refine g_Vi (As := []) (rest := []) ⟨hx, hb, hml, hown, hts⟩ hK hW hL hl.1 (gok_c (by decide)) gE_G rfl (c_X11_draw l X w  v_53 w_54 hq_52) k27 rfl rfl (Nat.le_of_ble_eq_true rfl) dL_law_238 ⟨Nat.le_of_ble_eq_true rfl, Nat.le_of_ble_eq_true rfl⟩ (fun H locs hW hL => ?_)
                refine lv_aload_n hx hb dL_law_241 rfl (lv_at hl 2 rfl) ?_
                obtain ⟨v_56, w_57, hq_55, hF⟩ := gC_some hF
                refine g_Vi (As := []) (rest := [.int v_53]) ⟨hx, hb, hml, hown, hts⟩ hK hW hL hl.1 (gok_o (by decide)) gE_O rfl (c_X12_draw l X w_54  v_56 w_57 hq_55) k31 rfl rfl (Nat.le_of_ble_eq_true rfl) dL_law_242 ⟨Nat.le_of_ble_eq_true rfl, Nat.le_of_ble_eq_true rfl⟩ (fun H locs hW hL => ?_)
                refine lv_icmp_eq (tgt := 713) hx hb dL_law_245 (by decide) (fun hc_58 => ?_) (fun hc_58 => ?_)
                · replace hF := gT hc_58 hF
                  obtain ⟨x3_59, ex3_59, hF⟩ := gS_some hF
                  refine lv_iinc (v := x3_59) (lv' := [(3, .int x3_59), (0, .ref b), (1, .ref (gA X 7 0)), (2, .ref (gA X 8 0))]) hx hb dL_law_713 hl (k := 3) rfl (by rw [ex3_59]; rfl) (by decide) rfl (fun ls hl => ?_)
                  refine lv_goto (tgt := 18) hx hb dL_law_716 (by decide) ?_
                  exact ih18 w_57 x3_59 ls (lv_sub hl [1, 2, 3, 0] rfl) hF H locs hW hL
                · replace hF := gF hc_58 hF
                  refine lv_iconst (v := 0) hx hb dL_law_248 (by decide) ?_
                  exact absurd (gI2 hF).1 (by decide)
              · replace hF := gF hc_51 hF
                by_cases hc_60 : ((xs k_3) &&& 31) = 4
                · replace hF := gT hc_60 hF
                  refine lv_tableIn (off := 218) (tgt := 250) hx hb dL_law_32 (by rw [hc_60]; decide) (by rw [hc_60]; decide) (by rw [hc_60]; rfl) (by decide) ?_
                  refine lv_aload_n hx hb dL_law_250 rfl (lv_at hl 1 rfl) ?_
                  refine lv_aload_n hx hb dL_law_251 rfl (lv_at hl 0 rfl) ?_
                  refine lv_iload_n hx hb dL_law_252 rfl (lv_at hl 3 rfl) ?_
                  refine lv_iconst (v := 1) hx hb dL_law_253 (by decide) ?_
                  refine lv_iadd hx hb dL_law_254 ?_
                  obtain ⟨hin_61, hF⟩ := gB_some hF
                  obtain ⟨k_62, ek_62⟩ : ∃ k, k = Int32.toNatClampNeg ((x3 + 1)) := ⟨_, rfl⟩
                  rw [← ek_62] at hF
                  refine g_sld hx hb hX hbB hW hin_61 ek_62.symm dL_law_255 ?_
                  refine lv_aload_n hx hb dL_law_256 rfl (lv_at hl 0 rfl) ?_
                  refine lv_iload_n hx hb dL_law_257 rfl (lv_at hl 3 rfl) ?_
                  refine lv_iconst (v := 2) hx hb dL_law_258 (by decide) ?_
                  refine lv_iadd hx hb dL_law_259 ?_
                  obtain ⟨hin_63, hF⟩ := gB_some hF
                  obtain ⟨k_64, ek_64⟩ : ∃ k, k = Int32.toNatClampNeg ((x3 + 2)) := ⟨_, rfl⟩
                  rw [← ek_64] at hF
                  refine g_sld hx hb hX hbB hW hin_63 ek_64.symm dL_law_260 ?_
                  obtain ⟨v_66, w_67, hq_65, hF⟩ := gC_some hF
                  refine g_Vi (As := [.int (xs k_62), .int (xs k_64)]) (rest := []) ⟨hx, hb, hml, hown, hts⟩ hK hW hL hl.1 (gok_c (by decide)) gE_G rfl (c_X11_swim l X w ((xs k_62)) ((xs k_64)) v_66 w_67 hq_65) k32 rfl rfl (Nat.le_of_ble_eq_true rfl) dL_law_261 ⟨Nat.le_of_ble_eq_true rfl, Nat.le_of_ble_eq_true rfl⟩ (fun H locs hW hL => ?_)
                  refine lv_aload_n hx hb dL_law_264 rfl (lv_at hl 2 rfl) ?_
                  refine lv_aload_n hx hb dL_law_265 rfl (lv_at hl 0 rfl) ?_
                  refine lv_iload_n hx hb dL_law_266 rfl (lv_at hl 3 rfl) ?_
                  refine lv_iconst (v := 1) hx hb dL_law_267 (by decide) ?_
                  refine lv_iadd hx hb dL_law_268 ?_
                  obtain ⟨hin_68, hF⟩ := gB_some hF
                  obtain ⟨k_69, ek_69⟩ : ∃ k, k = Int32.toNatClampNeg ((x3 + 1)) := ⟨_, rfl⟩
                  rw [← ek_69] at hF
                  refine g_sld hx hb hX hbB hW hin_68 ek_69.symm dL_law_269 ?_
                  refine lv_aload_n hx hb dL_law_270 rfl (lv_at hl 0 rfl) ?_
                  refine lv_iload_n hx hb dL_law_271 rfl (lv_at hl 3 rfl) ?_
                  refine lv_iconst (v := 2) hx hb dL_law_272 (by decide) ?_
                  refine lv_iadd hx hb dL_law_273 ?_
                  obtain ⟨hin_70, hF⟩ := gB_some hF
                  obtain ⟨k_71, ek_71⟩ : ∃ k, k = Int32.toNatClampNeg ((x3 + 2)) := ⟨_, rfl⟩
                  rw [← ek_71] at hF
                  refine g_sld hx hb hX hbB hW hin_70 ek_71.symm dL_law_274 ?_
                  obtain ⟨v_73, w_74, hq_72, hF⟩ := gC_some hF
                  refine g_Vi (As := [.int (xs k_69), .int (xs k_71)]) (rest := [.int v_66]) ⟨hx, hb, hml, hown, hts⟩ hK hW hL hl.1 (gok_o (by decide)) gE_O rfl (c_X12_swim l X w_67 ((xs k_69)) ((xs k_71)) v_73 w_74 hq_72) k35 rfl rfl (Nat.le_of_ble_eq_true rfl) dL_law_275 ⟨Nat.le_of_ble_eq_true rfl, Nat.le_of_ble_eq_true rfl⟩ (fun H locs hW hL => ?_)
                  refine lv_icmp_eq (tgt := 713) hx hb dL_law_278 (by decide) (fun hc_75 => ?_) (fun hc_75 => ?_)
                  · replace hF := gT hc_75 hF
                    obtain ⟨x3_76, ex3_76, hF⟩ := gS_some hF
                    refine lv_iinc (v := x3_76) (lv' := [(3, .int x3_76), (0, .ref b), (1, .ref (gA X 7 0)), (2, .ref (gA X 8 0))]) hx hb dL_law_713 hl (k := 3) rfl (by rw [ex3_76]; rfl) (by decide) rfl (fun ls hl => ?_)
                    refine lv_goto (tgt := 18) hx hb dL_law_716 (by decide) ?_
                    exact ih18 w_74 x3_76 ls (lv_sub hl [1, 2, 3, 0] rfl) hF H locs hW hL
                  · replace hF := gF hc_75 hF
                    refine lv_iconst (v := 0) hx hb dL_law_281 (by decide) ?_
                    exact absurd (gI2 hF).1 (by decide)
                · replace hF := gF hc_60 hF
                  by_cases hc_77 : ((xs k_3) &&& 31) = 5
                  · replace hF := gT hc_77 hF
                    refine lv_tableIn (off := 251) (tgt := 283) hx hb dL_law_32 (by rw [hc_77]; decide) (by rw [hc_77]; decide) (by rw [hc_77]; rfl) (by decide) ?_
                    refine lv_aload_n hx hb dL_law_283 rfl (lv_at hl 1 rfl) ?_
                    obtain ⟨v_79, w_80, hq_78, hF⟩ := gC_some hF
                    refine g_Vi (As := []) (rest := []) ⟨hx, hb, hml, hown, hts⟩ hK hW hL hl.1 (gok_c (by decide)) gE_G rfl (c_X11_finals l X w  v_79 w_80 hq_78) k36 rfl rfl (Nat.le_of_ble_eq_true rfl) dL_law_284 ⟨Nat.le_of_ble_eq_true rfl, Nat.le_of_ble_eq_true rfl⟩ (fun H locs hW hL => ?_)
                    refine lv_aload_n hx hb dL_law_287 rfl (lv_at hl 2 rfl) ?_
                    obtain ⟨v_82, w_83, hq_81, hF⟩ := gC_some hF
                    refine g_Vi (As := []) (rest := [.int v_79]) ⟨hx, hb, hml, hown, hts⟩ hK hW hL hl.1 (gok_o (by decide)) gE_O rfl (c_X12_finals l X w_80  v_82 w_83 hq_81) k39 rfl rfl (Nat.le_of_ble_eq_true rfl) dL_law_288 ⟨Nat.le_of_ble_eq_true rfl, Nat.le_of_ble_eq_true rfl⟩ (fun H locs hW hL => ?_)
                    refine lv_icmp_eq (tgt := 713) hx hb dL_law_291 (by decide) (fun hc_84 => ?_) (fun hc_84 => ?_)
                    · replace hF := gT hc_84 hF
                      obtain ⟨x3_85, ex3_85, hF⟩ := gS_some hF
                      refine lv_iinc (v := x3_85) (lv' := [(3, .int x3_85), (0, .ref b), (1, .ref (gA X 7 0)), (2, .ref (gA X 8 0))]) hx hb dL_law_713 hl (k := 3) rfl (by rw [ex3_85]; rfl) (by decide) rfl (fun ls hl => ?_)
                      refine lv_goto (tgt := 18) hx hb dL_law_716 (by decide) ?_
                      exact ih18 w_83 x3_85 ls (lv_sub hl [1, 2, 3, 0] rfl) hF H locs hW hL
                    · replace hF := gF hc_84 hF
                      refine lv_iconst (v := 0) hx hb dL_law_294 (by decide) ?_
                      exact absurd (gI2 hF).1 (by decide)
                  · replace hF := gF hc_77 hF
                    by_cases hc_86 : ((xs k_3) &&& 31) = 6
                    · replace hF := gT hc_86 hF
                      refine lv_tableIn (off := 264) (tgt := 296) hx hb dL_law_32 (by rw [hc_86]; decide) (by rw [hc_86]; decide) (by rw [hc_86]; rfl) (by decide) ?_
                      refine lv_aload_n hx hb dL_law_296 rfl (lv_at hl 1 rfl) ?_
                      obtain ⟨v_88, w_89, hq_87, hF⟩ := gC_some hF
                      refine g_Vi (As := []) (rest := []) ⟨hx, hb, hml, hown, hts⟩ hK hW hL hl.1 (gok_c (by decide)) gE_G rfl (c_X11_end l X w  v_88 w_89 hq_87) k40 rfl rfl (Nat.le_of_ble_eq_true rfl) dL_law_297 ⟨Nat.le_of_ble_eq_true rfl, Nat.le_of_ble_eq_true rfl⟩ (fun H locs hW hL => ?_)
                      refine lv_aload_n hx hb dL_law_300 rfl (lv_at hl 2 rfl) ?_
                      obtain ⟨v_91, w_92, hq_90, hF⟩ := gC_some hF
                      refine g_Vi (As := []) (rest := [.int v_88]) ⟨hx, hb, hml, hown, hts⟩ hK hW hL hl.1 (gok_o (by decide)) gE_O rfl (c_X12_end l X w_89  v_91 w_92 hq_90) k43 rfl rfl (Nat.le_of_ble_eq_true rfl) dL_law_301 ⟨Nat.le_of_ble_eq_true rfl, Nat.le_of_ble_eq_true rfl⟩ (fun H locs hW hL => ?_)
                      refine lv_icmp_eq (tgt := 713) hx hb dL_law_304 (by decide) (fun hc_93 => ?_) (fun hc_93 => ?_)
                      · replace hF := gT hc_93 hF
                        obtain ⟨x3_94, ex3_94, hF⟩ := gS_some hF
                        refine lv_iinc (v := x3_94) (lv' := [(3, .int x3_94), (0, .ref b), (1, .ref (gA X 7 0)), (2, .ref (gA X 8 0))]) hx hb dL_law_713 hl (k := 3) rfl (by rw [ex3_94]; rfl) (by decide) rfl (fun ls hl => ?_)
                        refine lv_goto (tgt := 18) hx hb dL_law_716 (by decide) ?_
                        exact ih18 w_92 x3_94 ls (lv_sub hl [1, 2, 3, 0] rfl) hF H locs hW hL
                      · replace hF := gF hc_93 hF
                        refine lv_iconst (v := 0) hx hb dL_law_307 (by decide) ?_
                        exact absurd (gI2 hF).1 (by decide)
                    · replace hF := gF hc_86 hF
                      by_cases hc_95 : ((xs k_3) &&& 31) = 7
                      · replace hF := gT hc_95 hF
                        refine lv_tableIn (off := 277) (tgt := 309) hx hb dL_law_32 (by rw [hc_95]; decide) (by rw [hc_95]; decide) (by rw [hc_95]; rfl) (by decide) ?_
                        refine lv_aload_n hx hb dL_law_309 rfl (lv_at hl 1 rfl) ?_
                        obtain ⟨v_97, w_98, hq_96, hF⟩ := gC_some hF
                        refine g_Vi (As := []) (rest := []) ⟨hx, hb, hml, hown, hts⟩ hK hW hL hl.1 (gok_c (by decide)) gE_G rfl (c_X11_next l X w  v_97 w_98 hq_96) k44 rfl rfl (Nat.le_of_ble_eq_true rfl) dL_law_310 ⟨Nat.le_of_ble_eq_true rfl, Nat.le_of_ble_eq_true rfl⟩ (fun H locs hW hL => ?_)
                        refine lv_aload_n hx hb dL_law_313 rfl (lv_at hl 2 rfl) ?_
                        obtain ⟨v_100, w_101, hq_99, hF⟩ := gC_some hF
                        refine g_Vi (As := []) (rest := [.int v_97]) ⟨hx, hb, hml, hown, hts⟩ hK hW hL hl.1 (gok_o (by decide)) gE_O rfl (c_X12_next l X w_98  v_100 w_101 hq_99) k47 rfl rfl (Nat.le_of_ble_eq_true rfl) dL_law_314 ⟨Nat.le_of_ble_eq_true rfl, Nat.le_of_ble_eq_true rfl⟩ (fun H locs hW hL => ?_)
                        refine lv_icmp_eq (tgt := 713) hx hb dL_law_317 (by decide) (fun hc_102 => ?_) (fun hc_102 => ?_)
                        · replace hF := gT hc_102 hF
                          obtain ⟨x3_103, ex3_103, hF⟩ := gS_some hF
                          refine lv_iinc (v := x3_103) (lv' := [(3, .int x3_103), (0, .ref b), (1, .ref (gA X 7 0)), (2, .ref (gA X 8 0))]) hx hb dL_law_713 hl (k := 3) rfl (by rw [ex3_103]; rfl) (by decide) rfl (fun ls hl => ?_)
                          refine lv_goto (tgt := 18) hx hb dL_law_716 (by decide) ?_
                          exact ih18 w_101 x3_103 ls (lv_sub hl [1, 2, 3, 0] rfl) hF H locs hW hL
                        · replace hF := gF hc_102 hF
                          refine lv_iconst (v := 0) hx hb dL_law_320 (by decide) ?_
                          exact absurd (gI2 hF).1 (by decide)
                      · replace hF := gF hc_95 hF
                        by_cases hc_104 : ((xs k_3) &&& 31) = 8
                        · replace hF := gT hc_104 hF
                          refine lv_tableIn (off := 290) (tgt := 322) hx hb dL_law_32 (by rw [hc_104]; decide) (by rw [hc_104]; decide) (by rw [hc_104]; rfl) (by decide) ?_
                          refine lv_aload_n hx hb dL_law_322 rfl (lv_at hl 1 rfl) ?_
                          refine lv_aload_n hx hb dL_law_323 rfl (lv_at hl 0 rfl) ?_
                          refine lv_iload_n hx hb dL_law_324 rfl (lv_at hl 3 rfl) ?_
                          refine lv_iconst (v := 1) hx hb dL_law_325 (by decide) ?_
                          refine lv_iadd hx hb dL_law_326 ?_
                          obtain ⟨hin_105, hF⟩ := gB_some hF
                          obtain ⟨k_106, ek_106⟩ : ∃ k, k = Int32.toNatClampNeg ((x3 + 1)) := ⟨_, rfl⟩
                          rw [← ek_106] at hF
                          refine g_sld hx hb hX hbB hW hin_105 ek_106.symm dL_law_327 ?_
                          refine lv_aload_n hx hb dL_law_328 rfl (lv_at hl 0 rfl) ?_
                          refine lv_iload_n hx hb dL_law_329 rfl (lv_at hl 3 rfl) ?_
                          refine lv_iconst (v := 2) hx hb dL_law_330 (by decide) ?_
                          refine lv_iadd hx hb dL_law_331 ?_
                          obtain ⟨hin_107, hF⟩ := gB_some hF
                          obtain ⟨k_108, ek_108⟩ : ∃ k, k = Int32.toNatClampNeg ((x3 + 2)) := ⟨_, rfl⟩
                          rw [← ek_108] at hF
                          refine g_sld hx hb hX hbB hW hin_107 ek_108.symm dL_law_332 ?_
                          obtain ⟨v_110, hq_109, hF⟩ := gP_some hF
                          refine g_Vi (As := [.int (xs k_106), .int (xs k_108)]) (rest := []) ⟨hx, hb, hml, hown, hts⟩ hK hW hL hl.1 (gok_c (by decide)) gE_G rfl (c_X11_swimmer l X w ((xs k_106)) ((xs k_108)) v_110 hq_109) k48 rfl rfl (Nat.le_of_ble_eq_true rfl) dL_law_333 ⟨Nat.le_of_ble_eq_true rfl, Nat.le_of_ble_eq_true rfl⟩ (fun H locs hW hL => ?_)
                          refine lv_aload_n hx hb dL_law_336 rfl (lv_at hl 2 rfl) ?_
                          refine lv_aload_n hx hb dL_law_337 rfl (lv_at hl 0 rfl) ?_
                          refine lv_iload_n hx hb dL_law_338 rfl (lv_at hl 3 rfl) ?_
                          refine lv_iconst (v := 1) hx hb dL_law_339 (by decide) ?_
                          refine lv_iadd hx hb dL_law_340 ?_
                          obtain ⟨hin_111, hF⟩ := gB_some hF
                          obtain ⟨k_112, ek_112⟩ : ∃ k, k = Int32.toNatClampNeg ((x3 + 1)) := ⟨_, rfl⟩
                          rw [← ek_112] at hF
                          refine g_sld hx hb hX hbB hW hin_111 ek_112.symm dL_law_341 ?_
                          refine lv_aload_n hx hb dL_law_342 rfl (lv_at hl 0 rfl) ?_
                          refine lv_iload_n hx hb dL_law_343 rfl (lv_at hl 3 rfl) ?_
                          refine lv_iconst (v := 2) hx hb dL_law_344 (by decide) ?_
                          refine lv_iadd hx hb dL_law_345 ?_
                          obtain ⟨hin_113, hF⟩ := gB_some hF
                          obtain ⟨k_114, ek_114⟩ : ∃ k, k = Int32.toNatClampNeg ((x3 + 2)) := ⟨_, rfl⟩
                          rw [← ek_114] at hF
                          refine g_sld hx hb hX hbB hW hin_113 ek_114.symm dL_law_346 ?_
                          obtain ⟨v_116, hq_115, hF⟩ := gP_some hF
                          refine g_Vi (As := [.int (xs k_112), .int (xs k_114)]) (rest := [.int v_110]) ⟨hx, hb, hml, hown, hts⟩ hK hW hL hl.1 (gok_o (by decide)) gE_O rfl (c_X12_swimmer l X w ((xs k_112)) ((xs k_114)) v_116 hq_115) k51 rfl rfl (Nat.le_of_ble_eq_true rfl) dL_law_347 ⟨Nat.le_of_ble_eq_true rfl, Nat.le_of_ble_eq_true rfl⟩ (fun H locs hW hL => ?_)
                          refine lv_icmp_eq (tgt := 713) hx hb dL_law_350 (by decide) (fun hc_117 => ?_) (fun hc_117 => ?_)
                          · replace hF := gT hc_117 hF
                            obtain ⟨x3_118, ex3_118, hF⟩ := gS_some hF
                            refine lv_iinc (v := x3_118) (lv' := [(3, .int x3_118), (0, .ref b), (1, .ref (gA X 7 0)), (2, .ref (gA X 8 0))]) hx hb dL_law_713 hl (k := 3) rfl (by rw [ex3_118]; rfl) (by decide) rfl (fun ls hl => ?_)
                            refine lv_goto (tgt := 18) hx hb dL_law_716 (by decide) ?_
                            exact ih18 w x3_118 ls (lv_sub hl [1, 2, 3, 0] rfl) hF H locs hW hL
                          · replace hF := gF hc_117 hF
                            refine lv_iconst (v := 0) hx hb dL_law_353 (by decide) ?_
                            exact absurd (gI2 hF).1 (by decide)
                        · replace hF := gF hc_104 hF
                          by_cases hc_119 : ((xs k_3) &&& 31) = 9
                          · replace hF := gT hc_119 hF
                            refine lv_tableIn (off := 323) (tgt := 355) hx hb dL_law_32 (by rw [hc_119]; decide) (by rw [hc_119]; decide) (by rw [hc_119]; rfl) (by decide) ?_
                            refine lv_aload_n hx hb dL_law_355 rfl (lv_at hl 1 rfl) ?_
                            refine lv_aload_n hx hb dL_law_356 rfl (lv_at hl 0 rfl) ?_
                            refine lv_iload_n hx hb dL_law_357 rfl (lv_at hl 3 rfl) ?_
                            refine lv_iconst (v := 1) hx hb dL_law_358 (by decide) ?_
                            refine lv_iadd hx hb dL_law_359 ?_
                            obtain ⟨hin_120, hF⟩ := gB_some hF
                            obtain ⟨k_121, ek_121⟩ : ∃ k, k = Int32.toNatClampNeg ((x3 + 1)) := ⟨_, rfl⟩
                            rw [← ek_121] at hF
                            refine g_sld hx hb hX hbB hW hin_120 ek_121.symm dL_law_360 ?_
                            refine lv_aload_n hx hb dL_law_361 rfl (lv_at hl 0 rfl) ?_
                            refine lv_iload_n hx hb dL_law_362 rfl (lv_at hl 3 rfl) ?_
                            refine lv_iconst (v := 2) hx hb dL_law_363 (by decide) ?_
                            refine lv_iadd hx hb dL_law_364 ?_
                            obtain ⟨hin_122, hF⟩ := gB_some hF
                            obtain ⟨k_123, ek_123⟩ : ∃ k, k = Int32.toNatClampNeg ((x3 + 2)) := ⟨_, rfl⟩
                            rw [← ek_123] at hF
                            refine g_sld hx hb hX hbB hW hin_122 ek_123.symm dL_law_365 ?_
                            obtain ⟨v_125, hq_124, hF⟩ := gP_some hF
                            refine g_Vi (As := [.int (xs k_121), .int (xs k_123)]) (rest := []) ⟨hx, hb, hml, hown, hts⟩ hK hW hL hl.1 (gok_c (by decide)) gE_G rfl (c_X11_at l X w ((xs k_121)) ((xs k_123)) v_125 hq_124) k52 rfl rfl (Nat.le_of_ble_eq_true rfl) dL_law_366 ⟨Nat.le_of_ble_eq_true rfl, Nat.le_of_ble_eq_true rfl⟩ (fun H locs hW hL => ?_)
                            refine lv_aload_n hx hb dL_law_369 rfl (lv_at hl 2 rfl) ?_
                            refine lv_aload_n hx hb dL_law_370 rfl (lv_at hl 0 rfl) ?_
                            refine lv_iload_n hx hb dL_law_371 rfl (lv_at hl 3 rfl) ?_
                            refine lv_iconst (v := 1) hx hb dL_law_372 (by decide) ?_
                            refine lv_iadd hx hb dL_law_373 ?_
                            obtain ⟨hin_126, hF⟩ := gB_some hF
                            obtain ⟨k_127, ek_127⟩ : ∃ k, k = Int32.toNatClampNeg ((x3 + 1)) := ⟨_, rfl⟩
                            rw [← ek_127] at hF
                            refine g_sld hx hb hX hbB hW hin_126 ek_127.symm dL_law_374 ?_
                            refine lv_aload_n hx hb dL_law_375 rfl (lv_at hl 0 rfl) ?_
                            refine lv_iload_n hx hb dL_law_376 rfl (lv_at hl 3 rfl) ?_
                            refine lv_iconst (v := 2) hx hb dL_law_377 (by decide) ?_
                            refine lv_iadd hx hb dL_law_378 ?_
                            obtain ⟨hin_128, hF⟩ := gB_some hF
                            obtain ⟨k_129, ek_129⟩ : ∃ k, k = Int32.toNatClampNeg ((x3 + 2)) := ⟨_, rfl⟩
                            rw [← ek_129] at hF
                            refine g_sld hx hb hX hbB hW hin_128 ek_129.symm dL_law_379 ?_
                            obtain ⟨v_131, hq_130, hF⟩ := gP_some hF
                            refine g_Vi (As := [.int (xs k_127), .int (xs k_129)]) (rest := [.int v_125]) ⟨hx, hb, hml, hown, hts⟩ hK hW hL hl.1 (gok_o (by decide)) gE_O rfl (c_X12_at l X w ((xs k_127)) ((xs k_129)) v_131 hq_130) k55 rfl rfl (Nat.le_of_ble_eq_true rfl) dL_law_380 ⟨Nat.le_of_ble_eq_true rfl, Nat.le_of_ble_eq_true rfl⟩ (fun H locs hW hL => ?_)
                            refine lv_icmp_eq (tgt := 713) hx hb dL_law_383 (by decide) (fun hc_132 => ?_) (fun hc_132 => ?_)
                            · replace hF := gT hc_132 hF
                              obtain ⟨x3_133, ex3_133, hF⟩ := gS_some hF
                              refine lv_iinc (v := x3_133) (lv' := [(3, .int x3_133), (0, .ref b), (1, .ref (gA X 7 0)), (2, .ref (gA X 8 0))]) hx hb dL_law_713 hl (k := 3) rfl (by rw [ex3_133]; rfl) (by decide) rfl (fun ls hl => ?_)
                              refine lv_goto (tgt := 18) hx hb dL_law_716 (by decide) ?_
                              exact ih18 w x3_133 ls (lv_sub hl [1, 2, 3, 0] rfl) hF H locs hW hL
                            · replace hF := gF hc_132 hF
                              refine lv_iconst (v := 0) hx hb dL_law_386 (by decide) ?_
                              exact absurd (gI2 hF).1 (by decide)
                          · replace hF := gF hc_119 hF
                            by_cases hc_134 : ((xs k_3) &&& 31) = 10
                            · replace hF := gT hc_134 hF
                              refine lv_tableIn (off := 356) (tgt := 388) hx hb dL_law_32 (by rw [hc_134]; decide) (by rw [hc_134]; decide) (by rw [hc_134]; rfl) (by decide) ?_
                              refine lv_aload_n hx hb dL_law_388 rfl (lv_at hl 1 rfl) ?_
                              refine lv_aload_n hx hb dL_law_389 rfl (lv_at hl 0 rfl) ?_
                              refine lv_iload_n hx hb dL_law_390 rfl (lv_at hl 3 rfl) ?_
                              refine lv_iconst (v := 1) hx hb dL_law_391 (by decide) ?_
                              refine lv_iadd hx hb dL_law_392 ?_
                              obtain ⟨hin_135, hF⟩ := gB_some hF
                              obtain ⟨k_136, ek_136⟩ : ∃ k, k = Int32.toNatClampNeg ((x3 + 1)) := ⟨_, rfl⟩
                              rw [← ek_136] at hF
                              refine g_sld hx hb hX hbB hW hin_135 ek_136.symm dL_law_393 ?_
                              refine lv_aload_n hx hb dL_law_394 rfl (lv_at hl 0 rfl) ?_
                              refine lv_iload_n hx hb dL_law_395 rfl (lv_at hl 3 rfl) ?_
                              refine lv_iconst (v := 2) hx hb dL_law_396 (by decide) ?_
                              refine lv_iadd hx hb dL_law_397 ?_
                              obtain ⟨hin_137, hF⟩ := gB_some hF
                              obtain ⟨k_138, ek_138⟩ : ∃ k, k = Int32.toNatClampNeg ((x3 + 2)) := ⟨_, rfl⟩
                              rw [← ek_138] at hF
                              refine g_sld hx hb hX hbB hW hin_137 ek_138.symm dL_law_398 ?_
                              obtain ⟨v_140, hq_139, hF⟩ := gP_some hF
                              refine g_Vi (As := [.int (xs k_136), .int (xs k_138)]) (rest := []) ⟨hx, hb, hml, hown, hts⟩ hK hW hL hl.1 (gok_c (by decide)) gE_G rfl (c_X11_heat l X w ((xs k_136)) ((xs k_138)) v_140 hq_139) k56 rfl rfl (Nat.le_of_ble_eq_true rfl) dL_law_399 ⟨Nat.le_of_ble_eq_true rfl, Nat.le_of_ble_eq_true rfl⟩ (fun H locs hW hL => ?_)
                              refine lv_aload_n hx hb dL_law_402 rfl (lv_at hl 2 rfl) ?_
                              refine lv_aload_n hx hb dL_law_403 rfl (lv_at hl 0 rfl) ?_
                              refine lv_iload_n hx hb dL_law_404 rfl (lv_at hl 3 rfl) ?_
                              refine lv_iconst (v := 1) hx hb dL_law_405 (by decide) ?_
                              refine lv_iadd hx hb dL_law_406 ?_
                              obtain ⟨hin_141, hF⟩ := gB_some hF
                              obtain ⟨k_142, ek_142⟩ : ∃ k, k = Int32.toNatClampNeg ((x3 + 1)) := ⟨_, rfl⟩
                              rw [← ek_142] at hF
                              refine g_sld hx hb hX hbB hW hin_141 ek_142.symm dL_law_407 ?_
                              refine lv_aload_n hx hb dL_law_408 rfl (lv_at hl 0 rfl) ?_
                              refine lv_iload_n hx hb dL_law_409 rfl (lv_at hl 3 rfl) ?_
                              refine lv_iconst (v := 2) hx hb dL_law_410 (by decide) ?_
                              refine lv_iadd hx hb dL_law_411 ?_
                              obtain ⟨hin_143, hF⟩ := gB_some hF
                              obtain ⟨k_144, ek_144⟩ : ∃ k, k = Int32.toNatClampNeg ((x3 + 2)) := ⟨_, rfl⟩
                              rw [← ek_144] at hF
                              refine g_sld hx hb hX hbB hW hin_143 ek_144.symm dL_law_412 ?_
                              obtain ⟨v_146, hq_145, hF⟩ := gP_some hF
                              refine g_Vi (As := [.int (xs k_142), .int (xs k_144)]) (rest := [.int v_140]) ⟨hx, hb, hml, hown, hts⟩ hK hW hL hl.1 (gok_o (by decide)) gE_O rfl (c_X12_heat l X w ((xs k_142)) ((xs k_144)) v_146 hq_145) k59 rfl rfl (Nat.le_of_ble_eq_true rfl) dL_law_413 ⟨Nat.le_of_ble_eq_true rfl, Nat.le_of_ble_eq_true rfl⟩ (fun H locs hW hL => ?_)
                              refine lv_icmp_eq (tgt := 713) hx hb dL_law_416 (by decide) (fun hc_147 => ?_) (fun hc_147 => ?_)
                              · replace hF := gT hc_147 hF
                                obtain ⟨x3_148, ex3_148, hF⟩ := gS_some hF
                                refine lv_iinc (v := x3_148) (lv' := [(3, .int x3_148), (0, .ref b), (1, .ref (gA X 7 0)), (2, .ref (gA X 8 0))]) hx hb dL_law_713 hl (k := 3) rfl (by rw [ex3_148]; rfl) (by decide) rfl (fun ls hl => ?_)
                                refine lv_goto (tgt := 18) hx hb dL_law_716 (by decide) ?_
                                exact ih18 w x3_148 ls (lv_sub hl [1, 2, 3, 0] rfl) hF H locs hW hL
                              · replace hF := gF hc_147 hF
                                refine lv_iconst (v := 0) hx hb dL_law_419 (by decide) ?_
                                exact absurd (gI2 hF).1 (by decide)
                            · replace hF := gF hc_134 hF
                              by_cases hc_149 : ((xs k_3) &&& 31) = 11
                              · replace hF := gT hc_149 hF
                                refine lv_tableIn (off := 389) (tgt := 421) hx hb dL_law_32 (by rw [hc_149]; decide) (by rw [hc_149]; decide) (by rw [hc_149]; rfl) (by decide) ?_
                                refine lv_aload_n hx hb dL_law_421 rfl (lv_at hl 1 rfl) ?_
                                refine lv_aload_n hx hb dL_law_422 rfl (lv_at hl 0 rfl) ?_
                                refine lv_iload_n hx hb dL_law_423 rfl (lv_at hl 3 rfl) ?_
                                refine lv_iconst (v := 1) hx hb dL_law_424 (by decide) ?_
                                refine lv_iadd hx hb dL_law_425 ?_
                                obtain ⟨hin_150, hF⟩ := gB_some hF
                                obtain ⟨k_151, ek_151⟩ : ∃ k, k = Int32.toNatClampNeg ((x3 + 1)) := ⟨_, rfl⟩
                                rw [← ek_151] at hF
                                refine g_sld hx hb hX hbB hW hin_150 ek_151.symm dL_law_426 ?_
                                obtain ⟨v_153, hq_152, hF⟩ := gP_some hF
                                refine g_Vi (As := [.int (xs k_151)]) (rest := []) ⟨hx, hb, hml, hown, hts⟩ hK hW hL hl.1 (gok_c (by decide)) gE_G rfl (c_X11_reserve l X w ((xs k_151)) v_153 hq_152) k60 rfl rfl (Nat.le_of_ble_eq_true rfl) dL_law_427 ⟨Nat.le_of_ble_eq_true rfl, Nat.le_of_ble_eq_true rfl⟩ (fun H locs hW hL => ?_)
                                refine lv_aload_n hx hb dL_law_430 rfl (lv_at hl 2 rfl) ?_
                                refine lv_aload_n hx hb dL_law_431 rfl (lv_at hl 0 rfl) ?_
                                refine lv_iload_n hx hb dL_law_432 rfl (lv_at hl 3 rfl) ?_
                                refine lv_iconst (v := 1) hx hb dL_law_433 (by decide) ?_
                                refine lv_iadd hx hb dL_law_434 ?_
                                obtain ⟨hin_154, hF⟩ := gB_some hF
                                obtain ⟨k_155, ek_155⟩ : ∃ k, k = Int32.toNatClampNeg ((x3 + 1)) := ⟨_, rfl⟩
                                rw [← ek_155] at hF
                                refine g_sld hx hb hX hbB hW hin_154 ek_155.symm dL_law_435 ?_
                                obtain ⟨v_157, hq_156, hF⟩ := gP_some hF
                                refine g_Vi (As := [.int (xs k_155)]) (rest := [.int v_153]) ⟨hx, hb, hml, hown, hts⟩ hK hW hL hl.1 (gok_o (by decide)) gE_O rfl (c_X12_reserve l X w ((xs k_155)) v_157 hq_156) k63 rfl rfl (Nat.le_of_ble_eq_true rfl) dL_law_436 ⟨Nat.le_of_ble_eq_true rfl, Nat.le_of_ble_eq_true rfl⟩ (fun H locs hW hL => ?_)
                                refine lv_icmp_eq (tgt := 713) hx hb dL_law_439 (by decide) (fun hc_158 => ?_) (fun hc_158 => ?_)
                                · replace hF := gT hc_158 hF
                                  obtain ⟨x3_159, ex3_159, hF⟩ := gS_some hF
                                  refine lv_iinc (v := x3_159) (lv' := [(3, .int x3_159), (0, .ref b), (1, .ref (gA X 7 0)), (2, .ref (gA X 8 0))]) hx hb dL_law_713 hl (k := 3) rfl (by rw [ex3_159]; rfl) (by decide) rfl (fun ls hl => ?_)
                                  refine lv_goto (tgt := 18) hx hb dL_law_716 (by decide) ?_
                                  exact ih18 w x3_159 ls (lv_sub hl [1, 2, 3, 0] rfl) hF H locs hW hL
                                · replace hF := gF hc_158 hF
                                  refine lv_iconst (v := 0) hx hb dL_law_442 (by decide) ?_
                                  exact absurd (gI2 hF).1 (by decide)
                              · replace hF := gF hc_149 hF
                                by_cases hc_160 : ((xs k_3) &&& 31) = 12
                                · replace hF := gT hc_160 hF
                                  refine lv_tableIn (off := 412) (tgt := 444) hx hb dL_law_32 (by rw [hc_160]; decide) (by rw [hc_160]; decide) (by rw [hc_160]; rfl) (by decide) ?_
                                  refine lv_aload_n hx hb dL_law_444 rfl (lv_at hl 1 rfl) ?_
                                  refine lv_aload_n hx hb dL_law_445 rfl (lv_at hl 0 rfl) ?_
                                  refine lv_iload_n hx hb dL_law_446 rfl (lv_at hl 3 rfl) ?_
                                  refine lv_iconst (v := 1) hx hb dL_law_447 (by decide) ?_
                                  refine lv_iadd hx hb dL_law_448 ?_
                                  obtain ⟨hin_161, hF⟩ := gB_some hF
                                  obtain ⟨k_162, ek_162⟩ : ∃ k, k = Int32.toNatClampNeg ((x3 + 1)) := ⟨_, rfl⟩
                                  rw [← ek_162] at hF
                                  refine g_sld hx hb hX hbB hW hin_161 ek_162.symm dL_law_449 ?_
                                  obtain ⟨v_164, hq_163, hF⟩ := gP_some hF
                                  refine g_Vi (As := [.int (xs k_162)]) (rest := []) ⟨hx, hb, hml, hown, hts⟩ hK hW hL hl.1 (gok_c (by decide)) gE_G rfl (c_X11_points l X w ((xs k_162)) v_164 hq_163) k64 rfl rfl (Nat.le_of_ble_eq_true rfl) dL_law_450 ⟨Nat.le_of_ble_eq_true rfl, Nat.le_of_ble_eq_true rfl⟩ (fun H locs hW hL => ?_)
                                  refine lv_aload_n hx hb dL_law_453 rfl (lv_at hl 2 rfl) ?_
                                  refine lv_aload_n hx hb dL_law_454 rfl (lv_at hl 0 rfl) ?_
                                  refine lv_iload_n hx hb dL_law_455 rfl (lv_at hl 3 rfl) ?_
                                  refine lv_iconst (v := 1) hx hb dL_law_456 (by decide) ?_
                                  refine lv_iadd hx hb dL_law_457 ?_
                                  obtain ⟨hin_165, hF⟩ := gB_some hF
                                  obtain ⟨k_166, ek_166⟩ : ∃ k, k = Int32.toNatClampNeg ((x3 + 1)) := ⟨_, rfl⟩
                                  rw [← ek_166] at hF
                                  refine g_sld hx hb hX hbB hW hin_165 ek_166.symm dL_law_458 ?_
                                  obtain ⟨v_168, hq_167, hF⟩ := gP_some hF
                                  refine g_Vi (As := [.int (xs k_166)]) (rest := [.int v_164]) ⟨hx, hb, hml, hown, hts⟩ hK hW hL hl.1 (gok_o (by decide)) gE_O rfl (c_X12_points l X w ((xs k_166)) v_168 hq_167) k67 rfl rfl (Nat.le_of_ble_eq_true rfl) dL_law_459 ⟨Nat.le_of_ble_eq_true rfl, Nat.le_of_ble_eq_true rfl⟩ (fun H locs hW hL => ?_)
                                  refine lv_icmp_eq (tgt := 713) hx hb dL_law_462 (by decide) (fun hc_169 => ?_) (fun hc_169 => ?_)
                                  · replace hF := gT hc_169 hF
                                    obtain ⟨x3_170, ex3_170, hF⟩ := gS_some hF
                                    refine lv_iinc (v := x3_170) (lv' := [(3, .int x3_170), (0, .ref b), (1, .ref (gA X 7 0)), (2, .ref (gA X 8 0))]) hx hb dL_law_713 hl (k := 3) rfl (by rw [ex3_170]; rfl) (by decide) rfl (fun ls hl => ?_)
                                    refine lv_goto (tgt := 18) hx hb dL_law_716 (by decide) ?_
                                    exact ih18 w x3_170 ls (lv_sub hl [1, 2, 3, 0] rfl) hF H locs hW hL
                                  · replace hF := gF hc_169 hF
                                    refine lv_iconst (v := 0) hx hb dL_law_465 (by decide) ?_
                                    exact absurd (gI2 hF).1 (by decide)
                                · replace hF := gF hc_160 hF
                                  by_cases hc_171 : ((xs k_3) &&& 31) = 13
                                  · replace hF := gT hc_171 hF
                                    refine lv_tableIn (off := 435) (tgt := 467) hx hb dL_law_32 (by rw [hc_171]; decide) (by rw [hc_171]; decide) (by rw [hc_171]; rfl) (by decide) ?_
                                    refine lv_aload_n hx hb dL_law_467 rfl (lv_at hl 1 rfl) ?_
                                    refine lv_aload_n hx hb dL_law_468 rfl (lv_at hl 0 rfl) ?_
                                    refine lv_iload_n hx hb dL_law_469 rfl (lv_at hl 3 rfl) ?_
                                    refine lv_iconst (v := 1) hx hb dL_law_470 (by decide) ?_
                                    refine lv_iadd hx hb dL_law_471 ?_
                                    obtain ⟨hin_172, hF⟩ := gB_some hF
                                    obtain ⟨k_173, ek_173⟩ : ∃ k, k = Int32.toNatClampNeg ((x3 + 1)) := ⟨_, rfl⟩
                                    rw [← ek_173] at hF
                                    refine g_sld hx hb hX hbB hW hin_172 ek_173.symm dL_law_472 ?_
                                    refine lv_aload_n hx hb dL_law_473 rfl (lv_at hl 0 rfl) ?_
                                    refine lv_iload_n hx hb dL_law_474 rfl (lv_at hl 3 rfl) ?_
                                    refine lv_iconst (v := 2) hx hb dL_law_475 (by decide) ?_
                                    refine lv_iadd hx hb dL_law_476 ?_
                                    obtain ⟨hin_174, hF⟩ := gB_some hF
                                    obtain ⟨k_175, ek_175⟩ : ∃ k, k = Int32.toNatClampNeg ((x3 + 2)) := ⟨_, rfl⟩
                                    rw [← ek_175] at hF
                                    refine g_sld hx hb hX hbB hW hin_174 ek_175.symm dL_law_477 ?_
                                    obtain ⟨v_177, w_178, hq_176, hF⟩ := gC_some hF
                                    refine g_Vi (As := [.int (xs k_173), .int (xs k_175)]) (rest := []) ⟨hx, hb, hml, hown, hts⟩ hK hW hL hl.1 (gok_c (by decide)) gE_G rfl (c_X11_ifDrawn l X w ((xs k_173)) ((xs k_175)) v_177 w_178 hq_176) k68 rfl rfl (Nat.le_of_ble_eq_true rfl) dL_law_478 ⟨Nat.le_of_ble_eq_true rfl, Nat.le_of_ble_eq_true rfl⟩ (fun H locs hW hL => ?_)
                                    refine lv_aload_n hx hb dL_law_481 rfl (lv_at hl 2 rfl) ?_
                                    refine lv_aload_n hx hb dL_law_482 rfl (lv_at hl 0 rfl) ?_
                                    refine lv_iload_n hx hb dL_law_483 rfl (lv_at hl 3 rfl) ?_
                                    refine lv_iconst (v := 1) hx hb dL_law_484 (by decide) ?_
                                    refine lv_iadd hx hb dL_law_485 ?_
                                    obtain ⟨hin_179, hF⟩ := gB_some hF
                                    obtain ⟨k_180, ek_180⟩ : ∃ k, k = Int32.toNatClampNeg ((x3 + 1)) := ⟨_, rfl⟩
                                    rw [← ek_180] at hF
                                    refine g_sld hx hb hX hbB hW hin_179 ek_180.symm dL_law_486 ?_
                                    refine lv_aload_n hx hb dL_law_487 rfl (lv_at hl 0 rfl) ?_
                                    refine lv_iload_n hx hb dL_law_488 rfl (lv_at hl 3 rfl) ?_
                                    refine lv_iconst (v := 2) hx hb dL_law_489 (by decide) ?_
                                    refine lv_iadd hx hb dL_law_490 ?_
                                    obtain ⟨hin_181, hF⟩ := gB_some hF
                                    obtain ⟨k_182, ek_182⟩ : ∃ k, k = Int32.toNatClampNeg ((x3 + 2)) := ⟨_, rfl⟩
                                    rw [← ek_182] at hF
                                    refine g_sld hx hb hX hbB hW hin_181 ek_182.symm dL_law_491 ?_
                                    obtain ⟨v_184, w_185, hq_183, hF⟩ := gC_some hF
                                    refine g_Vi (As := [.int (xs k_180), .int (xs k_182)]) (rest := [.int v_177]) ⟨hx, hb, hml, hown, hts⟩ hK hW hL hl.1 (gok_o (by decide)) gE_O rfl (c_X12_ifDrawn l X w_178 ((xs k_180)) ((xs k_182)) v_184 w_185 hq_183) k71 rfl rfl (Nat.le_of_ble_eq_true rfl) dL_law_492 ⟨Nat.le_of_ble_eq_true rfl, Nat.le_of_ble_eq_true rfl⟩ (fun H locs hW hL => ?_)
                                    refine lv_icmp_eq (tgt := 713) hx hb dL_law_495 (by decide) (fun hc_186 => ?_) (fun hc_186 => ?_)
                                    · replace hF := gT hc_186 hF
                                      obtain ⟨x3_187, ex3_187, hF⟩ := gS_some hF
                                      refine lv_iinc (v := x3_187) (lv' := [(3, .int x3_187), (0, .ref b), (1, .ref (gA X 7 0)), (2, .ref (gA X 8 0))]) hx hb dL_law_713 hl (k := 3) rfl (by rw [ex3_187]; rfl) (by decide) rfl (fun ls hl => ?_)
                                      refine lv_goto (tgt := 18) hx hb dL_law_716 (by decide) ?_
                                      exact ih18 w_185 x3_187 ls (lv_sub hl [1, 2, 3, 0] rfl) hF H locs hW hL
                                    · replace hF := gF hc_186 hF
                                      refine lv_iconst (v := 0) hx hb dL_law_498 (by decide) ?_
                                      exact absurd (gI2 hF).1 (by decide)
                                  · replace hF := gF hc_171 hF
                                    by_cases hc_188 : ((xs k_3) &&& 31) = 14
                                    · replace hF := gT hc_188 hF
                                      refine lv_tableIn (off := 468) (tgt := 500) hx hb dL_law_32 (by rw [hc_188]; decide) (by rw [hc_188]; decide) (by rw [hc_188]; rfl) (by decide) ?_
                                      refine lv_aload_n hx hb dL_law_500 rfl (lv_at hl 1 rfl) ?_
                                      refine lv_aload_n hx hb dL_law_501 rfl (lv_at hl 0 rfl) ?_
                                      refine lv_iload_n hx hb dL_law_502 rfl (lv_at hl 3 rfl) ?_
                                      refine lv_iconst (v := 1) hx hb dL_law_503 (by decide) ?_
                                      refine lv_iadd hx hb dL_law_504 ?_
                                      obtain ⟨hin_189, hF⟩ := gB_some hF
                                      obtain ⟨k_190, ek_190⟩ : ∃ k, k = Int32.toNatClampNeg ((x3 + 1)) := ⟨_, rfl⟩
                                      rw [← ek_190] at hF
                                      refine g_sld hx hb hX hbB hW hin_189 ek_190.symm dL_law_505 ?_
                                      refine lv_aload_n hx hb dL_law_506 rfl (lv_at hl 0 rfl) ?_
                                      refine lv_iload_n hx hb dL_law_507 rfl (lv_at hl 3 rfl) ?_
                                      refine lv_iconst (v := 2) hx hb dL_law_508 (by decide) ?_
                                      refine lv_iadd hx hb dL_law_509 ?_
                                      obtain ⟨hin_191, hF⟩ := gB_some hF
                                      obtain ⟨k_192, ek_192⟩ : ∃ k, k = Int32.toNatClampNeg ((x3 + 2)) := ⟨_, rfl⟩
                                      rw [← ek_192] at hF
                                      refine g_sld hx hb hX hbB hW hin_191 ek_192.symm dL_law_510 ?_
                                      obtain ⟨v_194, hq_193, hF⟩ := gP_some hF
                                      refine g_Vi (As := [.int (xs k_190), .int (xs k_192)]) (rest := []) ⟨hx, hb, hml, hown, hts⟩ hK hW hL hl.1 (gok_c (by decide)) gE_G rfl (c_X11_lane l X w ((xs k_190)) ((xs k_192)) v_194 hq_193) k72 rfl rfl (Nat.le_of_ble_eq_true rfl) dL_law_511 ⟨Nat.le_of_ble_eq_true rfl, Nat.le_of_ble_eq_true rfl⟩ (fun H locs hW hL => ?_)
                                      refine lv_aload_n hx hb dL_law_514 rfl (lv_at hl 2 rfl) ?_
                                      refine lv_aload_n hx hb dL_law_515 rfl (lv_at hl 0 rfl) ?_
                                      refine lv_iload_n hx hb dL_law_516 rfl (lv_at hl 3 rfl) ?_
                                      refine lv_iconst (v := 1) hx hb dL_law_517 (by decide) ?_
                                      refine lv_iadd hx hb dL_law_518 ?_
                                      obtain ⟨hin_195, hF⟩ := gB_some hF
                                      obtain ⟨k_196, ek_196⟩ : ∃ k, k = Int32.toNatClampNeg ((x3 + 1)) := ⟨_, rfl⟩
                                      rw [← ek_196] at hF
                                      refine g_sld hx hb hX hbB hW hin_195 ek_196.symm dL_law_519 ?_
                                      refine lv_aload_n hx hb dL_law_520 rfl (lv_at hl 0 rfl) ?_
                                      refine lv_iload_n hx hb dL_law_521 rfl (lv_at hl 3 rfl) ?_
                                      refine lv_iconst (v := 2) hx hb dL_law_522 (by decide) ?_
                                      refine lv_iadd hx hb dL_law_523 ?_
                                      obtain ⟨hin_197, hF⟩ := gB_some hF
                                      obtain ⟨k_198, ek_198⟩ : ∃ k, k = Int32.toNatClampNeg ((x3 + 2)) := ⟨_, rfl⟩
                                      rw [← ek_198] at hF
                                      refine g_sld hx hb hX hbB hW hin_197 ek_198.symm dL_law_524 ?_
                                      obtain ⟨v_200, hq_199, hF⟩ := gP_some hF
                                      refine g_Vi (As := [.int (xs k_196), .int (xs k_198)]) (rest := [.int v_194]) ⟨hx, hb, hml, hown, hts⟩ hK hW hL hl.1 (gok_o (by decide)) gE_O rfl (c_X12_lane l X w ((xs k_196)) ((xs k_198)) v_200 hq_199) k75 rfl rfl (Nat.le_of_ble_eq_true rfl) dL_law_525 ⟨Nat.le_of_ble_eq_true rfl, Nat.le_of_ble_eq_true rfl⟩ (fun H locs hW hL => ?_)
                                      refine lv_icmp_eq (tgt := 713) hx hb dL_law_528 (by decide) (fun hc_201 => ?_) (fun hc_201 => ?_)
                                      · replace hF := gT hc_201 hF
                                        obtain ⟨x3_202, ex3_202, hF⟩ := gS_some hF
                                        refine lv_iinc (v := x3_202) (lv' := [(3, .int x3_202), (0, .ref b), (1, .ref (gA X 7 0)), (2, .ref (gA X 8 0))]) hx hb dL_law_713 hl (k := 3) rfl (by rw [ex3_202]; rfl) (by decide) rfl (fun ls hl => ?_)
                                        refine lv_goto (tgt := 18) hx hb dL_law_716 (by decide) ?_
                                        exact ih18 w x3_202 ls (lv_sub hl [1, 2, 3, 0] rfl) hF H locs hW hL
                                      · replace hF := gF hc_201 hF
                                        refine lv_iconst (v := 0) hx hb dL_law_531 (by decide) ?_
                                        exact absurd (gI2 hF).1 (by decide)
                                    · replace hF := gF hc_188 hF
                                      by_cases hc_203 : ((xs k_3) &&& 31) = 15
                                      · replace hF := gT hc_203 hF
                                        refine lv_tableIn (off := 501) (tgt := 533) hx hb dL_law_32 (by rw [hc_203]; decide) (by rw [hc_203]; decide) (by rw [hc_203]; rfl) (by decide) ?_
                                        refine lv_aload_n hx hb dL_law_533 rfl (lv_at hl 1 rfl) ?_
                                        obtain ⟨v_205, hq_204, hF⟩ := gP_some hF
                                        refine g_Vi (As := []) (rest := []) ⟨hx, hb, hml, hown, hts⟩ hK hW hL hl.1 (gok_c (by decide)) gE_G rfl (c_X11_why l X w  v_205 hq_204) k76 rfl rfl (Nat.le_of_ble_eq_true rfl) dL_law_534 ⟨Nat.le_of_ble_eq_true rfl, Nat.le_of_ble_eq_true rfl⟩ (fun H locs hW hL => ?_)
                                        refine lv_aload_n hx hb dL_law_537 rfl (lv_at hl 2 rfl) ?_
                                        obtain ⟨v_207, hq_206, hF⟩ := gP_some hF
                                        refine g_Vi (As := []) (rest := [.int v_205]) ⟨hx, hb, hml, hown, hts⟩ hK hW hL hl.1 (gok_o (by decide)) gE_O rfl (c_X12_why l X w  v_207 hq_206) k79 rfl rfl (Nat.le_of_ble_eq_true rfl) dL_law_538 ⟨Nat.le_of_ble_eq_true rfl, Nat.le_of_ble_eq_true rfl⟩ (fun H locs hW hL => ?_)
                                        refine lv_icmp_eq (tgt := 713) hx hb dL_law_541 (by decide) (fun hc_208 => ?_) (fun hc_208 => ?_)
                                        · replace hF := gT hc_208 hF
                                          obtain ⟨x3_209, ex3_209, hF⟩ := gS_some hF
                                          refine lv_iinc (v := x3_209) (lv' := [(3, .int x3_209), (0, .ref b), (1, .ref (gA X 7 0)), (2, .ref (gA X 8 0))]) hx hb dL_law_713 hl (k := 3) rfl (by rw [ex3_209]; rfl) (by decide) rfl (fun ls hl => ?_)
                                          refine lv_goto (tgt := 18) hx hb dL_law_716 (by decide) ?_
                                          exact ih18 w x3_209 ls (lv_sub hl [1, 2, 3, 0] rfl) hF H locs hW hL
                                        · replace hF := gF hc_208 hF
                                          refine lv_iconst (v := 0) hx hb dL_law_544 (by decide) ?_
                                          exact absurd (gI2 hF).1 (by decide)
                                      · replace hF := gF hc_203 hF
                                        by_cases hc_210 : ((xs k_3) &&& 31) = 16
                                        · replace hF := gT hc_210 hF
                                          refine lv_tableIn (off := 514) (tgt := 546) hx hb dL_law_32 (by rw [hc_210]; decide) (by rw [hc_210]; decide) (by rw [hc_210]; rfl) (by decide) ?_
                                          refine lv_aload_n hx hb dL_law_546 rfl (lv_at hl 1 rfl) ?_
                                          refine lv_aload_n hx hb dL_law_547 rfl (lv_at hl 0 rfl) ?_
                                          refine lv_iload_n hx hb dL_law_548 rfl (lv_at hl 3 rfl) ?_
                                          refine lv_iconst (v := 1) hx hb dL_law_549 (by decide) ?_
                                          refine lv_iadd hx hb dL_law_550 ?_
                                          obtain ⟨hin_211, hF⟩ := gB_some hF
                                          obtain ⟨k_212, ek_212⟩ : ∃ k, k = Int32.toNatClampNeg ((x3 + 1)) := ⟨_, rfl⟩
                                          rw [← ek_212] at hF
                                          refine g_sld hx hb hX hbB hW hin_211 ek_212.symm dL_law_551 ?_
                                          obtain ⟨v_214, hq_213, hF⟩ := gP_some hF
                                          refine g_Vi (As := [.int (xs k_212)]) (rest := []) ⟨hx, hb, hml, hown, hts⟩ hK hW hL hl.1 (gok_c (by decide)) gE_G rfl (c_X11_missing l X w ((xs k_212)) v_214 hq_213) k80 rfl rfl (Nat.le_of_ble_eq_true rfl) dL_law_552 ⟨Nat.le_of_ble_eq_true rfl, Nat.le_of_ble_eq_true rfl⟩ (fun H locs hW hL => ?_)
                                          refine lv_aload_n hx hb dL_law_555 rfl (lv_at hl 2 rfl) ?_
                                          refine lv_aload_n hx hb dL_law_556 rfl (lv_at hl 0 rfl) ?_
                                          refine lv_iload_n hx hb dL_law_557 rfl (lv_at hl 3 rfl) ?_
                                          refine lv_iconst (v := 1) hx hb dL_law_558 (by decide) ?_
                                          refine lv_iadd hx hb dL_law_559 ?_
                                          obtain ⟨hin_215, hF⟩ := gB_some hF
                                          obtain ⟨k_216, ek_216⟩ : ∃ k, k = Int32.toNatClampNeg ((x3 + 1)) := ⟨_, rfl⟩
                                          rw [← ek_216] at hF
                                          refine g_sld hx hb hX hbB hW hin_215 ek_216.symm dL_law_560 ?_
                                          obtain ⟨v_218, hq_217, hF⟩ := gP_some hF
                                          refine g_Vi (As := [.int (xs k_216)]) (rest := [.int v_214]) ⟨hx, hb, hml, hown, hts⟩ hK hW hL hl.1 (gok_o (by decide)) gE_O rfl (c_X12_missing l X w ((xs k_216)) v_218 hq_217) k83 rfl rfl (Nat.le_of_ble_eq_true rfl) dL_law_561 ⟨Nat.le_of_ble_eq_true rfl, Nat.le_of_ble_eq_true rfl⟩ (fun H locs hW hL => ?_)
                                          refine lv_icmp_eq (tgt := 713) hx hb dL_law_564 (by decide) (fun hc_219 => ?_) (fun hc_219 => ?_)
                                          · replace hF := gT hc_219 hF
                                            obtain ⟨x3_220, ex3_220, hF⟩ := gS_some hF
                                            refine lv_iinc (v := x3_220) (lv' := [(3, .int x3_220), (0, .ref b), (1, .ref (gA X 7 0)), (2, .ref (gA X 8 0))]) hx hb dL_law_713 hl (k := 3) rfl (by rw [ex3_220]; rfl) (by decide) rfl (fun ls hl => ?_)
                                            refine lv_goto (tgt := 18) hx hb dL_law_716 (by decide) ?_
                                            exact ih18 w x3_220 ls (lv_sub hl [1, 2, 3, 0] rfl) hF H locs hW hL
                                          · replace hF := gF hc_219 hF
                                            refine lv_iconst (v := 0) hx hb dL_law_567 (by decide) ?_
                                            exact absurd (gI2 hF).1 (by decide)
                                        · replace hF := gF hc_210 hF
                                          by_cases hc_221 : ((xs k_3) &&& 31) = 17
                                          · replace hF := gT hc_221 hF
                                            refine lv_tableIn (off := 537) (tgt := 569) hx hb dL_law_32 (by rw [hc_221]; decide) (by rw [hc_221]; decide) (by rw [hc_221]; rfl) (by decide) ?_
                                            refine lv_aload_n hx hb dL_law_569 rfl (lv_at hl 1 rfl) ?_
                                            refine lv_aload_n hx hb dL_law_570 rfl (lv_at hl 0 rfl) ?_
                                            refine lv_iload_n hx hb dL_law_571 rfl (lv_at hl 3 rfl) ?_
                                            refine lv_iconst (v := 1) hx hb dL_law_572 (by decide) ?_
                                            refine lv_iadd hx hb dL_law_573 ?_
                                            obtain ⟨hin_222, hF⟩ := gB_some hF
                                            obtain ⟨k_223, ek_223⟩ : ∃ k, k = Int32.toNatClampNeg ((x3 + 1)) := ⟨_, rfl⟩
                                            rw [← ek_223] at hF
                                            refine g_sld hx hb hX hbB hW hin_222 ek_223.symm dL_law_574 ?_
                                            obtain ⟨v_225, hq_224, hF⟩ := gP_some hF
                                            refine g_Vi (As := [.int (xs k_223)]) (rest := []) ⟨hx, hb, hml, hown, hts⟩ hK hW hL hl.1 (gok_c (by decide)) gE_G rfl (c_X11_leader l X w ((xs k_223)) v_225 hq_224) k84 rfl rfl (Nat.le_of_ble_eq_true rfl) dL_law_575 ⟨Nat.le_of_ble_eq_true rfl, Nat.le_of_ble_eq_true rfl⟩ (fun H locs hW hL => ?_)
                                            refine lv_aload_n hx hb dL_law_578 rfl (lv_at hl 2 rfl) ?_
                                            refine lv_aload_n hx hb dL_law_579 rfl (lv_at hl 0 rfl) ?_
                                            refine lv_iload_n hx hb dL_law_580 rfl (lv_at hl 3 rfl) ?_
                                            refine lv_iconst (v := 1) hx hb dL_law_581 (by decide) ?_
                                            refine lv_iadd hx hb dL_law_582 ?_
                                            obtain ⟨hin_226, hF⟩ := gB_some hF
                                            obtain ⟨k_227, ek_227⟩ : ∃ k, k = Int32.toNatClampNeg ((x3 + 1)) := ⟨_, rfl⟩
                                            rw [← ek_227] at hF
                                            refine g_sld hx hb hX hbB hW hin_226 ek_227.symm dL_law_583 ?_
                                            obtain ⟨v_229, hq_228, hF⟩ := gP_some hF
                                            refine g_Vi (As := [.int (xs k_227)]) (rest := [.int v_225]) ⟨hx, hb, hml, hown, hts⟩ hK hW hL hl.1 (gok_o (by decide)) gE_O rfl (c_X12_leader l X w ((xs k_227)) v_229 hq_228) k87 rfl rfl (Nat.le_of_ble_eq_true rfl) dL_law_584 ⟨Nat.le_of_ble_eq_true rfl, Nat.le_of_ble_eq_true rfl⟩ (fun H locs hW hL => ?_)
                                            refine lv_icmp_eq (tgt := 713) hx hb dL_law_587 (by decide) (fun hc_230 => ?_) (fun hc_230 => ?_)
                                            · replace hF := gT hc_230 hF
                                              obtain ⟨x3_231, ex3_231, hF⟩ := gS_some hF
                                              refine lv_iinc (v := x3_231) (lv' := [(3, .int x3_231), (0, .ref b), (1, .ref (gA X 7 0)), (2, .ref (gA X 8 0))]) hx hb dL_law_713 hl (k := 3) rfl (by rw [ex3_231]; rfl) (by decide) rfl (fun ls hl => ?_)
                                              refine lv_goto (tgt := 18) hx hb dL_law_716 (by decide) ?_
                                              exact ih18 w x3_231 ls (lv_sub hl [1, 2, 3, 0] rfl) hF H locs hW hL
                                            · replace hF := gF hc_230 hF
                                              refine lv_iconst (v := 0) hx hb dL_law_590 (by decide) ?_
                                              exact absurd (gI2 hF).1 (by decide)
                                          · replace hF := gF hc_221 hF
                                            by_cases hc_232 : ((xs k_3) &&& 31) = 18
                                            · replace hF := gT hc_232 hF
                                              refine lv_tableIn (off := 560) (tgt := 592) hx hb dL_law_32 (by rw [hc_232]; decide) (by rw [hc_232]; decide) (by rw [hc_232]; rfl) (by decide) ?_
                                              refine lv_aload_n hx hb dL_law_592 rfl (lv_at hl 1 rfl) ?_
                                              obtain ⟨v_234, hq_233, hF⟩ := gP_some hF
                                              refine g_Vi (As := []) (rest := []) ⟨hx, hb, hml, hown, hts⟩ hK hW hL hl.1 (gok_c (by decide)) gE_G rfl (c_X11_mean l X w  v_234 hq_233) k88 rfl rfl (Nat.le_of_ble_eq_true rfl) dL_law_593 ⟨Nat.le_of_ble_eq_true rfl, Nat.le_of_ble_eq_true rfl⟩ (fun H locs hW hL => ?_)
                                              refine lv_aload_n hx hb dL_law_596 rfl (lv_at hl 2 rfl) ?_
                                              obtain ⟨v_236, hq_235, hF⟩ := gP_some hF
                                              refine g_Vi (As := []) (rest := [.int v_234]) ⟨hx, hb, hml, hown, hts⟩ hK hW hL hl.1 (gok_o (by decide)) gE_O rfl (c_X12_mean l X w  v_236 hq_235) k91 rfl rfl (Nat.le_of_ble_eq_true rfl) dL_law_597 ⟨Nat.le_of_ble_eq_true rfl, Nat.le_of_ble_eq_true rfl⟩ (fun H locs hW hL => ?_)
                                              refine lv_icmp_eq (tgt := 713) hx hb dL_law_600 (by decide) (fun hc_237 => ?_) (fun hc_237 => ?_)
                                              · replace hF := gT hc_237 hF
                                                obtain ⟨x3_238, ex3_238, hF⟩ := gS_some hF
                                                refine lv_iinc (v := x3_238) (lv' := [(3, .int x3_238), (0, .ref b), (1, .ref (gA X 7 0)), (2, .ref (gA X 8 0))]) hx hb dL_law_713 hl (k := 3) rfl (by rw [ex3_238]; rfl) (by decide) rfl (fun ls hl => ?_)
                                                refine lv_goto (tgt := 18) hx hb dL_law_716 (by decide) ?_
                                                exact ih18 w x3_238 ls (lv_sub hl [1, 2, 3, 0] rfl) hF H locs hW hL
                                              · replace hF := gF hc_237 hF
                                                refine lv_iconst (v := 0) hx hb dL_law_603 (by decide) ?_
                                                exact absurd (gI2 hF).1 (by decide)
                                            · replace hF := gF hc_232 hF
                                              by_cases hc_239 : ((xs k_3) &&& 31) = 19
                                              · replace hF := gT hc_239 hF
                                                refine lv_tableIn (off := 573) (tgt := 605) hx hb dL_law_32 (by rw [hc_239]; decide) (by rw [hc_239]; decide) (by rw [hc_239]; rfl) (by decide) ?_
                                                refine lv_aload_n hx hb dL_law_605 rfl (lv_at hl 1 rfl) ?_
                                                refine lv_aload_n hx hb dL_law_606 rfl (lv_at hl 0 rfl) ?_
                                                refine lv_iload_n hx hb dL_law_607 rfl (lv_at hl 3 rfl) ?_
                                                refine lv_iconst (v := 1) hx hb dL_law_608 (by decide) ?_
                                                refine lv_iadd hx hb dL_law_609 ?_
                                                obtain ⟨hin_240, hF⟩ := gB_some hF
                                                obtain ⟨k_241, ek_241⟩ : ∃ k, k = Int32.toNatClampNeg ((x3 + 1)) := ⟨_, rfl⟩
                                                rw [← ek_241] at hF
                                                refine g_sld hx hb hX hbB hW hin_240 ek_241.symm dL_law_610 ?_
                                                obtain ⟨v_243, hq_242, hF⟩ := gP_some hF
                                                refine g_Vi (As := [.int (xs k_241)]) (rest := []) ⟨hx, hb, hml, hown, hts⟩ hK hW hL hl.1 (gok_c (by decide)) gE_G rfl (c_X11_count l X w ((xs k_241)) v_243 hq_242) k92 rfl rfl (Nat.le_of_ble_eq_true rfl) dL_law_611 ⟨Nat.le_of_ble_eq_true rfl, Nat.le_of_ble_eq_true rfl⟩ (fun H locs hW hL => ?_)
                                                refine lv_aload_n hx hb dL_law_614 rfl (lv_at hl 2 rfl) ?_
                                                refine lv_aload_n hx hb dL_law_615 rfl (lv_at hl 0 rfl) ?_
                                                refine lv_iload_n hx hb dL_law_616 rfl (lv_at hl 3 rfl) ?_
                                                refine lv_iconst (v := 1) hx hb dL_law_617 (by decide) ?_
                                                refine lv_iadd hx hb dL_law_618 ?_
                                                obtain ⟨hin_244, hF⟩ := gB_some hF
                                                obtain ⟨k_245, ek_245⟩ : ∃ k, k = Int32.toNatClampNeg ((x3 + 1)) := ⟨_, rfl⟩
                                                rw [← ek_245] at hF
                                                refine g_sld hx hb hX hbB hW hin_244 ek_245.symm dL_law_619 ?_
                                                obtain ⟨v_247, hq_246, hF⟩ := gP_some hF
                                                refine g_Vi (As := [.int (xs k_245)]) (rest := [.int v_243]) ⟨hx, hb, hml, hown, hts⟩ hK hW hL hl.1 (gok_o (by decide)) gE_O rfl (c_X12_count l X w ((xs k_245)) v_247 hq_246) k95 rfl rfl (Nat.le_of_ble_eq_true rfl) dL_law_620 ⟨Nat.le_of_ble_eq_true rfl, Nat.le_of_ble_eq_true rfl⟩ (fun H locs hW hL => ?_)
                                                refine lv_icmp_eq (tgt := 713) hx hb dL_law_623 (by decide) (fun hc_248 => ?_) (fun hc_248 => ?_)
                                                · replace hF := gT hc_248 hF
                                                  obtain ⟨x3_249, ex3_249, hF⟩ := gS_some hF
                                                  refine lv_iinc (v := x3_249) (lv' := [(3, .int x3_249), (0, .ref b), (1, .ref (gA X 7 0)), (2, .ref (gA X 8 0))]) hx hb dL_law_713 hl (k := 3) rfl (by rw [ex3_249]; rfl) (by decide) rfl (fun ls hl => ?_)
                                                  refine lv_goto (tgt := 18) hx hb dL_law_716 (by decide) ?_
                                                  exact ih18 w x3_249 ls (lv_sub hl [1, 2, 3, 0] rfl) hF H locs hW hL
                                                · replace hF := gF hc_248 hF
                                                  refine lv_iconst (v := 0) hx hb dL_law_626 (by decide) ?_
                                                  exact absurd (gI2 hF).1 (by decide)
                                              · replace hF := gF hc_239 hF
                                                by_cases hc_250 : ((xs k_3) &&& 31) = 20
                                                · replace hF := gT hc_250 hF
                                                  refine lv_tableIn (off := 596) (tgt := 628) hx hb dL_law_32 (by rw [hc_250]; decide) (by rw [hc_250]; decide) (by rw [hc_250]; rfl) (by decide) ?_
                                                  refine lv_aload_n hx hb dL_law_628 rfl (lv_at hl 1 rfl) ?_
                                                  obtain ⟨v_252, w_253, hq_251, hF⟩ := gC_some hF
                                                  refine g_Vi (As := []) (rest := []) ⟨hx, hb, hml, hown, hts⟩ hK hW hL hl.1 (gok_c (by decide)) gE_G rfl (c_X11_undo l X w  v_252 w_253 hq_251) k96 rfl rfl (Nat.le_of_ble_eq_true rfl) dL_law_629 ⟨Nat.le_of_ble_eq_true rfl, Nat.le_of_ble_eq_true rfl⟩ (fun H locs hW hL => ?_)
                                                  refine lv_aload_n hx hb dL_law_632 rfl (lv_at hl 2 rfl) ?_
                                                  obtain ⟨v_255, w_256, hq_254, hF⟩ := gC_some hF
                                                  refine g_Vi (As := []) (rest := [.int v_252]) ⟨hx, hb, hml, hown, hts⟩ hK hW hL hl.1 (gok_o (by decide)) gE_O rfl (c_X12_undo l X w_253  v_255 w_256 hq_254) k99 rfl rfl (Nat.le_of_ble_eq_true rfl) dL_law_633 ⟨Nat.le_of_ble_eq_true rfl, Nat.le_of_ble_eq_true rfl⟩ (fun H locs hW hL => ?_)
                                                  refine lv_icmp_eq (tgt := 713) hx hb dL_law_636 (by decide) (fun hc_257 => ?_) (fun hc_257 => ?_)
                                                  · replace hF := gT hc_257 hF
                                                    obtain ⟨x3_258, ex3_258, hF⟩ := gS_some hF
                                                    refine lv_iinc (v := x3_258) (lv' := [(3, .int x3_258), (0, .ref b), (1, .ref (gA X 7 0)), (2, .ref (gA X 8 0))]) hx hb dL_law_713 hl (k := 3) rfl (by rw [ex3_258]; rfl) (by decide) rfl (fun ls hl => ?_)
                                                    refine lv_goto (tgt := 18) hx hb dL_law_716 (by decide) ?_
                                                    exact ih18 w_256 x3_258 ls (lv_sub hl [1, 2, 3, 0] rfl) hF H locs hW hL
                                                  · replace hF := gF hc_257 hF
                                                    refine lv_iconst (v := 0) hx hb dL_law_639 (by decide) ?_
                                                    exact absurd (gI2 hF).1 (by decide)
                                                · replace hF := gF hc_250 hF
                                                  by_cases hc_259 : ((xs k_3) &&& 31) = 21
                                                  · replace hF := gT hc_259 hF
                                                    refine lv_tableIn (off := 609) (tgt := 641) hx hb dL_law_32 (by rw [hc_259]; decide) (by rw [hc_259]; decide) (by rw [hc_259]; rfl) (by decide) ?_
                                                    refine lv_aload_n hx hb dL_law_641 rfl (lv_at hl 1 rfl) ?_
                                                    refine lv_aload_n hx hb dL_law_642 rfl (lv_at hl 0 rfl) ?_
                                                    refine lv_iload_n hx hb dL_law_643 rfl (lv_at hl 3 rfl) ?_
                                                    refine lv_iconst (v := 1) hx hb dL_law_644 (by decide) ?_
                                                    refine lv_iadd hx hb dL_law_645 ?_
                                                    obtain ⟨hin_260, hF⟩ := gB_some hF
                                                    obtain ⟨k_261, ek_261⟩ : ∃ k, k = Int32.toNatClampNeg ((x3 + 1)) := ⟨_, rfl⟩
                                                    rw [← ek_261] at hF
                                                    refine g_sld hx hb hX hbB hW hin_260 ek_261.symm dL_law_646 ?_
                                                    obtain ⟨v_263, w_264, hq_262, hF⟩ := gC_some hF
                                                    refine g_Vi (As := [.int (xs k_261)]) (rest := []) ⟨hx, hb, hml, hown, hts⟩ hK hW hL hl.1 (gok_c (by decide)) gE_G rfl (c_X11_type l X w ((xs k_261)) v_263 w_264 hq_262) k100 rfl rfl (Nat.le_of_ble_eq_true rfl) dL_law_647 ⟨Nat.le_of_ble_eq_true rfl, Nat.le_of_ble_eq_true rfl⟩ (fun H locs hW hL => ?_)
                                                    refine lv_aload_n hx hb dL_law_650 rfl (lv_at hl 2 rfl) ?_
                                                    refine lv_aload_n hx hb dL_law_651 rfl (lv_at hl 0 rfl) ?_
                                                    refine lv_iload_n hx hb dL_law_652 rfl (lv_at hl 3 rfl) ?_
                                                    refine lv_iconst (v := 1) hx hb dL_law_653 (by decide) ?_
                                                    refine lv_iadd hx hb dL_law_654 ?_
                                                    obtain ⟨hin_265, hF⟩ := gB_some hF
                                                    obtain ⟨k_266, ek_266⟩ : ∃ k, k = Int32.toNatClampNeg ((x3 + 1)) := ⟨_, rfl⟩
                                                    rw [← ek_266] at hF
                                                    refine g_sld hx hb hX hbB hW hin_265 ek_266.symm dL_law_655 ?_
                                                    obtain ⟨v_268, w_269, hq_267, hF⟩ := gC_some hF
                                                    refine g_Vi (As := [.int (xs k_266)]) (rest := [.int v_263]) ⟨hx, hb, hml, hown, hts⟩ hK hW hL hl.1 (gok_o (by decide)) gE_O rfl (c_X12_type l X w_264 ((xs k_266)) v_268 w_269 hq_267) k103 rfl rfl (Nat.le_of_ble_eq_true rfl) dL_law_656 ⟨Nat.le_of_ble_eq_true rfl, Nat.le_of_ble_eq_true rfl⟩ (fun H locs hW hL => ?_)
                                                    refine lv_icmp_eq (tgt := 713) hx hb dL_law_659 (by decide) (fun hc_270 => ?_) (fun hc_270 => ?_)
                                                    · replace hF := gT hc_270 hF
                                                      obtain ⟨x3_271, ex3_271, hF⟩ := gS_some hF
                                                      refine lv_iinc (v := x3_271) (lv' := [(3, .int x3_271), (0, .ref b), (1, .ref (gA X 7 0)), (2, .ref (gA X 8 0))]) hx hb dL_law_713 hl (k := 3) rfl (by rw [ex3_271]; rfl) (by decide) rfl (fun ls hl => ?_)
                                                      refine lv_goto (tgt := 18) hx hb dL_law_716 (by decide) ?_
                                                      exact ih18 w_269 x3_271 ls (lv_sub hl [1, 2, 3, 0] rfl) hF H locs hW hL
                                                    · replace hF := gF hc_270 hF
                                                      refine lv_iconst (v := 0) hx hb dL_law_662 (by decide) ?_
                                                      exact absurd (gI2 hF).1 (by decide)
                                                  · replace hF := gF hc_259 hF
                                                    by_cases hc_272 : ((xs k_3) &&& 31) = 22
                                                    · replace hF := gT hc_272 hF
                                                      refine lv_tableIn (off := 632) (tgt := 664) hx hb dL_law_32 (by rw [hc_272]; decide) (by rw [hc_272]; decide) (by rw [hc_272]; rfl) (by decide) ?_
                                                      refine lv_aload_n hx hb dL_law_664 rfl (lv_at hl 1 rfl) ?_
                                                      obtain ⟨v_274, w_275, hq_273, hF⟩ := gC_some hF
                                                      refine g_Vi (As := []) (rest := []) ⟨hx, hb, hml, hown, hts⟩ hK hW hL hl.1 (gok_c (by decide)) gE_G rfl (c_X11_clearText l X w  v_274 w_275 hq_273) k104 rfl rfl (Nat.le_of_ble_eq_true rfl) dL_law_665 ⟨Nat.le_of_ble_eq_true rfl, Nat.le_of_ble_eq_true rfl⟩ (fun H locs hW hL => ?_)
                                                      refine lv_aload_n hx hb dL_law_668 rfl (lv_at hl 2 rfl) ?_
                                                      obtain ⟨v_277, w_278, hq_276, hF⟩ := gC_some hF
                                                      refine g_Vi (As := []) (rest := [.int v_274]) ⟨hx, hb, hml, hown, hts⟩ hK hW hL hl.1 (gok_o (by decide)) gE_O rfl (c_X12_clearText l X w_275  v_277 w_278 hq_276) k107 rfl rfl (Nat.le_of_ble_eq_true rfl) dL_law_669 ⟨Nat.le_of_ble_eq_true rfl, Nat.le_of_ble_eq_true rfl⟩ (fun H locs hW hL => ?_)
                                                      refine lv_icmp_eq (tgt := 713) hx hb dL_law_672 (by decide) (fun hc_279 => ?_) (fun hc_279 => ?_)
                                                      · replace hF := gT hc_279 hF
                                                        obtain ⟨x3_280, ex3_280, hF⟩ := gS_some hF
                                                        refine lv_iinc (v := x3_280) (lv' := [(3, .int x3_280), (0, .ref b), (1, .ref (gA X 7 0)), (2, .ref (gA X 8 0))]) hx hb dL_law_713 hl (k := 3) rfl (by rw [ex3_280]; rfl) (by decide) rfl (fun ls hl => ?_)
                                                        refine lv_goto (tgt := 18) hx hb dL_law_716 (by decide) ?_
                                                        exact ih18 w_278 x3_280 ls (lv_sub hl [1, 2, 3, 0] rfl) hF H locs hW hL
                                                      · replace hF := gF hc_279 hF
                                                        refine lv_iconst (v := 0) hx hb dL_law_675 (by decide) ?_
                                                        exact absurd (gI2 hF).1 (by decide)
                                                    · replace hF := gF hc_272 hF
                                                      by_cases hc_281 : ((xs k_3) &&& 31) = 23
                                                      · replace hF := gT hc_281 hF
                                                        refine lv_tableIn (off := 645) (tgt := 677) hx hb dL_law_32 (by rw [hc_281]; decide) (by rw [hc_281]; decide) (by rw [hc_281]; rfl) (by decide) ?_
                                                        refine lv_aload_n hx hb dL_law_677 rfl (lv_at hl 1 rfl) ?_
                                                        refine lv_aload_n hx hb dL_law_678 rfl (lv_at hl 0 rfl) ?_
                                                        refine lv_iload_n hx hb dL_law_679 rfl (lv_at hl 3 rfl) ?_
                                                        refine lv_iconst (v := 1) hx hb dL_law_680 (by decide) ?_
                                                        refine lv_iadd hx hb dL_law_681 ?_
                                                        obtain ⟨hin_282, hF⟩ := gB_some hF
                                                        obtain ⟨k_283, ek_283⟩ : ∃ k, k = Int32.toNatClampNeg ((x3 + 1)) := ⟨_, rfl⟩
                                                        rw [← ek_283] at hF
                                                        refine g_sld hx hb hX hbB hW hin_282 ek_283.symm dL_law_682 ?_
                                                        obtain ⟨v_285, w_286, hq_284, hF⟩ := gC_some hF
                                                        refine g_Vi (As := [.int (xs k_283)]) (rest := []) ⟨hx, hb, hml, hown, hts⟩ hK hW hL hl.1 (gok_c (by decide)) gE_G rfl (c_X11_fault l X w ((xs k_283)) v_285 w_286 hq_284) k108 rfl rfl (Nat.le_of_ble_eq_true rfl) dL_law_683 ⟨Nat.le_of_ble_eq_true rfl, Nat.le_of_ble_eq_true rfl⟩ (fun H locs hW hL => ?_)
                                                        refine lv_aload_n hx hb dL_law_686 rfl (lv_at hl 2 rfl) ?_
                                                        refine lv_aload_n hx hb dL_law_687 rfl (lv_at hl 0 rfl) ?_
                                                        refine lv_iload_n hx hb dL_law_688 rfl (lv_at hl 3 rfl) ?_
                                                        refine lv_iconst (v := 1) hx hb dL_law_689 (by decide) ?_
                                                        refine lv_iadd hx hb dL_law_690 ?_
                                                        obtain ⟨hin_287, hF⟩ := gB_some hF
                                                        obtain ⟨k_288, ek_288⟩ : ∃ k, k = Int32.toNatClampNeg ((x3 + 1)) := ⟨_, rfl⟩
                                                        rw [← ek_288] at hF
                                                        refine g_sld hx hb hX hbB hW hin_287 ek_288.symm dL_law_691 ?_
                                                        obtain ⟨v_290, w_291, hq_289, hF⟩ := gC_some hF
                                                        refine g_Vi (As := [.int (xs k_288)]) (rest := [.int v_285]) ⟨hx, hb, hml, hown, hts⟩ hK hW hL hl.1 (gok_o (by decide)) gE_O rfl (c_X12_fault l X w_286 ((xs k_288)) v_290 w_291 hq_289) k111 rfl rfl (Nat.le_of_ble_eq_true rfl) dL_law_692 ⟨Nat.le_of_ble_eq_true rfl, Nat.le_of_ble_eq_true rfl⟩ (fun H locs hW hL => ?_)
                                                        refine lv_icmp_eq (tgt := 713) hx hb dL_law_695 (by decide) (fun hc_292 => ?_) (fun hc_292 => ?_)
                                                        · replace hF := gT hc_292 hF
                                                          obtain ⟨x3_293, ex3_293, hF⟩ := gS_some hF
                                                          refine lv_iinc (v := x3_293) (lv' := [(3, .int x3_293), (0, .ref b), (1, .ref (gA X 7 0)), (2, .ref (gA X 8 0))]) hx hb dL_law_713 hl (k := 3) rfl (by rw [ex3_293]; rfl) (by decide) rfl (fun ls hl => ?_)
                                                          refine lv_goto (tgt := 18) hx hb dL_law_716 (by decide) ?_
                                                          exact ih18 w_291 x3_293 ls (lv_sub hl [1, 2, 3, 0] rfl) hF H locs hW hL
                                                        · replace hF := gF hc_292 hF
                                                          refine lv_iconst (v := 0) hx hb dL_law_698 (by decide) ?_
                                                          exact absurd (gI2 hF).1 (by decide)
                                                      · replace hF := gF hc_281 hF
                                                        by_cases hc_294 : ((xs k_3) &&& 31) = 24
                                                        · replace hF := gT hc_294 hF
                                                          refine lv_tableIn (off := 668) (tgt := 700) hx hb dL_law_32 (by rw [hc_294]; decide) (by rw [hc_294]; decide) (by rw [hc_294]; rfl) (by decide) ?_
                                                          refine lv_aload_n hx hb dL_law_700 rfl (lv_at hl 1 rfl) ?_
                                                          obtain ⟨v_296, w_297, hq_295, hF⟩ := gC_some hF
                                                          refine g_Vi (As := []) (rest := []) ⟨hx, hb, hml, hown, hts⟩ hK hW hL hl.1 (gok_c (by decide)) gE_G rfl (c_X11_play l X w  v_296 w_297 hq_295) k112 rfl rfl (Nat.le_of_ble_eq_true rfl) dL_law_701 ⟨Nat.le_of_ble_eq_true rfl, Nat.le_of_ble_eq_true rfl⟩ (fun H locs hW hL => ?_)
                                                          refine lv_aload_n hx hb dL_law_704 rfl (lv_at hl 2 rfl) ?_
                                                          obtain ⟨v_299, w_300, hq_298, hF⟩ := gC_some hF
                                                          refine g_Vi (As := []) (rest := [.int v_296]) ⟨hx, hb, hml, hown, hts⟩ hK hW hL hl.1 (gok_o (by decide)) gE_O rfl (c_X12_play l X w_297  v_299 w_300 hq_298) k115 rfl rfl (Nat.le_of_ble_eq_true rfl) dL_law_705 ⟨Nat.le_of_ble_eq_true rfl, Nat.le_of_ble_eq_true rfl⟩ (fun H locs hW hL => ?_)
                                                          refine lv_icmp_eq (tgt := 713) hx hb dL_law_708 (by decide) (fun hc_301 => ?_) (fun hc_301 => ?_)
                                                          · replace hF := gT hc_301 hF
                                                            obtain ⟨x3_302, ex3_302, hF⟩ := gS_some hF
                                                            refine lv_iinc (v := x3_302) (lv' := [(3, .int x3_302), (0, .ref b), (1, .ref (gA X 7 0)), (2, .ref (gA X 8 0))]) hx hb dL_law_713 hl (k := 3) rfl (by rw [ex3_302]; rfl) (by decide) rfl (fun ls hl => ?_)
                                                            refine lv_goto (tgt := 18) hx hb dL_law_716 (by decide) ?_
                                                            exact ih18 w_300 x3_302 ls (lv_sub hl [1, 2, 3, 0] rfl) hF H locs hW hL
                                                          · replace hF := gF hc_301 hF
                                                            refine lv_iconst (v := 0) hx hb dL_law_711 (by decide) ?_
                                                            exact absurd (gI2 hF).1 (by decide)
                                                        · replace hF := gF hc_294 hF
                                                          refine lv_tableOut (tgt := 713) hx hb dL_law_32 (g_tabOut (fun k h1 h2 h3 => ?_)) (by decide) ?_
                                                          · have hk : k = 0 ∨ k = 1 ∨ k = 2 ∨ k = 3 ∨ k = 4 ∨ k = 5 ∨ k = 6 ∨ k = 7 ∨ k = 8 ∨ k = 9 ∨ k = 10 ∨ k = 11 ∨ k = 12 ∨ k = 13 ∨ k = 14 ∨ k = 15 ∨ k = 16 ∨ k = 17 ∨ k = 18 ∨ k = 19 ∨ k = 20 ∨ k = 21 ∨ k = 22 ∨ k = 23 ∨ k = 24 := by omega
                                                            rcases hk with rfl | rfl | rfl | rfl | rfl | rfl | rfl | rfl | rfl | rfl | rfl | rfl | rfl | rfl | rfl | rfl | rfl | rfl | rfl | rfl | rfl | rfl | rfl | rfl | rfl
                                                            · exact hc_4 (Int32.toInt_inj.mp (h3.trans (by decide)))
                                                            · exact hc_21 (Int32.toInt_inj.mp (h3.trans (by decide)))
                                                            · exact hc_34 (Int32.toInt_inj.mp (h3.trans (by decide)))
                                                            · exact hc_51 (Int32.toInt_inj.mp (h3.trans (by decide)))
                                                            · exact hc_60 (Int32.toInt_inj.mp (h3.trans (by decide)))
                                                            · exact hc_77 (Int32.toInt_inj.mp (h3.trans (by decide)))
                                                            · exact hc_86 (Int32.toInt_inj.mp (h3.trans (by decide)))
                                                            · exact hc_95 (Int32.toInt_inj.mp (h3.trans (by decide)))
                                                            · exact hc_104 (Int32.toInt_inj.mp (h3.trans (by decide)))
                                                            · exact hc_119 (Int32.toInt_inj.mp (h3.trans (by decide)))
                                                            · exact hc_134 (Int32.toInt_inj.mp (h3.trans (by decide)))
                                                            · exact hc_149 (Int32.toInt_inj.mp (h3.trans (by decide)))
                                                            · exact hc_160 (Int32.toInt_inj.mp (h3.trans (by decide)))
                                                            · exact hc_171 (Int32.toInt_inj.mp (h3.trans (by decide)))
                                                            · exact hc_188 (Int32.toInt_inj.mp (h3.trans (by decide)))
                                                            · exact hc_203 (Int32.toInt_inj.mp (h3.trans (by decide)))
                                                            · exact hc_210 (Int32.toInt_inj.mp (h3.trans (by decide)))
                                                            · exact hc_221 (Int32.toInt_inj.mp (h3.trans (by decide)))
                                                            · exact hc_232 (Int32.toInt_inj.mp (h3.trans (by decide)))
                                                            · exact hc_239 (Int32.toInt_inj.mp (h3.trans (by decide)))
                                                            · exact hc_250 (Int32.toInt_inj.mp (h3.trans (by decide)))
                                                            · exact hc_259 (Int32.toInt_inj.mp (h3.trans (by decide)))
                                                            · exact hc_272 (Int32.toInt_inj.mp (h3.trans (by decide)))
                                                            · exact hc_281 (Int32.toInt_inj.mp (h3.trans (by decide)))
                                                            · exact hc_294 (Int32.toInt_inj.mp (h3.trans (by decide)))
                                                          · skip
                                                            obtain ⟨x3_303, ex3_303, hF⟩ := gS_some hF
                                                            refine lv_iinc (v := x3_303) (lv' := [(3, .int x3_303), (0, .ref b), (1, .ref (gA X 7 0)), (2, .ref (gA X 8 0))]) hx hb dL_law_713 hl (k := 3) rfl (by rw [ex3_303]; rfl) (by decide) rfl (fun ls hl => ?_)
                                                            refine lv_goto (tgt := 18) hx hb dL_law_716 (by decide) ?_
                                                            exact ih18 w x3_303 ls (lv_sub hl [1, 2, 3, 0] rfl) hF H locs hW hL
  exact L_18
