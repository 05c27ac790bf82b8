section
/-! sandbox copy of the pure words of 05.kit -/
abbrev gWd : Type := Nat → Nat → Nat → Int32
def up3 (w : gWd) (i r j : Nat) (v : Int32) : gWd := fun a b c => if a = i ∧ b = r ∧ c = j then v else w a b c
def gFirst (j : Nat) : Int32 := if j = 0 then 8 else if j = 1 then 3 else 2
def gLeast (j : Nat) : Int32 := if j = 0 then 4 else if j = 1 then 1 else 0
def gGreat (j : Nat) : Int32 := if j = 0 then 10 else if j = 1 then 3 else 4
def gS {α β : Type} (v : α) (f : α → β) : β := f v
def gB {α : Type} (x : Int32) (n : Nat) (f : Nat → Option α) : Option α := if x < 0 ∨ n ≤ x.toNatClampNeg then none else f x.toNatClampNeg
def gM {α : Type} (i n : Nat) (f : Option α) : Option α := if i < n then f else none
def gZ {α : Type} (v : Int32) (x : Option α) : Option α := if v = 0 ∨ v = 1 then x else none
def gD {α : Type} (v : Int32) (x : Option α) : Option α := if v = 0 then none else x
def gN {α : Type} (v : UInt32) (x : Option α) : Option α := if v &&& 0x7fffffff ≤ 0x7f800000 then x else none
def gC {α β : Type} (x : Option (α × gWd)) (f : α → gWd → Option β) : Option β := match x with
  | none => none
  | some q => f q.1 q.2
def gP {α β : Type} (x : Option α) (f : α → Option β) : Option β := match x with
  | none => none
  | some q => f q
def gFU : Nat := 2000
end
section
/-! the pure programs, by program out of the bytecode (wip/whole/gen.py) -/
def F_Jxf58ca_isNaN_12338 (_ : gWd) (f0 : UInt32) : Option Int32 := if Op.cmpValue (FP.fcmp f0 f0) .l = 0 then some 0 else some 1
def F_Jxf58ca_floatToIntBits_5c35a (w : gWd) (f0 : UInt32) : Option Int32 := gP (F_Jxf58ca_isNaN_12338 w f0) (fun v => if v = 0 then some f0.toInt32 else some 2143289344)
def F_X1_isTimeOrZero_17 (w : gWd) : Option Int32 := some 1
def F_X1_isTimeOrZero_21 (w : gWd) : Option Int32 := some 0
def F_X1_isTimeOrZero (w : gWd) (x0 : Int32) : Option Int32 := if x0 = 0 then (F_X1_isTimeOrZero_17 w) else (if x0 < 100 then (F_X1_isTimeOrZero_21 w) else (if 999 < x0 then (F_X1_isTimeOrZero_21 w) else (F_X1_isTimeOrZero_17 w)))
def F_X10_leaveFinal (w : gWd) (i0 : Nat) (n0 : Nat) : Option gWd := gS (up3 w i0 (4 + n0) 7 0) (fun w_1 => gS (up3 w_1 i0 (4 + n0) 8 (-1)) (fun w_2 => some w_2))
def F_X10_leaveHeat (w : gWd) (i0 : Nat) (n0 : Nat) : Option gWd := gS (up3 w i0 (4 + n0) 4 (-1)) (fun w_1 => gS (up3 w_1 i0 (4 + n0) 5 0) (fun w_2 => gS (up3 w_2 i0 (4 + n0) 6 (-1)) (fun w_3 => some w_3)))
def F_X10_forgetEvent (w : gWd) (i0 : Nat) (n0 : Nat) : Option gWd := gS (up3 w i0 (4 + n0) 3 0) (fun w_1 => gS (up3 w_1 i0 (4 + n0) 9 0) (fun w_2 => gP (F_X10_leaveHeat w_2 i0 n0) (fun w_4 => gP (F_X10_leaveFinal w_4 i0 n0) (fun w_6 => some w_6))))
def F_X10_join (w : gWd) (i0 : Nat) (n0 : Nat) (x1 : Int32) (x2 : Int32) : Option gWd := gS (up3 w i0 (4 + n0) 1 x1) (fun w_1 => gS (up3 w_1 i0 (4 + n0) 2 x2) (fun w_2 => gS (up3 w_2 i0 (4 + n0) 10 0) (fun w_3 => gP (F_X10_forgetEvent w_3 i0 n0) (fun w_5 => some w_5))))
def F_X1_addSwimmer (w : gWd) (i0 : Nat) (x1 : Int32) (x2 : Int32) : Option (Int32 × gWd) := if x1 < 0 then (some ((-1000001), w)) else (if 6 ≤ x1 then (some ((-1000001), w)) else (gP (F_X1_isTimeOrZero w x2) (fun v_4 => if v_4 = 0 then (some ((-1000001), w)) else (if (w i0 0 4) = 0 then (if (w i0 0 3) < 30 then (gB ((w i0 0 3)) 30 (fun k_9 => gP (F_X10_join w i0 k_9 x1 x2) (fun w_11 => gS (up3 w_11 i0 0 3 (((w_11 i0 0 3) + 1))) (fun w_12 => some ((w_11 i0 0 3), w_12))))) else (some ((-1000003), w))) else (some ((-1000002), w))))))
def F_X3_dropOldest_9 : Nat → gWd → Nat → Int32 → Option gWd
  | 0 => fun _ _ _ => none
  | fu + 1 => fun w i1 x2 => (fun rec9 : gWd → Nat → Int32 → Option gWd => if 4 ≤ x2 then (gS (up3 w 7 2 4 (nI i1)) (fun w_2 => gS (up3 w_2 7 1 1 4) (fun w_3 => some w_3))) else (gB ((x2 + 1)) 5 (fun k_5 => gM ((w 7 2 k_5).toNatClampNeg) 7 (gB x2 5 (fun k_8 => gS (up3 w 7 2 k_8 (nI ((w 7 2 k_5).toNatClampNeg))) (fun w_9 => gS (x2 + 1) (fun x2_10 => rec9 w_9 i1 x2_10))))))) (F_X3_dropOldest_9 fu)
theorem F_X3_dropOldest_9_s (fu : Nat) (w : gWd) (i1 : Nat) (x2 : Int32) : F_X3_dropOldest_9 (fu + 1) w i1 x2 = (if 4 ≤ x2 then (gS (up3 w 7 2 4 (nI i1)) (fun w_2 => gS (up3 w_2 7 1 1 4) (fun w_3 => some w_3))) else (gB ((x2 + 1)) 5 (fun k_5 => gM ((w 7 2 k_5).toNatClampNeg) 7 (gB x2 5 (fun k_8 => gS (up3 w 7 2 k_8 (nI ((w 7 2 k_5).toNatClampNeg))) (fun w_9 => gS (x2 + 1) (fun x2_10 => (F_X3_dropOldest_9 fu) w_9 i1 x2_10))))))) := rfl
theorem F_X3_dropOldest_9_z (w : gWd) (i1 : Nat) (x2 : Int32) : F_X3_dropOldest_9 0 w i1 x2 = none := rfl
def F_X3_dropOldest (w : gWd) : Option gWd := gM ((w 7 2 0).toNatClampNeg) 7 (F_X3_dropOldest_9 gFU w (((w 7 2 0).toNatClampNeg)) 0)
def F_X3_keepUnlessError (w : gWd) (x1 : Int32) : Option (Int32 × gWd) := if x1 < 0 then (some (x1, w)) else (gS (up3 w 7 1 1 (((w 7 1 1) + 1))) (fun w_2 => if (w_2 7 1 1) ≤ 4 then (some (x1, w_2)) else (gP (F_X3_dropOldest w_2) (fun w_5 => some (x1, w_5)))))
def F_X10_copyFrom (w : gWd) (i0 : Nat) (n0 : Nat) (i1 : Nat) (n1 : Nat) : Option gWd := gS (up3 w i0 (4 + n0) 1 ((w i1 (4 + n1) 1))) (fun w_1 => gS (up3 w_1 i0 (4 + n0) 2 ((w_1 i1 (4 + n1) 2))) (fun w_2 => gZ ((w_2 i1 (4 + n1) 3)) (gS (up3 w_2 i0 (4 + n0) 3 ((w_2 i1 (4 + n1) 3))) (fun w_4 => gS (up3 w_4 i0 (4 + n0) 4 ((w_4 i1 (4 + n1) 4))) (fun w_5 => gS (up3 w_5 i0 (4 + n0) 5 ((w_5 i1 (4 + n1) 5))) (fun w_6 => gS (up3 w_6 i0 (4 + n0) 6 ((w_6 i1 (4 + n1) 6))) (fun w_7 => gS (up3 w_7 i0 (4 + n0) 7 ((w_7 i1 (4 + n1) 7))) (fun w_8 => gS (up3 w_8 i0 (4 + n0) 8 ((w_8 i1 (4 + n1) 8))) (fun w_9 => gS (up3 w_9 i0 (4 + n0) 9 ((w_9 i1 (4 + n1) 9))) (fun w_10 => gS (up3 w_10 i0 (4 + n0) 10 ((w_10 i1 (4 + n1) 10))) (fun w_11 => some w_11)))))))))))
def F_X5_copyFrom_116 : Nat → gWd → Nat → Nat → Int32 → Option gWd
  | 0 => fun _ _ _ _ => none
  | fu + 1 => fun w i0 i1 x2 => (fun rec116 : gWd → Nat → Nat → Int32 → Option gWd => if (w i0 0 3) ≤ x2 then (some w) else (gB x2 30 (fun k_17 => gB x2 30 (fun k_19 => gP (F_X10_copyFrom w i0 k_17 i1 k_19) (fun w_21 => gS (x2 + 1) (fun x2_22 => rec116 w_21 i0 i1 x2_22)))))) (F_X5_copyFrom_116 fu)
theorem F_X5_copyFrom_116_s (fu : Nat) (w : gWd) (i0 : Nat) (i1 : Nat) (x2 : Int32) : F_X5_copyFrom_116 (fu + 1) w i0 i1 x2 = (if (w i0 0 3) ≤ x2 then (some w) else (gB x2 30 (fun k_17 => gB x2 30 (fun k_19 => gP (F_X10_copyFrom w i0 k_17 i1 k_19) (fun w_21 => gS (x2 + 1) (fun x2_22 => (F_X5_copyFrom_116 fu) w_21 i0 i1 x2_22)))))) := rfl
theorem F_X5_copyFrom_116_z (w : gWd) (i0 : Nat) (i1 : Nat) (x2 : Int32) : F_X5_copyFrom_116 0 w i0 i1 x2 = none := rfl
def F_X5_copyFrom_91 : Nat → gWd → Nat → Nat → Int32 → Option gWd
  | 0 => fun _ _ _ _ => none
  | fu + 1 => fun w i0 i1 x2 => (fun rec91 : gWd → Nat → Nat → Int32 → Option gWd => if 4 ≤ x2 then (F_X5_copyFrom_116 gFU w i0 i1 0) else (gB x2 4 (fun k_10 => gB x2 4 (fun k_12 => gS (up3 w i0 3 k_12 ((w i1 3 k_10))) (fun w_13 => gS (x2 + 1) (fun x2_14 => rec91 w_13 i0 i1 x2_14)))))) (F_X5_copyFrom_91 fu)
theorem F_X5_copyFrom_91_s (fu : Nat) (w : gWd) (i0 : Nat) (i1 : Nat) (x2 : Int32) : F_X5_copyFrom_91 (fu + 1) w i0 i1 x2 = (if 4 ≤ x2 then (F_X5_copyFrom_116 gFU w i0 i1 0) else (gB x2 4 (fun k_10 => gB x2 4 (fun k_12 => gS (up3 w i0 3 k_12 ((w i1 3 k_10))) (fun w_13 => gS (x2 + 1) (fun x2_14 => (F_X5_copyFrom_91 fu) w_13 i0 i1 x2_14)))))) := rfl
theorem F_X5_copyFrom_91_z (w : gWd) (i0 : Nat) (i1 : Nat) (x2 : Int32) : F_X5_copyFrom_91 0 w i0 i1 x2 = none := rfl
def F_X5_copyFrom_66 : Nat → gWd → Nat → Nat → Int32 → Option gWd
  | 0 => fun _ _ _ _ => none
  | fu + 1 => fun w i0 i1 x2 => (fun rec66 : gWd → Nat → Nat → Int32 → Option gWd => if 3 ≤ x2 then (F_X5_copyFrom_91 gFU w i0 i1 0) else (gB x2 3 (fun k_3 => gB x2 3 (fun k_5 => gS (up3 w i0 1 k_5 ((w i1 1 k_3))) (fun w_6 => gS (x2 + 1) (fun x2_7 => rec66 w_6 i0 i1 x2_7)))))) (F_X5_copyFrom_66 fu)
theorem F_X5_copyFrom_66_s (fu : Nat) (w : gWd) (i0 : Nat) (i1 : Nat) (x2 : Int32) : F_X5_copyFrom_66 (fu + 1) w i0 i1 x2 = (if 3 ≤ x2 then (F_X5_copyFrom_91 gFU w i0 i1 0) else (gB x2 3 (fun k_3 => gB x2 3 (fun k_5 => gS (up3 w i0 1 k_5 ((w i1 1 k_3))) (fun w_6 => gS (x2 + 1) (fun x2_7 => (F_X5_copyFrom_66 fu) w_6 i0 i1 x2_7)))))) := rfl
theorem F_X5_copyFrom_66_z (w : gWd) (i0 : Nat) (i1 : Nat) (x2 : Int32) : F_X5_copyFrom_66 0 w i0 i1 x2 = none := rfl
def F_X5_copyFrom (w : gWd) (i0 : Nat) (i1 : Nat) : Option gWd := gS (up3 w i0 0 3 ((w i1 0 3))) (fun w_23 => gS (up3 w_23 i0 0 4 ((w_23 i1 0 4))) (fun w_24 => gS (up3 w_24 i0 0 5 ((w_24 i1 0 5))) (fun w_25 => gS (up3 w_25 i0 0 6 ((w_25 i1 0 6))) (fun w_26 => gS (up3 w_26 i0 0 7 ((w_26 i1 0 7))) (fun w_27 => gS (up3 w_27 i0 0 8 ((w_27 i1 0 8))) (fun w_28 => gS (up3 w_28 i0 0 9 ((w_28 i1 0 9))) (fun w_29 => gS (up3 w_29 i0 0 10 ((w_29 i1 0 10))) (fun w_30 => F_X5_copyFrom_66 gFU w_30 i0 i1 0))))))))
def F_X3_prepare (w : gWd) (i1 : Nat) : Option gWd := if (w 7 1 1) < 0 then (some w) else (if 4 < (w 7 1 1) then (some w) else (gB ((w 7 1 1)) 5 (fun k_4 => gM ((w 7 2 k_4).toNatClampNeg) 7 (gP (F_X5_copyFrom w (((w 7 2 k_4).toNatClampNeg)) i1) (fun w_7 => some w_7)))))
def F_X11_enter (w : gWd) (x1 : Int32) (x2 : Int32) : Option (Int32 × gWd) := gP (F_X3_prepare w 0) (fun w_2 => gC (F_X1_addSwimmer w_2 0 x1 x2) (fun v_4 w_5 => gC (F_X3_keepUnlessError w_5 v_4) (fun v_7 w_8 => some (v_7, w_8))))
def F_X5_has_16 (w : gWd) : Option Int32 := some 0
def F_X5_has (w : gWd) (i0 : Nat) (x1 : Int32) : Option Int32 := if x1 < 0 then (F_X5_has_16 w) else (if (w i0 0 3) ≤ x1 then (F_X5_has_16 w) else (some 1))
def F_X5_canBeCalled_36 (w : gWd) : Option Int32 := some 0
def F_X5_canBeCalled (w : gWd) (i0 : Nat) (x1 : Int32) : Option Int32 := gP (F_X5_has w i0 x1) (fun v_2 => if v_2 = 0 then (F_X5_canBeCalled_36 w) else (gB x1 30 (fun k_5 => if (w i0 (4 + k_5) 3) = 0 then (gB x1 30 (fun k_8 => if (w i0 (4 + k_8) 7) = 0 then (some 1) else (F_X5_canBeCalled_36 w))) else (F_X5_canBeCalled_36 w))))
def F_X5_freeReserve_4 : Nat → gWd → Nat → Int32 → Int32 → Int32 → Option Int32
  | 0 => fun _ _ _ _ _ => none
  | fu + 1 => fun w i0 x1 x2 x3 => (fun rec4 : gWd → Nat → Int32 → Int32 → Int32 → Option Int32 => if (w i0 0 6) ≤ x3 then (some (-1000004)) else (if 4 ≤ x3 then (some (-1000004)) else (gB x3 4 (fun k_4 => gP (F_X5_canBeCalled w i0 ((w i0 3 k_4))) (fun v_6 => if v_6 = 0 then (gS (x3 + 1) (fun x3_8 => rec4 w i0 x1 x2 x3_8)) else (if x2 = x1 then (gB x3 4 (fun k_13 => some ((w i0 3 k_13)))) else (gS (x2 + 1) (fun x2_10 => gS (x3 + 1) (fun x3_11 => rec4 w i0 x1 x2_10 x3_11))))))))) (F_X5_freeReserve_4 fu)
theorem F_X5_freeReserve_4_s (fu : Nat) (w : gWd) (i0 : Nat) (x1 : Int32) (x2 : Int32) (x3 : Int32) : F_X5_freeReserve_4 (fu + 1) w i0 x1 x2 x3 = (if (w i0 0 6) ≤ x3 then (some (-1000004)) else (if 4 ≤ x3 then (some (-1000004)) else (gB x3 4 (fun k_4 => gP (F_X5_canBeCalled w i0 ((w i0 3 k_4))) (fun v_6 => if v_6 = 0 then (gS (x3 + 1) (fun x3_8 => (F_X5_freeReserve_4 fu) w i0 x1 x2 x3_8)) else (if x2 = x1 then (gB x3 4 (fun k_13 => some ((w i0 3 k_13)))) else (gS (x2 + 1) (fun x2_10 => gS (x3 + 1) (fun x3_11 => (F_X5_freeReserve_4 fu) w i0 x1 x2_10 x3_11))))))))) := rfl
theorem F_X5_freeReserve_4_z (w : gWd) (i0 : Nat) (x1 : Int32) (x2 : Int32) (x3 : Int32) : F_X5_freeReserve_4 0 w i0 x1 x2 x3 = none := rfl
def F_X5_freeReserve (w : gWd) (i0 : Nat) (x1 : Int32) : Option Int32 := F_X5_freeReserve_4 gFU w i0 x1 0 0
def F_X1_callReserve (w : gWd) (i0 : Nat) (i1 : Nat) (n1 : Nat) : Option (Int32 × gWd) := gS ((w i1 (4 + n1) 7)) (fun x2_1 => gP (F_X10_leaveFinal w i1 n1) (fun w_3 => gP (F_X5_freeReserve w_3 i0 0) (fun v_5 => gP (F_X5_has w_3 i0 v_5) (fun v_7 => if v_7 = 0 then (some (100, w_3)) else (gB v_5 30 (fun k_10 => gS (up3 w_3 i0 (4 + k_10) 7 x2_1) (fun w_11 => gS (up3 w_11 i0 0 7 (((w_11 i0 0 7) + 1))) (fun w_12 => some (v_5, w_12)))))))))
def F_X1_withdraw_53 (w : gWd) (i0 : Nat) (i2 : Nat) (n2 : Nat) : Option (Int32 × gWd) := if (w i0 0 4) = 2 then (if (w i2 (4 + n2) 7) = 0 then (some (100, w)) else (gC (F_X1_callReserve w i0 i2 n2) (fun v_4 w_5 => some (v_4, w_5)))) else (some (100, w))
def F_X1_withdraw (w : gWd) (i0 : Nat) (x1 : Int32) : Option (Int32 × gWd) := gP (F_X5_has w i0 x1) (fun v_7 => if v_7 = 0 then (some ((-1000001), w)) else (gB x1 30 (fun k_10 => if (w i0 (4 + k_10) 3) = 0 then (if (w i0 0 4) = 3 then (some ((-1000002), w)) else (gS (up3 w i0 (4 + k_10) 3 1) (fun w_13 => if (w_13 i0 0 4) = 1 then (gP (F_X10_leaveHeat w_13 i0 k_10) (fun w_16 => F_X1_withdraw_53 w_16 i0 i0 k_10)) else (F_X1_withdraw_53 w_13 i0 i0 k_10)))) else (some ((-1000002), w)))))
def F_X11_scratch (w : gWd) (x1 : Int32) : Option (Int32 × gWd) := gP (F_X3_prepare w 0) (fun w_2 => gC (F_X1_withdraw w_2 0 x1) (fun v_4 w_5 => gC (F_X3_keepUnlessError w_5 v_4) (fun v_7 w_8 => some (v_7, w_8))))
def F_X9_allow_31 (w : gWd) : Option Int32 := some 0
def F_X9_allow (w : gWd) (x0 : Int32) (x1 : Int32) : Option Int32 := if x0 < 0 then (F_X9_allow_31 w) else (if 3 ≤ x0 then (F_X9_allow_31 w) else (gB x0 3 (fun k_4 => if x1 < (gLeast k_4) then (F_X9_allow_31 w) else (gB x0 3 (fun k_7 => if (gGreat k_7) < x1 then (F_X9_allow_31 w) else (some 1))))))
def F_X1_changeSetting (w : gWd) (i0 : Nat) (x1 : Int32) (x2 : Int32) : Option (Int32 × gWd) := gP (F_X9_allow w x1 x2) (fun v_2 => if v_2 = 0 then (some ((-1000001), w)) else (if (w i0 0 4) = 0 then (gB x1 3 (fun k_6 => gS ((w i0 1 k_6)) (fun x3_7 => gB x1 3 (fun k_9 => gS (up3 w i0 1 k_9 x2) (fun w_10 => some (x3_7, w_10)))))) else (some ((-1000002), w))))
def F_X11_set (w : gWd) (x1 : Int32) (x2 : Int32) : Option (Int32 × gWd) := gP (F_X3_prepare w 0) (fun w_2 => gC (F_X1_changeSetting w_2 0 x1 x2) (fun v_4 w_5 => gC (F_X3_keepUnlessError w_5 v_4) (fun v_7 w_8 => some (v_7, w_8))))
def F_X10_aheadByEntry_36 (w : gWd) : Option Int32 := some 1
def F_X10_aheadByEntry_40 (w : gWd) : Option Int32 := some 0
def F_X10_aheadByEntry (w : gWd) (i0 : Nat) (n0 : Nat) (i1 : Nat) (n1 : Nat) : Option Int32 := if (w i0 (4 + n0) 2) = (w i1 (4 + n1) 2) then (if (nI n1) ≤ (nI n0) then (some 0) else (some 1)) else (if (w i1 (4 + n1) 2) = 0 then (F_X10_aheadByEntry_36 w) else (if (w i0 (4 + n0) 2) = 0 then (F_X10_aheadByEntry_40 w) else (if (w i1 (4 + n1) 2) ≤ (w i0 (4 + n0) 2) then (F_X10_aheadByEntry_40 w) else (F_X10_aheadByEntry_36 w))))
def F_X2_lastOf_52 (rec5 : gWd → Nat → Int32 → Int32 → Int32 → Option Int32) (w : gWd) (i0 : Nat) (x1 : Int32) (x3 : Int32) : Option Int32 := gS (x3 + 1) (fun x3_17 => rec5 w i0 x1 x3 x3_17)
def F_X2_lastOf_5 : Nat → gWd → Nat → Int32 → Int32 → Int32 → Option Int32
  | 0 => fun _ _ _ _ _ => none
  | fu + 1 => fun w i0 x1 x2 x3 => (fun rec5 : gWd → Nat → Int32 → Int32 → Int32 → Option Int32 => if (w i0 0 3) ≤ x3 then (some x2) else (gB x3 30 (fun k_3 => if (w i0 (4 + k_3) 4) = x1 then (gP (F_X5_has w i0 x2) (fun v_7 => if v_7 = 0 then (F_X2_lastOf_52 rec5 w i0 x1 x3) else (gB x2 30 (fun k_10 => gB x3 30 (fun k_12 => gP (F_X10_aheadByEntry w i0 k_10 i0 k_12) (fun v_14 => if v_14 = 0 then (gS (x3 + 1) (fun x3_16 => rec5 w i0 x1 x2 x3_16)) else (F_X2_lastOf_52 rec5 w i0 x1 x3))))))) else (gS (x3 + 1) (fun x3_5 => rec5 w i0 x1 x2 x3_5))))) (F_X2_lastOf_5 fu)
theorem F_X2_lastOf_5_s (fu : Nat) (w : gWd) (i0 : Nat) (x1 : Int32) (x2 : Int32) (x3 : Int32) : F_X2_lastOf_5 (fu + 1) w i0 x1 x2 x3 = (if (w i0 0 3) ≤ x3 then (some x2) else (gB x3 30 (fun k_3 => if (w i0 (4 + k_3) 4) = x1 then (gP (F_X5_has w i0 x2) (fun v_7 => if v_7 = 0 then (F_X2_lastOf_52 (F_X2_lastOf_5 fu) w i0 x1 x3) else (gB x2 30 (fun k_10 => gB x3 30 (fun k_12 => gP (F_X10_aheadByEntry w i0 k_10 i0 k_12) (fun v_14 => if v_14 = 0 then (gS (x3 + 1) (fun x3_16 => (F_X2_lastOf_5 fu) w i0 x1 x2 x3_16)) else (F_X2_lastOf_52 (F_X2_lastOf_5 fu) w i0 x1 x3))))))) else (gS (x3 + 1) (fun x3_5 => (F_X2_lastOf_5 fu) w i0 x1 x2 x3_5))))) := rfl
theorem F_X2_lastOf_5_z (w : gWd) (i0 : Nat) (x1 : Int32) (x2 : Int32) (x3 : Int32) : F_X2_lastOf_5 0 w i0 x1 x2 x3 = none := rfl
def F_X2_lastOf (w : gWd) (i0 : Nat) (x1 : Int32) : Option Int32 := F_X2_lastOf_5 gFU w i0 x1 (-1000004) 0
def F_X2_sizeOf_4 : Nat → gWd → Nat → Int32 → Int32 → Int32 → Option Int32
  | 0 => fun _ _ _ _ _ => none
  | fu + 1 => fun w i0 x1 x2 x3 => (fun rec4 : gWd → Nat → Int32 → Int32 → Int32 → Option Int32 => if (w i0 0 3) ≤ x3 then (some x2) else (gB x3 30 (fun k_3 => if (w i0 (4 + k_3) 4) = x1 then (gS (x2 + 1) (fun x2_6 => gS (x3 + 1) (fun x3_7 => rec4 w i0 x1 x2_6 x3_7))) else (gS (x3 + 1) (fun x3_5 => rec4 w i0 x1 x2 x3_5))))) (F_X2_sizeOf_4 fu)
theorem F_X2_sizeOf_4_s (fu : Nat) (w : gWd) (i0 : Nat) (x1 : Int32) (x2 : Int32) (x3 : Int32) : F_X2_sizeOf_4 (fu + 1) w i0 x1 x2 x3 = (if (w i0 0 3) ≤ x3 then (some x2) else (gB x3 30 (fun k_3 => if (w i0 (4 + k_3) 4) = x1 then (gS (x2 + 1) (fun x2_6 => gS (x3 + 1) (fun x3_7 => (F_X2_sizeOf_4 fu) w i0 x1 x2_6 x3_7))) else (gS (x3 + 1) (fun x3_5 => (F_X2_sizeOf_4 fu) w i0 x1 x2 x3_5))))) := rfl
theorem F_X2_sizeOf_4_z (w : gWd) (i0 : Nat) (x1 : Int32) (x2 : Int32) (x3 : Int32) : F_X2_sizeOf_4 0 w i0 x1 x2 x3 = none := rfl
def F_X2_sizeOf (w : gWd) (i0 : Nat) (x1 : Int32) : Option Int32 := F_X2_sizeOf_4 gFU w i0 x1 0 0
def F_X2_fillFirstHeat_24 : Nat → gWd → Nat → Int32 → Int32 → Option gWd
  | 0 => fun _ _ _ _ => none
  | fu + 1 => fun w i0 x1 x2 => (fun rec24 : gWd → Nat → Int32 → Int32 → Option gWd => if x1 ≤ x2 then (some w) else (gP (F_X2_lastOf w i0 1) (fun v_3 => gP (F_X5_has w i0 v_3) (fun v_5 => if v_5 = 0 then (gS (x2 + 1) (fun x2_7 => rec24 w i0 x1 x2_7)) else (gB v_3 30 (fun k_9 => gS (up3 w i0 (4 + k_9) 4 0) (fun w_10 => gS (x2 + 1) (fun x2_11 => rec24 w_10 i0 x1 x2_11)))))))) (F_X2_fillFirstHeat_24 fu)
theorem F_X2_fillFirstHeat_24_s (fu : Nat) (w : gWd) (i0 : Nat) (x1 : Int32) (x2 : Int32) : F_X2_fillFirstHeat_24 (fu + 1) w i0 x1 x2 = (if x1 ≤ x2 then (some w) else (gP (F_X2_lastOf w i0 1) (fun v_3 => gP (F_X5_has w i0 v_3) (fun v_5 => if v_5 = 0 then (gS (x2 + 1) (fun x2_7 => (F_X2_fillFirstHeat_24 fu) w i0 x1 x2_7)) else (gB v_3 30 (fun k_9 => gS (up3 w i0 (4 + k_9) 4 0) (fun w_10 => gS (x2 + 1) (fun x2_11 => (F_X2_fillFirstHeat_24 fu) w_10 i0 x1 x2_11)))))))) := rfl
theorem F_X2_fillFirstHeat_24_z (w : gWd) (i0 : Nat) (x1 : Int32) (x2 : Int32) : F_X2_fillFirstHeat_24 0 w i0 x1 x2 = none := rfl
def F_X2_fillFirstHeat (w : gWd) (i0 : Nat) : Option gWd := if 4 ≤ (w i0 0 5) then (gP (F_X2_sizeOf w i0 0) (fun v_14 => gS (((w i0 1 1) - v_14)) (fun x1_15 => F_X2_fillFirstHeat_24 gFU w i0 x1_15 0))) else (some w)
def F_X2_rankInHeat_4 : Nat → gWd → Nat → Nat → Nat → Int32 → Int32 → Option Int32
  | 0 => fun _ _ _ _ _ _ => none
  | fu + 1 => fun w i0 i1 n1 x2 x3 => (fun rec4 : gWd → Nat → Nat → Nat → Int32 → Int32 → Option Int32 => if (w i0 0 3) ≤ x3 then (some x2) else (gB x3 30 (fun k_3 => if (w i0 (4 + k_3) 4) = (w i1 (4 + n1) 4) then (gB x3 30 (fun k_7 => gP (F_X10_aheadByEntry w i0 k_7 i1 n1) (fun v_9 => if v_9 = 0 then (gS (x3 + 1) (fun x3_11 => rec4 w i0 i1 n1 x2 x3_11)) else (gS (x2 + 1) (fun x2_12 => gS (x3 + 1) (fun x3_13 => rec4 w i0 i1 n1 x2_12 x3_13)))))) else (gS (x3 + 1) (fun x3_5 => rec4 w i0 i1 n1 x2 x3_5))))) (F_X2_rankInHeat_4 fu)
theorem F_X2_rankInHeat_4_s (fu : Nat) (w : gWd) (i0 : Nat) (i1 : Nat) (n1 : Nat) (x2 : Int32) (x3 : Int32) : F_X2_rankInHeat_4 (fu + 1) w i0 i1 n1 x2 x3 = (if (w i0 0 3) ≤ x3 then (some x2) else (gB x3 30 (fun k_3 => if (w i0 (4 + k_3) 4) = (w i1 (4 + n1) 4) then (gB x3 30 (fun k_7 => gP (F_X10_aheadByEntry w i0 k_7 i1 n1) (fun v_9 => if v_9 = 0 then (gS (x3 + 1) (fun x3_11 => (F_X2_rankInHeat_4 fu) w i0 i1 n1 x2 x3_11)) else (gS (x2 + 1) (fun x2_12 => gS (x3 + 1) (fun x3_13 => (F_X2_rankInHeat_4 fu) w i0 i1 n1 x2_12 x3_13)))))) else (gS (x3 + 1) (fun x3_5 => (F_X2_rankInHeat_4 fu) w i0 i1 n1 x2 x3_5))))) := rfl
theorem F_X2_rankInHeat_4_z (w : gWd) (i0 : Nat) (i1 : Nat) (n1 : Nat) (x2 : Int32) (x3 : Int32) : F_X2_rankInHeat_4 0 w i0 i1 n1 x2 x3 = none := rfl
def F_X2_rankInHeat (w : gWd) (i0 : Nat) (i1 : Nat) (n1 : Nat) : Option Int32 := F_X2_rankInHeat_4 gFU w i0 i1 n1 0 0
def F_X4_ofRank (w : gWd) (x0 : Int32) (x1 : Int32) : Option Int32 := gS (((x1 + 1) / 2)) (fun x2_1 => if (x0 - x0 / 2 * 2) = 1 then (some ((x2_1 + ((x0 + 1) / 2)))) else (some ((x2_1 - (x0 / 2)))))
def F_X5_lanes (w : gWd) (i0 : Nat) : Option Int32 := some ((w i0 1 0))
def F_X2_giveLanes_2 : Nat → gWd → Nat → Int32 → Option gWd
  | 0 => fun _ _ _ => none
  | fu + 1 => fun w i0 x1 => (fun rec2 : gWd → Nat → Int32 → Option gWd => if (w i0 0 3) ≤ x1 then (some w) else (gB x1 30 (fun k_3 => if (w i0 (4 + k_3) 3) = 0 then (gP (F_X2_rankInHeat w i0 i0 k_3) (fun v_7 => gP (F_X5_lanes w i0) (fun v_9 => gP (F_X4_ofRank w v_7 v_9) (fun v_11 => gS (up3 w i0 (4 + k_3) 5 v_11) (fun w_12 => gS (x1 + 1) (fun x1_13 => rec2 w_12 i0 x1_13)))))) else (gS (x1 + 1) (fun x1_5 => rec2 w i0 x1_5))))) (F_X2_giveLanes_2 fu)
theorem F_X2_giveLanes_2_s (fu : Nat) (w : gWd) (i0 : Nat) (x1 : Int32) : F_X2_giveLanes_2 (fu + 1) w i0 x1 = (if (w i0 0 3) ≤ x1 then (some w) else (gB x1 30 (fun k_3 => if (w i0 (4 + k_3) 3) = 0 then (gP (F_X2_rankInHeat w i0 i0 k_3) (fun v_7 => gP (F_X5_lanes w i0) (fun v_9 => gP (F_X4_ofRank w v_7 v_9) (fun v_11 => gS (up3 w i0 (4 + k_3) 5 v_11) (fun w_12 => gS (x1 + 1) (fun x1_13 => (F_X2_giveLanes_2 fu) w_12 i0 x1_13)))))) else (gS (x1 + 1) (fun x1_5 => (F_X2_giveLanes_2 fu) w i0 x1_5))))) := rfl
theorem F_X2_giveLanes_2_z (w : gWd) (i0 : Nat) (x1 : Int32) : F_X2_giveLanes_2 0 w i0 x1 = none := rfl
def F_X2_giveLanes (w : gWd) (i0 : Nat) : Option gWd := F_X2_giveLanes_2 gFU w i0 0
def F_X2_heatsFor (w : gWd) (x0 : Int32) (x1 : Int32) : Option Int32 := if 1 ≤ x1 then (gD x1 (some ((((x0 + x1) - 1) / x1)))) else (some 0)
def F_X2_heatOfRank_20 (w : gWd) : Option Int32 := some 0
def F_X2_heatOfRank (w : gWd) (x0 : Int32) (x1 : Int32) (x2 : Int32) : Option Int32 := if 3 ≤ x1 then (if (3 * x2) ≤ x0 then (if 1 ≤ x2 then (gD x2 (some (((x1 - 1) - (x0 / x2))))) else (some 0)) else (some (((x1 - 1) - (x0 - x0 / 3 * 3))))) else (if x1 = 2 then (if (x0 - x0 / 2 * 2) = 0 then (some 1) else (F_X2_heatOfRank_20 w)) else (F_X2_heatOfRank_20 w))
def F_X5_rankByEntry_4 : Nat → gWd → Nat → Nat → Nat → Int32 → Int32 → Option Int32
  | 0 => fun _ _ _ _ _ _ => none
  | fu + 1 => fun w i0 i1 n1 x2 x3 => (fun rec4 : gWd → Nat → Nat → Nat → Int32 → Int32 → Option Int32 => if (w i0 0 3) ≤ x3 then (some x2) else (gB x3 30 (fun k_3 => if (w i0 (4 + k_3) 3) = 0 then (gB x3 30 (fun k_7 => gP (F_X10_aheadByEntry w i0 k_7 i1 n1) (fun v_9 => if v_9 = 0 then (gS (x3 + 1) (fun x3_11 => rec4 w i0 i1 n1 x2 x3_11)) else (gS (x2 + 1) (fun x2_12 => gS (x3 + 1) (fun x3_13 => rec4 w i0 i1 n1 x2_12 x3_13)))))) else (gS (x3 + 1) (fun x3_5 => rec4 w i0 i1 n1 x2 x3_5))))) (F_X5_rankByEntry_4 fu)
theorem F_X5_rankByEntry_4_s (fu : Nat) (w : gWd) (i0 : Nat) (i1 : Nat) (n1 : Nat) (x2 : Int32) (x3 : Int32) : F_X5_rankByEntry_4 (fu + 1) w i0 i1 n1 x2 x3 = (if (w i0 0 3) ≤ x3 then (some x2) else (gB x3 30 (fun k_3 => if (w i0 (4 + k_3) 3) = 0 then (gB x3 30 (fun k_7 => gP (F_X10_aheadByEntry w i0 k_7 i1 n1) (fun v_9 => if v_9 = 0 then (gS (x3 + 1) (fun x3_11 => (F_X5_rankByEntry_4 fu) w i0 i1 n1 x2 x3_11)) else (gS (x2 + 1) (fun x2_12 => gS (x3 + 1) (fun x3_13 => (F_X5_rankByEntry_4 fu) w i0 i1 n1 x2_12 x3_13)))))) else (gS (x3 + 1) (fun x3_5 => (F_X5_rankByEntry_4 fu) w i0 i1 n1 x2 x3_5))))) := rfl
theorem F_X5_rankByEntry_4_z (w : gWd) (i0 : Nat) (i1 : Nat) (n1 : Nat) (x2 : Int32) (x3 : Int32) : F_X5_rankByEntry_4 0 w i0 i1 n1 x2 x3 = none := rfl
def F_X5_rankByEntry (w : gWd) (i0 : Nat) (i1 : Nat) (n1 : Nat) : Option Int32 := F_X5_rankByEntry_4 gFU w i0 i1 n1 0 0
def F_X2_spread_2 : Nat → gWd → Nat → Int32 → Option gWd
  | 0 => fun _ _ _ => none
  | fu + 1 => fun w i0 x1 => (fun rec2 : gWd → Nat → Int32 → Option gWd => if (w i0 0 3) ≤ x1 then (some w) else (gB x1 30 (fun k_3 => if (w i0 (4 + k_3) 3) = 0 then (gP (F_X5_rankByEntry w i0 i0 k_3) (fun v_7 => gP (F_X5_lanes w i0) (fun v_9 => gP (F_X2_heatOfRank w v_7 ((w i0 0 5)) v_9) (fun v_11 => gS (up3 w i0 (4 + k_3) 4 v_11) (fun w_12 => gS (x1 + 1) (fun x1_13 => rec2 w_12 i0 x1_13)))))) else (gS (x1 + 1) (fun x1_5 => rec2 w i0 x1_5))))) (F_X2_spread_2 fu)
theorem F_X2_spread_2_s (fu : Nat) (w : gWd) (i0 : Nat) (x1 : Int32) : F_X2_spread_2 (fu + 1) w i0 x1 = (if (w i0 0 3) ≤ x1 then (some w) else (gB x1 30 (fun k_3 => if (w i0 (4 + k_3) 3) = 0 then (gP (F_X5_rankByEntry w i0 i0 k_3) (fun v_7 => gP (F_X5_lanes w i0) (fun v_9 => gP (F_X2_heatOfRank w v_7 ((w i0 0 5)) v_9) (fun v_11 => gS (up3 w i0 (4 + k_3) 4 v_11) (fun w_12 => gS (x1 + 1) (fun x1_13 => (F_X2_spread_2 fu) w_12 i0 x1_13)))))) else (gS (x1 + 1) (fun x1_5 => (F_X2_spread_2 fu) w i0 x1_5))))) := rfl
theorem F_X2_spread_2_z (w : gWd) (i0 : Nat) (x1 : Int32) : F_X2_spread_2 0 w i0 x1 = none := rfl
def F_X2_spread (w : gWd) (i0 : Nat) : Option gWd := F_X2_spread_2 gFU w i0 0
def F_X5_notScratched_4 : Nat → gWd → Nat → Int32 → Int32 → Option Int32
  | 0 => fun _ _ _ _ => none
  | fu + 1 => fun w i0 x1 x2 => (fun rec4 : gWd → Nat → Int32 → Int32 → Option Int32 => if (w i0 0 3) ≤ x2 then (some x1) else (gB x2 30 (fun k_3 => if (w i0 (4 + k_3) 3) = 0 then (gS (x1 + 1) (fun x1_6 => gS (x2 + 1) (fun x2_7 => rec4 w i0 x1_6 x2_7))) else (gS (x2 + 1) (fun x2_5 => rec4 w i0 x1 x2_5))))) (F_X5_notScratched_4 fu)
theorem F_X5_notScratched_4_s (fu : Nat) (w : gWd) (i0 : Nat) (x1 : Int32) (x2 : Int32) : F_X5_notScratched_4 (fu + 1) w i0 x1 x2 = (if (w i0 0 3) ≤ x2 then (some x1) else (gB x2 30 (fun k_3 => if (w i0 (4 + k_3) 3) = 0 then (gS (x1 + 1) (fun x1_6 => gS (x2 + 1) (fun x2_7 => (F_X5_notScratched_4 fu) w i0 x1_6 x2_7))) else (gS (x2 + 1) (fun x2_5 => (F_X5_notScratched_4 fu) w i0 x1 x2_5))))) := rfl
theorem F_X5_notScratched_4_z (w : gWd) (i0 : Nat) (x1 : Int32) (x2 : Int32) : F_X5_notScratched_4 0 w i0 x1 x2 = none := rfl
def F_X5_notScratched (w : gWd) (i0 : Nat) : Option Int32 := F_X5_notScratched_4 gFU w i0 0 0
def F_X1_drawHeats (w : gWd) (i0 : Nat) : Option (Int32 × gWd) := gP (F_X5_notScratched w i0) (fun v_2 => if (w i0 0 4) = 0 then (if v_2 = 0 then (some ((-1000002), w)) else (gP (F_X5_lanes w i0) (fun v_6 => gP (F_X2_heatsFor w v_2 v_6) (fun v_8 => gS (up3 w i0 0 5 v_8) (fun w_9 => gP (F_X2_spread w_9 i0) (fun w_11 => gP (F_X2_fillFirstHeat w_11 i0) (fun w_13 => gP (F_X2_giveLanes w_13 i0) (fun w_15 => gS (up3 w_15 i0 0 4 1) (fun w_16 => some ((w_16 i0 0 5), w_16)))))))))) else (some ((-1000002), w)))
def F_X11_draw (w : gWd) : Option (Int32 × gWd) := gP (F_X3_prepare w 0) (fun w_2 => gC (F_X1_drawHeats w_2 0) (fun v_4 w_5 => gC (F_X3_keepUnlessError w_5 v_4) (fun v_7 w_8 => some (v_7, w_8))))
def F_X1_noteRecord_15 (w : gWd) (i0 : Nat) (x1 : Int32) (x2 : Int32) : Option gWd := gS (up3 w i0 0 9 x2) (fun w_1 => gS (up3 w_1 i0 0 10 x1) (fun w_2 => some w_2))
def F_X1_noteRecord (w : gWd) (i0 : Nat) (x1 : Int32) (x2 : Int32) : Option gWd := if (w i0 0 9) = 0 then (F_X1_noteRecord_15 w i0 x1 x2) else (if (w i0 0 9) ≤ x2 then (some w) else (F_X1_noteRecord_15 w i0 x1 x2))
def F_X5_stageTime (w : gWd) (i0 : Nat) (i1 : Nat) (n1 : Nat) : Option Int32 := if (w i0 0 4) = 1 then (some ((w i1 (4 + n1) 6))) else (some ((w i1 (4 + n1) 8)))
def F_X5_fasterThan_4 : Nat → gWd → Nat → Int32 → Int32 → Int32 → Option Int32
  | 0 => fun _ _ _ _ _ => none
  | fu + 1 => fun w i0 x1 x2 x3 => (fun rec4 : gWd → Nat → Int32 → Int32 → Int32 → Option Int32 => if (w i0 0 3) ≤ x3 then (some x2) else (gB x3 30 (fun k_3 => gP (F_X5_stageTime w i0 i0 k_3) (fun v_5 => if v_5 ≤ 0 then (gS (x3 + 1) (fun x3_7 => rec4 w i0 x1 x2 x3_7)) else (if x1 ≤ v_5 then (gS (x3 + 1) (fun x3_9 => rec4 w i0 x1 x2 x3_9)) else (gS (x2 + 1) (fun x2_10 => gS (x3 + 1) (fun x3_11 => rec4 w i0 x1 x2_10 x3_11)))))))) (F_X5_fasterThan_4 fu)
theorem F_X5_fasterThan_4_s (fu : Nat) (w : gWd) (i0 : Nat) (x1 : Int32) (x2 : Int32) (x3 : Int32) : F_X5_fasterThan_4 (fu + 1) w i0 x1 x2 x3 = (if (w i0 0 3) ≤ x3 then (some x2) else (gB x3 30 (fun k_3 => gP (F_X5_stageTime w i0 i0 k_3) (fun v_5 => if v_5 ≤ 0 then (gS (x3 + 1) (fun x3_7 => (F_X5_fasterThan_4 fu) w i0 x1 x2 x3_7)) else (if x1 ≤ v_5 then (gS (x3 + 1) (fun x3_9 => (F_X5_fasterThan_4 fu) w i0 x1 x2 x3_9)) else (gS (x2 + 1) (fun x2_10 => gS (x3 + 1) (fun x3_11 => (F_X5_fasterThan_4 fu) w i0 x1 x2_10 x3_11)))))))) := rfl
theorem F_X5_fasterThan_4_z (w : gWd) (i0 : Nat) (x1 : Int32) (x2 : Int32) (x3 : Int32) : F_X5_fasterThan_4 0 w i0 x1 x2 x3 = none := rfl
def F_X5_fasterThan (w : gWd) (i0 : Nat) (x1 : Int32) : Option Int32 := F_X5_fasterThan_4 gFU w i0 x1 0 0
def F_X5_swimsNow_41 (w : gWd) : Option Int32 := some 0
def F_X5_swimsNow (w : gWd) (i0 : Nat) (i1 : Nat) (n1 : Nat) : Option Int32 := if (w i0 0 4) = 1 then (if (w i1 (4 + n1) 4) = (-1) then (some 0) else (some 1)) else (if (w i0 0 4) = 2 then (if (w i1 (4 + n1) 7) = 0 then (F_X5_swimsNow_41 w) else (some 1)) else (F_X5_swimsNow_41 w))
def F_X1_giveTime_64 (w : gWd) (i0 : Nat) (x1 : Int32) (x2 : Int32) : Option (Int32 × gWd) := if x2 = 0 then (some (100, w)) else (gP (F_X1_noteRecord w i0 x1 x2) (fun w_3 => gP (F_X5_fasterThan w_3 i0 x2) (fun v_5 => some (v_5, w_3))))
def F_X1_giveTime (w : gWd) (i0 : Nat) (x1 : Int32) (x2 : Int32) : Option (Int32 × gWd) := gP (F_X5_has w i0 x1) (fun v_7 => if v_7 = 0 then (some ((-1000001), w)) else (gP (F_X1_isTimeOrZero w x2) (fun v_10 => if v_10 = 0 then (some ((-1000001), w)) else (gB x1 30 (fun k_13 => if (w i0 (4 + k_13) 3) = 0 then (gP (F_X5_swimsNow w i0 i0 k_13) (fun v_16 => if v_16 = 0 then (some ((-1000002), w)) else (if (w i0 0 4) = 1 then (gS (up3 w i0 (4 + k_13) 6 x2) (fun w_20 => F_X1_giveTime_64 w_20 i0 x1 x2)) else (gS (up3 w i0 (4 + k_13) 8 x2) (fun w_19 => F_X1_giveTime_64 w_19 i0 x1 x2))))) else (some ((-1000002), w)))))))
def F_X11_swim (w : gWd) (x1 : Int32) (x2 : Int32) : Option (Int32 × gWd) := gP (F_X3_prepare w 0) (fun w_2 => gC (F_X1_giveTime w_2 0 x1 x2) (fun v_4 w_5 => gC (F_X3_keepUnlessError w_5 v_4) (fun v_7 w_8 => some (v_7, w_8))))
def F_X10_aheadByHeatTime (w : gWd) (i0 : Nat) (n0 : Nat) (i1 : Nat) (n1 : Nat) : Option Int32 := if (w i0 (4 + n0) 6) = (w i1 (4 + n1) 6) then (gP (F_X10_aheadByEntry w i0 n0 i1 n1) (fun v_3 => gZ v_3 (some v_3))) else (if (w i1 (4 + n1) 6) ≤ (w i0 (4 + n0) 6) then (some 0) else (some 1))
def F_X5_rankByHeatTime_4 : Nat → gWd → Nat → Nat → Nat → Int32 → Int32 → Option Int32
  | 0 => fun _ _ _ _ _ _ => none
  | fu + 1 => fun w i0 i1 n1 x2 x3 => (fun rec4 : gWd → Nat → Nat → Nat → Int32 → Int32 → Option Int32 => if (w i0 0 3) ≤ x3 then (some x2) else (gB x3 30 (fun k_3 => if (w i0 (4 + k_3) 6) ≤ 0 then (gS (x3 + 1) (fun x3_5 => rec4 w i0 i1 n1 x2 x3_5)) else (gB x3 30 (fun k_7 => gP (F_X10_aheadByHeatTime w i0 k_7 i1 n1) (fun v_9 => if v_9 = 0 then (gS (x3 + 1) (fun x3_11 => rec4 w i0 i1 n1 x2 x3_11)) else (gS (x2 + 1) (fun x2_12 => gS (x3 + 1) (fun x3_13 => rec4 w i0 i1 n1 x2_12 x3_13))))))))) (F_X5_rankByHeatTime_4 fu)
theorem F_X5_rankByHeatTime_4_s (fu : Nat) (w : gWd) (i0 : Nat) (i1 : Nat) (n1 : Nat) (x2 : Int32) (x3 : Int32) : F_X5_rankByHeatTime_4 (fu + 1) w i0 i1 n1 x2 x3 = (if (w i0 0 3) ≤ x3 then (some x2) else (gB x3 30 (fun k_3 => if (w i0 (4 + k_3) 6) ≤ 0 then (gS (x3 + 1) (fun x3_5 => (F_X5_rankByHeatTime_4 fu) w i0 i1 n1 x2 x3_5)) else (gB x3 30 (fun k_7 => gP (F_X10_aheadByHeatTime w i0 k_7 i1 n1) (fun v_9 => if v_9 = 0 then (gS (x3 + 1) (fun x3_11 => (F_X5_rankByHeatTime_4 fu) w i0 i1 n1 x2 x3_11)) else (gS (x2 + 1) (fun x2_12 => gS (x3 + 1) (fun x3_13 => (F_X5_rankByHeatTime_4 fu) w i0 i1 n1 x2_12 x3_13))))))))) := rfl
theorem F_X5_rankByHeatTime_4_z (w : gWd) (i0 : Nat) (i1 : Nat) (n1 : Nat) (x2 : Int32) (x3 : Int32) : F_X5_rankByHeatTime_4 0 w i0 i1 n1 x2 x3 = none := rfl
def F_X5_rankByHeatTime (w : gWd) (i0 : Nat) (i1 : Nat) (n1 : Nat) : Option Int32 := F_X5_rankByHeatTime_4 gFU w i0 i1 n1 0 0
def F_X1_seatByTime (w : gWd) (i0 : Nat) (i1 : Nat) (n1 : Nat) : Option gWd := gP (F_X5_rankByHeatTime w i0 i1 n1) (fun v_2 => gP (F_X5_lanes w i0) (fun v_4 => if v_4 ≤ v_2 then (gP (F_X5_lanes w i0) (fun v_7 => gS ((v_2 - v_7)) (fun x3_8 => if (w i0 1 2) ≤ x3_8 then (some w) else (if 4 ≤ x3_8 then (some w) else (gB x3_8 4 (fun k_12 => gS (up3 w i0 3 k_12 ((nI n1))) (fun w_13 => gS (up3 w_13 i0 0 6 (((w_13 i0 0 6) + 1))) (fun w_14 => some w_14)))))))) else (gP (F_X5_lanes w i0) (fun v_16 => gP (F_X4_ofRank w v_2 v_16) (fun v_18 => gS (up3 w i1 (4 + n1) 7 v_18) (fun w_19 => some w_19))))))
def F_X5_finalSet_4 : Nat → gWd → Nat → Int32 → Int32 → Option Int32
  | 0 => fun _ _ _ _ => none
  | fu + 1 => fun w i0 x1 x2 => (fun rec4 : gWd → Nat → Int32 → Int32 → Option Int32 => if (w i0 0 3) ≤ x2 then (some x1) else (gB x2 30 (fun k_3 => if (w i0 (4 + k_3) 7) = 0 then (gS (x2 + 1) (fun x2_5 => rec4 w i0 x1 x2_5)) else (gS ((x1 ||| (1 <<< (x2 &&& 31)))) (fun x1_6 => gS (x2 + 1) (fun x2_7 => rec4 w i0 x1_6 x2_7)))))) (F_X5_finalSet_4 fu)
theorem F_X5_finalSet_4_s (fu : Nat) (w : gWd) (i0 : Nat) (x1 : Int32) (x2 : Int32) : F_X5_finalSet_4 (fu + 1) w i0 x1 x2 = (if (w i0 0 3) ≤ x2 then (some x1) else (gB x2 30 (fun k_3 => if (w i0 (4 + k_3) 7) = 0 then (gS (x2 + 1) (fun x2_5 => (F_X5_finalSet_4 fu) w i0 x1 x2_5)) else (gS ((x1 ||| (1 <<< (x2 &&& 31)))) (fun x1_6 => gS (x2 + 1) (fun x2_7 => (F_X5_finalSet_4 fu) w i0 x1_6 x2_7)))))) := rfl
theorem F_X5_finalSet_4_z (w : gWd) (i0 : Nat) (x1 : Int32) (x2 : Int32) : F_X5_finalSet_4 0 w i0 x1 x2 = none := rfl
def F_X5_finalSet (w : gWd) (i0 : Nat) : Option Int32 := F_X5_finalSet_4 gFU w i0 0 0
def F_X5_stillToSwim_4 : Nat → gWd → Nat → Int32 → Int32 → Int32 → Option Int32
  | 0 => fun _ _ _ _ _ => none
  | fu + 1 => fun w i0 x1 x2 x3 => (fun rec4 : gWd → Nat → Int32 → Int32 → Int32 → Option Int32 => if (w i0 0 3) ≤ x3 then (some (-1000004)) else (gB x3 30 (fun k_3 => gP (F_X5_swimsNow w i0 i0 k_3) (fun v_5 => if v_5 = 0 then (gS (x3 + 1) (fun x3_7 => rec4 w i0 x1 x2 x3_7)) else (gB x3 30 (fun k_9 => gP (F_X5_stageTime w i0 i0 k_9) (fun v_11 => if v_11 = (-1) then (if x2 = x1 then (some x3) else (gS (x2 + 1) (fun x2_15 => gS (x3 + 1) (fun x3_16 => rec4 w i0 x1 x2_15 x3_16)))) else (gS (x3 + 1) (fun x3_13 => rec4 w i0 x1 x2 x3_13))))))))) (F_X5_stillToSwim_4 fu)
theorem F_X5_stillToSwim_4_s (fu : Nat) (w : gWd) (i0 : Nat) (x1 : Int32) (x2 : Int32) (x3 : Int32) : F_X5_stillToSwim_4 (fu + 1) w i0 x1 x2 x3 = (if (w i0 0 3) ≤ x3 then (some (-1000004)) else (gB x3 30 (fun k_3 => gP (F_X5_swimsNow w i0 i0 k_3) (fun v_5 => if v_5 = 0 then (gS (x3 + 1) (fun x3_7 => (F_X5_stillToSwim_4 fu) w i0 x1 x2 x3_7)) else (gB x3 30 (fun k_9 => gP (F_X5_stageTime w i0 i0 k_9) (fun v_11 => if v_11 = (-1) then (if x2 = x1 then (some x3) else (gS (x2 + 1) (fun x2_15 => gS (x3 + 1) (fun x3_16 => (F_X5_stillToSwim_4 fu) w i0 x1 x2_15 x3_16)))) else (gS (x3 + 1) (fun x3_13 => (F_X5_stillToSwim_4 fu) w i0 x1 x2 x3_13))))))))) := rfl
theorem F_X5_stillToSwim_4_z (w : gWd) (i0 : Nat) (x1 : Int32) (x2 : Int32) (x3 : Int32) : F_X5_stillToSwim_4 0 w i0 x1 x2 x3 = none := rfl
def F_X5_stillToSwim (w : gWd) (i0 : Nat) (x1 : Int32) : Option Int32 := F_X5_stillToSwim_4 gFU w i0 x1 0 0
def F_X5_timesAboveZero (w : gWd) (i0 : Nat) : Option Int32 := gP (F_X5_fasterThan w i0 1000) (fun v_2 => some v_2)
def F_X5_reasonToWait_51 (w : gWd) : Option Int32 := some 0
def F_X5_reasonToWait (w : gWd) (i0 : Nat) : Option Int32 := if (w i0 0 4) = 0 then (gP (F_X5_notScratched w i0) (fun v_10 => if v_10 = 0 then (some 1) else (some 0))) else (gP (F_X5_stillToSwim w i0 0) (fun v_3 => if v_3 = (-1000004) then (if (w i0 0 4) = 1 then (gP (F_X5_timesAboveZero w i0) (fun v_7 => if v_7 = 0 then (some 1) else (F_X5_reasonToWait_51 w))) else (F_X5_reasonToWait_51 w)) else (some 2)))
def F_X1_drawFinal_20 : Nat → gWd → Nat → Int32 → Option (Int32 × gWd)
  | 0 => fun _ _ _ => none
  | fu + 1 => fun w i0 x1 => (fun rec20 : gWd → Nat → Int32 → Option (Int32 × gWd) => if (w i0 0 3) ≤ x1 then (gS (up3 w i0 0 4 2) (fun w_2 => gP (F_X5_finalSet w_2 i0) (fun v_4 => some (v_4, w_2)))) else (gB x1 30 (fun k_6 => if (w i0 (4 + k_6) 6) ≤ 0 then (gS (x1 + 1) (fun x1_8 => rec20 w i0 x1_8)) else (gB x1 30 (fun k_10 => gP (F_X1_seatByTime w i0 i0 k_10) (fun w_12 => gS (x1 + 1) (fun x1_13 => rec20 w_12 i0 x1_13))))))) (F_X1_drawFinal_20 fu)
theorem F_X1_drawFinal_20_s (fu : Nat) (w : gWd) (i0 : Nat) (x1 : Int32) : F_X1_drawFinal_20 (fu + 1) w i0 x1 = (if (w i0 0 3) ≤ x1 then (gS (up3 w i0 0 4 2) (fun w_2 => gP (F_X5_finalSet w_2 i0) (fun v_4 => some (v_4, w_2)))) else (gB x1 30 (fun k_6 => if (w i0 (4 + k_6) 6) ≤ 0 then (gS (x1 + 1) (fun x1_8 => (F_X1_drawFinal_20 fu) w i0 x1_8)) else (gB x1 30 (fun k_10 => gP (F_X1_seatByTime w i0 i0 k_10) (fun w_12 => gS (x1 + 1) (fun x1_13 => (F_X1_drawFinal_20 fu) w_12 i0 x1_13))))))) := rfl
theorem F_X1_drawFinal_20_z (w : gWd) (i0 : Nat) (x1 : Int32) : F_X1_drawFinal_20 0 w i0 x1 = none := rfl
def F_X1_drawFinal (w : gWd) (i0 : Nat) : Option (Int32 × gWd) := if (w i0 0 4) = 1 then (gP (F_X5_reasonToWait w i0) (fun v_16 => if v_16 = 0 then (F_X1_drawFinal_20 gFU w i0 0) else (some ((-1000002), w)))) else (some ((-1000002), w))
def F_X11_finals (w : gWd) : Option (Int32 × gWd) := gP (F_X3_prepare w 0) (fun w_2 => gC (F_X1_drawFinal w_2 0) (fun v_4 w_5 => gC (F_X3_keepUnlessError w_5 v_4) (fun v_7 w_8 => some (v_7, w_8))))
def F_X8_shared_5 : Nat → gWd → Int32 → Int32 → Int32 → Int32 → Int32 → Option Int32
  | 0 => fun _ _ _ _ _ _ => none
  | fu + 1 => fun w x0 x1 x2 x3 x4 => (fun rec5 : gWd → Int32 → Int32 → Int32 → Int32 → Int32 → Option Int32 => if (x0 + x1) ≤ x4 then (if 1 ≤ x1 then (gD x1 (some (((2 * x3) / x1)))) else (some 0)) else (if x4 = 1 then (gS ((x3 + (((x2 - x4) + 1) + 1))) (fun x3_7 => gS (x4 + 1) (fun x4_8 => rec5 w x0 x1 x2 x3_7 x4_8))) else (gS ((x3 + (((x2 - x4) + 1) + 0))) (fun x3_5 => gS (x4 + 1) (fun x4_6 => rec5 w x0 x1 x2 x3_5 x4_6))))) (F_X8_shared_5 fu)
theorem F_X8_shared_5_s (fu : Nat) (w : gWd) (x0 : Int32) (x1 : Int32) (x2 : Int32) (x3 : Int32) (x4 : Int32) : F_X8_shared_5 (fu + 1) w x0 x1 x2 x3 x4 = (if (x0 + x1) ≤ x4 then (if 1 ≤ x1 then (gD x1 (some (((2 * x3) / x1)))) else (some 0)) else (if x4 = 1 then (gS ((x3 + (((x2 - x4) + 1) + 1))) (fun x3_7 => gS (x4 + 1) (fun x4_8 => (F_X8_shared_5 fu) w x0 x1 x2 x3_7 x4_8))) else (gS ((x3 + (((x2 - x4) + 1) + 0))) (fun x3_5 => gS (x4 + 1) (fun x4_6 => (F_X8_shared_5 fu) w x0 x1 x2 x3_5 x4_6))))) := rfl
theorem F_X8_shared_5_z (w : gWd) (x0 : Int32) (x1 : Int32) (x2 : Int32) (x3 : Int32) (x4 : Int32) : F_X8_shared_5 0 w x0 x1 x2 x3 x4 = none := rfl
def F_X8_shared (w : gWd) (x0 : Int32) (x1 : Int32) (x2 : Int32) : Option Int32 := F_X8_shared_5 gFU w x0 x1 x2 0 x0
def F_X8_place (w : gWd) (i0 : Nat) (i1 : Nat) (n1 : Nat) : Option gWd := if 0 < (w i1 (4 + n1) 8) then (gP (F_X5_fasterThan w i0 ((w i1 (4 + n1) 8))) (fun v_3 => gS (up3 w i1 (4 + n1) 9 ((v_3 + 1))) (fun w_4 => gP (F_X5_fasterThan w_4 i0 (((w_4 i1 (4 + n1) 8) + 1))) (fun v_6 => gP (F_X5_fasterThan w_4 i0 ((w_4 i1 (4 + n1) 8))) (fun v_8 => gS ((v_6 - v_8)) (fun x2_9 => gP (F_X5_lanes w_4 i0) (fun v_11 => gP (F_X8_shared w_4 ((w_4 i1 (4 + n1) 9)) x2_9 v_11) (fun v_13 => gS (up3 w_4 i1 (4 + n1) 10 (((w_4 i1 (4 + n1) 10) + v_13))) (fun w_14 => some w_14))))))))) else (some w)
def F_X1_endEvent_22 : Nat → gWd → Nat → Int32 → Int32 → Option (Int32 × gWd)
  | 0 => fun _ _ _ _ => none
  | fu + 1 => fun w i0 x1 x2 => (fun rec22 : gWd → Nat → Int32 → Int32 → Option (Int32 × gWd) => if (w i0 0 3) ≤ x2 then (gS (up3 w i0 0 4 3) (fun w_2 => gS (up3 w_2 i0 0 8 (((w_2 i0 0 8) + 1))) (fun w_3 => some (x1, w_3)))) else (gB x2 30 (fun k_5 => gP (F_X8_place w i0 i0 k_5) (fun w_7 => gB x2 30 (fun k_9 => if (w_7 i0 (4 + k_9) 9) = 1 then (gS ((x1 ||| (1 <<< (x2 &&& 31)))) (fun x1_12 => gS (x2 + 1) (fun x2_13 => rec22 w_7 i0 x1_12 x2_13))) else (gS (x2 + 1) (fun x2_11 => rec22 w_7 i0 x1 x2_11))))))) (F_X1_endEvent_22 fu)
theorem F_X1_endEvent_22_s (fu : Nat) (w : gWd) (i0 : Nat) (x1 : Int32) (x2 : Int32) : F_X1_endEvent_22 (fu + 1) w i0 x1 x2 = (if (w i0 0 3) ≤ x2 then (gS (up3 w i0 0 4 3) (fun w_2 => gS (up3 w_2 i0 0 8 (((w_2 i0 0 8) + 1))) (fun w_3 => some (x1, w_3)))) else (gB x2 30 (fun k_5 => gP (F_X8_place w i0 i0 k_5) (fun w_7 => gB x2 30 (fun k_9 => if (w_7 i0 (4 + k_9) 9) = 1 then (gS ((x1 ||| (1 <<< (x2 &&& 31)))) (fun x1_12 => gS (x2 + 1) (fun x2_13 => (F_X1_endEvent_22 fu) w_7 i0 x1_12 x2_13))) else (gS (x2 + 1) (fun x2_11 => (F_X1_endEvent_22 fu) w_7 i0 x1 x2_11))))))) := rfl
theorem F_X1_endEvent_22_z (w : gWd) (i0 : Nat) (x1 : Int32) (x2 : Int32) : F_X1_endEvent_22 0 w i0 x1 x2 = none := rfl
def F_X1_endEvent (w : gWd) (i0 : Nat) : Option (Int32 × gWd) := if (w i0 0 4) = 2 then (gP (F_X5_reasonToWait w i0) (fun v_16 => if v_16 = 0 then (F_X1_endEvent_22 gFU w i0 0 0) else (some ((-1000002), w)))) else (some ((-1000002), w))
def F_X11_end (w : gWd) : Option (Int32 × gWd) := gP (F_X3_prepare w 0) (fun w_2 => gC (F_X1_endEvent w_2 0) (fun v_4 w_5 => gC (F_X3_keepUnlessError w_5 v_4) (fun v_7 w_8 => some (v_7, w_8))))
def F_X10_bestTime_48 (w : gWd) (i0 : Nat) (n0 : Nat) : Option Int32 := gS ((w i0 (4 + n0) 8)) (fun x1_5 => some x1_5)
def F_X10_bestTime_29 (w : gWd) (i0 : Nat) (n0 : Nat) (x1 : Int32) : Option Int32 := if (w i0 (4 + n0) 8) ≤ 0 then (some x1) else (if x1 = 0 then (F_X10_bestTime_48 w i0 n0) else (if x1 ≤ (w i0 (4 + n0) 8) then (some x1) else (F_X10_bestTime_48 w i0 n0)))
def F_X10_bestTime_24 (w : gWd) (i0 : Nat) (n0 : Nat) : Option Int32 := gS ((w i0 (4 + n0) 6)) (fun x1_1 => F_X10_bestTime_29 w i0 n0 x1_1)
def F_X10_bestTime (w : gWd) (i0 : Nat) (n0 : Nat) : Option Int32 := gS ((w i0 (4 + n0) 2)) (fun x1_6 => if (w i0 (4 + n0) 6) ≤ 0 then (F_X10_bestTime_29 w i0 n0 x1_6) else (if x1_6 = 0 then (F_X10_bestTime_24 w i0 n0) else (if x1_6 ≤ (w i0 (4 + n0) 6) then (F_X10_bestTime_29 w i0 n0 x1_6) else (F_X10_bestTime_24 w i0 n0))))
def F_X1_beginNextEvent_54 (rec15 : gWd → Nat → Int32 → Int32 → Option (Int32 × gWd)) (w : gWd) (i0 : Nat) (x1 : Int32) (x2 : Int32) (i3 : Nat) (n3 : Nat) : Option (Int32 × gWd) := gP (F_X10_forgetEvent w i3 n3) (fun w_13 => gS (x2 + 1) (fun x2_14 => rec15 w_13 i0 x1 x2_14))
def F_X1_beginNextEvent_15 : Nat → gWd → Nat → Int32 → Int32 → Option (Int32 × gWd)
  | 0 => fun _ _ _ _ => none
  | fu + 1 => fun w i0 x1 x2 => (fun rec15 : gWd → Nat → Int32 → Int32 → Option (Int32 × gWd) => if (w i0 0 3) ≤ x2 then (gS (up3 w i0 0 5 0) (fun w_2 => gS (up3 w_2 i0 0 6 0) (fun w_3 => gS (up3 w_3 i0 0 4 0) (fun w_4 => some (x1, w_4))))) else (gB x2 30 (fun k_6 => gP (F_X10_bestTime w i0 k_6) (fun v_8 => if v_8 = (w i0 (4 + k_6) 2) then (F_X1_beginNextEvent_54 rec15 w i0 x1 x2 i0 k_6) else (gS (up3 w i0 (4 + k_6) 2 v_8) (fun w_10 => gS (x1 + 1) (fun x1_11 => F_X1_beginNextEvent_54 rec15 w_10 i0 x1_11 x2 i0 k_6))))))) (F_X1_beginNextEvent_15 fu)
theorem F_X1_beginNextEvent_15_s (fu : Nat) (w : gWd) (i0 : Nat) (x1 : Int32) (x2 : Int32) : F_X1_beginNextEvent_15 (fu + 1) w i0 x1 x2 = (if (w i0 0 3) ≤ x2 then (gS (up3 w i0 0 5 0) (fun w_2 => gS (up3 w_2 i0 0 6 0) (fun w_3 => gS (up3 w_3 i0 0 4 0) (fun w_4 => some (x1, w_4))))) else (gB x2 30 (fun k_6 => gP (F_X10_bestTime w i0 k_6) (fun v_8 => if v_8 = (w i0 (4 + k_6) 2) then (F_X1_beginNextEvent_54 (F_X1_beginNextEvent_15 fu) w i0 x1 x2 i0 k_6) else (gS (up3 w i0 (4 + k_6) 2 v_8) (fun w_10 => gS (x1 + 1) (fun x1_11 => F_X1_beginNextEvent_54 (F_X1_beginNextEvent_15 fu) w_10 i0 x1_11 x2 i0 k_6))))))) := rfl
theorem F_X1_beginNextEvent_15_z (w : gWd) (i0 : Nat) (x1 : Int32) (x2 : Int32) : F_X1_beginNextEvent_15 0 w i0 x1 x2 = none := rfl
def F_X1_beginNextEvent (w : gWd) (i0 : Nat) : Option (Int32 × gWd) := if (w i0 0 4) = 3 then (F_X1_beginNextEvent_15 gFU w i0 0 0) else (some ((-1000002), w))
def F_X11_next (w : gWd) : Option (Int32 × gWd) := gP (F_X3_prepare w 0) (fun w_2 => gC (F_X1_beginNextEvent w_2 0) (fun v_4 w_5 => gC (F_X3_keepUnlessError w_5 v_4) (fun v_7 w_8 => some (v_7, w_8))))
def F_X0_aboveZero (w : gWd) (x0 : Int32) : Option Int32 := if x0 ≤ 0 then (some (-1000004)) else (some x0)
def F_X0_ofSwimmer (w : gWd) (i0 : Nat) (i1 : Nat) (n1 : Nat) (x2 : Int32) : Option Int32 := if x2 = 0 then (some ((w i1 (4 + n1) 1))) else (if x2 = 1 then (some ((w i1 (4 + n1) 2))) else (if x2 = 2 then (if (w i1 (4 + n1) 3) = 0 then (gP (F_X5_rankByEntry w i0 i1 n1) (fun v_6 => some v_6)) else (some (-1000004))) else (if x2 = 3 then (if (w i1 (4 + n1) 4) = (-1) then (some (-1000004)) else (some ((w i1 (4 + n1) 4)))) else (if x2 = 4 then (gP (F_X0_aboveZero w ((w i1 (4 + n1) 5))) (fun v_11 => some v_11)) else (if x2 = 5 then (if (w i1 (4 + n1) 6) = (-1) then (some (-1000004)) else (some ((w i1 (4 + n1) 6)))) else (if x2 = 6 then (if (w i1 (4 + n1) 6) ≤ 0 then (some (-1000004)) else (gP (F_X5_rankByHeatTime w i0 i1 n1) (fun v_17 => some v_17))) else (if x2 = 7 then (gP (F_X0_aboveZero w ((w i1 (4 + n1) 7))) (fun v_20 => some v_20)) else (if x2 = 8 then (if (w i1 (4 + n1) 8) = (-1) then (some (-1000004)) else (some ((w i1 (4 + n1) 8)))) else (if x2 = 9 then (gP (F_X0_aboveZero w ((w i1 (4 + n1) 9))) (fun v_25 => some v_25)) else (if x2 = 10 then (if (w i1 (4 + n1) 3) = 0 then (some 0) else (some 1)) else (some ((w i1 (4 + n1) 10)))))))))))))
def F_X11_swimmer (w : gWd) (x1 : Int32) (x2 : Int32) : Option Int32 := gP (F_X5_has w 0 x1) (fun v_2 => if v_2 = 0 then (some (-1000001)) else (if x2 < 0 then (some (-1000001)) else (if x2 ≤ 11 then (gB x1 30 (fun k_7 => gP (F_X0_ofSwimmer w 0 0 k_7 x2) (fun v_9 => some v_9))) else (some (-1000001)))))
def F_X10_isIn (w : gWd) (i0 : Nat) (n0 : Nat) (x1 : Int32) : Option Int32 := if x1 = (-1) then (if (w i0 (4 + n0) 7) = 0 then (some 0) else (some 1)) else (if (w i0 (4 + n0) 4) = x1 then (some 1) else (some 0))
def F_X10_laneOf (w : gWd) (i0 : Nat) (n0 : Nat) (x1 : Int32) : Option Int32 := if x1 = (-1) then (some ((w i0 (4 + n0) 7))) else (some ((w i0 (4 + n0) 5)))
def F_X0_inLane_2 : Nat → gWd → Nat → Int32 → Int32 → Int32 → Option Int32
  | 0 => fun _ _ _ _ _ => none
  | fu + 1 => fun w i0 x1 x2 x3 => (fun rec2 : gWd → Nat → Int32 → Int32 → Int32 → Option Int32 => if (w i0 0 3) ≤ x3 then (some (-1000004)) else (gB x3 30 (fun k_3 => gP (F_X10_isIn w i0 k_3 x1) (fun v_5 => if v_5 = 0 then (gS (x3 + 1) (fun x3_7 => rec2 w i0 x1 x2 x3_7)) else (gP (F_X10_laneOf w i0 k_3 x1) (fun v_9 => if v_9 = x2 then (some x3) else (gS (x3 + 1) (fun x3_11 => rec2 w i0 x1 x2 x3_11)))))))) (F_X0_inLane_2 fu)
theorem F_X0_inLane_2_s (fu : Nat) (w : gWd) (i0 : Nat) (x1 : Int32) (x2 : Int32) (x3 : Int32) : F_X0_inLane_2 (fu + 1) w i0 x1 x2 x3 = (if (w i0 0 3) ≤ x3 then (some (-1000004)) else (gB x3 30 (fun k_3 => gP (F_X10_isIn w i0 k_3 x1) (fun v_5 => if v_5 = 0 then (gS (x3 + 1) (fun x3_7 => (F_X0_inLane_2 fu) w i0 x1 x2 x3_7)) else (gP (F_X10_laneOf w i0 k_3 x1) (fun v_9 => if v_9 = x2 then (some x3) else (gS (x3 + 1) (fun x3_11 => (F_X0_inLane_2 fu) w i0 x1 x2 x3_11)))))))) := rfl
theorem F_X0_inLane_2_z (w : gWd) (i0 : Nat) (x1 : Int32) (x2 : Int32) (x3 : Int32) : F_X0_inLane_2 0 w i0 x1 x2 x3 = none := rfl
def F_X0_inLane (w : gWd) (i0 : Nat) (x1 : Int32) (x2 : Int32) : Option Int32 := F_X0_inLane_2 gFU w i0 x1 x2 0
def F_X5_hasHeat_37 (w : gWd) : Option Int32 := some 0
def F_X5_hasHeat (w : gWd) (i0 : Nat) (x1 : Int32) : Option Int32 := if x1 = (-1) then (if (w i0 0 4) < 2 then (some 0) else (some 1)) else (if x1 < 0 then (F_X5_hasHeat_37 w) else (if (w i0 0 5) ≤ x1 then (F_X5_hasHeat_37 w) else (some 1)))
def F_X11_at (w : gWd) (x1 : Int32) (x2 : Int32) : Option Int32 := gP (F_X5_hasHeat w 0 x1) (fun v_2 => if v_2 = 0 then (some (-1000001)) else (if x2 < 1 then (some (-1000001)) else (gP (F_X5_lanes w 0) (fun v_6 => if x2 ≤ v_6 then (gP (F_X0_inLane w 0 x1 x2) (fun v_9 => some v_9)) else (some (-1000001))))))
def F_X10_timeOf (w : gWd) (i0 : Nat) (n0 : Nat) (x1 : Int32) : Option Int32 := if x1 = (-1) then (some ((w i0 (4 + n0) 8))) else (some ((w i0 (4 + n0) 6)))
def F_X0_countIn_46 (rec5 : gWd → Nat → Int32 → Int32 → Int32 → Int32 → Option Int32) (w : gWd) (i0 : Nat) (x1 : Int32) (x2 : Int32) (x3 : Int32) (x4 : Int32) : Option Int32 := gS (x3 + 1) (fun x3_13 => gS (x4 + 1) (fun x4_14 => rec5 w i0 x1 x2 x3_13 x4_14))
def F_X0_countIn_5 : Nat → gWd → Nat → Int32 → Int32 → Int32 → Int32 → Option Int32
  | 0 => fun _ _ _ _ _ _ => none
  | fu + 1 => fun w i0 x1 x2 x3 x4 => (fun rec5 : gWd → Nat → Int32 → Int32 → Int32 → Int32 → Option Int32 => if (w i0 0 3) ≤ x4 then (some x3) else (gB x4 30 (fun k_3 => gP (F_X10_isIn w i0 k_3 x1) (fun v_5 => if v_5 = 0 then (gS (x4 + 1) (fun x4_7 => rec5 w i0 x1 x2 x3 x4_7)) else (if x2 = 0 then (F_X0_countIn_46 rec5 w i0 x1 x2 x3 x4) else (gP (F_X10_timeOf w i0 k_3 x1) (fun v_10 => if v_10 = (-1) then (gS (x4 + 1) (fun x4_12 => rec5 w i0 x1 x2 x3 x4_12)) else (F_X0_countIn_46 rec5 w i0 x1 x2 x3 x4)))))))) (F_X0_countIn_5 fu)
theorem F_X0_countIn_5_s (fu : Nat) (w : gWd) (i0 : Nat) (x1 : Int32) (x2 : Int32) (x3 : Int32) (x4 : Int32) : F_X0_countIn_5 (fu + 1) w i0 x1 x2 x3 x4 = (if (w i0 0 3) ≤ x4 then (some x3) else (gB x4 30 (fun k_3 => gP (F_X10_isIn w i0 k_3 x1) (fun v_5 => if v_5 = 0 then (gS (x4 + 1) (fun x4_7 => (F_X0_countIn_5 fu) w i0 x1 x2 x3 x4_7)) else (if x2 = 0 then (F_X0_countIn_46 (F_X0_countIn_5 fu) w i0 x1 x2 x3 x4) else (gP (F_X10_timeOf w i0 k_3 x1) (fun v_10 => if v_10 = (-1) then (gS (x4 + 1) (fun x4_12 => (F_X0_countIn_5 fu) w i0 x1 x2 x3 x4_12)) else (F_X0_countIn_46 (F_X0_countIn_5 fu) w i0 x1 x2 x3 x4)))))))) := rfl
theorem F_X0_countIn_5_z (w : gWd) (i0 : Nat) (x1 : Int32) (x2 : Int32) (x3 : Int32) (x4 : Int32) : F_X0_countIn_5 0 w i0 x1 x2 x3 x4 = none := rfl
def F_X0_countIn (w : gWd) (i0 : Nat) (x1 : Int32) (x2 : Int32) : Option Int32 := F_X0_countIn_5 gFU w i0 x1 x2 0 0
def F_X0_greatestEntryIn_4 : Nat → gWd → Nat → Int32 → Int32 → Int32 → Option Int32
  | 0 => fun _ _ _ _ _ => none
  | fu + 1 => fun w i0 x1 x2 x3 => (fun rec4 : gWd → Nat → Int32 → Int32 → Int32 → Option Int32 => if (w i0 0 3) ≤ x3 then (gP (F_X0_aboveZero w x2) (fun v_3 => some v_3)) else (gB x3 30 (fun k_5 => gP (F_X10_isIn w i0 k_5 x1) (fun v_7 => if v_7 = 0 then (gS (x3 + 1) (fun x3_9 => rec4 w i0 x1 x2 x3_9)) else (gB x3 30 (fun k_11 => if (w i0 (4 + k_11) 2) ≤ x2 then (gS (x3 + 1) (fun x3_13 => rec4 w i0 x1 x2 x3_13)) else (gB x3 30 (fun k_15 => gS ((w i0 (4 + k_15) 2)) (fun x2_16 => gS (x3 + 1) (fun x3_17 => rec4 w i0 x1 x2_16 x3_17)))))))))) (F_X0_greatestEntryIn_4 fu)
theorem F_X0_greatestEntryIn_4_s (fu : Nat) (w : gWd) (i0 : Nat) (x1 : Int32) (x2 : Int32) (x3 : Int32) : F_X0_greatestEntryIn_4 (fu + 1) w i0 x1 x2 x3 = (if (w i0 0 3) ≤ x3 then (gP (F_X0_aboveZero w x2) (fun v_3 => some v_3)) else (gB x3 30 (fun k_5 => gP (F_X10_isIn w i0 k_5 x1) (fun v_7 => if v_7 = 0 then (gS (x3 + 1) (fun x3_9 => (F_X0_greatestEntryIn_4 fu) w i0 x1 x2 x3_9)) else (gB x3 30 (fun k_11 => if (w i0 (4 + k_11) 2) ≤ x2 then (gS (x3 + 1) (fun x3_13 => (F_X0_greatestEntryIn_4 fu) w i0 x1 x2 x3_13)) else (gB x3 30 (fun k_15 => gS ((w i0 (4 + k_15) 2)) (fun x2_16 => gS (x3 + 1) (fun x3_17 => (F_X0_greatestEntryIn_4 fu) w i0 x1 x2_16 x3_17)))))))))) := rfl
theorem F_X0_greatestEntryIn_4_z (w : gWd) (i0 : Nat) (x1 : Int32) (x2 : Int32) (x3 : Int32) : F_X0_greatestEntryIn_4 0 w i0 x1 x2 x3 = none := rfl
def F_X0_greatestEntryIn (w : gWd) (i0 : Nat) (x1 : Int32) : Option Int32 := F_X0_greatestEntryIn_4 gFU w i0 x1 0 0
def F_X0_leastIn_67 (rec5 : gWd → Nat → Int32 → Int32 → Int32 → Int32 → Option Int32) (w : gWd) (i0 : Nat) (x1 : Int32) (x2 : Int32) (x4 : Int32) (x6 : Int32) : Option Int32 := gS (x4 + 1) (fun x4_18 => rec5 w i0 x1 x2 x6 x4_18)
def F_X0_leastIn_41 (rec5 : gWd → Nat → Int32 → Int32 → Int32 → Int32 → Option Int32) (w : gWd) (i0 : Nat) (x1 : Int32) (x2 : Int32) (x3 : Int32) (x4 : Int32) (i5 : Nat) (n5 : Nat) (xs0 : Int32) : Option Int32 := gP (F_X10_isIn w i5 n5 x1) (fun v_10 => if v_10 = 0 then (gS (x4 + 1) (fun x4_12 => rec5 w i0 x1 x2 x3 x4_12)) else (if xs0 ≤ 0 then (gS (x4 + 1) (fun x4_14 => rec5 w i0 x1 x2 x3 x4_14)) else (if x3 = 0 then (F_X0_leastIn_67 rec5 w i0 x1 x2 x4 xs0) else (if x3 ≤ xs0 then (gS (x4 + 1) (fun x4_17 => rec5 w i0 x1 x2 x3 x4_17)) else (F_X0_leastIn_67 rec5 w i0 x1 x2 x4 xs0)))))
def F_X0_leastIn_5 : Nat → gWd → Nat → Int32 → Int32 → Int32 → Int32 → Option Int32
  | 0 => fun _ _ _ _ _ _ => none
  | fu + 1 => fun w i0 x1 x2 x3 x4 => (fun rec5 : gWd → Nat → Int32 → Int32 → Int32 → Int32 → Option Int32 => if (w i0 0 3) ≤ x4 then (gP (F_X0_aboveZero w x3) (fun v_3 => some v_3)) else (gB x4 30 (fun k_5 => if x2 = 0 then (F_X0_leastIn_41 rec5 w i0 x1 x2 x3 x4 i0 k_5 ((w i0 (4 + k_5) 2))) else (gP (F_X10_timeOf w i0 k_5 x1) (fun v_8 => F_X0_leastIn_41 rec5 w i0 x1 x2 x3 x4 i0 k_5 v_8))))) (F_X0_leastIn_5 fu)
theorem F_X0_leastIn_5_s (fu : Nat) (w : gWd) (i0 : Nat) (x1 : Int32) (x2 : Int32) (x3 : Int32) (x4 : Int32) : F_X0_leastIn_5 (fu + 1) w i0 x1 x2 x3 x4 = (if (w i0 0 3) ≤ x4 then (gP (F_X0_aboveZero w x3) (fun v_3 => some v_3)) else (gB x4 30 (fun k_5 => if x2 = 0 then (F_X0_leastIn_41 (F_X0_leastIn_5 fu) w i0 x1 x2 x3 x4 i0 k_5 ((w i0 (4 + k_5) 2))) else (gP (F_X10_timeOf w i0 k_5 x1) (fun v_8 => F_X0_leastIn_41 (F_X0_leastIn_5 fu) w i0 x1 x2 x3 x4 i0 k_5 v_8))))) := rfl
theorem F_X0_leastIn_5_z (w : gWd) (i0 : Nat) (x1 : Int32) (x2 : Int32) (x3 : Int32) (x4 : Int32) : F_X0_leastIn_5 0 w i0 x1 x2 x3 x4 = none := rfl
def F_X0_leastIn (w : gWd) (i0 : Nat) (x1 : Int32) (x2 : Int32) : Option Int32 := F_X0_leastIn_5 gFU w i0 x1 x2 0 0
def F_X0_ofHeat (w : gWd) (i0 : Nat) (x1 : Int32) (x2 : Int32) : Option Int32 := if x2 = 0 then (gP (F_X0_countIn w i0 x1 0) (fun v_3 => some v_3)) else (if x2 = 1 then (gP (F_X0_countIn w i0 x1 1) (fun v_6 => some v_6)) else (if x2 = 2 then (gP (F_X0_leastIn w i0 x1 0) (fun v_9 => some v_9)) else (if x2 = 3 then (gP (F_X0_greatestEntryIn w i0 x1) (fun v_12 => some v_12)) else (gP (F_X0_leastIn w i0 x1 1) (fun v_14 => some v_14)))))
def F_X11_heat (w : gWd) (x1 : Int32) (x2 : Int32) : Option Int32 := gP (F_X5_hasHeat w 0 x1) (fun v_2 => if v_2 = 0 then (some (-1000001)) else (if x2 < 0 then (some (-1000001)) else (if x2 ≤ 4 then (gP (F_X0_ofHeat w 0 x1 x2) (fun v_7 => some v_7)) else (some (-1000001)))))
def F_X11_reserve (w : gWd) (x1 : Int32) : Option Int32 := if 0 ≤ x1 then (gP (F_X5_freeReserve w 0 x1) (fun v_3 => some v_3)) else (some (-1000001))
def F_X8_ofClub_4 : Nat → gWd → Nat → Int32 → Int32 → Int32 → Option Int32
  | 0 => fun _ _ _ _ _ => none
  | fu + 1 => fun w i0 x1 x2 x3 => (fun rec4 : gWd → Nat → Int32 → Int32 → Int32 → Option Int32 => if (w i0 0 3) ≤ x3 then (some x2) else (gB x3 30 (fun k_3 => if (w i0 (4 + k_3) 1) = x1 then (gB x3 30 (fun k_7 => gS ((x2 + (w i0 (4 + k_7) 10))) (fun x2_8 => gS (x3 + 1) (fun x3_9 => rec4 w i0 x1 x2_8 x3_9)))) else (gS (x3 + 1) (fun x3_5 => rec4 w i0 x1 x2 x3_5))))) (F_X8_ofClub_4 fu)
theorem F_X8_ofClub_4_s (fu : Nat) (w : gWd) (i0 : Nat) (x1 : Int32) (x2 : Int32) (x3 : Int32) : F_X8_ofClub_4 (fu + 1) w i0 x1 x2 x3 = (if (w i0 0 3) ≤ x3 then (some x2) else (gB x3 30 (fun k_3 => if (w i0 (4 + k_3) 1) = x1 then (gB x3 30 (fun k_7 => gS ((x2 + (w i0 (4 + k_7) 10))) (fun x2_8 => gS (x3 + 1) (fun x3_9 => (F_X8_ofClub_4 fu) w i0 x1 x2_8 x3_9)))) else (gS (x3 + 1) (fun x3_5 => (F_X8_ofClub_4 fu) w i0 x1 x2 x3_5))))) := rfl
theorem F_X8_ofClub_4_z (w : gWd) (i0 : Nat) (x1 : Int32) (x2 : Int32) (x3 : Int32) : F_X8_ofClub_4 0 w i0 x1 x2 x3 = none := rfl
def F_X8_ofClub (w : gWd) (i0 : Nat) (x1 : Int32) : Option Int32 := F_X8_ofClub_4 gFU w i0 x1 0 0
def F_X11_points_10 (w : gWd) : Option Int32 := some (-1000001)
def F_X11_points (w : gWd) (x1 : Int32) : Option Int32 := if x1 < 0 then (F_X11_points_10 w) else (if x1 < 6 then (gP (F_X8_ofClub w 0 x1) (fun v_4 => some v_4)) else (F_X11_points_10 w))
def F_X11_ifDrawn (w : gWd) (x1 : Int32) (x2 : Int32) : Option (Int32 × gWd) := gP (F_X5_has w 0 x1) (fun v_2 => if v_2 = 0 then (some ((-1000001), w)) else (if x2 < 0 then (some ((-1000001), w)) else (if x2 ≤ 2 then (if (w 0 0 4) = 0 then (gB x1 30 (fun k_8 => if (w 0 (4 + k_8) 3) = 0 then (gP (F_X5_copyFrom w 1 0) (fun w_11 => gC (F_X1_drawHeats w_11 1) (fun v_13 w_14 => if x2 = 2 then (some (v_13, w_14)) else (if x2 = 0 then (gB x1 30 (fun k_20 => some ((w_14 1 (4 + k_20) 4), w_14))) else (gB x1 30 (fun k_18 => some ((w_14 1 (4 + k_18) 5), w_14))))))) else (some ((-1000002), w)))) else (some ((-1000002), w))) else (some ((-1000001), w)))))
def F_X4_rankOf (w : gWd) (x0 : Int32) (x1 : Int32) : Option Int32 := gS (((x1 + 1) / 2)) (fun x2_1 => if x0 ≤ x2_1 then (some ((2 * (x2_1 - x0)))) else (some (((2 * (x0 - x2_1)) - 1))))
def F_X11_lane (w : gWd) (x1 : Int32) (x2 : Int32) : Option Int32 := if x1 < 0 then (some (-1000001)) else (gP (F_X5_lanes w 0) (fun v_3 => if v_3 ≤ x1 then (some (-1000001)) else (if x2 < 0 then (some (-1000001)) else (if x2 ≤ 1 then (if x2 = 0 then (gP (F_X5_lanes w 0) (fun v_13 => gP (F_X4_ofRank w x1 v_13) (fun v_15 => some v_15))) else (gP (F_X5_lanes w 0) (fun v_9 => gP (F_X4_rankOf w ((x1 + 1)) v_9) (fun v_11 => some v_11)))) else (some (-1000001))))))
def F_X11_why (w : gWd) : Option Int32 := gP (F_X5_reasonToWait w 0) (fun v_2 => some v_2)
def F_X11_missing (w : gWd) (x1 : Int32) : Option Int32 := if 0 ≤ x1 then (gP (F_X5_stillToSwim w 0 x1) (fun v_3 => some v_3)) else (some (-1000001))
def F_X8_clubsAhead_44 (rec11 : gWd → Nat → Int32 → Int32 → Int32 → Int32 → Option Int32) (w : gWd) (i0 : Nat) (x1 : Int32) (x2 : Int32) (x3 : Int32) (x4 : Int32) : Option Int32 := gS (x3 + 1) (fun x3_9 => gS (x4 + 1) (fun x4_10 => rec11 w i0 x1 x2 x3_9 x4_10))
def F_X8_clubsAhead_11 : Nat → gWd → Nat → Int32 → Int32 → Int32 → Int32 → Option Int32
  | 0 => fun _ _ _ _ _ _ => none
  | fu + 1 => fun w i0 x1 x2 x3 x4 => (fun rec11 : gWd → Nat → Int32 → Int32 → Int32 → Int32 → Option Int32 => if 6 ≤ x4 then (some x3) else (gP (F_X8_ofClub w i0 x4) (fun v_3 => if x2 < v_3 then (F_X8_clubsAhead_44 rec11 w i0 x1 x2 x3 x4) else (if v_3 = x2 then (if x1 ≤ x4 then (gS (x4 + 1) (fun x4_8 => rec11 w i0 x1 x2 x3 x4_8)) else (F_X8_clubsAhead_44 rec11 w i0 x1 x2 x3 x4)) else (gS (x4 + 1) (fun x4_6 => rec11 w i0 x1 x2 x3 x4_6)))))) (F_X8_clubsAhead_11 fu)
theorem F_X8_clubsAhead_11_s (fu : Nat) (w : gWd) (i0 : Nat) (x1 : Int32) (x2 : Int32) (x3 : Int32) (x4 : Int32) : F_X8_clubsAhead_11 (fu + 1) w i0 x1 x2 x3 x4 = (if 6 ≤ x4 then (some x3) else (gP (F_X8_ofClub w i0 x4) (fun v_3 => if x2 < v_3 then (F_X8_clubsAhead_44 (F_X8_clubsAhead_11 fu) w i0 x1 x2 x3 x4) else (if v_3 = x2 then (if x1 ≤ x4 then (gS (x4 + 1) (fun x4_8 => (F_X8_clubsAhead_11 fu) w i0 x1 x2 x3 x4_8)) else (F_X8_clubsAhead_44 (F_X8_clubsAhead_11 fu) w i0 x1 x2 x3 x4)) else (gS (x4 + 1) (fun x4_6 => (F_X8_clubsAhead_11 fu) w i0 x1 x2 x3 x4_6)))))) := rfl
theorem F_X8_clubsAhead_11_z (w : gWd) (i0 : Nat) (x1 : Int32) (x2 : Int32) (x3 : Int32) (x4 : Int32) : F_X8_clubsAhead_11 0 w i0 x1 x2 x3 x4 = none := rfl
def F_X8_clubsAhead (w : gWd) (i0 : Nat) (x1 : Int32) : Option Int32 := gP (F_X8_ofClub w i0 x1) (fun v_12 => F_X8_clubsAhead_11 gFU w i0 x1 v_12 0 0)
def F_X8_clubAtRank_2 : Nat → gWd → Nat → Int32 → Int32 → Option Int32
  | 0 => fun _ _ _ _ => none
  | fu + 1 => fun w i0 x1 x2 => (fun rec2 : gWd → Nat → Int32 → Int32 → Option Int32 => if 6 ≤ x2 then (some (-1000004)) else (gP (F_X8_clubsAhead w i0 x2) (fun v_3 => if v_3 = x1 then (some x2) else (gS (x2 + 1) (fun x2_5 => rec2 w i0 x1 x2_5))))) (F_X8_clubAtRank_2 fu)
theorem F_X8_clubAtRank_2_s (fu : Nat) (w : gWd) (i0 : Nat) (x1 : Int32) (x2 : Int32) : F_X8_clubAtRank_2 (fu + 1) w i0 x1 x2 = (if 6 ≤ x2 then (some (-1000004)) else (gP (F_X8_clubsAhead w i0 x2) (fun v_3 => if v_3 = x1 then (some x2) else (gS (x2 + 1) (fun x2_5 => (F_X8_clubAtRank_2 fu) w i0 x1 x2_5))))) := rfl
theorem F_X8_clubAtRank_2_z (w : gWd) (i0 : Nat) (x1 : Int32) (x2 : Int32) : F_X8_clubAtRank_2 0 w i0 x1 x2 = none := rfl
def F_X8_clubAtRank (w : gWd) (i0 : Nat) (x1 : Int32) : Option Int32 := F_X8_clubAtRank_2 gFU w i0 x1 0
def F_X11_leader_10 (w : gWd) : Option Int32 := some (-1000001)
def F_X11_leader (w : gWd) (x1 : Int32) : Option Int32 := if x1 < 0 then (F_X11_leader_10 w) else (if x1 < 6 then (gP (F_X8_clubAtRank w 0 x1) (fun v_4 => some v_4)) else (F_X11_leader_10 w))
def F_X0_bitsOf_26 (w : gWd) (f1 : UInt32) (x2 : Int32) : Option Int32 := gN (FP.fsub f1 FP.fconst1) (gN (FP.fmul (FP.fsub f1 FP.fconst1) 1258291200) (some ((((x2 + 127) <<< (23 &&& 31)) ||| (FP.f2i (FP.fmul (FP.fsub f1 FP.fconst1) 1258291200))))))
def F_X0_bitsOf_4 : Nat → gWd → UInt32 → Int32 → Option Int32
  | 0 => fun _ _ _ => none
  | fu + 1 => fun w f1 x2 => (fun rec4 : gWd → UInt32 → Int32 → Option Int32 => if (Op.cmpValue (FP.fcmp f1 FP.fconst2) .l) < 0 then (F_X0_bitsOf_26 w f1 x2) else (if 30 ≤ x2 then (F_X0_bitsOf_26 w f1 x2) else (gN (FP.fdiv f1 FP.fconst2) (gS ((FP.fdiv f1 FP.fconst2)) (fun f1_4 => gS (x2 + 1) (fun x2_5 => rec4 w f1_4 x2_5)))))) (F_X0_bitsOf_4 fu)
theorem F_X0_bitsOf_4_s (fu : Nat) (w : gWd) (f1 : UInt32) (x2 : Int32) : F_X0_bitsOf_4 (fu + 1) w f1 x2 = (if (Op.cmpValue (FP.fcmp f1 FP.fconst2) .l) < 0 then (F_X0_bitsOf_26 w f1 x2) else (if 30 ≤ x2 then (F_X0_bitsOf_26 w f1 x2) else (gN (FP.fdiv f1 FP.fconst2) (gS ((FP.fdiv f1 FP.fconst2)) (fun f1_4 => gS (x2 + 1) (fun x2_5 => (F_X0_bitsOf_4 fu) w f1_4 x2_5)))))) := rfl
theorem F_X0_bitsOf_4_z (w : gWd) (f1 : UInt32) (x2 : Int32) : F_X0_bitsOf_4 0 w f1 x2 = none := rfl
def F_X0_bitsOf (w : gWd) (f0 : UInt32) : Option Int32 := F_X0_bitsOf_4 gFU w f0 0
def F_X0_meanBits_16 : Nat → gWd → Nat → Int32 → Int32 → Int32 → Option Int32
  | 0 => fun _ _ _ _ _ => none
  | fu + 1 => fun w i0 x1 x2 x3 => (fun rec16 : gWd → Nat → Int32 → Int32 → Int32 → Option Int32 => if (w i0 0 3) ≤ x3 then (gN (FP.fdiv (FP.i2f x2) (FP.i2f x1)) (gP (F_X0_bitsOf w ((FP.fdiv (FP.i2f x2) (FP.i2f x1)))) (fun v_4 => some v_4))) else (gB x3 30 (fun k_6 => gP (F_X5_stageTime w i0 i0 k_6) (fun v_8 => if v_8 ≤ 0 then (gS (x3 + 1) (fun x3_10 => rec16 w i0 x1 x2 x3_10)) else (gS ((x2 + v_8)) (fun x2_11 => gS (x3 + 1) (fun x3_12 => rec16 w i0 x1 x2_11 x3_12))))))) (F_X0_meanBits_16 fu)
theorem F_X0_meanBits_16_s (fu : Nat) (w : gWd) (i0 : Nat) (x1 : Int32) (x2 : Int32) (x3 : Int32) : F_X0_meanBits_16 (fu + 1) w i0 x1 x2 x3 = (if (w i0 0 3) ≤ x3 then (gN (FP.fdiv (FP.i2f x2) (FP.i2f x1)) (gP (F_X0_bitsOf w ((FP.fdiv (FP.i2f x2) (FP.i2f x1)))) (fun v_4 => some v_4))) else (gB x3 30 (fun k_6 => gP (F_X5_stageTime w i0 i0 k_6) (fun v_8 => if v_8 ≤ 0 then (gS (x3 + 1) (fun x3_10 => (F_X0_meanBits_16 fu) w i0 x1 x2 x3_10)) else (gS ((x2 + v_8)) (fun x2_11 => gS (x3 + 1) (fun x3_12 => (F_X0_meanBits_16 fu) w i0 x1 x2_11 x3_12))))))) := rfl
theorem F_X0_meanBits_16_z (w : gWd) (i0 : Nat) (x1 : Int32) (x2 : Int32) (x3 : Int32) : F_X0_meanBits_16 0 w i0 x1 x2 x3 = none := rfl
def F_X0_meanBits (w : gWd) (i0 : Nat) : Option Int32 := gP (F_X5_timesAboveZero w i0) (fun v_14 => if v_14 = 0 then (some (-1000004)) else (F_X0_meanBits_16 gFU w i0 v_14 0 0))
def F_X11_mean (w : gWd) : Option Int32 := gP (F_X0_meanBits w 0) (fun v_2 => some v_2)
def F_X0_freeReserves_2 : Nat → gWd → Nat → Int32 → Option Int32
  | 0 => fun _ _ _ => none
  | fu + 1 => fun w i0 x1 => (fun rec2 : gWd → Nat → Int32 → Option Int32 => if 4 ≤ x1 then (some x1) else (gP (F_X5_freeReserve w i0 x1) (fun v_3 => if v_3 = (-1000004) then (some x1) else (gS (x1 + 1) (fun x1_5 => rec2 w i0 x1_5))))) (F_X0_freeReserves_2 fu)
theorem F_X0_freeReserves_2_s (fu : Nat) (w : gWd) (i0 : Nat) (x1 : Int32) : F_X0_freeReserves_2 (fu + 1) w i0 x1 = (if 4 ≤ x1 then (some x1) else (gP (F_X5_freeReserve w i0 x1) (fun v_3 => if v_3 = (-1000004) then (some x1) else (gS (x1 + 1) (fun x1_5 => (F_X0_freeReserves_2 fu) w i0 x1_5))))) := rfl
theorem F_X0_freeReserves_2_z (w : gWd) (i0 : Nat) (x1 : Int32) : F_X0_freeReserves_2 0 w i0 x1 = none := rfl
def F_X0_freeReserves (w : gWd) (i0 : Nat) : Option Int32 := F_X0_freeReserves_2 gFU w i0 0
def F_X0_scratchedSet_4 : Nat → gWd → Nat → Int32 → Int32 → Option Int32
  | 0 => fun _ _ _ _ => none
  | fu + 1 => fun w i0 x1 x2 => (fun rec4 : gWd → Nat → Int32 → Int32 → Option Int32 => if (w i0 0 3) ≤ x2 then (some x1) else (gB x2 30 (fun k_3 => if (w i0 (4 + k_3) 3) = 0 then (gS (x2 + 1) (fun x2_5 => rec4 w i0 x1 x2_5)) else (gS ((x1 ||| (1 <<< (x2 &&& 31)))) (fun x1_6 => gS (x2 + 1) (fun x2_7 => rec4 w i0 x1_6 x2_7)))))) (F_X0_scratchedSet_4 fu)
theorem F_X0_scratchedSet_4_s (fu : Nat) (w : gWd) (i0 : Nat) (x1 : Int32) (x2 : Int32) : F_X0_scratchedSet_4 (fu + 1) w i0 x1 x2 = (if (w i0 0 3) ≤ x2 then (some x1) else (gB x2 30 (fun k_3 => if (w i0 (4 + k_3) 3) = 0 then (gS (x2 + 1) (fun x2_5 => (F_X0_scratchedSet_4 fu) w i0 x1 x2_5)) else (gS ((x1 ||| (1 <<< (x2 &&& 31)))) (fun x1_6 => gS (x2 + 1) (fun x2_7 => (F_X0_scratchedSet_4 fu) w i0 x1_6 x2_7)))))) := rfl
theorem F_X0_scratchedSet_4_z (w : gWd) (i0 : Nat) (x1 : Int32) (x2 : Int32) : F_X0_scratchedSet_4 0 w i0 x1 x2 = none := rfl
def F_X0_scratchedSet (w : gWd) (i0 : Nat) : Option Int32 := F_X0_scratchedSet_4 gFU w i0 0 0
def F_X0_timesOfEvent_28 (rec4 : gWd → Nat → Int32 → Int32 → Option Int32) (w : gWd) (i0 : Nat) (x1 : Int32) (x2 : Int32) : Option Int32 := gB x2 30 (fun k_7 => if (w i0 (4 + k_7) 8) = (-1) then (gS (x2 + 1) (fun x2_9 => rec4 w i0 x1 x2_9)) else (gS (x1 + 1) (fun x1_10 => gS (x2 + 1) (fun x2_11 => rec4 w i0 x1_10 x2_11))))
def F_X0_timesOfEvent_4 : Nat → gWd → Nat → Int32 → Int32 → Option Int32
  | 0 => fun _ _ _ _ => none
  | fu + 1 => fun w i0 x1 x2 => (fun rec4 : gWd → Nat → Int32 → Int32 → Option Int32 => if (w i0 0 3) ≤ x2 then (some x1) else (gB x2 30 (fun k_3 => if (w i0 (4 + k_3) 6) = (-1) then (F_X0_timesOfEvent_28 rec4 w i0 x1 x2) else (gS (x1 + 1) (fun x1_5 => F_X0_timesOfEvent_28 rec4 w i0 x1_5 x2))))) (F_X0_timesOfEvent_4 fu)
theorem F_X0_timesOfEvent_4_s (fu : Nat) (w : gWd) (i0 : Nat) (x1 : Int32) (x2 : Int32) : F_X0_timesOfEvent_4 (fu + 1) w i0 x1 x2 = (if (w i0 0 3) ≤ x2 then (some x1) else (gB x2 30 (fun k_3 => if (w i0 (4 + k_3) 6) = (-1) then (F_X0_timesOfEvent_28 (F_X0_timesOfEvent_4 fu) w i0 x1 x2) else (gS (x1 + 1) (fun x1_5 => F_X0_timesOfEvent_28 (F_X0_timesOfEvent_4 fu) w i0 x1_5 x2))))) := rfl
theorem F_X0_timesOfEvent_4_z (w : gWd) (i0 : Nat) (x1 : Int32) (x2 : Int32) : F_X0_timesOfEvent_4 0 w i0 x1 x2 = none := rfl
def F_X0_timesOfEvent (w : gWd) (i0 : Nat) : Option Int32 := F_X0_timesOfEvent_4 gFU w i0 0 0
def F_X8_ofAllClubs_4 : Nat → gWd → Nat → Int32 → Int32 → Option Int32
  | 0 => fun _ _ _ _ => none
  | fu + 1 => fun w i0 x1 x2 => (fun rec4 : gWd → Nat → Int32 → Int32 → Option Int32 => if (w i0 0 3) ≤ x2 then (some x1) else (gB x2 30 (fun k_3 => gS ((x1 + (w i0 (4 + k_3) 10))) (fun x1_4 => gS (x2 + 1) (fun x2_5 => rec4 w i0 x1_4 x2_5))))) (F_X8_ofAllClubs_4 fu)
theorem F_X8_ofAllClubs_4_s (fu : Nat) (w : gWd) (i0 : Nat) (x1 : Int32) (x2 : Int32) : F_X8_ofAllClubs_4 (fu + 1) w i0 x1 x2 = (if (w i0 0 3) ≤ x2 then (some x1) else (gB x2 30 (fun k_3 => gS ((x1 + (w i0 (4 + k_3) 10))) (fun x1_4 => gS (x2 + 1) (fun x2_5 => (F_X8_ofAllClubs_4 fu) w i0 x1_4 x2_5))))) := rfl
theorem F_X8_ofAllClubs_4_z (w : gWd) (i0 : Nat) (x1 : Int32) (x2 : Int32) : F_X8_ofAllClubs_4 0 w i0 x1 x2 = none := rfl
def F_X8_ofAllClubs (w : gWd) (i0 : Nat) : Option Int32 := F_X8_ofAllClubs_4 gFU w i0 0 0
def F_X0_ofMeet (w : gWd) (i0 : Nat) (x1 : Int32) : Option Int32 := if x1 = 0 then (some ((w i0 0 4))) else (if x1 = 1 then (some ((w i0 0 3))) else (if x1 = 2 then (gP (F_X0_scratchedSet w i0) (fun v_5 => some v_5)) else (if x1 = 3 then (some ((w i0 0 5))) else (if x1 = 4 then (gP (F_X5_finalSet w i0) (fun v_9 => some v_9)) else (if x1 = 5 then (gP (F_X0_freeReserves w i0) (fun v_12 => some v_12)) else (if x1 = 6 then (gP (F_X0_timesOfEvent w i0) (fun v_15 => some v_15)) else (if x1 = 7 then (some ((w i0 0 8))) else (if x1 = 8 then (gP (F_X0_aboveZero w ((w i0 0 9))) (fun v_19 => some v_19)) else (if x1 = 9 then (if (w i0 0 9) ≤ 0 then (some (-1000004)) else (some ((w i0 0 10)))) else (if x1 = 10 then (some ((w i0 0 7))) else (if x1 = 11 then (gP (F_X8_ofAllClubs w i0) (fun v_25 => some v_25)) else (some (-1000001)))))))))))))
def F_X11_count_53 (w : gWd) (x1 : Int32) : Option Int32 := gP (F_X0_ofMeet w 0 x1) (fun v_2 => some v_2)
def F_X11_count (w : gWd) (x1 : Int32) : Option Int32 := if x1 = 12 then (some ((w 7 1 1))) else (if x1 = 13 then (some ((w 7 3 1))) else (if x1 < 20 then (F_X11_count_53 w x1) else (if 23 ≤ x1 then (F_X11_count_53 w x1) else (gB ((x1 - 20)) 3 (fun k_8 => some ((w 0 1 k_8)))))))
def F_X3_restoreInto (w : gWd) (i1 : Nat) : Option (Int32 × gWd) := if (w 7 1 1) < 1 then (some ((-1000002), w)) else (if (w 7 1 1) ≤ 4 then (gS (up3 w 7 1 1 (((w 7 1 1) - 1))) (fun w_3 => gB ((w_3 7 1 1)) 5 (fun k_5 => gM ((w_3 7 2 k_5).toNatClampNeg) 7 (gP (F_X5_copyFrom w_3 i1 (((w_3 7 2 k_5).toNatClampNeg))) (fun w_8 => some ((w_8 7 1 1), w_8)))))) else (some ((-1000002), w)))
def F_X11_undo (w : gWd) : Option (Int32 × gWd) := gC (F_X3_restoreInto w 0) (fun v_2 w_3 => some (v_2, w_3))
def F_X6_append (w : gWd) (x1 : Int32) : Option (Int32 × gWd) := if (w 7 3 1) < 60 then (gB ((w 7 3 1)) 60 (fun k_3 => gS (up3 w 7 4 k_3 x1) (fun w_4 => gS (up3 w_4 7 3 1 (((w_4 7 3 1) + 1))) (fun w_5 => some ((w_5 7 3 1), w_5))))) else (some ((-1000003), w))
def F_X11_type (w : gWd) (x1 : Int32) : Option (Int32 × gWd) := if x1 < 32 then (some ((-1000001), w)) else (if x1 ≤ 126 then (gC (F_X6_append w x1) (fun v_4 w_5 => some (v_4, w_5))) else (some ((-1000001), w)))
def F_X6_empty (w : gWd) : Option (Int32 × gWd) := gS ((w 7 3 1)) (fun x1_1 => gS (up3 w 7 3 1 0) (fun w_2 => some (x1_1, w_2)))
def F_X11_clearText (w : gWd) : Option (Int32 × gWd) := gC (F_X6_empty w) (fun v_2 w_3 => some (v_2, w_3))
def F_X6_hasMore (w : gWd) : Option Int32 := if (w 7 3 1) ≤ (w 7 3 3) then (some 0) else (some 1)
def F_X6_numbersOf (w : gWd) (x1 : Int32) : Option Int32 := if x1 = 100 then (some 0) else (if x1 = 101 then (some 2) else (if x1 = 102 then (some 0) else (if x1 = 110 then (some 0) else (if x1 = 111 then (some 0) else (if x1 = 115 then (some 2) else (if x1 = 120 then (some 1) else (some (-1))))))))
def F_X6_signHere_39 (w : gWd) : Option Int32 := some 0
def F_X6_signHere (w : gWd) : Option Int32 := if (w 7 3 3) < 0 then (F_X6_signHere_39 w) else (if (w 7 3 1) ≤ (w 7 3 3) then (F_X6_signHere_39 w) else (if 60 ≤ (w 7 3 3) then (F_X6_signHere_39 w) else (gB ((w 7 3 3)) 60 (fun k_5 => some ((w 7 4 k_5))))))
def F_X6_readNumber_65 (w : gWd) (x1 : Int32) : Option (Int32 × gWd) := if x1 ≤ 0 then (some (0, w)) else (some (1, w))
def F_X6_readNumber_7 : Nat → gWd → Int32 → Option (Int32 × gWd)
  | 0 => fun _ _ => none
  | fu + 1 => fun w x1 => (fun rec7 : gWd → Int32 → Option (Int32 × gWd) => if 3 ≤ x1 then (F_X6_readNumber_65 w x1) else (gP (F_X6_signHere w) (fun v_3 => if v_3 < 48 then (F_X6_readNumber_65 w x1) else (gP (F_X6_signHere w) (fun v_6 => if 57 < v_6 then (F_X6_readNumber_65 w x1) else (gP (F_X6_signHere w) (fun v_9 => gS (up3 w 7 3 7 (((((w 7 3 7) * 10) + v_9) - 48))) (fun w_10 => gS (up3 w_10 7 3 3 (((w_10 7 3 3) + 1))) (fun w_11 => gS (x1 + 1) (fun x1_12 => rec7 w_11 x1_12)))))))))) (F_X6_readNumber_7 fu)
theorem F_X6_readNumber_7_s (fu : Nat) (w : gWd) (x1 : Int32) : F_X6_readNumber_7 (fu + 1) w x1 = (if 3 ≤ x1 then (F_X6_readNumber_65 w x1) else (gP (F_X6_signHere w) (fun v_3 => if v_3 < 48 then (F_X6_readNumber_65 w x1) else (gP (F_X6_signHere w) (fun v_6 => if 57 < v_6 then (F_X6_readNumber_65 w x1) else (gP (F_X6_signHere w) (fun v_9 => gS (up3 w 7 3 7 (((((w 7 3 7) * 10) + v_9) - 48))) (fun w_10 => gS (up3 w_10 7 3 3 (((w_10 7 3 3) + 1))) (fun w_11 => gS (x1 + 1) (fun x1_12 => (F_X6_readNumber_7 fu) w_11 x1_12)))))))))) := rfl
theorem F_X6_readNumber_7_z (w : gWd) (x1 : Int32) : F_X6_readNumber_7 0 w x1 = none := rfl
def F_X6_readNumber (w : gWd) : Option (Int32 × gWd) := gS (up3 w 7 3 7 0) (fun w_14 => F_X6_readNumber_7 gFU w_14 0)
def F_X6_readSign (w : gWd) (x1 : Int32) : Option (Int32 × gWd) := gP (F_X6_signHere w) (fun v_2 => if v_2 = x1 then (gS (up3 w 7 3 3 (((w 7 3 3) + 1))) (fun w_4 => some (1, w_4))) else (some (0, w)))
def F_X6_readOrder_85 (w : gWd) : Option (Int32 × gWd) := gS (up3 w 7 3 6 ((w 7 3 7))) (fun w_11 => gC (F_X6_readSign w_11 59) (fun v_13 w_14 => gZ v_13 (some (v_13, w_14))))
def F_X6_readOrder_54 (w : gWd) (x1 : Int32) : Option (Int32 × gWd) := gS (up3 w 7 3 5 ((w 7 3 7))) (fun w_1 => if x1 ≤ 1 then (F_X6_readOrder_85 w_1) else (gC (F_X6_readSign w_1 44) (fun v_4 w_5 => if v_4 = 0 then (some (0, w_5)) else (gC (F_X6_readNumber w_5) (fun v_8 w_9 => if v_8 = 0 then (some (0, w_9)) else (F_X6_readOrder_85 w_9))))))
def F_X6_readOrder (w : gWd) : Option (Int32 × gWd) := gS (up3 w 7 3 2 ((w 7 3 3))) (fun w_16 => gP (F_X6_signHere w_16) (fun v_18 => gS (up3 w_16 7 3 4 v_18) (fun w_19 => gP (F_X6_numbersOf w_19 ((w_19 7 3 4))) (fun v_21 => if 0 ≤ v_21 then (gS (up3 w_19 7 3 3 (((w_19 7 3 3) + 1))) (fun w_23 => if v_21 ≤ 0 then (F_X6_readOrder_54 w_23 v_21) else (gC (F_X6_readNumber w_23) (fun v_26 w_27 => if v_26 = 0 then (some (0, w_27)) else (F_X6_readOrder_54 w_27 v_21))))) else (some (0, w_19))))))
def F_X6_rewind (w : gWd) : Option gWd := gS (up3 w 7 3 3 0) (fun w_1 => some w_1)
def F_X7_obey (w : gWd) (i2 : Nat) : Option (Int32 × gWd) := if (w 7 3 4) = 100 then (gC (F_X1_drawHeats w i2) (fun v_3 w_4 => some (v_3, w_4))) else (if (w 7 3 4) = 101 then (gC (F_X1_addSwimmer w i2 ((w 7 3 5)) ((w 7 3 6))) (fun v_7 w_8 => some (v_7, w_8))) else (if (w 7 3 4) = 102 then (gC (F_X1_drawFinal w i2) (fun v_11 w_12 => some (v_11, w_12))) else (if (w 7 3 4) = 110 then (gC (F_X1_beginNextEvent w i2) (fun v_15 w_16 => some (v_15, w_16))) else (if (w 7 3 4) = 111 then (gC (F_X1_endEvent w i2) (fun v_19 w_20 => some (v_19, w_20))) else (if (w 7 3 4) = 115 then (gC (F_X1_giveTime w i2 ((w 7 3 5)) ((w 7 3 6))) (fun v_23 w_24 => some (v_23, w_24))) else (if (w 7 3 4) = 120 then (gC (F_X1_withdraw w i2 ((w 7 3 5))) (fun v_27 w_28 => some (v_27, w_28))) else (some ((-1000002), w))))))))
def F_X7_tryOrders_116 (rec22 : gWd → Nat → Int32 → Option gWd) (w : gWd) (i3 : Nat) (x4 : Int32) (x6 : Int32) (xs0 : Int32) : Option gWd := gS (up3 w 7 5 2 xs0) (fun w_19 => gS (up3 w_19 7 5 3 x6) (fun w_20 => gS (x4 + 1) (fun x4_21 => rec22 w_20 i3 x4_21)))
def F_X7_tryOrders_97 (rec22 : gWd → Nat → Int32 → Option gWd) (w : gWd) (i3 : Nat) (x4 : Int32) (x5 : Int32) (x6 : Int32) : Option gWd := gS (up3 w 7 5 1 ((w 7 3 2))) (fun w_17 => if x5 = 0 then (F_X7_tryOrders_116 rec22 w_17 i3 x4 x6 1) else (F_X7_tryOrders_116 rec22 w_17 i3 x4 x6 2))
def F_X7_tryOrders_72 (rec22 : gWd → Nat → Int32 → Option gWd) (w : gWd) (i3 : Nat) (x4 : Int32) (x5 : Int32) (xs0 : Int32) : Option gWd := if x5 = 0 then (F_X7_tryOrders_97 rec22 w i3 x4 x5 xs0) else (if xs0 < 0 then (F_X7_tryOrders_97 rec22 w i3 x4 x5 xs0) else (gS (up3 w 7 5 0 (((w 7 5 0) + 1))) (fun w_15 => gS (x4 + 1) (fun x4_16 => rec22 w_15 i3 x4_16))))
def F_X7_tryOrders_22 : Nat → gWd → Nat → Int32 → Option gWd
  | 0 => fun _ _ _ => none
  | fu + 1 => fun w i3 x4 => (fun rec22 : gWd → Nat → Int32 → Option gWd => if 60 ≤ x4 then (some w) else (if (w 7 5 2) = 0 then (gP (F_X6_hasMore w) (fun v_4 => if v_4 = 0 then (some w) else (gC (F_X6_readOrder w) (fun v_7 w_8 => if v_7 = 0 then (F_X7_tryOrders_72 rec22 w_8 i3 x4 v_7 (((w_8 7 3 3) - (w_8 7 3 2)))) else (gC (F_X7_obey w_8 i3) (fun v_11 w_12 => F_X7_tryOrders_72 rec22 w_12 i3 x4 v_7 v_11)))))) else (some w))) (F_X7_tryOrders_22 fu)
theorem F_X7_tryOrders_22_s (fu : Nat) (w : gWd) (i3 : Nat) (x4 : Int32) : F_X7_tryOrders_22 (fu + 1) w i3 x4 = (if 60 ≤ x4 then (some w) else (if (w 7 5 2) = 0 then (gP (F_X6_hasMore w) (fun v_4 => if v_4 = 0 then (some w) else (gC (F_X6_readOrder w) (fun v_7 w_8 => if v_7 = 0 then (F_X7_tryOrders_72 (F_X7_tryOrders_22 fu) w_8 i3 x4 v_7 (((w_8 7 3 3) - (w_8 7 3 2)))) else (gC (F_X7_obey w_8 i3) (fun v_11 w_12 => F_X7_tryOrders_72 (F_X7_tryOrders_22 fu) w_12 i3 x4 v_7 v_11)))))) else (some w))) := rfl
theorem F_X7_tryOrders_22_z (w : gWd) (i3 : Nat) (x4 : Int32) : F_X7_tryOrders_22 0 w i3 x4 = none := rfl
def F_X7_tryOrders (w : gWd) (i2 : Nat) (i3 : Nat) : Option gWd := gP (F_X5_copyFrom w i3 i2) (fun w_23 => gS (up3 w_23 7 5 0 0) (fun w_24 => gS (up3 w_24 7 5 2 0) (fun w_25 => gP (F_X6_rewind w_25) (fun w_27 => F_X7_tryOrders_22 gFU w_27 i3 0))))
def F_X11_fault (w : gWd) (x1 : Int32) : Option (Int32 × gWd) := if x1 < 0 then (some ((-1000001), w)) else (if x1 ≤ 2 then (gP (F_X7_tryOrders w 0 1) (fun w_4 => if (w_4 7 5 2) = 0 then (some ((-1000004), w_4)) else (if x1 = 0 then (some ((w_4 7 5 1), w_4)) else (if x1 = 1 then (some ((w_4 7 5 2), w_4)) else (some ((w_4 7 5 3), w_4)))))) else (some ((-1000001), w)))
def F_X11_play (w : gWd) : Option (Int32 × gWd) := gP (F_X7_tryOrders w 0 1) (fun w_2 => if (w_2 7 5 2) = 0 then (gP (F_X3_prepare w_2 0) (fun w_5 => gP (F_X5_copyFrom w_5 0 1) (fun w_7 => gC (F_X3_keepUnlessError w_7 ((w_7 7 5 0))) (fun v_9 w_10 => some (v_9, w_10))))) else (some ((-1000002), w_2)))
def F_X12_in_14 (w : gWd) : Option Int32 := some 0
def F_X12_in (w : gWd) (x0 : Int32) (x1 : Int32) (x2 : Int32) : Option Int32 := if x0 < x1 then (F_X12_in_14 w) else (if x2 < x0 then (F_X12_in_14 w) else (some 1))
def F_X12_copies_2 : Nat → gWd → Nat → Nat → Int32 → Option gWd
  | 0 => fun _ _ _ _ => none
  | fu + 1 => fun w r0 r1 x2 => (fun rec2 : gWd → Nat → Nat → Int32 → Option gWd => if 320 ≤ x2 then (some w) else (gB x2 320 (fun k_3 => gB x2 320 (fun k_5 => gS (up3 w 8 r1 k_5 ((w 8 r0 k_3))) (fun w_6 => gS (x2 + 1) (fun x2_7 => rec2 w_6 r0 r1 x2_7)))))) (F_X12_copies_2 fu)
theorem F_X12_copies_2_s (fu : Nat) (w : gWd) (r0 : Nat) (r1 : Nat) (x2 : Int32) : F_X12_copies_2 (fu + 1) w r0 r1 x2 = (if 320 ≤ x2 then (some w) else (gB x2 320 (fun k_3 => gB x2 320 (fun k_5 => gS (up3 w 8 r1 k_5 ((w 8 r0 k_3))) (fun w_6 => gS (x2 + 1) (fun x2_7 => (F_X12_copies_2 fu) w_6 r0 r1 x2_7)))))) := rfl
theorem F_X12_copies_2_z (w : gWd) (r0 : Nat) (r1 : Nat) (x2 : Int32) : F_X12_copies_2 0 w r0 r1 x2 = none := rfl
def F_X12_copies (w : gWd) (r0 : Nat) (r1 : Nat) : Option gWd := F_X12_copies_2 gFU w r0 r1 0
def F_X12_changes_59 : Nat → gWd → Int32 → Option gWd
  | 0 => fun _ _ => none
  | fu + 1 => fun w x1 => (fun rec59 : gWd → Int32 → Option gWd => if 320 ≤ x1 then (gS (up3 w 8 0 3 (((w 8 0 3) + 1))) (fun w_10 => some w_10)) else (gB x1 320 (fun k_12 => gB (((320 * (w 8 0 3)) + x1)) 1280 (fun k_14 => gS (up3 w 8 2 k_14 ((w 8 1 k_12))) (fun w_15 => gS (x1 + 1) (fun x1_16 => rec59 w_15 x1_16)))))) (F_X12_changes_59 fu)
theorem F_X12_changes_59_s (fu : Nat) (w : gWd) (x1 : Int32) : F_X12_changes_59 (fu + 1) w x1 = (if 320 ≤ x1 then (gS (up3 w 8 0 3 (((w 8 0 3) + 1))) (fun w_10 => some w_10)) else (gB x1 320 (fun k_12 => gB (((320 * (w 8 0 3)) + x1)) 1280 (fun k_14 => gS (up3 w 8 2 k_14 ((w 8 1 k_12))) (fun w_15 => gS (x1 + 1) (fun x1_16 => (F_X12_changes_59 fu) w_15 x1_16)))))) := rfl
theorem F_X12_changes_59_z (w : gWd) (x1 : Int32) : F_X12_changes_59 0 w x1 = none := rfl
def F_X12_changes_18 : Nat → gWd → Int32 → Option gWd
  | 0 => fun _ _ => none
  | fu + 1 => fun w x1 => (fun rec18 : gWd → Int32 → Option gWd => if 960 ≤ x1 then (gS (up3 w 8 0 3 (((w 8 0 3) - 1))) (fun w_2 => F_X12_changes_59 gFU w_2 0)) else (gB ((x1 + 320)) 1280 (fun k_4 => gB x1 1280 (fun k_6 => gS (up3 w 8 2 k_6 ((w 8 2 k_4))) (fun w_7 => gS (x1 + 1) (fun x1_8 => rec18 w_7 x1_8)))))) (F_X12_changes_18 fu)
theorem F_X12_changes_18_s (fu : Nat) (w : gWd) (x1 : Int32) : F_X12_changes_18 (fu + 1) w x1 = (if 960 ≤ x1 then (gS (up3 w 8 0 3 (((w 8 0 3) - 1))) (fun w_2 => F_X12_changes_59 gFU w_2 0)) else (gB ((x1 + 320)) 1280 (fun k_4 => gB x1 1280 (fun k_6 => gS (up3 w 8 2 k_6 ((w 8 2 k_4))) (fun w_7 => gS (x1 + 1) (fun x1_8 => (F_X12_changes_18 fu) w_7 x1_8)))))) := rfl
theorem F_X12_changes_18_z (w : gWd) (x1 : Int32) : F_X12_changes_18 0 w x1 = none := rfl
def F_X12_changes (w : gWd) : Option gWd := if (w 8 0 4) = 0 then (if (w 8 0 3) = 4 then (F_X12_changes_18 gFU w 0) else (F_X12_changes_59 gFU w 0)) else (some w)
def F_X12_of (w : gWd) (x1 : Int32) (x2 : Int32) : Option Int32 := gB (((10 * x1) + x2)) 320 (fun k_2 => some ((w 8 1 k_2)))
def F_X12_lay (w : gWd) (x1 : Int32) (x2 : Int32) (x3 : Int32) : Option gWd := gB (((10 * x1) + x2)) 320 (fun k_2 => gS (up3 w 8 1 k_2 x3) (fun w_3 => some w_3))
def F_X12_isSwimmer (w : gWd) (x1 : Int32) : Option Int32 := gP (F_X12_in w x1 0 (((w 8 1 311) - 1))) (fun v_2 => gZ v_2 (some v_2))
def F_X12_isGone (w : gWd) (x1 : Int32) : Option Int32 := gP (F_X12_of w x1 2) (fun v_2 => if v_2 = 1 then (some 1) else (some 0))
def F_X12_lanes (w : gWd) : Option Int32 := some ((w 8 1 317))
def F_X12_entryKey (w : gWd) (x1 : Int32) : Option Int32 := gP (F_X12_of w x1 1) (fun v_2 => if v_2 = 0 then (some (((32 * 1000) + x1))) else (some (((32 * v_2) + x1))))
def F_X12_entryRank_42 (rec4 : gWd → Int32 → Int32 → Int32 → Option Int32) (w : gWd) (x1 : Int32) (x3 : Int32) (xs0 : Int32) : Option Int32 := gS ((xs0 + 0)) (fun x2_12 => gS (x3 + 1) (fun x3_13 => rec4 w x1 x2_12 x3_13))
def F_X12_entryRank_4 : Nat → gWd → Int32 → Int32 → Int32 → Option Int32
  | 0 => fun _ _ _ _ => none
  | fu + 1 => fun w x1 x2 x3 => (fun rec4 : gWd → Int32 → Int32 → Int32 → Option Int32 => if (w 8 1 311) ≤ x3 then (some x2) else (gP (F_X12_isGone w x3) (fun v_3 => if v_3 = 0 then (gP (F_X12_entryKey w x3) (fun v_6 => gP (F_X12_entryKey w x1) (fun v_8 => if v_8 ≤ v_6 then (F_X12_entryRank_42 rec4 w x1 x3 x2) else (gS ((x2 + 1)) (fun x2_10 => gS (x3 + 1) (fun x3_11 => rec4 w x1 x2_10 x3_11)))))) else (F_X12_entryRank_42 rec4 w x1 x3 x2)))) (F_X12_entryRank_4 fu)
theorem F_X12_entryRank_4_s (fu : Nat) (w : gWd) (x1 : Int32) (x2 : Int32) (x3 : Int32) : F_X12_entryRank_4 (fu + 1) w x1 x2 x3 = (if (w 8 1 311) ≤ x3 then (some x2) else (gP (F_X12_isGone w x3) (fun v_3 => if v_3 = 0 then (gP (F_X12_entryKey w x3) (fun v_6 => gP (F_X12_entryKey w x1) (fun v_8 => if v_8 ≤ v_6 then (F_X12_entryRank_42 (F_X12_entryRank_4 fu) w x1 x3 x2) else (gS ((x2 + 1)) (fun x2_10 => gS (x3 + 1) (fun x3_11 => (F_X12_entryRank_4 fu) w x1 x2_10 x3_11)))))) else (F_X12_entryRank_42 (F_X12_entryRank_4 fu) w x1 x3 x2)))) := rfl
theorem F_X12_entryRank_4_z (w : gWd) (x1 : Int32) (x2 : Int32) (x3 : Int32) : F_X12_entryRank_4 0 w x1 x2 x3 = none := rfl
def F_X12_entryRank (w : gWd) (x1 : Int32) : Option Int32 := F_X12_entryRank_4 gFU w x1 0 0
def F_X12_hasTime (w : gWd) (x1 : Int32) : Option Int32 := gP (F_X12_of w x1 5) (fun v_2 => if v_2 ≤ 1 then (some 0) else (some 1))
def F_X12_isFaster_35 (w : gWd) : Option Int32 := some 1
def F_X12_isFaster_39 (w : gWd) : Option Int32 := some 0
def F_X12_isFaster (w : gWd) (x1 : Int32) (x2 : Int32) : Option Int32 := gP (F_X12_of w x1 5) (fun v_2 => gP (F_X12_of w x2 5) (fun v_4 => gS ((v_2 - v_4)) (fun x3_5 => if x3_5 < 0 then (F_X12_isFaster_35 w) else (if x3_5 = 0 then (gP (F_X12_entryKey w x1) (fun v_9 => gP (F_X12_entryKey w x2) (fun v_11 => if v_11 ≤ v_9 then (F_X12_isFaster_39 w) else (F_X12_isFaster_35 w)))) else (F_X12_isFaster_39 w)))))
def F_X12_timeRank_38 (rec4 : gWd → Int32 → Int32 → Int32 → Option Int32) (w : gWd) (x1 : Int32) (x3 : Int32) (xs0 : Int32) : Option Int32 := gS ((xs0 + 0)) (fun x2_10 => gS (x3 + 1) (fun x3_11 => rec4 w x1 x2_10 x3_11))
def F_X12_timeRank_4 : Nat → gWd → Int32 → Int32 → Int32 → Option Int32
  | 0 => fun _ _ _ _ => none
  | fu + 1 => fun w x1 x2 x3 => (fun rec4 : gWd → Int32 → Int32 → Int32 → Option Int32 => if (w 8 1 311) ≤ x3 then (some x2) else (gP (F_X12_hasTime w x3) (fun v_3 => if v_3 = 0 then (F_X12_timeRank_38 rec4 w x1 x3 x2) else (gP (F_X12_isFaster w x3 x1) (fun v_6 => if v_6 = 0 then (F_X12_timeRank_38 rec4 w x1 x3 x2) else (gS ((x2 + 1)) (fun x2_8 => gS (x3 + 1) (fun x3_9 => rec4 w x1 x2_8 x3_9)))))))) (F_X12_timeRank_4 fu)
theorem F_X12_timeRank_4_s (fu : Nat) (w : gWd) (x1 : Int32) (x2 : Int32) (x3 : Int32) : F_X12_timeRank_4 (fu + 1) w x1 x2 x3 = (if (w 8 1 311) ≤ x3 then (some x2) else (gP (F_X12_hasTime w x3) (fun v_3 => if v_3 = 0 then (F_X12_timeRank_38 (F_X12_timeRank_4 fu) w x1 x3 x2) else (gP (F_X12_isFaster w x3 x1) (fun v_6 => if v_6 = 0 then (F_X12_timeRank_38 (F_X12_timeRank_4 fu) w x1 x3 x2) else (gS ((x2 + 1)) (fun x2_8 => gS (x3 + 1) (fun x3_9 => (F_X12_timeRank_4 fu) w x1 x2_8 x3_9)))))))) := rfl
theorem F_X12_timeRank_4_z (w : gWd) (x1 : Int32) (x2 : Int32) (x3 : Int32) : F_X12_timeRank_4 0 w x1 x2 x3 = none := rfl
def F_X12_timeRank (w : gWd) (x1 : Int32) : Option Int32 := F_X12_timeRank_4 gFU w x1 0 0
def F_X12_laneOf (w : gWd) (x1 : Int32) : Option Int32 := gP (F_X12_lanes w) (fun v_2 => gS (((v_2 + 1) / 2)) (fun x2_3 => gS (((x1 + 1) / 2)) (fun x3_4 => if (x1 - x1 / 2 * 2) = 1 then (some ((x2_3 + x3_4))) else (some ((x2_3 - x3_4))))))
def F_X12_rankOf_2 : Nat → gWd → Int32 → Int32 → Option Int32
  | 0 => fun _ _ _ => none
  | fu + 1 => fun w x1 x2 => (fun rec2 : gWd → Int32 → Int32 → Option Int32 => gP (F_X12_laneOf w x2) (fun v_2 => if v_2 = x1 then (some x2) else (gS (x2 + 1) (fun x2_4 => rec2 w x1 x2_4)))) (F_X12_rankOf_2 fu)
theorem F_X12_rankOf_2_s (fu : Nat) (w : gWd) (x1 : Int32) (x2 : Int32) : F_X12_rankOf_2 (fu + 1) w x1 x2 = (gP (F_X12_laneOf w x2) (fun v_2 => if v_2 = x1 then (some x2) else (gS (x2 + 1) (fun x2_4 => (F_X12_rankOf_2 fu) w x1 x2_4)))) := rfl
theorem F_X12_rankOf_2_z (w : gWd) (x1 : Int32) (x2 : Int32) : F_X12_rankOf_2 0 w x1 x2 = none := rfl
def F_X12_rankOf (w : gWd) (x1 : Int32) : Option Int32 := F_X12_rankOf_2 gFU w x1 0
def F_X12_present_4 : Nat → gWd → Int32 → Int32 → Option Int32
  | 0 => fun _ _ _ => none
  | fu + 1 => fun w x1 x2 => (fun rec4 : gWd → Int32 → Int32 → Option Int32 => if (w 8 1 311) ≤ x2 then (some x1) else (gP (F_X12_isGone w x2) (fun v_3 => if v_3 = 0 then (gS ((x1 + 1)) (fun x1_5 => gS (x2 + 1) (fun x2_6 => rec4 w x1_5 x2_6))) else (gS ((x1 + 0)) (fun x1_7 => gS (x2 + 1) (fun x2_8 => rec4 w x1_7 x2_8)))))) (F_X12_present_4 fu)
theorem F_X12_present_4_s (fu : Nat) (w : gWd) (x1 : Int32) (x2 : Int32) : F_X12_present_4 (fu + 1) w x1 x2 = (if (w 8 1 311) ≤ x2 then (some x1) else (gP (F_X12_isGone w x2) (fun v_3 => if v_3 = 0 then (gS ((x1 + 1)) (fun x1_5 => gS (x2 + 1) (fun x2_6 => (F_X12_present_4 fu) w x1_5 x2_6))) else (gS ((x1 + 0)) (fun x1_7 => gS (x2 + 1) (fun x2_8 => (F_X12_present_4 fu) w x1_7 x2_8)))))) := rfl
theorem F_X12_present_4_z (w : gWd) (x1 : Int32) (x2 : Int32) : F_X12_present_4 0 w x1 x2 = none := rfl
def F_X12_present (w : gWd) : Option Int32 := F_X12_present_4 gFU w 0 0
def F_X12_sizeOf_5 : Nat → gWd → Int32 → Int32 → Int32 → Int32 → Option Int32
  | 0 => fun _ _ _ _ _ => none
  | fu + 1 => fun w x1 x2 x3 x4 => (fun rec5 : gWd → Int32 → Int32 → Int32 → Int32 → Option Int32 => if x2 ≤ x4 then (some x3) else (gB x4 30 (fun k_3 => if (w 8 5 k_3) = x1 then (gS ((x3 + 1)) (fun x3_7 => gS (x4 + 1) (fun x4_8 => rec5 w x1 x2 x3_7 x4_8))) else (gS ((x3 + 0)) (fun x3_5 => gS (x4 + 1) (fun x4_6 => rec5 w x1 x2 x3_5 x4_6)))))) (F_X12_sizeOf_5 fu)
theorem F_X12_sizeOf_5_s (fu : Nat) (w : gWd) (x1 : Int32) (x2 : Int32) (x3 : Int32) (x4 : Int32) : F_X12_sizeOf_5 (fu + 1) w x1 x2 x3 x4 = (if x2 ≤ x4 then (some x3) else (gB x4 30 (fun k_3 => if (w 8 5 k_3) = x1 then (gS ((x3 + 1)) (fun x3_7 => gS (x4 + 1) (fun x4_8 => (F_X12_sizeOf_5 fu) w x1 x2 x3_7 x4_8))) else (gS ((x3 + 0)) (fun x3_5 => gS (x4 + 1) (fun x4_6 => (F_X12_sizeOf_5 fu) w x1 x2 x3_5 x4_6)))))) := rfl
theorem F_X12_sizeOf_5_z (w : gWd) (x1 : Int32) (x2 : Int32) (x3 : Int32) (x4 : Int32) : F_X12_sizeOf_5 0 w x1 x2 x3 x4 = none := rfl
def F_X12_sizeOf (w : gWd) (x1 : Int32) (x2 : Int32) : Option Int32 := F_X12_sizeOf_5 gFU w x1 x2 0 0
def F_X12_heatFor (w : gWd) (x1 : Int32) (x2 : Int32) : Option Int32 := if 3 ≤ x2 then (gP (F_X12_lanes w) (fun v_3 => if (3 * v_3) ≤ x1 then (gP (F_X12_lanes w) (fun v_6 => gD v_6 (some (((x2 - 1) - (x1 / v_6)))))) else (some (((x2 - 1) - (x1 - x1 / 3 * 3)))))) else (if x2 = 1 then (some 0) else (some ((1 - (x1 - x1 / 2 * 2)))))
def F_X12_plans_74 : Nat → gWd → Int32 → Int32 → Int32 → Option (Int32 × gWd)
  | 0 => fun _ _ _ _ => none
  | fu + 1 => fun w x2 x3 x4 => (fun rec74 : gWd → Int32 → Int32 → Int32 → Option (Int32 × gWd) => if x4 < 0 then (some (x2, w)) else (if x3 ≤ 0 then (some (x2, w)) else (gB x4 30 (fun k_17 => if (w 8 5 k_17) = 1 then (gB x4 30 (fun k_21 => gS (up3 w 8 5 k_21 0) (fun w_22 => gS (x3 + (-1)) (fun x3_23 => gS (x4 + (-1)) (fun x4_24 => rec74 w_22 x2 x3_23 x4_24))))) else (gS (x4 + (-1)) (fun x4_19 => rec74 w x2 x3 x4_19)))))) (F_X12_plans_74 fu)
theorem F_X12_plans_74_s (fu : Nat) (w : gWd) (x2 : Int32) (x3 : Int32) (x4 : Int32) : F_X12_plans_74 (fu + 1) w x2 x3 x4 = (if x4 < 0 then (some (x2, w)) else (if x3 ≤ 0 then (some (x2, w)) else (gB x4 30 (fun k_17 => if (w 8 5 k_17) = 1 then (gB x4 30 (fun k_21 => gS (up3 w 8 5 k_21 0) (fun w_22 => gS (x3 + (-1)) (fun x3_23 => gS (x4 + (-1)) (fun x4_24 => (F_X12_plans_74 fu) w_22 x2 x3_23 x4_24))))) else (gS (x4 + (-1)) (fun x4_19 => (F_X12_plans_74 fu) w x2 x3 x4_19)))))) := rfl
theorem F_X12_plans_74_z (w : gWd) (x2 : Int32) (x3 : Int32) (x4 : Int32) : F_X12_plans_74 0 w x2 x3 x4 = none := rfl
def F_X12_plans_21 : Nat → gWd → Int32 → Int32 → Int32 → Option (Int32 × gWd)
  | 0 => fun _ _ _ _ => none
  | fu + 1 => fun w x1 x2 x3 => (fun rec21 : gWd → Int32 → Int32 → Int32 → Option (Int32 × gWd) => if x1 ≤ x3 then (if 4 ≤ x2 then (gP (F_X12_sizeOf w 0 x1) (fun v_4 => gS (((w 8 1 318) - v_4)) (fun x3_5 => gS ((x1 - 1)) (fun x4_6 => F_X12_plans_74 gFU w x2 x3_5 x4_6)))) else (gS ((x1 - 1)) (fun x4_7 => F_X12_plans_74 gFU w x2 0 x4_7))) else (gP (F_X12_heatFor w x3 x2) (fun v_9 => gB x3 30 (fun k_11 => gS (up3 w 8 5 k_11 v_9) (fun w_12 => gS (x3 + 1) (fun x3_13 => rec21 w_12 x1 x2 x3_13)))))) (F_X12_plans_21 fu)
theorem F_X12_plans_21_s (fu : Nat) (w : gWd) (x1 : Int32) (x2 : Int32) (x3 : Int32) : F_X12_plans_21 (fu + 1) w x1 x2 x3 = (if x1 ≤ x3 then (if 4 ≤ x2 then (gP (F_X12_sizeOf w 0 x1) (fun v_4 => gS (((w 8 1 318) - v_4)) (fun x3_5 => gS ((x1 - 1)) (fun x4_6 => F_X12_plans_74 gFU w x2 x3_5 x4_6)))) else (gS ((x1 - 1)) (fun x4_7 => F_X12_plans_74 gFU w x2 0 x4_7))) else (gP (F_X12_heatFor w x3 x2) (fun v_9 => gB x3 30 (fun k_11 => gS (up3 w 8 5 k_11 v_9) (fun w_12 => gS (x3 + 1) (fun x3_13 => (F_X12_plans_21 fu) w_12 x1 x2 x3_13)))))) := rfl
theorem F_X12_plans_21_z (w : gWd) (x1 : Int32) (x2 : Int32) (x3 : Int32) : F_X12_plans_21 0 w x1 x2 x3 = none := rfl
def F_X12_plans (w : gWd) : Option (Int32 × gWd) := gP (F_X12_present w) (fun v_26 => gP (F_X12_lanes w) (fun v_28 => gP (F_X12_lanes w) (fun v_30 => gD v_30 (gS ((((v_26 + v_28) - 1) / v_30)) (fun x2_32 => F_X12_plans_21 gFU w v_26 x2_32 0)))))
def F_X12_laneIn (w : gWd) (x1 : Int32) : Option Int32 := gB x1 30 (fun k_2 => gP (F_X12_sizeOf w ((w 8 5 k_2)) x1) (fun v_4 => gP (F_X12_laneOf w v_4) (fun v_6 => some v_6)))
def F_X12_enter_28 (w : gWd) (x1 : Int32) (x2 : Int32) : Option (Int32 × gWd) := if (w 8 1 310) = 0 then (if (w 8 1 311) = 30 then (some ((-1000003), w)) else (gP (F_X12_changes w) (fun w_4 => gP (F_X12_lay w_4 ((w_4 8 1 311)) 0 x1) (fun w_6 => gP (F_X12_lay w_6 ((w_6 8 1 311)) 1 x2) (fun w_8 => gS (up3 w_8 8 1 311 (((w_8 8 1 311) + 1))) (fun w_9 => some (((w_9 8 1 311) - 1), w_9))))))) else (some ((-1000002), w))
def F_X12_enter (w : gWd) (x1 : Int32) (x2 : Int32) : Option (Int32 × gWd) := gP (F_X12_in w x1 0 5) (fun v_11 => if v_11 = 0 then (some ((-1000001), w)) else (if x2 = 0 then (F_X12_enter_28 w x1 x2) else (gP (F_X12_in w x2 100 999) (fun v_15 => if v_15 = 0 then (some ((-1000001), w)) else (F_X12_enter_28 w x1 x2)))))
def F_X12_firstReserve_2 : Nat → gWd → Int32 → Option Int32
  | 0 => fun _ _ => none
  | fu + 1 => fun w x1 => (fun rec2 : gWd → Int32 → Option Int32 => if 4 ≤ x1 then (some (-1000004)) else (gB ((306 + x1)) 320 (fun k_3 => if (w 8 1 k_3) ≤ 0 then (gS (x1 + 1) (fun x1_5 => rec2 w x1_5)) else (gB ((306 + x1)) 320 (fun k_7 => gP (F_X12_isGone w (((w 8 1 k_7) - 1))) (fun v_9 => if v_9 = 0 then (some x1) else (gS (x1 + 1) (fun x1_11 => rec2 w x1_11)))))))) (F_X12_firstReserve_2 fu)
theorem F_X12_firstReserve_2_s (fu : Nat) (w : gWd) (x1 : Int32) : F_X12_firstReserve_2 (fu + 1) w x1 = (if 4 ≤ x1 then (some (-1000004)) else (gB ((306 + x1)) 320 (fun k_3 => if (w 8 1 k_3) ≤ 0 then (gS (x1 + 1) (fun x1_5 => (F_X12_firstReserve_2 fu) w x1_5)) else (gB ((306 + x1)) 320 (fun k_7 => gP (F_X12_isGone w (((w 8 1 k_7) - 1))) (fun v_9 => if v_9 = 0 then (some x1) else (gS (x1 + 1) (fun x1_11 => (F_X12_firstReserve_2 fu) w x1_11)))))))) := rfl
theorem F_X12_firstReserve_2_z (w : gWd) (x1 : Int32) : F_X12_firstReserve_2 0 w x1 = none := rfl
def F_X12_firstReserve (w : gWd) : Option Int32 := F_X12_firstReserve_2 gFU w 0
def F_X12_calls (w : gWd) (x1 : Int32) : Option (Int32 × gWd) := gP (F_X12_firstReserve w) (fun v_2 => if 0 ≤ v_2 then (gB ((306 + v_2)) 320 (fun k_5 => gS (((w 8 1 k_5) - 1)) (fun x3_6 => gB ((306 + v_2)) 320 (fun k_8 => gS (up3 w 8 1 k_8 0) (fun w_9 => gS (up3 w_9 8 1 316 (((w_9 8 1 316) + 1))) (fun w_10 => gP (F_X12_lay w_10 x3_6 6 x1) (fun w_12 => some (x3_6, w_12)))))))) else (some (100, w)))
def F_X12_scratch_78 (w : gWd) (x1 : Int32) : Option (Int32 × gWd) := gP (F_X12_of w x1 6) (fun v_2 => if v_2 = 0 then (some (100, w)) else (gP (F_X12_lay w x1 6 0) (fun w_5 => gP (F_X12_lay w_5 x1 7 0) (fun w_7 => gC (F_X12_calls w_7 v_2) (fun v_9 w_10 => some (v_9, w_10))))))
def F_X12_scratch (w : gWd) (x1 : Int32) : Option (Int32 × gWd) := gP (F_X12_isSwimmer w x1) (fun v_12 => if v_12 = 0 then (some ((-1000001), w)) else (gP (F_X12_isGone w x1) (fun v_15 => if v_15 = 0 then (if (w 8 1 310) = 3 then (some ((-1000002), w)) else (gP (F_X12_changes w) (fun w_19 => gP (F_X12_lay w_19 x1 2 1) (fun w_21 => if (w_21 8 1 310) = 1 then (gP (F_X12_lay w_21 x1 3 0) (fun w_24 => gP (F_X12_lay w_24 x1 4 0) (fun w_26 => gP (F_X12_lay w_26 x1 5 0) (fun w_28 => F_X12_scratch_78 w_28 x1)))) else (F_X12_scratch_78 w_21 x1))))) else (some ((-1000002), w)))))
def F_X12_set_47 (w : gWd) (x1 : Int32) (x2 : Int32) (xs0 : Int32) (xs1 : Int32) (xs2 : Int32) : Option (Int32 × gWd) := gP (F_X12_in w xs2 xs1 xs0) (fun v_4 => if v_4 = 0 then (some ((-1000001), w)) else (if (w 8 1 310) = 0 then (gP (F_X12_changes w) (fun w_8 => gB ((317 + x1)) 320 (fun k_10 => gS ((w_8 8 1 k_10)) (fun x3_11 => gB ((317 + x1)) 320 (fun k_13 => gS (up3 w_8 8 1 k_13 x2) (fun w_14 => some (x3_11, w_14))))))) else (some ((-1000002), w))))
def F_X12_set_28 (w : gWd) (x1 : Int32) (x2 : Int32) (xs0 : Int32) (xs1 : Int32) : Option (Int32 × gWd) := if x1 = 0 then (F_X12_set_47 w x1 x2 10 xs0 xs1) else (if x1 = 1 then (F_X12_set_47 w x1 x2 3 xs0 xs1) else (F_X12_set_47 w x1 x2 4 xs0 xs1))
def F_X12_set (w : gWd) (x1 : Int32) (x2 : Int32) : Option (Int32 × gWd) := gP (F_X12_in w x1 0 2) (fun v_16 => if v_16 = 0 then (some ((-1000001), w)) else (if x1 = 0 then (F_X12_set_28 w x1 x2 4 x2) else (if x1 = 1 then (F_X12_set_28 w x1 x2 1 x2) else (F_X12_set_28 w x1 x2 0 x2))))
def F_X12_draw_32 : Nat → gWd → Int32 → Int32 → Option (Int32 × gWd)
  | 0 => fun _ _ _ => none
  | fu + 1 => fun w x1 x2 => (fun rec32 : gWd → Int32 → Int32 → Option (Int32 × gWd) => if (w 8 1 311) ≤ x2 then (gS (up3 w 8 1 310 1) (fun w_2 => gS (up3 w_2 8 1 312 x1) (fun w_3 => some (x1, w_3)))) else (gP (F_X12_isGone w x2) (fun v_5 => if v_5 = 0 then (gP (F_X12_entryRank w x2) (fun v_9 => gB v_9 30 (fun k_11 => gP (F_X12_lay w x2 3 (((w 8 5 k_11) + 1))) (fun w_13 => gP (F_X12_laneIn w_13 v_9) (fun v_15 => gP (F_X12_lay w_13 x2 4 v_15) (fun w_17 => gS (x2 + 1) (fun x2_18 => rec32 w_17 x1 x2_18))))))) else (gS (x2 + 1) (fun x2_7 => rec32 w x1 x2_7))))) (F_X12_draw_32 fu)
theorem F_X12_draw_32_s (fu : Nat) (w : gWd) (x1 : Int32) (x2 : Int32) : F_X12_draw_32 (fu + 1) w x1 x2 = (if (w 8 1 311) ≤ x2 then (gS (up3 w 8 1 310 1) (fun w_2 => gS (up3 w_2 8 1 312 x1) (fun w_3 => some (x1, w_3)))) else (gP (F_X12_isGone w x2) (fun v_5 => if v_5 = 0 then (gP (F_X12_entryRank w x2) (fun v_9 => gB v_9 30 (fun k_11 => gP (F_X12_lay w x2 3 (((w 8 5 k_11) + 1))) (fun w_13 => gP (F_X12_laneIn w_13 v_9) (fun v_15 => gP (F_X12_lay w_13 x2 4 v_15) (fun w_17 => gS (x2 + 1) (fun x2_18 => (F_X12_draw_32 fu) w_17 x1 x2_18))))))) else (gS (x2 + 1) (fun x2_7 => (F_X12_draw_32 fu) w x1 x2_7))))) := rfl
theorem F_X12_draw_32_z (w : gWd) (x1 : Int32) (x2 : Int32) : F_X12_draw_32 0 w x1 x2 = none := rfl
def F_X12_draw (w : gWd) : Option (Int32 × gWd) := if (w 8 1 310) = 0 then (gP (F_X12_present w) (fun v_21 => if v_21 = 0 then (some ((-1000002), w)) else (gP (F_X12_changes w) (fun w_24 => gC (F_X12_plans w_24) (fun v_26 w_27 => F_X12_draw_32 gFU w_27 v_26 0))))) else (some ((-1000002), w))
def F_X12_timeNow (w : gWd) : Option Int32 := if (w 8 1 310) = 1 then (some 5) else (some 7)
def F_X12_isAsked_51 (w : gWd) : Option Int32 := some 1
def F_X12_isAsked_55 (w : gWd) : Option Int32 := some 0
def F_X12_isAsked_29 (w : gWd) (x1 : Int32) : Option Int32 := if (w 8 1 310) = 2 then (gP (F_X12_of w x1 6) (fun v_3 => if v_3 ≤ 0 then (F_X12_isAsked_55 w) else (F_X12_isAsked_51 w))) else (F_X12_isAsked_55 w)
def F_X12_isAsked (w : gWd) (x1 : Int32) : Option Int32 := gP (F_X12_isGone w x1) (fun v_6 => if v_6 = 0 then (if (w 8 1 310) = 1 then (gP (F_X12_of w x1 3) (fun v_10 => if 0 < v_10 then (F_X12_isAsked_51 w) else (F_X12_isAsked_29 w x1))) else (F_X12_isAsked_29 w x1)) else (F_X12_isAsked_55 w))
def F_X12_swim_147 (rec104 : gWd → Int32 → Int32 → Int32 → Option (Int32 × gWd)) (w : gWd) (x2 : Int32) (x4 : Int32) (xs0 : Int32) : Option (Int32 × gWd) := gS ((xs0 + 0)) (fun x3_26 => gS (x4 + 1) (fun x4_27 => rec104 w x2 x3_26 x4_27))
def F_X12_swim_104 : Nat → gWd → Int32 → Int32 → Int32 → Option (Int32 × gWd)
  | 0 => fun _ _ _ _ => none
  | fu + 1 => fun w x2 x3 x4 => (fun rec104 : gWd → Int32 → Int32 → Int32 → Option (Int32 × gWd) => if (w 8 1 311) ≤ x4 then (if x2 = 0 then (some (100, w)) else (some (x3, w))) else (gP (F_X12_timeNow w) (fun v_18 => gP (F_X12_of w x4 v_18) (fun v_20 => gS ((v_20 - 1)) (fun x5_21 => if x5_21 ≤ 0 then (F_X12_swim_147 rec104 w x2 x4 x3) else (if x2 ≤ x5_21 then (F_X12_swim_147 rec104 w x2 x4 x3) else (gS ((x3 + 1)) (fun x3_24 => gS (x4 + 1) (fun x4_25 => rec104 w x2 x3_24 x4_25))))))))) (F_X12_swim_104 fu)
theorem F_X12_swim_104_s (fu : Nat) (w : gWd) (x2 : Int32) (x3 : Int32) (x4 : Int32) : F_X12_swim_104 (fu + 1) w x2 x3 x4 = (if (w 8 1 311) ≤ x4 then (if x2 = 0 then (some (100, w)) else (some (x3, w))) else (gP (F_X12_timeNow w) (fun v_18 => gP (F_X12_of w x4 v_18) (fun v_20 => gS ((v_20 - 1)) (fun x5_21 => if x5_21 ≤ 0 then (F_X12_swim_147 (F_X12_swim_104 fu) w x2 x4 x3) else (if x2 ≤ x5_21 then (F_X12_swim_147 (F_X12_swim_104 fu) w x2 x4 x3) else (gS ((x3 + 1)) (fun x3_24 => gS (x4 + 1) (fun x4_25 => (F_X12_swim_104 fu) w x2 x3_24 x4_25))))))))) := rfl
theorem F_X12_swim_104_z (w : gWd) (x2 : Int32) (x3 : Int32) (x4 : Int32) : F_X12_swim_104 0 w x2 x3 x4 = none := rfl
def F_X12_swim_81 (w : gWd) (x1 : Int32) (x2 : Int32) : Option (Int32 × gWd) := gS (up3 w 8 1 314 x2) (fun w_13 => gS (up3 w_13 8 1 315 x1) (fun w_14 => F_X12_swim_104 gFU w_14 x2 0 0))
def F_X12_swim_27 (w : gWd) (x1 : Int32) (x2 : Int32) : Option (Int32 × gWd) := gP (F_X12_isAsked w x1) (fun v_2 => if v_2 = 0 then (some ((-1000002), w)) else (gP (F_X12_changes w) (fun w_5 => gP (F_X12_timeNow w_5) (fun v_7 => gP (F_X12_lay w_5 x1 v_7 ((x2 + 1))) (fun w_9 => if x2 ≤ 0 then (F_X12_swim_104 gFU w_9 x2 0 0) else (if (w_9 8 1 314) = 0 then (F_X12_swim_81 w_9 x1 x2) else (if (w_9 8 1 314) ≤ x2 then (F_X12_swim_104 gFU w_9 x2 0 0) else (F_X12_swim_81 w_9 x1 x2))))))))
def F_X12_swim (w : gWd) (x1 : Int32) (x2 : Int32) : Option (Int32 × gWd) := gP (F_X12_isSwimmer w x1) (fun v_29 => if v_29 = 0 then (some ((-1000001), w)) else (if x2 = 0 then (F_X12_swim_27 w x1 x2) else (gP (F_X12_in w x2 100 999) (fun v_33 => if v_33 = 0 then (some ((-1000001), w)) else (F_X12_swim_27 w x1 x2)))))
def F_X12_missingOnes_41 (rec4 : gWd → Int32 → Int32 → Option Int32) (w : gWd) (x2 : Int32) (xs0 : Int32) : Option Int32 := gS ((xs0 + 0)) (fun x1_12 => gS (x2 + 1) (fun x2_13 => rec4 w x1_12 x2_13))
def F_X12_missingOnes_4 : Nat → gWd → Int32 → Int32 → Option Int32
  | 0 => fun _ _ _ => none
  | fu + 1 => fun w x1 x2 => (fun rec4 : gWd → Int32 → Int32 → Option Int32 => if (w 8 1 311) ≤ x2 then (some x1) else (gP (F_X12_isAsked w x2) (fun v_3 => if v_3 = 0 then (F_X12_missingOnes_41 rec4 w x2 x1) else (gP (F_X12_timeNow w) (fun v_6 => gP (F_X12_of w x2 v_6) (fun v_8 => if v_8 = 0 then (gS ((x1 + 1)) (fun x1_10 => gS (x2 + 1) (fun x2_11 => rec4 w x1_10 x2_11))) else (F_X12_missingOnes_41 rec4 w x2 x1))))))) (F_X12_missingOnes_4 fu)
theorem F_X12_missingOnes_4_s (fu : Nat) (w : gWd) (x1 : Int32) (x2 : Int32) : F_X12_missingOnes_4 (fu + 1) w x1 x2 = (if (w 8 1 311) ≤ x2 then (some x1) else (gP (F_X12_isAsked w x2) (fun v_3 => if v_3 = 0 then (F_X12_missingOnes_41 (F_X12_missingOnes_4 fu) w x2 x1) else (gP (F_X12_timeNow w) (fun v_6 => gP (F_X12_of w x2 v_6) (fun v_8 => if v_8 = 0 then (gS ((x1 + 1)) (fun x1_10 => gS (x2 + 1) (fun x2_11 => (F_X12_missingOnes_4 fu) w x1_10 x2_11))) else (F_X12_missingOnes_41 (F_X12_missingOnes_4 fu) w x2 x1))))))) := rfl
theorem F_X12_missingOnes_4_z (w : gWd) (x1 : Int32) (x2 : Int32) : F_X12_missingOnes_4 0 w x1 x2 = none := rfl
def F_X12_missingOnes (w : gWd) : Option Int32 := F_X12_missingOnes_4 gFU w 0 0
def F_X12_timed_4 : Nat → gWd → Int32 → Int32 → Option Int32
  | 0 => fun _ _ _ => none
  | fu + 1 => fun w x1 x2 => (fun rec4 : gWd → Int32 → Int32 → Option Int32 => if (w 8 1 311) ≤ x2 then (some x1) else (gP (F_X12_hasTime w x2) (fun v_3 => if v_3 = 0 then (gS ((x1 + 0)) (fun x1_5 => gS (x2 + 1) (fun x2_6 => rec4 w x1_5 x2_6))) else (gS ((x1 + 1)) (fun x1_7 => gS (x2 + 1) (fun x2_8 => rec4 w x1_7 x2_8)))))) (F_X12_timed_4 fu)
theorem F_X12_timed_4_s (fu : Nat) (w : gWd) (x1 : Int32) (x2 : Int32) : F_X12_timed_4 (fu + 1) w x1 x2 = (if (w 8 1 311) ≤ x2 then (some x1) else (gP (F_X12_hasTime w x2) (fun v_3 => if v_3 = 0 then (gS ((x1 + 0)) (fun x1_5 => gS (x2 + 1) (fun x2_6 => (F_X12_timed_4 fu) w x1_5 x2_6))) else (gS ((x1 + 1)) (fun x1_7 => gS (x2 + 1) (fun x2_8 => (F_X12_timed_4 fu) w x1_7 x2_8)))))) := rfl
theorem F_X12_timed_4_z (w : gWd) (x1 : Int32) (x2 : Int32) : F_X12_timed_4 0 w x1 x2 = none := rfl
def F_X12_timed (w : gWd) : Option Int32 := F_X12_timed_4 gFU w 0 0
def F_X12_why (w : gWd) : Option Int32 := if (w 8 1 310) = 0 then (gP (F_X12_present w) (fun v_3 => if v_3 = 0 then (some 1) else (some 0))) else (if (w 8 1 310) = 1 then (gP (F_X12_missingOnes w) (fun v_7 => if v_7 ≤ 0 then (gP (F_X12_timed w) (fun v_10 => if v_10 = 0 then (some 1) else (some 0))) else (some 2))) else (if (w 8 1 310) = 2 then (gP (F_X12_missingOnes w) (fun v_14 => if v_14 ≤ 0 then (some 0) else (some 2))) else (some 0)))
def F_X12_inFinal_4 : Nat → gWd → Int32 → Int32 → Option Int32
  | 0 => fun _ _ _ => none
  | fu + 1 => fun w x1 x2 => (fun rec4 : gWd → Int32 → Int32 → Option Int32 => if (w 8 1 311) ≤ x2 then (some x1) else (gP (F_X12_of w x2 6) (fun v_3 => if v_3 ≤ 0 then (gS ((x1 ||| 0)) (fun x1_5 => gS (x2 + 1) (fun x2_6 => rec4 w x1_5 x2_6))) else (gS ((x1 ||| (1 <<< (x2 &&& 31)))) (fun x1_7 => gS (x2 + 1) (fun x2_8 => rec4 w x1_7 x2_8)))))) (F_X12_inFinal_4 fu)
theorem F_X12_inFinal_4_s (fu : Nat) (w : gWd) (x1 : Int32) (x2 : Int32) : F_X12_inFinal_4 (fu + 1) w x1 x2 = (if (w 8 1 311) ≤ x2 then (some x1) else (gP (F_X12_of w x2 6) (fun v_3 => if v_3 ≤ 0 then (gS ((x1 ||| 0)) (fun x1_5 => gS (x2 + 1) (fun x2_6 => (F_X12_inFinal_4 fu) w x1_5 x2_6))) else (gS ((x1 ||| (1 <<< (x2 &&& 31)))) (fun x1_7 => gS (x2 + 1) (fun x2_8 => (F_X12_inFinal_4 fu) w x1_7 x2_8)))))) := rfl
theorem F_X12_inFinal_4_z (w : gWd) (x1 : Int32) (x2 : Int32) : F_X12_inFinal_4 0 w x1 x2 = none := rfl
def F_X12_inFinal (w : gWd) : Option Int32 := F_X12_inFinal_4 gFU w 0 0
def F_X12_finals_58 (rec28 : gWd → Int32 → Option (Int32 × gWd)) (w : gWd) (x1 : Int32) (xs0 : Int32) : Option (Int32 × gWd) := gP (F_X12_lanes w) (fun v_11 => if v_11 ≤ xs0 then (gP (F_X12_lanes w) (fun v_14 => if (v_14 + (w 8 1 319)) ≤ xs0 then (gS (x1 + 1) (fun x1_16 => rec28 w x1_16)) else (if 30 ≤ xs0 then (gS (x1 + 1) (fun x1_18 => rec28 w x1_18)) else (gP (F_X12_lanes w) (fun v_20 => gB (((306 + xs0) - v_20)) 320 (fun k_22 => gS (up3 w 8 1 k_22 ((x1 + 1))) (fun w_23 => gS (x1 + 1) (fun x1_24 => rec28 w_23 x1_24)))))))) else (gP (F_X12_laneOf w xs0) (fun v_26 => gP (F_X12_lay w x1 6 v_26) (fun w_28 => gS (x1 + 1) (fun x1_29 => rec28 w_28 x1_29)))))
def F_X12_finals_28 : Nat → gWd → Int32 → Option (Int32 × gWd)
  | 0 => fun _ _ => none
  | fu + 1 => fun w x1 => (fun rec28 : gWd → Int32 → Option (Int32 × gWd) => if (w 8 1 311) ≤ x1 then (gS (up3 w 8 1 310 2) (fun w_2 => gP (F_X12_inFinal w_2) (fun v_4 => some (v_4, w_2)))) else (gP (F_X12_hasTime w x1) (fun v_6 => if v_6 = 0 then (F_X12_finals_58 rec28 w x1 30) else (gP (F_X12_timeRank w x1) (fun v_9 => F_X12_finals_58 rec28 w x1 v_9))))) (F_X12_finals_28 fu)
theorem F_X12_finals_28_s (fu : Nat) (w : gWd) (x1 : Int32) : F_X12_finals_28 (fu + 1) w x1 = (if (w 8 1 311) ≤ x1 then (gS (up3 w 8 1 310 2) (fun w_2 => gP (F_X12_inFinal w_2) (fun v_4 => some (v_4, w_2)))) else (gP (F_X12_hasTime w x1) (fun v_6 => if v_6 = 0 then (F_X12_finals_58 (F_X12_finals_28 fu) w x1 30) else (gP (F_X12_timeRank w x1) (fun v_9 => F_X12_finals_58 (F_X12_finals_28 fu) w x1 v_9))))) := rfl
theorem F_X12_finals_28_z (w : gWd) (x1 : Int32) : F_X12_finals_28 0 w x1 = none := rfl
def F_X12_finals (w : gWd) : Option (Int32 × gWd) := if (w 8 1 310) = 1 then (gP (F_X12_why w) (fun v_32 => if v_32 ≤ 0 then (gP (F_X12_changes w) (fun w_35 => F_X12_finals_28 gFU w_35 0)) else (some ((-1000002), w)))) else (some ((-1000002), w))
def F_X12_finishers_5 : Nat → gWd → Int32 → Int32 → Int32 → Int32 → Option Int32
  | 0 => fun _ _ _ _ _ => none
  | fu + 1 => fun w x1 x2 x3 x4 => (fun rec5 : gWd → Int32 → Int32 → Int32 → Int32 → Option Int32 => if (w 8 1 311) ≤ x4 then (some x3) else (gP (F_X12_of w x4 7) (fun v_3 => gP (F_X12_in w ((v_3 - 1)) x1 x2) (fun v_5 => if v_5 = 0 then (gS ((x3 + 0)) (fun x3_7 => gS (x4 + 1) (fun x4_8 => rec5 w x1 x2 x3_7 x4_8))) else (gS ((x3 + 1)) (fun x3_9 => gS (x4 + 1) (fun x4_10 => rec5 w x1 x2 x3_9 x4_10))))))) (F_X12_finishers_5 fu)
theorem F_X12_finishers_5_s (fu : Nat) (w : gWd) (x1 : Int32) (x2 : Int32) (x3 : Int32) (x4 : Int32) : F_X12_finishers_5 (fu + 1) w x1 x2 x3 x4 = (if (w 8 1 311) ≤ x4 then (some x3) else (gP (F_X12_of w x4 7) (fun v_3 => gP (F_X12_in w ((v_3 - 1)) x1 x2) (fun v_5 => if v_5 = 0 then (gS ((x3 + 0)) (fun x3_7 => gS (x4 + 1) (fun x4_8 => (F_X12_finishers_5 fu) w x1 x2 x3_7 x4_8))) else (gS ((x3 + 1)) (fun x3_9 => gS (x4 + 1) (fun x4_10 => (F_X12_finishers_5 fu) w x1 x2 x3_9 x4_10))))))) := rfl
theorem F_X12_finishers_5_z (w : gWd) (x1 : Int32) (x2 : Int32) (x3 : Int32) (x4 : Int32) : F_X12_finishers_5 0 w x1 x2 x3 x4 = none := rfl
def F_X12_finishers (w : gWd) (x1 : Int32) (x2 : Int32) : Option Int32 := F_X12_finishers_5 gFU w x1 x2 0 0
def F_X12_worth (w : gWd) (x1 : Int32) : Option Int32 := gP (F_X12_lanes w) (fun v_2 => if x1 = 1 then (some ((((v_2 - x1) + 1) + 1))) else (some ((((v_2 - x1) + 1) + 0))))
def F_X12_end_180 (rec30 : gWd → Int32 → Int32 → Option (Int32 × gWd)) (w : gWd) (x2 : Int32) (xs0 : Int32) (xs1 : Int32) : Option (Int32 × gWd) := gS ((xs1 ||| xs0)) (fun x1_35 => gS (x2 + 1) (fun x2_36 => rec30 w x1_35 x2_36))
def F_X12_end_83 (rec30 : gWd → Int32 → Int32 → Option (Int32 × gWd)) : Nat → gWd → Int32 → Int32 → Int32 → Int32 → Int32 → Int32 → Option (Int32 × gWd)
  | 0 => fun _ _ _ _ _ _ _ => none
  | fu + 1 => fun w x1 x2 x4 x5 x6 x7 => (fun rec83 : gWd → Int32 → Int32 → Int32 → Int32 → Int32 → Int32 → Option (Int32 × gWd) => if (x4 + x5) ≤ x7 then (gP (F_X12_lay w x2 8 x4) (fun w_16 => gP (F_X12_of w_16 x2 9) (fun v_18 => gD x5 (gP (F_X12_lay w_16 x2 9 ((v_18 + ((2 * x6) / x5)))) (fun w_21 => gP (F_X12_of w_21 x2 0) (fun v_23 => gB ((300 + v_23)) 320 (fun k_25 => gD x5 (gB ((300 + v_23)) 320 (fun k_28 => gS (up3 w_21 8 1 k_28 (((w_21 8 1 k_25) + ((2 * x6) / x5)))) (fun w_29 => if x4 = 1 then (F_X12_end_180 rec30 w_29 x2 ((1 <<< (x2 &&& 31))) x1) else (F_X12_end_180 rec30 w_29 x2 0 x1))))))))))) else (gP (F_X12_worth w x7) (fun v_32 => gS ((x6 + v_32)) (fun x6_33 => gS (x7 + 1) (fun x7_34 => rec83 w x1 x2 x4 x5 x6_33 x7_34))))) (F_X12_end_83 rec30 fu)
theorem F_X12_end_83_s (rec30 : gWd → Int32 → Int32 → Option (Int32 × gWd)) (fu : Nat) (w : gWd) (x1 : Int32) (x2 : Int32) (x4 : Int32) (x5 : Int32) (x6 : Int32) (x7 : Int32) : F_X12_end_83 rec30 (fu + 1) w x1 x2 x4 x5 x6 x7 = (if (x4 + x5) ≤ x7 then (gP (F_X12_lay w x2 8 x4) (fun w_16 => gP (F_X12_of w_16 x2 9) (fun v_18 => gD x5 (gP (F_X12_lay w_16 x2 9 ((v_18 + ((2 * x6) / x5)))) (fun w_21 => gP (F_X12_of w_21 x2 0) (fun v_23 => gB ((300 + v_23)) 320 (fun k_25 => gD x5 (gB ((300 + v_23)) 320 (fun k_28 => gS (up3 w_21 8 1 k_28 (((w_21 8 1 k_25) + ((2 * x6) / x5)))) (fun w_29 => if x4 = 1 then (F_X12_end_180 rec30 w_29 x2 ((1 <<< (x2 &&& 31))) x1) else (F_X12_end_180 rec30 w_29 x2 0 x1))))))))))) else (gP (F_X12_worth w x7) (fun v_32 => gS ((x6 + v_32)) (fun x6_33 => gS (x7 + 1) (fun x7_34 => (F_X12_end_83 rec30 fu) w x1 x2 x4 x5 x6_33 x7_34))))) := rfl
theorem F_X12_end_83_z (rec30 : gWd → Int32 → Int32 → Option (Int32 × gWd)) (w : gWd) (x1 : Int32) (x2 : Int32) (x4 : Int32) (x5 : Int32) (x6 : Int32) (x7 : Int32) : F_X12_end_83 rec30 0 w x1 x2 x4 x5 x6 x7 = none := rfl
def F_X12_end_30 : Nat → gWd → Int32 → Int32 → Option (Int32 × gWd)
  | 0 => fun _ _ _ => none
  | fu + 1 => fun w x1 x2 => (fun rec30 : gWd → Int32 → Int32 → Option (Int32 × gWd) => if (w 8 1 311) ≤ x2 then (gS (up3 w 8 1 310 3) (fun w_2 => gS (up3 w_2 8 1 313 (((w_2 8 1 313) + 1))) (fun w_3 => some (x1, w_3)))) else (gP (F_X12_of w x2 7) (fun v_5 => gS ((v_5 - 1)) (fun x3_6 => if x3_6 ≤ 0 then (gS (x2 + 1) (fun x2_8 => rec30 w x1 x2_8)) else (gP (F_X12_finishers w 1 ((x3_6 - 1))) (fun v_10 => gS ((v_10 + 1)) (fun x4_11 => gP (F_X12_finishers w x3_6 x3_6) (fun v_13 => F_X12_end_83 rec30 gFU w x1 x2 x4_11 v_13 0 x4_11)))))))) (F_X12_end_30 fu)
theorem F_X12_end_30_s (fu : Nat) (w : gWd) (x1 : Int32) (x2 : Int32) : F_X12_end_30 (fu + 1) w x1 x2 = (if (w 8 1 311) ≤ x2 then (gS (up3 w 8 1 310 3) (fun w_2 => gS (up3 w_2 8 1 313 (((w_2 8 1 313) + 1))) (fun w_3 => some (x1, w_3)))) else (gP (F_X12_of w x2 7) (fun v_5 => gS ((v_5 - 1)) (fun x3_6 => if x3_6 ≤ 0 then (gS (x2 + 1) (fun x2_8 => (F_X12_end_30 fu) w x1 x2_8)) else (gP (F_X12_finishers w 1 ((x3_6 - 1))) (fun v_10 => gS ((v_10 + 1)) (fun x4_11 => gP (F_X12_finishers w x3_6 x3_6) (fun v_13 => F_X12_end_83 (F_X12_end_30 fu) gFU w x1 x2 x4_11 v_13 0 x4_11)))))))) := rfl
theorem F_X12_end_30_z (w : gWd) (x1 : Int32) (x2 : Int32) : F_X12_end_30 0 w x1 x2 = none := rfl
def F_X12_end (w : gWd) : Option (Int32 × gWd) := if (w 8 1 310) = 2 then (gP (F_X12_why w) (fun v_39 => if v_39 ≤ 0 then (gP (F_X12_changes w) (fun w_42 => F_X12_end_30 gFU w_42 0 0)) else (some ((-1000002), w)))) else (some ((-1000002), w))
def F_X12_better_13 (w : gWd) (x1 : Int32) : Option Int32 := some x1
def F_X12_better_17 (w : gWd) (x0 : Int32) : Option Int32 := some x0
def F_X12_better (w : gWd) (x0 : Int32) (x1 : Int32) : Option Int32 := if x1 ≤ 0 then (F_X12_better_17 w x0) else (if x0 = 0 then (F_X12_better_13 w x1) else (if x0 ≤ x1 then (F_X12_better_17 w x0) else (F_X12_better_13 w x1)))
def F_X12_next_93 (rec23 : gWd → Int32 → Int32 → Option (Int32 × gWd)) : Nat → gWd → Int32 → Int32 → Int32 → Option (Int32 × gWd)
  | 0 => fun _ _ _ _ => none
  | fu + 1 => fun w x1 x2 x5 => (fun rec93 : gWd → Int32 → Int32 → Int32 → Option (Int32 × gWd) => if 8 < x5 then (gS (x2 + 1) (fun x2_17 => rec23 w x1 x2_17)) else (gP (F_X12_lay w x2 x5 0) (fun w_19 => gS (x5 + 1) (fun x5_20 => rec93 w_19 x1 x2 x5_20)))) (F_X12_next_93 rec23 fu)
theorem F_X12_next_93_s (rec23 : gWd → Int32 → Int32 → Option (Int32 × gWd)) (fu : Nat) (w : gWd) (x1 : Int32) (x2 : Int32) (x5 : Int32) : F_X12_next_93 rec23 (fu + 1) w x1 x2 x5 = (if 8 < x5 then (gS (x2 + 1) (fun x2_17 => rec23 w x1 x2_17)) else (gP (F_X12_lay w x2 x5 0) (fun w_19 => gS (x5 + 1) (fun x5_20 => (F_X12_next_93 rec23 fu) w_19 x1 x2 x5_20)))) := rfl
theorem F_X12_next_93_z (rec23 : gWd → Int32 → Int32 → Option (Int32 × gWd)) (w : gWd) (x1 : Int32) (x2 : Int32) (x5 : Int32) : F_X12_next_93 rec23 0 w x1 x2 x5 = none := rfl
def F_X12_next_80 (rec23 : gWd → Int32 → Int32 → Option (Int32 × gWd)) (w : gWd) (x2 : Int32) (x4 : Int32) (xs0 : Int32) (xs1 : Int32) : Option (Int32 × gWd) := gS ((xs1 + xs0)) (fun x1_13 => gP (F_X12_lay w x2 1 x4) (fun w_15 => F_X12_next_93 rec23 gFU w_15 x1_13 x2 2))
def F_X12_next_122 : Nat → gWd → Int32 → Int32 → Option (Int32 × gWd)
  | 0 => fun _ _ _ => none
  | fu + 1 => fun w x1 x2 => (fun rec122 : gWd → Int32 → Int32 → Option (Int32 × gWd) => if 4 ≤ x2 then (gS (up3 w 8 1 310 0) (fun w_22 => gS (up3 w_22 8 1 312 0) (fun w_23 => some (x1, w_23)))) else (gB ((306 + x2)) 320 (fun k_25 => gS (up3 w 8 1 k_25 0) (fun w_26 => gS (x2 + 1) (fun x2_27 => rec122 w_26 x1 x2_27))))) (F_X12_next_122 fu)
theorem F_X12_next_122_s (fu : Nat) (w : gWd) (x1 : Int32) (x2 : Int32) : F_X12_next_122 (fu + 1) w x1 x2 = (if 4 ≤ x2 then (gS (up3 w 8 1 310 0) (fun w_22 => gS (up3 w_22 8 1 312 0) (fun w_23 => some (x1, w_23)))) else (gB ((306 + x2)) 320 (fun k_25 => gS (up3 w 8 1 k_25 0) (fun w_26 => gS (x2 + 1) (fun x2_27 => (F_X12_next_122 fu) w_26 x1 x2_27))))) := rfl
theorem F_X12_next_122_z (w : gWd) (x1 : Int32) (x2 : Int32) : F_X12_next_122 0 w x1 x2 = none := rfl
def F_X12_next_23 : Nat → gWd → Int32 → Int32 → Option (Int32 × gWd)
  | 0 => fun _ _ _ => none
  | fu + 1 => fun w x1 x2 => (fun rec23 : gWd → Int32 → Int32 → Option (Int32 × gWd) => if (w 8 1 311) ≤ x2 then (F_X12_next_122 gFU w x1 0) else (gP (F_X12_of w x2 1) (fun v_3 => gP (F_X12_of w x2 5) (fun v_5 => gP (F_X12_better w v_3 ((v_5 - 1))) (fun v_7 => gP (F_X12_of w x2 7) (fun v_9 => gP (F_X12_better w v_7 ((v_9 - 1))) (fun v_11 => if v_11 = v_3 then (F_X12_next_80 rec23 w x2 v_11 0 x1) else (F_X12_next_80 rec23 w x2 v_11 1 x1)))))))) (F_X12_next_23 fu)
theorem F_X12_next_23_s (fu : Nat) (w : gWd) (x1 : Int32) (x2 : Int32) : F_X12_next_23 (fu + 1) w x1 x2 = (if (w 8 1 311) ≤ x2 then (F_X12_next_122 gFU w x1 0) else (gP (F_X12_of w x2 1) (fun v_3 => gP (F_X12_of w x2 5) (fun v_5 => gP (F_X12_better w v_3 ((v_5 - 1))) (fun v_7 => gP (F_X12_of w x2 7) (fun v_9 => gP (F_X12_better w v_7 ((v_9 - 1))) (fun v_11 => if v_11 = v_3 then (F_X12_next_80 (F_X12_next_23 fu) w x2 v_11 0 x1) else (F_X12_next_80 (F_X12_next_23 fu) w x2 v_11 1 x1)))))))) := rfl
theorem F_X12_next_23_z (w : gWd) (x1 : Int32) (x2 : Int32) : F_X12_next_23 0 w x1 x2 = none := rfl
def F_X12_next (w : gWd) : Option (Int32 × gWd) := if (w 8 1 310) = 3 then (gP (F_X12_changes w) (fun w_30 => F_X12_next_23 gFU w_30 0 0)) else (some ((-1000002), w))
def F_X12_orNone (w : gWd) (x0 : Int32) : Option Int32 := if x0 ≤ 0 then (some (-1000004)) else (some x0)
def F_X12_lessOne (w : gWd) (x0 : Int32) : Option Int32 := if x0 ≤ 0 then (some (-1000004)) else (some ((x0 - 1)))
def F_X12_swimmer (w : gWd) (x1 : Int32) (x2 : Int32) : Option Int32 := gP (F_X12_isSwimmer w x1) (fun v_2 => if v_2 = 0 then (some (-1000001)) else (gP (F_X12_in w x2 0 11) (fun v_5 => if v_5 = 0 then (some (-1000001)) else (if x2 = 2 then (gP (F_X12_isGone w x1) (fun v_9 => if v_9 = 0 then (gP (F_X12_entryRank w x1) (fun v_12 => some v_12)) else (some (-1000004)))) else (if x2 = 3 then (gP (F_X12_of w x1 3) (fun v_15 => gP (F_X12_lessOne w v_15) (fun v_17 => some v_17))) else (if x2 = 4 then (gP (F_X12_of w x1 4) (fun v_20 => gP (F_X12_orNone w v_20) (fun v_22 => some v_22))) else (if x2 = 5 then (gP (F_X12_of w x1 5) (fun v_25 => gP (F_X12_lessOne w v_25) (fun v_27 => some v_27))) else (if x2 = 6 then (gP (F_X12_hasTime w x1) (fun v_30 => if v_30 = 0 then (some (-1000004)) else (gP (F_X12_timeRank w x1) (fun v_33 => some v_33)))) else (if x2 = 7 then (gP (F_X12_of w x1 6) (fun v_36 => gP (F_X12_orNone w v_36) (fun v_38 => some v_38))) else (if x2 = 8 then (gP (F_X12_of w x1 7) (fun v_41 => gP (F_X12_lessOne w v_41) (fun v_43 => some v_43))) else (if x2 = 9 then (gP (F_X12_of w x1 8) (fun v_46 => gP (F_X12_orNone w v_46) (fun v_48 => some v_48))) else (if x2 = 10 then (gP (F_X12_of w x1 2) (fun v_51 => some v_51)) else (if x2 = 11 then (gP (F_X12_of w x1 9) (fun v_54 => some v_54)) else (gP (F_X12_of w x1 x2) (fun v_56 => some v_56)))))))))))))))
def F_X12_isHeat_25 (w : gWd) : Option Int32 := some 0
def F_X12_isHeat (w : gWd) (x1 : Int32) : Option Int32 := if 0 ≤ x1 then (if (w 8 1 312) ≤ x1 then (some 0) else (some 1)) else (if x1 = (-1) then (if (w 8 1 310) ≤ 1 then (F_X12_isHeat_25 w) else (some 1)) else (F_X12_isHeat_25 w))
def F_X12_isIn (w : gWd) (x1 : Int32) (x2 : Int32) : Option Int32 := if 0 ≤ x2 then (gP (F_X12_of w x1 3) (fun v_3 => if v_3 = (x2 + 1) then (some 1) else (some 0))) else (gP (F_X12_of w x1 6) (fun v_6 => if v_6 ≤ 0 then (some 0) else (some 1)))
def F_X12_at_58 (rec25 : gWd → Int32 → Int32 → Int32 → Option Int32) (w : gWd) (x1 : Int32) (x2 : Int32) (x3 : Int32) (xs0 : Int32) (xs1 : Int32) : Option Int32 := gP (F_X12_of w xs1 xs0) (fun v_8 => if v_8 = x2 then (some x3) else (gS (x3 + 1) (fun x3_10 => rec25 w x1 x2 x3_10)))
def F_X12_at_25 : Nat → gWd → Int32 → Int32 → Int32 → Option Int32
  | 0 => fun _ _ _ _ => none
  | fu + 1 => fun w x1 x2 x3 => (fun rec25 : gWd → Int32 → Int32 → Int32 → Option Int32 => if (w 8 1 311) ≤ x3 then (some (-1000004)) else (gP (F_X12_isIn w x3 x1) (fun v_3 => if v_3 = 0 then (gS (x3 + 1) (fun x3_5 => rec25 w x1 x2 x3_5)) else (if 0 ≤ x1 then (F_X12_at_58 rec25 w x1 x2 x3 4 x3) else (F_X12_at_58 rec25 w x1 x2 x3 6 x3))))) (F_X12_at_25 fu)
theorem F_X12_at_25_s (fu : Nat) (w : gWd) (x1 : Int32) (x2 : Int32) (x3 : Int32) : F_X12_at_25 (fu + 1) w x1 x2 x3 = (if (w 8 1 311) ≤ x3 then (some (-1000004)) else (gP (F_X12_isIn w x3 x1) (fun v_3 => if v_3 = 0 then (gS (x3 + 1) (fun x3_5 => (F_X12_at_25 fu) w x1 x2 x3_5)) else (if 0 ≤ x1 then (F_X12_at_58 (F_X12_at_25 fu) w x1 x2 x3 4 x3) else (F_X12_at_58 (F_X12_at_25 fu) w x1 x2 x3 6 x3))))) := rfl
theorem F_X12_at_25_z (w : gWd) (x1 : Int32) (x2 : Int32) (x3 : Int32) : F_X12_at_25 0 w x1 x2 x3 = none := rfl
def F_X12_at (w : gWd) (x1 : Int32) (x2 : Int32) : Option Int32 := gP (F_X12_isHeat w x1) (fun v_12 => if v_12 = 0 then (some (-1000001)) else (gP (F_X12_lanes w) (fun v_15 => gP (F_X12_in w x2 1 v_15) (fun v_17 => if v_17 = 0 then (some (-1000001)) else (F_X12_at_25 gFU w x1 x2 0)))))
def F_X12_counts_12 (w : gWd) (x1 : Int32) (x3 : Int32) (xs0 : Int32) (xs1 : Int32) : Option Int32 := gP (F_X12_of w xs1 xs0) (fun v_2 => if x3 = 0 then (some 1) else (if x3 = 1 then (if v_2 ≤ 0 then (some 0) else (some 1)) else (if x3 = 4 then (if v_2 ≤ 1 then (some 0) else (some ((v_2 - 1)))) else (gP (F_X12_of w x1 1) (fun v_15 => some v_15)))))
def F_X12_counts (w : gWd) (x1 : Int32) (x2 : Int32) (x3 : Int32) : Option Int32 := if 0 ≤ x2 then (F_X12_counts_12 w x1 x3 5 x1) else (F_X12_counts_12 w x1 x3 7 x1)
def F_X12_heat_66 (rec31 : gWd → Int32 → Int32 → Int32 → Int32 → Int32 → Int32 → Option Int32) (w : gWd) (x1 : Int32) (x2 : Int32) (x3 : Int32) (x4 : Int32) (x5 : Int32) (x6 : Int32) (xs0 : Int32) : Option Int32 := gS ((x3 + xs0)) (fun x3_9 => gP (F_X12_better w x4 xs0) (fun v_11 => if xs0 ≤ x5 then (gS (x6 + 1) (fun x6_13 => rec31 w x1 x2 x3_9 v_11 x5 x6_13)) else (gS (x6 + 1) (fun x6_14 => rec31 w x1 x2 x3_9 v_11 xs0 x6_14))))
def F_X12_heat_125 (w : gWd) (xs0 : Int32) : Option Int32 := gP (F_X12_orNone w xs0) (fun v_16 => some v_16)
def F_X12_heat_31 : Nat → gWd → Int32 → Int32 → Int32 → Int32 → Int32 → Int32 → Option Int32
  | 0 => fun _ _ _ _ _ _ _ => none
  | fu + 1 => fun w x1 x2 x3 x4 x5 x6 => (fun rec31 : gWd → Int32 → Int32 → Int32 → Int32 → Int32 → Int32 → Option Int32 => if (w 8 1 311) ≤ x6 then (if 2 ≤ x2 then (if x2 = 3 then (F_X12_heat_125 w x5) else (F_X12_heat_125 w x4)) else (some x3)) else (gP (F_X12_isIn w x6 x1) (fun v_5 => if v_5 = 0 then (F_X12_heat_66 rec31 w x1 x2 x3 x4 x5 x6 0) else (gP (F_X12_counts w x6 x1 x2) (fun v_8 => F_X12_heat_66 rec31 w x1 x2 x3 x4 x5 x6 v_8))))) (F_X12_heat_31 fu)
theorem F_X12_heat_31_s (fu : Nat) (w : gWd) (x1 : Int32) (x2 : Int32) (x3 : Int32) (x4 : Int32) (x5 : Int32) (x6 : Int32) : F_X12_heat_31 (fu + 1) w x1 x2 x3 x4 x5 x6 = (if (w 8 1 311) ≤ x6 then (if 2 ≤ x2 then (if x2 = 3 then (F_X12_heat_125 w x5) else (F_X12_heat_125 w x4)) else (some x3)) else (gP (F_X12_isIn w x6 x1) (fun v_5 => if v_5 = 0 then (F_X12_heat_66 (F_X12_heat_31 fu) w x1 x2 x3 x4 x5 x6 0) else (gP (F_X12_counts w x6 x1 x2) (fun v_8 => F_X12_heat_66 (F_X12_heat_31 fu) w x1 x2 x3 x4 x5 x6 v_8))))) := rfl
theorem F_X12_heat_31_z (w : gWd) (x1 : Int32) (x2 : Int32) (x3 : Int32) (x4 : Int32) (x5 : Int32) (x6 : Int32) : F_X12_heat_31 0 w x1 x2 x3 x4 x5 x6 = none := rfl
def F_X12_heat (w : gWd) (x1 : Int32) (x2 : Int32) : Option Int32 := gP (F_X12_isHeat w x1) (fun v_18 => if v_18 = 0 then (some (-1000001)) else (gP (F_X12_in w x2 0 4) (fun v_21 => if v_21 = 0 then (some (-1000001)) else (F_X12_heat_31 gFU w x1 x2 0 0 0 0))))
def F_X12_reserve_11 : Nat → gWd → Int32 → Int32 → Int32 → Option Int32
  | 0 => fun _ _ _ _ => none
  | fu + 1 => fun w x1 x2 x3 => (fun rec11 : gWd → Int32 → Int32 → Int32 → Option Int32 => if 4 ≤ x3 then (some (-1000004)) else (gB ((306 + x3)) 320 (fun k_3 => if (w 8 1 k_3) ≤ 0 then (gS (x3 + 1) (fun x3_5 => rec11 w x1 x2 x3_5)) else (gB ((306 + x3)) 320 (fun k_7 => gP (F_X12_isGone w (((w 8 1 k_7) - 1))) (fun v_9 => if v_9 = 0 then (if x2 = x1 then (gB ((306 + x3)) 320 (fun k_16 => some (((w 8 1 k_16) - 1)))) else (gS (x2 + 1) (fun x2_13 => gS (x3 + 1) (fun x3_14 => rec11 w x1 x2_13 x3_14)))) else (gS (x3 + 1) (fun x3_11 => rec11 w x1 x2 x3_11)))))))) (F_X12_reserve_11 fu)
theorem F_X12_reserve_11_s (fu : Nat) (w : gWd) (x1 : Int32) (x2 : Int32) (x3 : Int32) : F_X12_reserve_11 (fu + 1) w x1 x2 x3 = (if 4 ≤ x3 then (some (-1000004)) else (gB ((306 + x3)) 320 (fun k_3 => if (w 8 1 k_3) ≤ 0 then (gS (x3 + 1) (fun x3_5 => (F_X12_reserve_11 fu) w x1 x2 x3_5)) else (gB ((306 + x3)) 320 (fun k_7 => gP (F_X12_isGone w (((w 8 1 k_7) - 1))) (fun v_9 => if v_9 = 0 then (if x2 = x1 then (gB ((306 + x3)) 320 (fun k_16 => some (((w 8 1 k_16) - 1)))) else (gS (x2 + 1) (fun x2_13 => gS (x3 + 1) (fun x3_14 => (F_X12_reserve_11 fu) w x1 x2_13 x3_14)))) else (gS (x3 + 1) (fun x3_11 => (F_X12_reserve_11 fu) w x1 x2 x3_11)))))))) := rfl
theorem F_X12_reserve_11_z (w : gWd) (x1 : Int32) (x2 : Int32) (x3 : Int32) : F_X12_reserve_11 0 w x1 x2 x3 = none := rfl
def F_X12_reserve (w : gWd) (x1 : Int32) : Option Int32 := if 0 ≤ x1 then (F_X12_reserve_11 gFU w x1 0 0) else (some (-1000001))
def F_X12_reserves_2 : Nat → gWd → Int32 → Option Int32
  | 0 => fun _ _ => none
  | fu + 1 => fun w x1 => (fun rec2 : gWd → Int32 → Option Int32 => gP (F_X12_reserve w x1) (fun v_2 => if v_2 < 0 then (some x1) else (gS (x1 + 1) (fun x1_4 => rec2 w x1_4)))) (F_X12_reserves_2 fu)
theorem F_X12_reserves_2_s (fu : Nat) (w : gWd) (x1 : Int32) : F_X12_reserves_2 (fu + 1) w x1 = (gP (F_X12_reserve w x1) (fun v_2 => if v_2 < 0 then (some x1) else (gS (x1 + 1) (fun x1_4 => (F_X12_reserves_2 fu) w x1_4)))) := rfl
theorem F_X12_reserves_2_z (w : gWd) (x1 : Int32) : F_X12_reserves_2 0 w x1 = none := rfl
def F_X12_reserves (w : gWd) : Option Int32 := F_X12_reserves_2 gFU w 0
def F_X12_points (w : gWd) (x1 : Int32) : Option Int32 := gP (F_X12_in w x1 0 5) (fun v_2 => if v_2 = 0 then (some (-1000001)) else (gB ((300 + x1)) 320 (fun k_5 => some ((w 8 1 k_5)))))
def F_X12_ifDrawn (w : gWd) (x1 : Int32) (x2 : Int32) : Option (Int32 × gWd) := gP (F_X12_isSwimmer w x1) (fun v_2 => if v_2 = 0 then (some ((-1000001), w)) else (gP (F_X12_in w x2 0 2) (fun v_5 => if v_5 = 0 then (some ((-1000001), w)) else (if (w 8 1 310) = 0 then (gP (F_X12_isGone w x1) (fun v_9 => if v_9 = 0 then (gC (F_X12_plans w) (fun v_12 w_13 => gP (F_X12_entryRank w_13 x1) (fun v_15 => if x2 = 0 then (gB v_15 30 (fun k_21 => some ((w_13 8 5 k_21), w_13))) else (if x2 = 1 then (gP (F_X12_laneIn w_13 v_15) (fun v_19 => some (v_19, w_13))) else (some (v_12, w_13)))))) else (some ((-1000002), w)))) else (some ((-1000002), w))))))
def F_X12_lane (w : gWd) (x1 : Int32) (x2 : Int32) : Option Int32 := gP (F_X12_lanes w) (fun v_2 => gP (F_X12_in w x1 0 ((v_2 - 1))) (fun v_4 => if v_4 = 0 then (some (-1000001)) else (gP (F_X12_in w x2 0 1) (fun v_7 => if v_7 = 0 then (some (-1000001)) else (if x2 = 0 then (gP (F_X12_laneOf w x1) (fun v_13 => some v_13)) else (gP (F_X12_rankOf w ((x1 + 1))) (fun v_11 => some v_11)))))))
def F_X12_missing_11 : Nat → gWd → Int32 → Int32 → Int32 → Option Int32
  | 0 => fun _ _ _ _ => none
  | fu + 1 => fun w x1 x2 x3 => (fun rec11 : gWd → Int32 → Int32 → Int32 → Option Int32 => if (w 8 1 311) ≤ x3 then (some (-1000004)) else (gP (F_X12_isAsked w x3) (fun v_3 => if v_3 = 0 then (gS (x3 + 1) (fun x3_5 => rec11 w x1 x2 x3_5)) else (gP (F_X12_timeNow w) (fun v_7 => gP (F_X12_of w x3 v_7) (fun v_9 => if v_9 = 0 then (if x2 = x1 then (some x3) else (gS (x2 + 1) (fun x2_13 => gS (x3 + 1) (fun x3_14 => rec11 w x1 x2_13 x3_14)))) else (gS (x3 + 1) (fun x3_11 => rec11 w x1 x2 x3_11)))))))) (F_X12_missing_11 fu)
theorem F_X12_missing_11_s (fu : Nat) (w : gWd) (x1 : Int32) (x2 : Int32) (x3 : Int32) : F_X12_missing_11 (fu + 1) w x1 x2 x3 = (if (w 8 1 311) ≤ x3 then (some (-1000004)) else (gP (F_X12_isAsked w x3) (fun v_3 => if v_3 = 0 then (gS (x3 + 1) (fun x3_5 => (F_X12_missing_11 fu) w x1 x2 x3_5)) else (gP (F_X12_timeNow w) (fun v_7 => gP (F_X12_of w x3 v_7) (fun v_9 => if v_9 = 0 then (if x2 = x1 then (some x3) else (gS (x2 + 1) (fun x2_13 => gS (x3 + 1) (fun x3_14 => (F_X12_missing_11 fu) w x1 x2_13 x3_14)))) else (gS (x3 + 1) (fun x3_11 => (F_X12_missing_11 fu) w x1 x2 x3_11)))))))) := rfl
theorem F_X12_missing_11_z (w : gWd) (x1 : Int32) (x2 : Int32) (x3 : Int32) : F_X12_missing_11 0 w x1 x2 x3 = none := rfl
def F_X12_missing (w : gWd) (x1 : Int32) : Option Int32 := if 0 ≤ x1 then (F_X12_missing_11 gFU w x1 0 0) else (some (-1000001))
def F_X12_leader_77 (rec16 : gWd → Int32 → Int32 → Int32 → Option Int32) (rec28 : gWd → Int32 → Int32 → Int32 → Int32 → Int32 → Option Int32) (w : gWd) (x1 : Int32) (x2 : Int32) (x3 : Int32) (x5 : Int32) (xs0 : Int32) : Option Int32 := gS ((xs0 + 1)) (fun x4_14 => gS (x5 + 1) (fun x5_15 => rec28 w x1 x2 x3 x4_14 x5_15))
def F_X12_leader_81 (rec16 : gWd → Int32 → Int32 → Int32 → Option Int32) (rec28 : gWd → Int32 → Int32 → Int32 → Int32 → Int32 → Option Int32) (w : gWd) (x1 : Int32) (x2 : Int32) (x3 : Int32) (x5 : Int32) (xs0 : Int32) : Option Int32 := gS ((xs0 + 0)) (fun x4_16 => gS (x5 + 1) (fun x5_17 => rec28 w x1 x2 x3 x4_16 x5_17))
def F_X12_leader_28 (rec16 : gWd → Int32 → Int32 → Int32 → Option Int32) : Nat → gWd → Int32 → Int32 → Int32 → Int32 → Int32 → Option Int32
  | 0 => fun _ _ _ _ _ _ => none
  | fu + 1 => fun w x1 x2 x3 x4 x5 => (fun rec28 : gWd → Int32 → Int32 → Int32 → Int32 → Int32 → Option Int32 => if 6 ≤ x5 then (if x4 = x1 then (gS (x3 + 1) (fun x3_5 => rec16 w x1 x3 x3_5)) else (gS (x3 + 1) (fun x3_4 => rec16 w x1 x2 x3_4))) else (gB ((300 + x5)) 320 (fun k_7 => gB ((300 + x3)) 320 (fun k_9 => gS (((w 8 1 k_7) - (w 8 1 k_9))) (fun x6_10 => if 0 < x6_10 then (F_X12_leader_77 rec16 rec28 w x1 x2 x3 x5 x4) else (if x6_10 = 0 then (if x3 ≤ x5 then (F_X12_leader_81 rec16 rec28 w x1 x2 x3 x5 x4) else (F_X12_leader_77 rec16 rec28 w x1 x2 x3 x5 x4)) else (F_X12_leader_81 rec16 rec28 w x1 x2 x3 x5 x4))))))) (F_X12_leader_28 rec16 fu)
theorem F_X12_leader_28_s (rec16 : gWd → Int32 → Int32 → Int32 → Option Int32) (fu : Nat) (w : gWd) (x1 : Int32) (x2 : Int32) (x3 : Int32) (x4 : Int32) (x5 : Int32) : F_X12_leader_28 rec16 (fu + 1) w x1 x2 x3 x4 x5 = (if 6 ≤ x5 then (if x4 = x1 then (gS (x3 + 1) (fun x3_5 => rec16 w x1 x3 x3_5)) else (gS (x3 + 1) (fun x3_4 => rec16 w x1 x2 x3_4))) else (gB ((300 + x5)) 320 (fun k_7 => gB ((300 + x3)) 320 (fun k_9 => gS (((w 8 1 k_7) - (w 8 1 k_9))) (fun x6_10 => if 0 < x6_10 then (F_X12_leader_77 rec16 (F_X12_leader_28 rec16 fu) w x1 x2 x3 x5 x4) else (if x6_10 = 0 then (if x3 ≤ x5 then (F_X12_leader_81 rec16 (F_X12_leader_28 rec16 fu) w x1 x2 x3 x5 x4) else (F_X12_leader_77 rec16 (F_X12_leader_28 rec16 fu) w x1 x2 x3 x5 x4)) else (F_X12_leader_81 rec16 (F_X12_leader_28 rec16 fu) w x1 x2 x3 x5 x4))))))) := rfl
theorem F_X12_leader_28_z (rec16 : gWd → Int32 → Int32 → Int32 → Option Int32) (w : gWd) (x1 : Int32) (x2 : Int32) (x3 : Int32) (x4 : Int32) (x5 : Int32) : F_X12_leader_28 rec16 0 w x1 x2 x3 x4 x5 = none := rfl
def F_X12_leader_16 : Nat → gWd → Int32 → Int32 → Int32 → Option Int32
  | 0 => fun _ _ _ _ => none
  | fu + 1 => fun w x1 x2 x3 => (fun rec16 : gWd → Int32 → Int32 → Int32 → Option Int32 => if 6 ≤ x3 then (some x2) else (F_X12_leader_28 rec16 gFU w x1 x2 x3 0 0)) (F_X12_leader_16 fu)
theorem F_X12_leader_16_s (fu : Nat) (w : gWd) (x1 : Int32) (x2 : Int32) (x3 : Int32) : F_X12_leader_16 (fu + 1) w x1 x2 x3 = (if 6 ≤ x3 then (some x2) else (F_X12_leader_28 (F_X12_leader_16 fu) gFU w x1 x2 x3 0 0)) := rfl
theorem F_X12_leader_16_z (w : gWd) (x1 : Int32) (x2 : Int32) (x3 : Int32) : F_X12_leader_16 0 w x1 x2 x3 = none := rfl
def F_X12_leader (w : gWd) (x1 : Int32) : Option Int32 := gP (F_X12_in w x1 0 5) (fun v_19 => if v_19 = 0 then (some (-1000001)) else (F_X12_leader_16 gFU w x1 0 0))
def F_X12_mean_43 (rec6 : gWd → Int32 → Int32 → Int32 → Option Int32) (w : gWd) (x2 : Int32) (x3 : Int32) (x4 : Int32) (xs0 : Int32) (xs1 : Int32) : Option Int32 := gS ((xs1 + xs0)) (fun x1_14 => if x4 ≤ 0 then (gS ((x2 + 0)) (fun x2_16 => gS (x3 + 1) (fun x3_17 => rec6 w x1_14 x2_16 x3_17))) else (gS ((x2 + 1)) (fun x2_18 => gS (x3 + 1) (fun x3_19 => rec6 w x1_14 x2_18 x3_19))))
def F_X12_mean_6 : Nat → gWd → Int32 → Int32 → Int32 → Option Int32
  | 0 => fun _ _ _ _ => none
  | fu + 1 => fun w x1 x2 x3 => (fun rec6 : gWd → Int32 → Int32 → Int32 → Option Int32 => if (w 8 1 311) ≤ x3 then (gS ((FP.i2f x1)) (fun f3_2 => gS ((FP.i2f x2)) (fun f4_3 => if x2 = 0 then (some (-1000004)) else (gN (FP.fdiv f3_2 f4_3) (gP (F_Jxf58ca_floatToIntBits_5c35a w ((FP.fdiv f3_2 f4_3))) (fun v_7 => some v_7)))))) else (gP (F_X12_timeNow w) (fun v_9 => gP (F_X12_of w x3 v_9) (fun v_11 => gS ((v_11 - 1)) (fun x4_12 => if x4_12 ≤ 0 then (F_X12_mean_43 rec6 w x2 x3 x4_12 0 x1) else (F_X12_mean_43 rec6 w x2 x3 x4_12 x4_12 x1)))))) (F_X12_mean_6 fu)
theorem F_X12_mean_6_s (fu : Nat) (w : gWd) (x1 : Int32) (x2 : Int32) (x3 : Int32) : F_X12_mean_6 (fu + 1) w x1 x2 x3 = (if (w 8 1 311) ≤ x3 then (gS ((FP.i2f x1)) (fun f3_2 => gS ((FP.i2f x2)) (fun f4_3 => if x2 = 0 then (some (-1000004)) else (gN (FP.fdiv f3_2 f4_3) (gP (F_Jxf58ca_floatToIntBits_5c35a w ((FP.fdiv f3_2 f4_3))) (fun v_7 => some v_7)))))) else (gP (F_X12_timeNow w) (fun v_9 => gP (F_X12_of w x3 v_9) (fun v_11 => gS ((v_11 - 1)) (fun x4_12 => if x4_12 ≤ 0 then (F_X12_mean_43 (F_X12_mean_6 fu) w x2 x3 x4_12 0 x1) else (F_X12_mean_43 (F_X12_mean_6 fu) w x2 x3 x4_12 x4_12 x1)))))) := rfl
theorem F_X12_mean_6_z (w : gWd) (x1 : Int32) (x2 : Int32) (x3 : Int32) : F_X12_mean_6 0 w x1 x2 x3 = none := rfl
def F_X12_mean (w : gWd) : Option Int32 := F_X12_mean_6 gFU w 0 0 0
def F_X12_goneOnes_4 : Nat → gWd → Int32 → Int32 → Option Int32
  | 0 => fun _ _ _ => none
  | fu + 1 => fun w x1 x2 => (fun rec4 : gWd → Int32 → Int32 → Option Int32 => if (w 8 1 311) ≤ x2 then (some x1) else (gP (F_X12_isGone w x2) (fun v_3 => if v_3 = 0 then (gS ((x1 ||| 0)) (fun x1_5 => gS (x2 + 1) (fun x2_6 => rec4 w x1_5 x2_6))) else (gS ((x1 ||| (1 <<< (x2 &&& 31)))) (fun x1_7 => gS (x2 + 1) (fun x2_8 => rec4 w x1_7 x2_8)))))) (F_X12_goneOnes_4 fu)
theorem F_X12_goneOnes_4_s (fu : Nat) (w : gWd) (x1 : Int32) (x2 : Int32) : F_X12_goneOnes_4 (fu + 1) w x1 x2 = (if (w 8 1 311) ≤ x2 then (some x1) else (gP (F_X12_isGone w x2) (fun v_3 => if v_3 = 0 then (gS ((x1 ||| 0)) (fun x1_5 => gS (x2 + 1) (fun x2_6 => (F_X12_goneOnes_4 fu) w x1_5 x2_6))) else (gS ((x1 ||| (1 <<< (x2 &&& 31)))) (fun x1_7 => gS (x2 + 1) (fun x2_8 => (F_X12_goneOnes_4 fu) w x1_7 x2_8)))))) := rfl
theorem F_X12_goneOnes_4_z (w : gWd) (x1 : Int32) (x2 : Int32) : F_X12_goneOnes_4 0 w x1 x2 = none := rfl
def F_X12_goneOnes (w : gWd) : Option Int32 := F_X12_goneOnes_4 gFU w 0 0
def F_X12_timesNow_31 (rec4 : gWd → Int32 → Int32 → Option Int32) (w : gWd) (x2 : Int32) (xs0 : Int32) (xs1 : Int32) : Option Int32 := gP (F_X12_of w x2 7) (fun v_6 => if v_6 ≤ 0 then (gS ((xs1 + (xs0 + 0))) (fun x1_8 => gS (x2 + 1) (fun x2_9 => rec4 w x1_8 x2_9))) else (gS ((xs1 + (xs0 + 1))) (fun x1_10 => gS (x2 + 1) (fun x2_11 => rec4 w x1_10 x2_11))))
def F_X12_timesNow_4 : Nat → gWd → Int32 → Int32 → Option Int32
  | 0 => fun _ _ _ => none
  | fu + 1 => fun w x1 x2 => (fun rec4 : gWd → Int32 → Int32 → Option Int32 => if (w 8 1 311) ≤ x2 then (some x1) else (gP (F_X12_of w x2 5) (fun v_3 => if v_3 ≤ 0 then (F_X12_timesNow_31 rec4 w x2 0 x1) else (F_X12_timesNow_31 rec4 w x2 1 x1)))) (F_X12_timesNow_4 fu)
theorem F_X12_timesNow_4_s (fu : Nat) (w : gWd) (x1 : Int32) (x2 : Int32) : F_X12_timesNow_4 (fu + 1) w x1 x2 = (if (w 8 1 311) ≤ x2 then (some x1) else (gP (F_X12_of w x2 5) (fun v_3 => if v_3 ≤ 0 then (F_X12_timesNow_31 (F_X12_timesNow_4 fu) w x2 0 x1) else (F_X12_timesNow_31 (F_X12_timesNow_4 fu) w x2 1 x1)))) := rfl
theorem F_X12_timesNow_4_z (w : gWd) (x1 : Int32) (x2 : Int32) : F_X12_timesNow_4 0 w x1 x2 = none := rfl
def F_X12_timesNow (w : gWd) : Option Int32 := F_X12_timesNow_4 gFU w 0 0
def F_X12_allPoints_4 : Nat → gWd → Int32 → Int32 → Option Int32
  | 0 => fun _ _ _ => none
  | fu + 1 => fun w x1 x2 => (fun rec4 : gWd → Int32 → Int32 → Option Int32 => if 6 ≤ x2 then (some x1) else (gB ((300 + x2)) 320 (fun k_3 => gS ((x1 + (w 8 1 k_3))) (fun x1_4 => gS (x2 + 1) (fun x2_5 => rec4 w x1_4 x2_5))))) (F_X12_allPoints_4 fu)
theorem F_X12_allPoints_4_s (fu : Nat) (w : gWd) (x1 : Int32) (x2 : Int32) : F_X12_allPoints_4 (fu + 1) w x1 x2 = (if 6 ≤ x2 then (some x1) else (gB ((300 + x2)) 320 (fun k_3 => gS ((x1 + (w 8 1 k_3))) (fun x1_4 => gS (x2 + 1) (fun x2_5 => (F_X12_allPoints_4 fu) w x1_4 x2_5))))) := rfl
theorem F_X12_allPoints_4_z (w : gWd) (x1 : Int32) (x2 : Int32) : F_X12_allPoints_4 0 w x1 x2 = none := rfl
def F_X12_allPoints (w : gWd) : Option Int32 := F_X12_allPoints_4 gFU w 0 0
def F_X12_count (w : gWd) (x1 : Int32) : Option Int32 := if x1 = 0 then (some ((w 8 1 310))) else (if x1 = 1 then (some ((w 8 1 311))) else (if x1 = 2 then (gP (F_X12_goneOnes w) (fun v_5 => some v_5)) else (if x1 = 3 then (some ((w 8 1 312))) else (if x1 = 4 then (gP (F_X12_inFinal w) (fun v_9 => some v_9)) else (if x1 = 5 then (gP (F_X12_reserves w) (fun v_12 => some v_12)) else (if x1 = 6 then (gP (F_X12_timesNow w) (fun v_15 => some v_15)) else (if x1 = 7 then (some ((w 8 1 313))) else (if x1 = 8 then (gP (F_X12_orNone w ((w 8 1 314))) (fun v_19 => some v_19)) else (if x1 = 9 then (if (w 8 1 314) ≤ 0 then (some (-1000004)) else (some ((w 8 1 315)))) else (if x1 = 10 then (some ((w 8 1 316))) else (if x1 = 11 then (gP (F_X12_allPoints w) (fun v_25 => some v_25)) else (if x1 = 12 then (some ((w 8 0 3))) else (if x1 = 13 then (some ((w 8 0 6))) else (if x1 = 20 then (gB (((317 + x1) - 20)) 320 (fun k_30 => some ((w 8 1 k_30)))) else (if x1 = 21 then (gB (((317 + x1) - 20)) 320 (fun k_33 => some ((w 8 1 k_33)))) else (if x1 = 22 then (gB (((317 + x1) - 20)) 320 (fun k_36 => some ((w 8 1 k_36)))) else (some (-1000001))))))))))))))))))
def F_X12_undo_22 : Nat → gWd → Int32 → Option (Int32 × gWd)
  | 0 => fun _ _ => none
  | fu + 1 => fun w x1 => (fun rec22 : gWd → Int32 → Option (Int32 × gWd) => if 320 ≤ x1 then (some ((w 8 0 3), w)) else (gB (((320 * (w 8 0 3)) + x1)) 1280 (fun k_3 => gB x1 320 (fun k_5 => gS (up3 w 8 1 k_5 ((w 8 2 k_3))) (fun w_6 => gS (x1 + 1) (fun x1_7 => rec22 w_6 x1_7)))))) (F_X12_undo_22 fu)
theorem F_X12_undo_22_s (fu : Nat) (w : gWd) (x1 : Int32) : F_X12_undo_22 (fu + 1) w x1 = (if 320 ≤ x1 then (some ((w 8 0 3), w)) else (gB (((320 * (w 8 0 3)) + x1)) 1280 (fun k_3 => gB x1 320 (fun k_5 => gS (up3 w 8 1 k_5 ((w 8 2 k_3))) (fun w_6 => gS (x1 + 1) (fun x1_7 => (F_X12_undo_22 fu) w_6 x1_7)))))) := rfl
theorem F_X12_undo_22_z (w : gWd) (x1 : Int32) : F_X12_undo_22 0 w x1 = none := rfl
def F_X12_undo (w : gWd) : Option (Int32 × gWd) := if (w 8 0 3) = 0 then (some ((-1000002), w)) else (gS (up3 w 8 0 3 (((w 8 0 3) - 1))) (fun w_9 => F_X12_undo_22 gFU w_9 0))
def F_X12_type (w : gWd) (x1 : Int32) : Option (Int32 × gWd) := gP (F_X12_in w x1 32 126) (fun v_2 => if v_2 = 0 then (some ((-1000001), w)) else (if (w 8 0 6) = 60 then (some ((-1000003), w)) else (gB ((w 8 0 6)) 60 (fun k_6 => gS (up3 w 8 4 k_6 x1) (fun w_7 => gS (up3 w_7 8 0 6 (((w_7 8 0 6) + 1))) (fun w_8 => some ((w_8 8 0 6), w_8)))))))
def F_X12_clearText (w : gWd) : Option (Int32 × gWd) := gS ((w 8 0 6)) (fun x1_1 => gS (up3 w 8 0 6 0) (fun w_2 => some (x1_1, w_2)))
def F_X12_isAt_32 (w : gWd) : Option Int32 := some 0
def F_X12_isAt (w : gWd) (x1 : Int32) (x2 : Int32) : Option Int32 := if (w 8 0 6) ≤ (w 8 0 8) then (F_X12_isAt_32 w) else (gB ((w 8 0 8)) 60 (fun k_3 => gP (F_X12_in w ((w 8 4 k_3)) x1 x2) (fun v_5 => if v_5 = 0 then (F_X12_isAt_32 w) else (some 1))))
def F_X12_sign_21 (w : gWd) (x2 : Int32) (xs0 : Int32) (xs1 : Int32) : Option (Int32 × gWd) := gS (up3 w 8 0 8 ((xs1 + xs0))) (fun w_1 => gZ x2 (some (x2, w_1)))
def F_X12_sign (w : gWd) (x1 : Int32) : Option (Int32 × gWd) := gP (F_X12_isAt w x1 x1) (fun v_4 => if v_4 = 0 then (F_X12_sign_21 w v_4 0 ((w 8 0 8))) else (F_X12_sign_21 w v_4 1 ((w 8 0 8))))
def F_X12_numbered_74 (w : gWd) (x2 : Int32) : Option (Int32 × gWd) := if (w 8 0 8) ≤ x2 then (some (0, w)) else (some (1, w))
def F_X12_numbered_12 : Nat → gWd → Int32 → Int32 → Option (Int32 × gWd)
  | 0 => fun _ _ _ => none
  | fu + 1 => fun w x1 x2 => (fun rec12 : gWd → Int32 → Int32 → Option (Int32 × gWd) => gP (F_X12_isAt w 48 57) (fun v_2 => if v_2 = 0 then (F_X12_numbered_74 w x2) else (if 3 ≤ ((w 8 0 8) - x2) then (F_X12_numbered_74 w x2) else (gB x1 2 (fun k_6 => gB ((w 8 0 8)) 60 (fun k_8 => gB x1 2 (fun k_10 => gS (up3 w 8 6 k_10 ((((10 * (w 8 6 k_6)) + (w 8 4 k_8)) - 48))) (fun w_11 => gS (up3 w_11 8 0 8 (((w_11 8 0 8) + 1))) (fun w_12 => rec12 w_12 x1 x2))))))))) (F_X12_numbered_12 fu)
theorem F_X12_numbered_12_s (fu : Nat) (w : gWd) (x1 : Int32) (x2 : Int32) : F_X12_numbered_12 (fu + 1) w x1 x2 = (gP (F_X12_isAt w 48 57) (fun v_2 => if v_2 = 0 then (F_X12_numbered_74 w x2) else (if 3 ≤ ((w 8 0 8) - x2) then (F_X12_numbered_74 w x2) else (gB x1 2 (fun k_6 => gB ((w 8 0 8)) 60 (fun k_8 => gB x1 2 (fun k_10 => gS (up3 w 8 6 k_10 ((((10 * (w 8 6 k_6)) + (w 8 4 k_8)) - 48))) (fun w_11 => gS (up3 w_11 8 0 8 (((w_11 8 0 8) + 1))) (fun w_12 => (F_X12_numbered_12 fu) w_12 x1 x2))))))))) := rfl
theorem F_X12_numbered_12_z (w : gWd) (x1 : Int32) (x2 : Int32) : F_X12_numbered_12 0 w x1 x2 = none := rfl
def F_X12_numbered (w : gWd) (x1 : Int32) : Option (Int32 × gWd) := gS ((w 8 0 8)) (fun x2_14 => gB x1 2 (fun k_16 => gS (up3 w 8 6 k_16 0) (fun w_17 => F_X12_numbered_12 gFU w_17 x1 x2_14)))
def F_X12_numbersOf (w : gWd) (x0 : Int32) : Option Int32 := if x0 = 100 then (some 0) else (if x0 = 101 then (some 2) else (if x0 = 102 then (some 0) else (if x0 = 110 then (some 0) else (if x0 = 111 then (some 0) else (if x0 = 115 then (some 2) else (if x0 = 120 then (some 1) else (some (-1000004))))))))
def F_X12_reads_109 (w : gWd) : Option (Int32 × gWd) := some (0, w)
def F_X12_reads_96 (w : gWd) : Option (Int32 × gWd) := gC (F_X12_sign w 59) (fun v_22 w_23 => if v_22 = 0 then (F_X12_reads_109 w_23) else (some (1, w_23)))
def F_X12_reads_69 (w : gWd) (x1 : Int32) (xs0 : Int32) : Option (Int32 × gWd) := if xs0 = 0 then (F_X12_reads_109 w) else (if x1 < 2 then (F_X12_reads_96 w) else (gC (F_X12_sign w 44) (fun v_14 w_15 => if v_14 = 0 then (F_X12_reads_109 w_15) else (gC (F_X12_numbered w_15 1) (fun v_18 w_19 => if v_18 = 0 then (F_X12_reads_109 w_19) else (F_X12_reads_96 w_19))))))
def F_X12_reads_64 (w : gWd) (x1 : Int32) : Option (Int32 × gWd) := F_X12_reads_69 w x1 1
def F_X12_reads_25 (w : gWd) (xs0 : Int32) : Option (Int32 × gWd) := gS (up3 w 8 0 13 xs0) (fun w_1 => gP (F_X12_numbersOf w_1 ((w_1 8 0 13))) (fun v_3 => if 0 ≤ v_3 then (gS (up3 w_1 8 0 8 (((w_1 8 0 8) + 1))) (fun w_5 => if v_3 = 0 then (F_X12_reads_64 w_5 v_3) else (gC (F_X12_numbered w_5 0) (fun v_8 w_9 => if v_8 = 0 then (F_X12_reads_69 w_9 v_3 0) else (F_X12_reads_64 w_9 v_3))))) else (some (0, w_1))))
def F_X12_reads (w : gWd) : Option (Int32 × gWd) := gP (F_X12_isAt w 33 126) (fun v_26 => if v_26 = 0 then (F_X12_reads_25 w 0) else (gB ((w 8 0 8)) 60 (fun k_29 => F_X12_reads_25 w ((w 8 4 k_29)))))
def F_X12_does (w : gWd) : Option (Int32 × gWd) := if (w 8 0 13) = 100 then (gC (F_X12_draw w) (fun v_3 w_4 => some (v_3, w_4))) else (if (w 8 0 13) = 101 then (gC (F_X12_enter w ((w 8 6 0)) ((w 8 6 1))) (fun v_7 w_8 => some (v_7, w_8))) else (if (w 8 0 13) = 102 then (gC (F_X12_finals w) (fun v_11 w_12 => some (v_11, w_12))) else (if (w 8 0 13) = 111 then (gC (F_X12_end w) (fun v_15 w_16 => some (v_15, w_16))) else (if (w 8 0 13) = 115 then (gC (F_X12_swim w ((w 8 6 0)) ((w 8 6 1))) (fun v_19 w_20 => some (v_19, w_20))) else (if (w 8 0 13) = 120 then (gC (F_X12_scratch w ((w 8 6 0))) (fun v_23 w_24 => some (v_23, w_24))) else (gC (F_X12_next w) (fun v_26 w_27 => some (v_26, w_27))))))))
def F_X12_plays_108 (rec22 : gWd → Int32 → Option (Int32 × gWd)) (w : gWd) (x1 : Int32) (xs0 : Int32) : Option (Int32 × gWd) := gS (up3 w 8 0 11 xs0) (fun w_16 => gS (up3 w_16 8 0 12 (((w_16 8 0 12) + 1))) (fun w_17 => rec22 w_17 x1))
def F_X12_plays_87 (rec22 : gWd → Int32 → Option (Int32 × gWd)) (w : gWd) (x1 : Int32) (x2 : Int32) (x3 : Int32) (xs0 : Int32) : Option (Int32 × gWd) := gS (up3 w 8 0 10 xs0) (fun w_14 => if x2 = 0 then (F_X12_plays_108 rec22 w_14 x1 (((w_14 8 0 8) - (w_14 8 0 9)))) else (F_X12_plays_108 rec22 w_14 x1 x3))
def F_X12_plays_76 (rec22 : gWd → Int32 → Option (Int32 × gWd)) (w : gWd) (x2 : Int32) (x3 : Int32) (xs0 : Int32) : Option (Int32 × gWd) := if x2 = 0 then (F_X12_plays_87 rec22 w xs0 x2 x3 1) else (F_X12_plays_87 rec22 w xs0 x2 x3 2)
def F_X12_plays_75 (rec22 : gWd → Int32 → Option (Int32 × gWd)) (w : gWd) (x2 : Int32) (x3 : Int32) : Option (Int32 × gWd) := F_X12_plays_76 rec22 w x2 x3 0
def F_X12_plays_62 (rec22 : gWd → Int32 → Option (Int32 × gWd)) (w : gWd) (x2 : Int32) (xs0 : Int32) : Option (Int32 × gWd) := if x2 = 0 then (F_X12_plays_75 rec22 w x2 xs0) else (if xs0 < 0 then (F_X12_plays_75 rec22 w x2 xs0) else (F_X12_plays_76 rec22 w x2 xs0 1))
def F_X12_plays_124 (w : gWd) (x1 : Int32) : Option (Int32 × gWd) := gS (up3 w 8 0 4 0) (fun w_18 => gZ x1 (some (x1, w_18)))
def F_X12_plays_22 : Nat → gWd → Int32 → Option (Int32 × gWd)
  | 0 => fun _ _ => none
  | fu + 1 => fun w x1 => (fun rec22 : gWd → Int32 → Option (Int32 × gWd) => if (w 8 0 6) ≤ (w 8 0 8) then (F_X12_plays_124 w x1) else (if x1 = 0 then (F_X12_plays_124 w x1) else (gS (up3 w 8 0 9 ((w 8 0 8))) (fun w_3 => gC (F_X12_reads w_3) (fun v_5 w_6 => if v_5 = 0 then (F_X12_plays_62 rec22 w_6 v_5 0) else (gC (F_X12_does w_6) (fun v_9 w_10 => F_X12_plays_62 rec22 w_10 v_5 v_9))))))) (F_X12_plays_22 fu)
theorem F_X12_plays_22_s (fu : Nat) (w : gWd) (x1 : Int32) : F_X12_plays_22 (fu + 1) w x1 = (if (w 8 0 6) ≤ (w 8 0 8) then (F_X12_plays_124 w x1) else (if x1 = 0 then (F_X12_plays_124 w x1) else (gS (up3 w 8 0 9 ((w 8 0 8))) (fun w_3 => gC (F_X12_reads w_3) (fun v_5 w_6 => if v_5 = 0 then (F_X12_plays_62 (F_X12_plays_22 fu) w_6 v_5 0) else (gC (F_X12_does w_6) (fun v_9 w_10 => F_X12_plays_62 (F_X12_plays_22 fu) w_10 v_5 v_9))))))) := rfl
theorem F_X12_plays_22_z (w : gWd) (x1 : Int32) : F_X12_plays_22 0 w x1 = none := rfl
def F_X12_plays (w : gWd) : Option (Int32 × gWd) := gS (up3 w 8 0 4 1) (fun w_20 => gS (up3 w_20 8 0 8 0) (fun w_21 => gS (up3 w_21 8 0 9 0) (fun w_22 => gS (up3 w_22 8 0 12 0) (fun w_23 => F_X12_plays_22 gFU w_23 1))))
def F_X12_fault (w : gWd) (x1 : Int32) : Option (Int32 × gWd) := gP (F_X12_in w x1 0 2) (fun v_2 => if v_2 = 0 then (some ((-1000001), w)) else (gP (F_X12_copies w 1 3) (fun w_5 => gC (F_X12_plays w_5) (fun v_7 w_8 => gP (F_X12_copies w_8 3 1) (fun w_10 => if v_7 = 0 then (if x1 = 0 then (some ((w_10 8 0 9), w_10)) else (if x1 = 1 then (some ((w_10 8 0 10), w_10)) else (some ((w_10 8 0 11), w_10)))) else (some ((-1000004), w_10)))))))
def F_X12_play (w : gWd) : Option (Int32 × gWd) := gP (F_X12_copies w 1 3) (fun w_2 => gC (F_X12_plays w_2) (fun v_4 w_5 => gP (F_X12_copies w_5 3 1) (fun w_7 => if v_4 = 0 then (some ((-1000002), w_7)) else (gP (F_X12_changes w_7) (fun w_10 => gC (F_X12_plays w_10) (fun v_12 w_13 => if v_12 = 0 then (some ((-1000004), w_13)) else (some ((w_13 8 0 12), w_13))))))))
end
section
/-! plain facts on numbers and arrays, to paste: each family by itself; over the kit's rows on nI and upd -/
/-! ===== order of ints, in all its forms, and through longs ===== -/
theorem fa_lt (a b : Int32) : a < b ↔ a.toInt < b.toInt := Int32.lt_iff_toInt_lt
theorem fa_le (a b : Int32) : a ≤ b ↔ a.toInt ≤ b.toInt := Int32.le_iff_toInt_le
theorem fa_eq (a b : Int32) : a = b ↔ a.toInt = b.toInt := Int32.toInt_inj.symm
theorem fa_lt64 (a b : Int64) : a < b ↔ a.toInt < b.toInt := Int64.lt_iff_toInt_lt
theorem fa_le64 (a b : Int64) : a ≤ b ↔ a.toInt ≤ b.toInt := Int64.le_iff_toInt_le
theorem fa_eq64 (a b : Int64) : a = b ↔ a.toInt = b.toInt := Int64.toInt_inj.symm
/-- a comparison of two ints taken as longs -/
theorem fa_wide_lt (a b : Int32) : a.toInt64 < b.toInt64 ↔ a < b := by rw [fa_lt64, fa_lt, Int32.toInt_toInt64, Int32.toInt_toInt64]
theorem fa_wide_le (a b : Int32) : a.toInt64 ≤ b.toInt64 ↔ a ≤ b := by rw [fa_le64, fa_le, Int32.toInt_toInt64, Int32.toInt_toInt64]
theorem fa_wide_eq (a b : Int32) : a.toInt64 = b.toInt64 ↔ a = b := by rw [fa_eq64, fa_eq, Int32.toInt_toInt64, Int32.toInt_toInt64]
/-- one strict comparison gives all the others -/
theorem fa_of_lt {a b : Int32} (h : a < b) : a ≤ b ∧ ¬ b ≤ a ∧ ¬ b < a ∧ a ≠ b ∧ b ≠ a := by
  rw [fa_lt] at h
  refine ⟨?_, ?_, ?_, ?_, ?_⟩
  · rw [fa_le]; omega
  · rw [fa_le]; omega
  · rw [fa_lt]; omega
  · intro e; rw [fa_eq] at e; omega
  · intro e; rw [fa_eq] at e; omega
theorem fa_of_nlt {a b : Int32} (h : ¬ a < b) : b ≤ a := by
  rw [fa_lt] at h
  rw [fa_le]
  omega
theorem fa_of_nle {a b : Int32} (h : ¬ a ≤ b) : b < a := by
  rw [fa_le] at h
  rw [fa_lt]
  omega
theorem fa_le_ne {a b : Int32} (h : a ≤ b) (h2 : a ≠ b) : a < b := by
  rw [fa_le] at h
  rw [fa_lt]
  have h3 : a.toInt ≠ b.toInt := fun e => h2 ((fa_eq a b).mpr e)
  omega
theorem fa_three (a b : Int32) : a < b ∨ a = b ∨ b < a := by
  rw [fa_lt, fa_lt, fa_eq]
  omega
theorem fa_trans {a b c : Int32} (h : a < b) (h2 : b ≤ c) : a < c := by
  rw [fa_lt] at *
  rw [fa_le] at h2
  omega
/-! ===== small literals as numbers ===== -/
theorem fa_lit (n : Nat) : (OfNat.ofNat n : Int32) = nI n := rfl
theorem fa_litL (n : Nat) : (OfNat.ofNat n : Int64) = lN n := rfl
/-! ===== bits of a number: 'or', masks, one bit ===== -/
theorem fa_and (a b : Nat) : nI a &&& nI b = nI (a &&& b) := by
  apply Int32.toBitVec_inj.1
  show BitVec.ofNat 32 a &&& BitVec.ofNat 32 b = BitVec.ofNat 32 (a &&& b)
  apply BitVec.eq_of_getLsbD_eq
  intro i hi
  simp [hi]
theorem fa_or (a b : Nat) : nI a ||| nI b = nI (a ||| b) := by
  apply Int32.toBitVec_inj.1
  show BitVec.ofNat 32 a ||| BitVec.ofNat 32 b = BitVec.ofNat 32 (a ||| b)
  apply BitVec.eq_of_getLsbD_eq
  intro i hi
  simp [hi]
/-- a remainder by a power of two, as a mask -/
theorem fa_mask (n k : Nat) : nI n &&& nI (2 ^ k - 1) = nI (n % 2 ^ k) := by rw [fa_and, Nat.and_two_pow_sub_one_eq_mod]
/-- 'or' of a high part and a low one that don't meet is their sum -/
theorem fa_or_sum {a k : Nat} (b : Nat) (h : a < 2 ^ k) : nI (2 ^ k * b) ||| nI a = nI (2 ^ k * b + a) := by rw [fa_or, Nat.two_pow_add_eq_or_of_lt h]
/-- one bit, by 'and' with a power of two -/
theorem fa_bit {n j : Nat} (hj : j < 31) : nI n &&& nI (2 ^ j) = 0 ↔ n.testBit j = false := by
  have h2 : (2 : Nat) ^ j < 2 ^ 31 := Nat.pow_lt_pow_right (by decide) hj
  have hle : n &&& 2 ^ j ≤ 2 ^ j := Nat.and_le_right
  have e : n &&& 2 ^ j = 0 ↔ n.testBit j = false := by
    constructor
    · intro h
      have h1 : (n &&& 2 ^ j).testBit j = false := by rw [h]; simp
      rw [Nat.testBit_and] at h1
      first | simpa using h1 | simpa [Nat.testBit_two_pow_self] using h1 | simpa [Nat.testBit_two_pow] using h1
    · intro h
      apply Nat.eq_of_testBit_eq
      intro i
      rw [Nat.testBit_and]
      by_cases hi : j = i
      · subst hi; simp [h]
      · first | (simp [Nat.testBit_two_pow, hi]; done) | (simp [Nat.testBit_two_pow_of_ne hi]; done)
  rw [fa_and]
  constructor
  · intro h
    apply e.mp
    rcases Nat.eq_zero_or_pos (n &&& 2 ^ j) with z | z
    · exact z
    · exact absurd h (nI_ne0 z (Nat.lt_of_le_of_lt hle h2))
  · intro h
    rw [e.mpr h]; exact nI_0
/-- a remainder by a power of two of a number that isn't negative, as Java divides -/
theorem fa_rem {a k : Nat} (ha : a < 2 ^ 31) (hk : k < 31) : nI a - nI a / nI (2 ^ k) * nI (2 ^ k) = nI (a % 2 ^ k) := pk_rem ha (Nat.two_pow_pos k) (Nat.pow_lt_pow_right (by decide) hk)
/-! ===== cuts to a byte, a short ===== -/
theorem fa_byte_xor (x y : Int32) : (x ^^^ y).toInt8 = x.toInt8 ^^^ y.toInt8 := by
  apply Int8.toBitVec_inj.1
  apply BitVec.eq_of_getLsbD_eq
  intro i hi
  first | (simp [hi]; done) | (simp [hi, BitVec.getLsbD_setWidth, BitVec.getLsbD_signExtend]; done)
theorem fa_short_xor (x y : Int32) : (x ^^^ y).toInt16 = x.toInt16 ^^^ y.toInt16 := by
  apply Int16.toBitVec_inj.1
  apply BitVec.eq_of_getLsbD_eq
  intro i hi
  first | (simp [hi]; done) | (simp [hi, BitVec.getLsbD_setWidth, BitVec.getLsbD_signExtend]; done)
/-- the cut to a byte sees the low byte alone -/
theorem fa_byte_low (x : Int32) : (x &&& 255).toInt8 = x.toInt8 := by
  apply Int8.toBitVec_inj.1
  apply BitVec.eq_of_getLsbD_eq
  intro i hi
  have h2 : (255 : Int32).toBitVec.getLsbD i = true := by
    have : ∀ j : Fin 8, (255 : Int32).toBitVec.getLsbD j.val = true := by decide +kernel
    exact this ⟨i, hi⟩
  have h4 : (x &&& 255).toBitVec.getLsbD i = x.toBitVec.getLsbD i := by
    show (x.toBitVec &&& (255 : Int32).toBitVec).getLsbD i = _
    rw [BitVec.getLsbD_and, h2, Bool.and_true]
  have h3 : i < 32 := by omega
  first
    | (show (((x &&& 255).toBitVec).signExtend 8).getLsbD i = (x.toBitVec.signExtend 8).getLsbD i; rw [BitVec.getLsbD_signExtend, BitVec.getLsbD_signExtend, if_pos h3, if_pos h3, h4])
    | (show (((x &&& 255).toBitVec).setWidth 8).getLsbD i = (x.toBitVec.setWidth 8).getLsbD i; rw [BitVec.getLsbD_setWidth, BitVec.getLsbD_setWidth, h4])
    | (simp [hi, h3, h4]; done)
theorem fa_short_low (x : Int32) : (x &&& 65535).toInt16 = x.toInt16 := by
  apply Int16.toBitVec_inj.1
  apply BitVec.eq_of_getLsbD_eq
  intro i hi
  have h2 : (65535 : Int32).toBitVec.getLsbD i = true := by
    have : ∀ j : Fin 16, (65535 : Int32).toBitVec.getLsbD j.val = true := by decide +kernel
    exact this ⟨i, hi⟩
  have h4 : (x &&& 65535).toBitVec.getLsbD i = x.toBitVec.getLsbD i := by
    show (x.toBitVec &&& (65535 : Int32).toBitVec).getLsbD i = _
    rw [BitVec.getLsbD_and, h2, Bool.and_true]
  have h3 : i < 32 := by omega
  first
    | (show (((x &&& 65535).toBitVec).signExtend 16).getLsbD i = (x.toBitVec.signExtend 16).getLsbD i; rw [BitVec.getLsbD_signExtend, BitVec.getLsbD_signExtend, if_pos h3, if_pos h3, h4])
    | (show (((x &&& 65535).toBitVec).setWidth 16).getLsbD i = (x.toBitVec.setWidth 16).getLsbD i; rw [BitVec.getLsbD_setWidth, BitVec.getLsbD_setWidth, h4])
    | (simp [hi, h3, h4]; done)
/-- a small number is its own byte, its own short -/
theorem fa_byte_small {n : Nat} (h : n < 128) : (nI n).toInt8.toInt32 = nI n := by
  have : ∀ j : Fin 128, (nI j.val).toInt8.toInt32 = nI j.val := by decide +kernel
  exact this ⟨n, h⟩
/-! ===== absolute difference ===== -/
theorem fa_absdiff {a b : Nat} (ha : a < 2 ^ 31) (hb : b < 2 ^ 31) : (if nI a < nI b then nI b - nI a else nI a - nI b) = nI (if a < b then b - a else a - b) := by
  by_cases h : a < b
  · rw [if_pos (nI_lt h hb), if_pos h]
    exact pk_sub (Nat.le_of_lt h)
  · rw [if_neg (nI_nlt (Nat.le_of_not_lt h) ha), if_neg h]
    exact pk_sub (Nat.le_of_not_lt h)
/-! ===== an array behind i stores, a conditional store, a row copied ===== -/
/-- f where k < i, what stood there else -/
def fa_fill {α : Type} (f g : Nat → α) (i : Nat) : Nat → α := fun k => if k < i then f k else g k
theorem fa_fill_0 {α : Type} (f g : Nat → α) : fa_fill f g 0 = g := funext fun k => if_neg (Nat.not_lt_zero k)
theorem fa_fill_in {α : Type} {f g : Nat → α} {i k : Nat} (h : k < i) : fa_fill f g i k = f k := if_pos h
theorem fa_fill_out {α : Type} {f g : Nat → α} {i k : Nat} (h : i ≤ k) : fa_fill f g i k = g k := if_neg (Nat.not_lt.mpr h)
theorem fa_fill_succ (f g : Nat → Int32) (i : Nat) : upd (fa_fill f g i) i (f i) = fa_fill f g (i + 1) := by
  funext k
  by_cases e : k = i
  · subst e
    rw [pk_us]
    exact (if_pos (Nat.lt_succ_self k)).symm
  · rw [pk_un e]
    by_cases h : k < i
    · rw [fa_fill_in h, fa_fill_in (Nat.lt_succ_of_lt h)]
    · rw [fa_fill_out (Nat.le_of_not_lt h), fa_fill_out (by omega)]
/-- a store that changes nothing -/
theorem fa_upd_same {f : Nat → Int32} {i : Nat} {x : Int32} (h : f i = x) : upd f i x = f := by
  funext k
  by_cases e : k = i
  · subst e
    rw [pk_us, h]
  · rw [pk_un e]
/-- a store under a condition, told as one -/
theorem fa_upd_if (c : Prop) [Decidable c] (f : Nat → Int32) (i : Nat) (x : Int32) : (if c then upd f i x else f) = upd f i (if c then x else f i) := by
  by_cases h : c
  · rw [if_pos h, if_pos h]
  · rw [if_neg h, if_neg h, fa_upd_same rfl]
/-- two stores at one place, at two -/
theorem fa_upd_twice (f : Nat → Int32) (i : Nat) (x y : Int32) : upd (upd f i x) i y = upd f i y := by
  funext k
  by_cases e : k = i
  · subst e
    rw [pk_us, pk_us]
  · rw [pk_un e, pk_un e, pk_un e]
theorem fa_upd_swap (f : Nat → Int32) {i j : Nat} (h : i ≠ j) (x y : Int32) : upd (upd f i x) j y = upd (upd f j y) i x := by
  funext k
  by_cases e : k = i
  · subst e
    rw [pk_un h, pk_us, pk_us]
  · by_cases e2 : k = j
    · subst e2
      rw [pk_us, pk_un e, pk_us]
    · rw [pk_un e2, pk_un e, pk_un e, pk_un e2]
/-! ===== the first index with a property; a count ===== -/
/-- the first k < n with p k, n if there is none -/
def fa_first (p : Nat → Bool) : Nat → Nat
  | 0 => 0
  | n + 1 => if fa_first p n < n then fa_first p n else if p n then n else n + 1
theorem fa_first_le (p : Nat → Bool) : ∀ n, fa_first p n ≤ n
  | 0 => Nat.le_refl 0
  | n + 1 => by
    have ih := fa_first_le p n
    unfold fa_first
    split
    · omega
    · split
      · omega
      · omega
theorem fa_first_no (p : Nat → Bool) : ∀ n k, k < fa_first p n → p k = false
  | 0, k, h => absurd h (Nat.not_lt_zero k)
  | n + 1, k, h => by
    have ih := fa_first_no p n
    have hl := fa_first_le p n
    unfold fa_first at h
    split at h
    · exact ih k h
    · rename_i h1
      split at h
      · exact ih k (by omega)
      · rename_i h2
        by_cases e : k = n
        · subst e
          exact Bool.eq_false_iff.mpr h2
        · exact ih k (by omega)
theorem fa_first_yes (p : Nat → Bool) : ∀ n, fa_first p n < n → p (fa_first p n) = true
  | 0, h => absurd h (Nat.not_lt_zero _)
  | n + 1, h => by
    have ih := fa_first_yes p n
    have hl := fa_first_le p n
    unfold fa_first at h ⊢
    split at h
    · rename_i h1
      rw [if_pos h1]
      exact ih h1
    · rename_i h1
      rw [if_neg h1]
      split at h
      · rename_i h2
        rw [if_pos h2]
        exact h2
      · omega
/-- how many k < n have p k -/
def fa_cnt (p : Nat → Bool) : Nat → Nat
  | 0 => 0
  | n + 1 => fa_cnt p n + if p n then 1 else 0
theorem fa_cnt_le (p : Nat → Bool) : ∀ n, fa_cnt p n ≤ n
  | 0 => Nat.le_refl 0
  | n + 1 => by
    have ih := fa_cnt_le p n
    unfold fa_cnt
    split
    · omega
    · omega
theorem fa_cnt_yes {p : Nat → Bool} {n : Nat} (h : p n = true) : fa_cnt p (n + 1) = fa_cnt p n + 1 := by rw [fa_cnt, if_pos h]
theorem fa_cnt_no {p : Nat → Bool} {n : Nat} (h : p n = false) : fa_cnt p (n + 1) = fa_cnt p n := by rw [fa_cnt, if_neg (by rw [h]; decide)]; rfl
theorem fa_cnt_cong {p q : Nat → Bool} : ∀ {n : Nat}, (∀ k, k < n → p k = q k) → fa_cnt p n = fa_cnt q n
  | 0, _ => rfl
  | n + 1, h => by rw [fa_cnt, fa_cnt, fa_cnt_cong (fun k hk => h k (Nat.lt_succ_of_lt hk)), h n (Nat.lt_succ_self n)]
/-! ===== an answer carried into a post; a branch on a boolean answer ===== -/
theorem fa_post {α : Type} {P : α → Prop} {x y : α} (h : x = y) (hp : P y) : P x := h ▸ hp
theorem fa_post2 {α β : Type} {P : α → β → Prop} {x y : α} {u v : β} (h : x = y) (h2 : u = v) (hp : P y v) : P x u := h ▸ h2 ▸ hp
theorem fa_bool {r : Int32} {b : Bool} (h : r = if b then 1 else 0) : (r = 0 ↔ b = false) ∧ (¬ r = 0 ↔ b = true) := by
  subst h
  cases b
  · exact ⟨⟨fun _ => rfl, fun _ => rfl⟩, ⟨fun h => absurd rfl h, fun h => absurd h (by decide)⟩⟩
  · exact ⟨⟨fun h => absurd h (by decide), fun h => absurd h (by decide)⟩, ⟨fun _ => rfl, fun _ => by decide⟩⟩
/-- a boolean's narrowing changes nothing -/
theorem fa_bool_and {r : Int32} (h : r = 0 ∨ r = 1) : r &&& 1 = r := by
  rcases h with rfl | rfl
  · decide
  · decide
theorem fa_bool_prop {c : Prop} [Decidable c] {r : Int32} (h : r = if c then 1 else 0) : (r = 0 ↔ ¬ c) ∧ (¬ r = 0 ↔ c) := by
  subst h
  by_cases hc : c
  · rw [if_pos hc]
    exact ⟨⟨fun h => absurd h (by decide), fun h => absurd hc h⟩, ⟨fun _ => hc, fun _ => by decide⟩⟩
  · rw [if_neg hc]
    exact ⟨⟨fun _ => hc, fun _ => rfl⟩, ⟨fun h => absurd rfl h, fun h => absurd h hc⟩⟩
end
section
/-! plain facts to paste, each family by itself; over the kit's nI, lN and upd -/
/-! ===== drawers: more things than places ===== -/
theorem fb_holes : ∀ (m n : Nat) (f : Nat → Nat), (∀ i, i < n → f i < m) → (∀ i j, i < j → j < n → f i ≠ f j) → n ≤ m := by
  intro m
  induction m with
  | zero =>
    intro n f h1 _
    rcases Nat.eq_zero_or_pos n with h | h
    · omega
    · exact absurd (h1 0 h) (Nat.not_lt_zero _)
  | succ m ih =>
    intro n f h1 h2
    by_cases hx : ∃ i, i < n ∧ f i = m
    · obtain ⟨a, ha, hfa⟩ := hx
      have hg := ih (n - 1) (fun i => if i < a then f i else f (i + 1)) (by
        intro i hi
        by_cases q : i < a
        · simp only [if_pos q]
          have b1 := h1 i (by omega)
          have b2 := h2 i a q ha
          omega
        · simp only [if_neg q]
          have b1 := h1 (i + 1) (by omega)
          have b2 := h2 a (i + 1) (by omega) (by omega)
          omega) (by
        intro i j hij hj
        by_cases q : i < a
        · by_cases r : j < a
          · simp only [if_pos q, if_pos r]
            exact h2 i j hij (by omega)
          · simp only [if_pos q, if_neg r]
            exact h2 i (j + 1) (by omega) (by omega)
        · have r : ¬ j < a := by omega
          simp only [if_neg q, if_neg r]
          exact h2 (i + 1) (j + 1) (by omega) (by omega))
      omega
    · have hg := ih n f (fun i hi => by
        have b1 := h1 i hi
        have b2 : f i ≠ m := fun e => hx ⟨i, hi, e⟩
        omega) h2
      omega
/-- two of them in one place -/
theorem fb_twice {m n : Nat} {f : Nat → Nat} (h : ∀ i, i < n → f i < m) (hm : m < n) : ∃ i j, i < j ∧ j < n ∧ f i = f j := by
  refine Classical.byContradiction fun hx => ?_
  have := fb_holes m n f h (fun i j hij hj e => hx ⟨i, j, hij, hj, e⟩)
  omega
/-- as many as places, none twice: each place is taken -/
theorem fb_onto {n : Nat} {f : Nat → Nat} (h : ∀ i, i < n → f i < n) (h2 : ∀ i j, i < j → j < n → f i ≠ f j) {y : Nat} (hy : y < n) : ∃ i, i < n ∧ f i = y := by
  refine Classical.byContradiction fun hx => ?_
  have hne : ∀ i, i < n → f i ≠ y := fun i hi e => hx ⟨i, hi, e⟩
  have := fb_holes (n - 1) n (fun i => if f i < y then f i else f i - 1) (by
    intro i hi
    have b1 := h i hi
    have b2 := hne i hi
    by_cases q : f i < y
    · simp only [if_pos q]; omega
    · simp only [if_neg q]; omega) (by
    intro i j hij hj
    have b1 := hne i (by omega)
    have b2 := hne j hj
    have b3 := h2 i j hij hj
    by_cases q : f i < y
    · by_cases r : f j < y
      · simp only [if_pos q, if_pos r]; exact b3
      · simp only [if_pos q, if_neg r]; omega
    · by_cases r : f j < y
      · simp only [if_neg q, if_pos r]; omega
      · simp only [if_neg q, if_neg r]; omega)
  omega
/-! ===== how many places have a property ===== -/
def fb_ct (p : Nat → Bool) : Nat → Nat
  | 0 => 0
  | n + 1 => fb_ct p n + (if p n then 1 else 0)
theorem fb_ct_succ (p : Nat → Bool) (n : Nat) : fb_ct p (n + 1) = fb_ct p n + (if p n then 1 else 0) := rfl
theorem fb_ct_le (p : Nat → Bool) : ∀ n, fb_ct p n ≤ n
  | 0 => Nat.le_refl _
  | n + 1 => by
    have h := fb_ct_le p n
    rw [fb_ct_succ]
    split <;> omega
theorem fb_ct_step (p : Nat → Bool) (m : Nat) : ∀ n, fb_ct p m ≤ fb_ct p (m + n)
  | 0 => Nat.le_refl _
  | n + 1 => by
    have h := fb_ct_step p m n
    show fb_ct p m ≤ fb_ct p (m + n + 1)
    rw [fb_ct_succ]
    omega
theorem fb_ct_mono (p : Nat → Bool) {m n : Nat} (h : m ≤ n) : fb_ct p m ≤ fb_ct p n := by
  have := fb_ct_step p m (n - m)
  rwa [Nat.add_sub_cancel' h] at this
theorem fb_ct_cong {p q : Nat → Bool} : ∀ {n : Nat}, (∀ k, k < n → p k = q k) → fb_ct p n = fb_ct q n
  | 0, _ => rfl
  | n + 1, h => by
    rw [fb_ct_succ, fb_ct_succ, fb_ct_cong (fun k hk => h k (by omega)), h n (by omega)]
/-- one place changed -/
theorem fb_ct_out (p : Nat → Bool) (b : Bool) {i n : Nat} (h : n ≤ i) : fb_ct (fun k => if k = i then b else p k) n = fb_ct p n :=
  fb_ct_cong fun k hk => if_neg (by omega)
theorem fb_ct_upd (p : Nat → Bool) (b : Bool) {i : Nat} : ∀ {n : Nat}, i < n → fb_ct (fun k => if k = i then b else p k) n + (if p i then 1 else 0) = fb_ct p n + (if b then 1 else 0)
  | 0, h => absurd h (Nat.not_lt_zero i)
  | n + 1, h => by
    rw [fb_ct_succ, fb_ct_succ]
    rcases Nat.lt_or_ge i n with q | q
    · have := fb_ct_upd p b q
      have e : (if n = i then b else p n) = p n := if_neg (by omega)
      rw [e]
      omega
    · have e : i = n := by omega
      subst e
      rw [fb_ct_out p b (Nat.le_refl _)]
      simp only [if_true]
      omega
theorem fb_ct_sub {p q : Nat → Bool} : ∀ {n : Nat}, (∀ k, k < n → p k = true → q k = true) → fb_ct p n ≤ fb_ct q n
  | 0, _ => Nat.le_refl _
  | n + 1, h => by
    have h1 := fb_ct_sub (n := n) (p := p) (q := q) (fun k hk => h k (by omega))
    have h2 := h n (by omega)
    rw [fb_ct_succ, fb_ct_succ]
    cases hp : p n <;> cases hq : q n <;> simp_all <;> omega
theorem fb_ct_or {p q : Nat → Bool} : ∀ {n : Nat}, (∀ k, k < n → ¬ (p k = true ∧ q k = true)) → fb_ct (fun k => p k || q k) n = fb_ct p n + fb_ct q n
  | 0, _ => rfl
  | n + 1, h => by
    have h1 := fb_ct_or (n := n) (p := p) (q := q) (fun k hk => h k (by omega))
    have h2 := h n (by omega)
    rw [fb_ct_succ, fb_ct_succ, fb_ct_succ, h1]
    cases hp : p n <;> cases hq : q n <;> simp_all <;> omega
theorem fb_ct_not (p : Nat → Bool) : ∀ n, fb_ct p n + fb_ct (fun k => !p k) n = n
  | 0 => rfl
  | n + 1 => by
    have h := fb_ct_not p n
    rw [fb_ct_succ, fb_ct_succ]
    cases p n <;> simp <;> omega
theorem fb_ct_split (p : Nat → Bool) (m : Nat) : ∀ n, fb_ct p (m + n) = fb_ct p m + fb_ct (fun k => p (m + k)) n
  | 0 => rfl
  | n + 1 => by
    have h := fb_ct_split p m n
    show fb_ct p (m + n + 1) = _
    rw [fb_ct_succ, fb_ct_succ, h, Nat.add_assoc]
theorem fb_ct_zero {p : Nat → Bool} : ∀ {n : Nat}, fb_ct p n = 0 ↔ ∀ k, k < n → p k = false
  | 0 => ⟨fun _ k hk => absurd hk (Nat.not_lt_zero k), fun _ => rfl⟩
  | n + 1 => by
    have h := fb_ct_zero (p := p) (n := n)
    rw [fb_ct_succ]
    constructor
    · intro e k hk
      have e1 : fb_ct p n = 0 := by omega
      rcases Nat.lt_or_ge k n with q | q
      · exact h.mp e1 k q
      · have ek : k = n := by omega
        subst ek
        cases hp : p k
        · rfl
        · simp [hp] at e
    · intro a
      rw [h.mpr (fun k hk => a k (by omega)), a n (by omega)]
      rfl
theorem fb_ct_pos {p : Nat → Bool} {n : Nat} : 0 < fb_ct p n ↔ ∃ k, k < n ∧ p k = true := by
  constructor
  · intro h
    refine Classical.byContradiction fun hx => ?_
    have := fb_ct_zero.mpr (fun k hk => by
      cases hp : p k
      · rfl
      · exact absurd ⟨k, hk, hp⟩ hx : ∀ k, k < n → p k = false)
    omega
  · rintro ⟨k, hk, hp⟩
    rcases Nat.eq_zero_or_pos (fb_ct p n) with e | e
    · have := fb_ct_zero.mp e k hk
      rw [this] at hp
      cases hp
    · exact e
theorem fb_ct_all {p : Nat → Bool} {n : Nat} : fb_ct p n = n ↔ ∀ k, k < n → p k = true := by
  have h := fb_ct_not p n
  constructor
  · intro e k hk
    have z : fb_ct (fun k => !p k) n = 0 := by omega
    have := fb_ct_zero.mp z k hk
    cases hp : p k
    · simp [hp] at this
    · rfl
  · intro a
    have z : fb_ct (fun k => !p k) n = 0 := fb_ct_zero.mpr (fun k hk => by simp [a k hk])
    omega
/-- the k-th place with the property -/
theorem fb_ct_kth {p : Nat → Bool} {k : Nat} : ∀ {n : Nat}, k < fb_ct p n → ∃ i, i < n ∧ p i = true ∧ fb_ct p i = k
  | 0, h => absurd h (Nat.not_lt_zero k)
  | n + 1, h => by
    rcases Nat.lt_or_ge k (fb_ct p n) with q | q
    · obtain ⟨i, h1, h2⟩ := fb_ct_kth q
      exact ⟨i, by omega, h2⟩
    · rw [fb_ct_succ] at h
      cases hp : p n
      · simp [hp] at h; omega
      · simp [hp] at h
        exact ⟨n, by omega, hp, by omega⟩
theorem fb_ct_kth_one {p : Nat → Bool} {i j : Nat} (hi : p i = true) (hj : p j = true) (e : fb_ct p i = fb_ct p j) : i = j := by
  have key : ∀ a b : Nat, a < b → p a = true → fb_ct p a < fb_ct p b := by
    intro a b hab ha
    have h := fb_ct_mono p (show a + 1 ≤ b from hab)
    rw [fb_ct_succ, ha] at h
    simp at h
    omega
  rcases Nat.lt_trichotomy i j with q | q | q
  · have := key i j q hi; omega
  · exact q
  · have := key j i q hj; omega
/-! ===== sums over a range: one place changed, parts, bounds ===== -/
def fb_sm (f : Nat → Nat) : Nat → Nat
  | 0 => 0
  | n + 1 => fb_sm f n + f n
theorem fb_sm_succ (f : Nat → Nat) (n : Nat) : fb_sm f (n + 1) = fb_sm f n + f n := rfl
theorem fb_sm_cong {f g : Nat → Nat} : ∀ {n : Nat}, (∀ k, k < n → f k = g k) → fb_sm f n = fb_sm g n
  | 0, _ => rfl
  | n + 1, h => by rw [fb_sm_succ, fb_sm_succ, fb_sm_cong (fun k hk => h k (by omega)), h n (by omega)]
theorem fb_sm_out (f : Nat → Nat) (v : Nat) {i n : Nat} (h : n ≤ i) : fb_sm (fun k => if k = i then v else f k) n = fb_sm f n :=
  fb_sm_cong fun k hk => if_neg (by omega)
theorem fb_sm_upd (f : Nat → Nat) (v : Nat) {i : Nat} : ∀ {n : Nat}, i < n → fb_sm (fun k => if k = i then v else f k) n + f i = fb_sm f n + v
  | 0, h => absurd h (Nat.not_lt_zero i)
  | n + 1, h => by
    rw [fb_sm_succ, fb_sm_succ]
    rcases Nat.lt_or_ge i n with q | q
    · have := fb_sm_upd f v q
      have e : (if n = i then v else f n) = f n := if_neg (by omega)
      rw [e]
      omega
    · have e : i = n := by omega
      subst e
      rw [fb_sm_out f v (Nat.le_refl _)]
      simp only [if_true]
      omega
theorem fb_sm_add (f g : Nat → Nat) : ∀ n, fb_sm (fun k => f k + g k) n = fb_sm f n + fb_sm g n
  | 0 => rfl
  | n + 1 => by
    have h := fb_sm_add f g n
    rw [fb_sm_succ, fb_sm_succ, fb_sm_succ, h]
    omega
theorem fb_sm_le {f g : Nat → Nat} : ∀ {n : Nat}, (∀ k, k < n → f k ≤ g k) → fb_sm f n ≤ fb_sm g n
  | 0, _ => Nat.le_refl _
  | n + 1, h => by
    have h1 := fb_sm_le (n := n) (f := f) (g := g) (fun k hk => h k (by omega))
    have h2 := h n (by omega)
    rw [fb_sm_succ, fb_sm_succ]
    omega
theorem fb_sm_const (c : Nat) : ∀ n, fb_sm (fun _ => c) n = n * c
  | 0 => by rw [Nat.zero_mul]; rfl
  | n + 1 => by rw [fb_sm_succ, fb_sm_const c n, Nat.succ_mul]
theorem fb_sm_bound {f : Nat → Nat} {c n : Nat} (h : ∀ k, k < n → f k ≤ c) : fb_sm f n ≤ n * c := by
  rw [← fb_sm_const c n]
  exact fb_sm_le h
theorem fb_sm_mono (f : Nat → Nat) (m : Nat) : ∀ n, fb_sm f m ≤ fb_sm f (m + n)
  | 0 => Nat.le_refl _
  | n + 1 => by
    have h := fb_sm_mono f m n
    show fb_sm f m ≤ fb_sm f (m + n + 1)
    rw [fb_sm_succ]
    omega
theorem fb_sm_part (f : Nat → Nat) {i n : Nat} (h : i < n) : fb_sm f i + f i ≤ fb_sm f n := by
  have := fb_sm_mono f (i + 1) (n - (i + 1))
  rw [fb_sm_succ, show i + 1 + (n - (i + 1)) = n by omega] at this
  exact this
theorem fb_sm_split (f : Nat → Nat) (m : Nat) : ∀ n, fb_sm f (m + n) = fb_sm f m + fb_sm (fun k => f (m + k)) n
  | 0 => rfl
  | n + 1 => by
    have h := fb_sm_split f m n
    show fb_sm f (m + n + 1) = _
    rw [fb_sm_succ, fb_sm_succ, h, Nat.add_assoc]
theorem fb_sm_zero {f : Nat → Nat} {n : Nat} (h : fb_sm f n = 0) : ∀ k, k < n → f k = 0 := fun k hk => by
  have := fb_sm_part f hk
  omega
/-- the same over whole numbers -/
def fb_si (f : Nat → Int) : Nat → Int
  | 0 => 0
  | n + 1 => fb_si f n + f n
theorem fb_si_succ (f : Nat → Int) (n : Nat) : fb_si f (n + 1) = fb_si f n + f n := rfl
theorem fb_si_cong {f g : Nat → Int} : ∀ {n : Nat}, (∀ k, k < n → f k = g k) → fb_si f n = fb_si g n
  | 0, _ => rfl
  | n + 1, h => by rw [fb_si_succ, fb_si_succ, fb_si_cong (fun k hk => h k (by omega)), h n (by omega)]
theorem fb_si_out (f : Nat → Int) (v : Int) {i n : Nat} (h : n ≤ i) : fb_si (fun k => if k = i then v else f k) n = fb_si f n :=
  fb_si_cong fun k hk => if_neg (by omega)
theorem fb_si_upd (f : Nat → Int) (v : Int) {i : Nat} : ∀ {n : Nat}, i < n → fb_si (fun k => if k = i then v else f k) n = fb_si f n - f i + v
  | 0, h => absurd h (Nat.not_lt_zero i)
  | n + 1, h => by
    rw [fb_si_succ, fb_si_succ]
    rcases Nat.lt_or_ge i n with q | q
    · have := fb_si_upd f v q
      have e : (if n = i then v else f n) = f n := if_neg (by omega)
      rw [e]
      omega
    · have e : i = n := by omega
      subst e
      rw [fb_si_out f v (Nat.le_refl _)]
      simp only [if_true]
      omega
theorem fb_si_add (f g : Nat → Int) : ∀ n, fb_si (fun k => f k + g k) n = fb_si f n + fb_si g n
  | 0 => rfl
  | n + 1 => by
    have h := fb_si_add f g n
    rw [fb_si_succ, fb_si_succ, fb_si_succ, h]
    omega
theorem fb_si_sub (f g : Nat → Int) : ∀ n, fb_si (fun k => f k - g k) n = fb_si f n - fb_si g n
  | 0 => rfl
  | n + 1 => by
    have h := fb_si_sub f g n
    rw [fb_si_succ, fb_si_succ, fb_si_succ, h]
    omega
theorem fb_si_mul (c : Int) (f : Nat → Int) : ∀ n, fb_si (fun k => c * f k) n = c * fb_si f n
  | 0 => (Int.mul_zero c).symm
  | n + 1 => by
    have h := fb_si_mul c f n
    rw [fb_si_succ, fb_si_succ, h, Int.mul_add]
theorem fb_si_split (f : Nat → Int) (m : Nat) : ∀ n, fb_si f (m + n) = fb_si f m + fb_si (fun k => f (m + k)) n
  | 0 => (Int.add_zero _).symm
  | n + 1 => by
    have h := fb_si_split f m n
    show fb_si f (m + n + 1) = _
    rw [fb_si_succ, fb_si_succ, h, Int.add_assoc]
theorem fb_si_nat (f : Nat → Nat) : ∀ n, fb_si (fun k => (f k : Int)) n = (fb_sm f n : Int)
  | 0 => rfl
  | n + 1 => by
    have h := fb_si_nat f n
    rw [fb_si_succ, fb_sm_succ, h]
    omega
theorem fb_si_bound {f : Nat → Int} {c : Int} (hc : 0 ≤ c) : ∀ {n : Nat}, (∀ k, k < n → -c ≤ f k ∧ f k ≤ c) → -(n * c) ≤ fb_si f n ∧ fb_si f n ≤ n * c
  | 0, _ => by simp [fb_si]
  | n + 1, h => by
    have h1 := fb_si_bound (n := n) (f := f) hc (fun k hk => h k (by omega))
    have h2 := h n (by omega)
    have e : ((n + 1 : Nat) : Int) * c = n * c + c := by rw [Int.natCast_add, Int.add_mul]; simp
    rw [fb_si_succ, e]
    omega
/-! ===== bits of a long that isn't negative ===== -/
theorem fb_andL (a b : Nat) : lN a &&& lN b = lN (a &&& b) := by
  apply Int64.toBitVec_inj.1
  show BitVec.ofNat 64 a &&& BitVec.ofNat 64 b = BitVec.ofNat 64 (a &&& b)
  apply BitVec.eq_of_getLsbD_eq
  intro i hi
  simp [hi]
theorem fb_orL (a b : Nat) : lN a ||| lN b = lN (a ||| b) := by
  apply Int64.toBitVec_inj.1
  show BitVec.ofNat 64 a ||| BitVec.ofNat 64 b = BitVec.ofNat 64 (a ||| b)
  apply BitVec.eq_of_getLsbD_eq
  intro i hi
  simp [hi]
theorem fb_xorL (a b : Nat) : lN a ^^^ lN b = lN (a ^^^ b) := by
  apply Int64.toBitVec_inj.1
  show BitVec.ofNat 64 a ^^^ BitVec.ofNat 64 b = BitVec.ofNat 64 (a ^^^ b)
  apply BitVec.eq_of_getLsbD_eq
  intro i hi
  simp [hi]
theorem fb_xorI (a b : Nat) : nI a ^^^ nI b = nI (a ^^^ b) := by
  apply Int32.toBitVec_inj.1
  show BitVec.ofNat 32 a ^^^ BitVec.ofNat 32 b = BitVec.ofNat 32 (a ^^^ b)
  apply BitVec.eq_of_getLsbD_eq
  intro i hi
  simp [hi]
theorem fb_maskL (n k : Nat) : lN n &&& lN (2 ^ k - 1) = lN (n % 2 ^ k) := by rw [fb_andL, Nat.and_two_pow_sub_one_eq_mod]
theorem fb_or_sumL {a k : Nat} (b : Nat) (h : a < 2 ^ k) : lN (2 ^ k * b) ||| lN a = lN (2 ^ k * b + a) := by rw [fb_orL, Nat.two_pow_add_eq_or_of_lt h]
theorem fb_lN_inj {a b : Nat} (ha : a < 2 ^ 63) (hb : b < 2 ^ 63) : lN a = lN b ↔ a = b := by
  constructor
  · intro h
    have h1 : (BitVec.ofNat 64 a).toNat = (BitVec.ofNat 64 b).toNat := congrArg (fun x : Int64 => x.toBitVec.toNat) h
    rw [BitVec.toNat_ofNat, BitVec.toNat_ofNat, Nat.mod_eq_of_lt (by omega), Nat.mod_eq_of_lt (by omega)] at h1
    exact h1
  · rintro rfl; rfl
theorem fb_bit_nat (n j : Nat) : n &&& 2 ^ j = 0 ↔ n.testBit j = false := by
  constructor
  · intro h
    have h1 : (n &&& 2 ^ j).testBit j = false := by rw [h]; simp
    rw [Nat.testBit_and] at h1
    simpa using h1
  · intro h
    apply Nat.eq_of_testBit_eq
    intro i
    rw [Nat.testBit_and]
    by_cases hi : j = i
    · subst hi; simp [h]
    · first | (simp [Nat.testBit_two_pow, hi]; done) | (simp [Nat.testBit_two_pow_of_ne hi]; done)
/-- one bit of a long -/
theorem fb_bitL {n j : Nat} (hj : j < 63) : lN n &&& lN (2 ^ j) = 0 ↔ n.testBit j = false := by
  have h2 : (2 : Nat) ^ j < 2 ^ 63 := Nat.pow_lt_pow_right (by decide) hj
  have hle : n &&& 2 ^ j ≤ 2 ^ j := Nat.and_le_right
  rw [fb_andL, ← fb_bit_nat, show (0 : Int64) = lN 0 from rfl]
  exact fb_lN_inj (by omega) (by decide)
/-- a bit set, a bit taken off -/
theorem fb_bit_set (n j i : Nat) : (n ||| 2 ^ j).testBit i = (n.testBit i || decide (i = j)) := by
  rw [Nat.testBit_or]
  by_cases h : j = i
  · subst h; simp
  · have h2 : ¬ i = j := fun e => h e.symm
    first | (simp [Nat.testBit_two_pow, h, h2]; done) | (simp [Nat.testBit_two_pow_of_ne h, h2]; done)
theorem fb_bit_flip (n j i : Nat) : (n ^^^ 2 ^ j).testBit i = (n.testBit i ^^ decide (i = j)) := by
  rw [Nat.testBit_xor]
  by_cases h : j = i
  · subst h; simp
  · have h2 : ¬ i = j := fun e => h e.symm
    first | (simp [Nat.testBit_two_pow, h, h2]; done) | (simp [Nat.testBit_two_pow_of_ne h, h2]; done)
/-! ===== a stretch of an array written over by a function ===== -/
def fb_put {α : Type} (f g : Nat → α) (a n : Nat) : Nat → α := fun k => if a ≤ k ∧ k < a + n then g (k - a) else f k
theorem fb_put_0 {α : Type} (f g : Nat → α) (a : Nat) : fb_put f g a 0 = f := funext fun k => if_neg (by omega)
theorem fb_put_in {α : Type} {f g : Nat → α} {a n k : Nat} (h1 : a ≤ k) (h2 : k < a + n) : fb_put f g a n k = g (k - a) := if_pos ⟨h1, h2⟩
theorem fb_put_out {α : Type} {f g : Nat → α} {a n k : Nat} (h : k < a ∨ a + n ≤ k) : fb_put f g a n k = f k := if_neg (by omega)
theorem fb_put_succ (f g : Nat → Int32) (a n : Nat) : upd (fb_put f g a n) (a + n) (g n) = fb_put f g a (n + 1) := by
  funext k
  by_cases h : k = a + n
  · subst h
    simp [upd, fb_put]
  · by_cases h1 : a ≤ k ∧ k < a + n
    · have h2 : a ≤ k ∧ k < a + (n + 1) := by omega
      simp only [upd, fb_put, if_neg h, if_pos h1, if_pos h2]
    · have h2 : ¬ (a ≤ k ∧ k < a + (n + 1)) := by omega
      simp only [upd, fb_put, if_neg h, if_neg h1, if_neg h2]
/-- .. from the far end down -/
theorem fb_put_down (f g : Nat → Int32) {a n m : Nat} (h : m < n) : upd (fb_put f (fun k => g (k + (m + 1))) (a + (m + 1)) (n - (m + 1))) (a + m) (g m) = fb_put f (fun k => g (k + m)) (a + m) (n - m) := by
  funext k
  by_cases h0 : k = a + m
  · subst h0
    simp only [upd, if_true]
    rw [fb_put_in (by omega) (by omega)]
    exact congrArg g (by omega)
  · simp only [upd, if_neg h0]
    by_cases h1 : a + (m + 1) ≤ k ∧ k < a + (m + 1) + (n - (m + 1))
    · rw [fb_put_in h1.1 h1.2, fb_put_in (by omega) (by omega)]
      exact congrArg g (by omega)
    · rw [fb_put_out (by omega), fb_put_out (by omega)]
theorem fb_put_cong {α : Type} {f f2 g g2 : Nat → α} {a n : Nat} (hf : ∀ k, (k < a ∨ a + n ≤ k) → f k = f2 k) (hg : ∀ k, k < n → g k = g2 k) : fb_put f g a n = fb_put f2 g2 a n := by
  funext k
  by_cases h : a ≤ k ∧ k < a + n
  · rw [fb_put_in h.1 h.2, fb_put_in h.1 h.2, hg _ (by omega)]
  · rw [fb_put_out (by omega), fb_put_out (by omega), hf _ (by omega)]
/-! ===== the least, the first, the best so far; that there is one alone ===== -/
theorem fb_first {p : Nat → Prop} [DecidablePred p] : ∀ {n : Nat}, (∃ i, i < n ∧ p i) → ∃ i, i < n ∧ p i ∧ ∀ j, j < i → ¬ p j
  | 0, h => by obtain ⟨i, hi, -⟩ := h; exact absurd hi (Nat.not_lt_zero i)
  | n + 1, h => by
    by_cases q : ∃ i, i < n ∧ p i
    · obtain ⟨i, h1, h2⟩ := fb_first q
      exact ⟨i, by omega, h2⟩
    · obtain ⟨i, h1, h2⟩ := h
      have e : i = n := by
        rcases Nat.lt_or_ge i n with r | r
        · exact absurd ⟨i, r, h2⟩ q
        · omega
      subst e
      exact ⟨i, by omega, h2, fun j hj hp => q ⟨j, hj, hp⟩⟩
theorem fb_first_one {p : Nat → Prop} {i j : Nat} (hi : p i) (hi2 : ∀ k, k < i → ¬ p k) (hj : p j) (hj2 : ∀ k, k < j → ¬ p k) : i = j := by
  rcases Nat.lt_trichotomy i j with q | q | q
  · exact absurd hi (hj2 i q)
  · exact q
  · exact absurd hj (hi2 j q)
theorem fb_last {p : Nat → Prop} [DecidablePred p] : ∀ {n : Nat}, (∃ i, i < n ∧ p i) → ∃ i, i < n ∧ p i ∧ ∀ j, i < j → j < n → ¬ p j
  | 0, h => by obtain ⟨i, hi, -⟩ := h; exact absurd hi (Nat.not_lt_zero i)
  | n + 1, h => by
    by_cases q : p n
    · exact ⟨n, by omega, q, fun j h1 h2 => by omega⟩
    · obtain ⟨i, h1, h2⟩ := h
      have hi : i < n := by
        rcases Nat.lt_or_ge i n with r | r
        · exact r
        · have e : i = n := by omega
          subst e
          exact absurd h2 q
      obtain ⟨i2, a1, a2, a3⟩ := fb_last (n := n) ⟨i, hi, h2⟩
      refine ⟨i2, by omega, a2, fun j b1 b2 => ?_⟩
      rcases Nat.lt_or_ge j n with r | r
      · exact a3 j b1 r
      · have e : j = n := by omega
        subst e
        exact q
/-- the first greatest -/
theorem fb_best (f : Nat → Int) : ∀ {n : Nat}, 0 < n → ∃ i, i < n ∧ (∀ j, j < n → f j ≤ f i) ∧ ∀ j, j < i → f j < f i
  | 0, h => absurd h (Nat.lt_irrefl 0)
  | 1, _ => ⟨0, by omega, fun j hj => by have e : j = 0 := by omega
                                         subst e; exact Int.le_refl _, fun j hj => absurd hj (Nat.not_lt_zero j)⟩
  | n + 2, _ => by
    obtain ⟨i, h1, h2, h3⟩ := fb_best f (n := n + 1) (by omega)
    by_cases q : f i < f (n + 1)
    · refine ⟨n + 1, by omega, fun j hj => ?_, fun j hj => ?_⟩
      · rcases Nat.lt_or_ge j (n + 1) with r | r
        · have := h2 j r; omega
        · have e : j = n + 1 := by omega
          subst e; exact Int.le_refl _
      · have := h2 j hj; omega
    · refine ⟨i, by omega, fun j hj => ?_, h3⟩
      rcases Nat.lt_or_ge j (n + 1) with r | r
      · exact h2 j r
      · have e : j = n + 1 := by omega
        subst e; omega
theorem fb_best_one {f : Nat → Int} {n i j : Nat} (hi : i < n) (hi2 : ∀ k, k < n → f k ≤ f i) (hi3 : ∀ k, k < i → f k < f i) (hj : j < n) (hj2 : ∀ k, k < n → f k ≤ f j) (hj3 : ∀ k, k < j → f k < f j) : i = j := by
  rcases Nat.lt_trichotomy i j with q | q | q
  · have a := hj3 i q
    have b := hi2 j hj
    omega
  · exact q
  · have a := hi3 j q
    have b := hj2 i hi
    omega
/-- the first least -/
theorem fb_low (f : Nat → Int) {n : Nat} (h : 0 < n) : ∃ i, i < n ∧ (∀ j, j < n → f i ≤ f j) ∧ ∀ j, j < i → f i < f j := by
  obtain ⟨i, h1, h2, h3⟩ := fb_best (fun k => -f k) h
  exact ⟨i, h1, fun j hj => by have := h2 j hj; omega, fun j hj => by have := h3 j hj; omega⟩
/-! ===== signed ints as whole numbers, within bounds ===== -/
theorem fb_rng (x : Int32) : -2147483648 ≤ x.toInt ∧ x.toInt < 2147483648 := by
  have h1 := Int32.le_toInt x
  have h2 := Int32.toInt_lt x
  omega
theorem fb_bmod {z : Int} (h1 : -2147483648 ≤ z) (h2 : z < 2147483648) : z.bmod (2 ^ 32) = z := by
  rw [Int.bmod_eq_of_le (by omega) (by omega)]
theorem fb_addI {x y : Int32} (h1 : -2147483648 ≤ x.toInt + y.toInt) (h2 : x.toInt + y.toInt < 2147483648) : (x + y).toInt = x.toInt + y.toInt := by
  rw [Int32.toInt_add, fb_bmod h1 h2]
theorem fb_subI {x y : Int32} (h1 : -2147483648 ≤ x.toInt - y.toInt) (h2 : x.toInt - y.toInt < 2147483648) : (x - y).toInt = x.toInt - y.toInt := by
  rw [Int32.toInt_sub, fb_bmod h1 h2]
theorem fb_mulI {x y : Int32} (h1 : -2147483648 ≤ x.toInt * y.toInt) (h2 : x.toInt * y.toInt < 2147483648) : (x * y).toInt = x.toInt * y.toInt := by
  rw [Int32.toInt_mul, fb_bmod h1 h2]
theorem fb_negI {x : Int32} (h : x.toInt ≠ -2147483648) : (-x).toInt = -x.toInt := by
  have := fb_rng x
  rw [Int32.toInt_neg, fb_bmod (by omega) (by omega)]
theorem fb_ofI {z : Int} (h1 : -2147483648 ≤ z) (h2 : z < 2147483648) : (Int32.ofInt z).toInt = z := by
  rw [Int32.toInt_ofInt, fb_bmod h1 h2]
theorem fb_asI (x : Int32) : Int32.ofInt x.toInt = x := Int32.ofInt_toInt x
theorem fb_rngL (x : Int64) : -9223372036854775808 ≤ x.toInt ∧ x.toInt < 9223372036854775808 := by
  have h1 := Int64.le_toInt x
  have h2 := Int64.toInt_lt x
  omega
theorem fb_bmodL {z : Int} (h1 : -9223372036854775808 ≤ z) (h2 : z < 9223372036854775808) : z.bmod (2 ^ 64) = z := by
  rw [Int.bmod_eq_of_le (by omega) (by omega)]
theorem fb_addL {x y : Int64} (h1 : -9223372036854775808 ≤ x.toInt + y.toInt) (h2 : x.toInt + y.toInt < 9223372036854775808) : (x + y).toInt = x.toInt + y.toInt := by
  rw [Int64.toInt_add, fb_bmodL h1 h2]
theorem fb_subL {x y : Int64} (h1 : -9223372036854775808 ≤ x.toInt - y.toInt) (h2 : x.toInt - y.toInt < 9223372036854775808) : (x - y).toInt = x.toInt - y.toInt := by
  rw [Int64.toInt_sub, fb_bmodL h1 h2]
theorem fb_mulL {x y : Int64} (h1 : -9223372036854775808 ≤ x.toInt * y.toInt) (h2 : x.toInt * y.toInt < 9223372036854775808) : (x * y).toInt = x.toInt * y.toInt := by
  rw [Int64.toInt_mul, fb_bmodL h1 h2]
/-! ===== cuts of what is narrow already ===== -/
theorem fb_byte {x : Int32} (h1 : -128 ≤ x.toInt) (h2 : x.toInt < 128) : x.toInt8.toInt32 = x := by
  apply Int32.toInt_inj.1
  rw [Int8.toInt_toInt32, Int32.toInt_toInt8, Int.bmod_eq_of_le (by omega) (by omega)]
theorem fb_short {x : Int32} (h1 : -32768 ≤ x.toInt) (h2 : x.toInt < 32768) : x.toInt16.toInt32 = x := by
  apply Int32.toInt_inj.1
  rw [Int16.toInt_toInt32, Int32.toInt_toInt16, Int.bmod_eq_of_le (by omega) (by omega)]
theorem fb_byte_rng (x : Int32) : -128 ≤ x.toInt8.toInt32.toInt ∧ x.toInt8.toInt32.toInt < 128 := by
  rw [Int8.toInt_toInt32]
  have h1 := Int8.le_toInt x.toInt8
  have h2 := Int8.toInt_lt x.toInt8
  omega
theorem fb_short_rng (x : Int32) : -32768 ≤ x.toInt16.toInt32.toInt ∧ x.toInt16.toInt32.toInt < 32768 := by
  rw [Int16.toInt_toInt32]
  have h1 := Int16.le_toInt x.toInt16
  have h2 := Int16.toInt_lt x.toInt16
  omega
theorem fb_byte_twice (x : Int32) : x.toInt8.toInt32.toInt8.toInt32 = x.toInt8.toInt32 := fb_byte (fb_byte_rng x).1 (fb_byte_rng x).2
theorem fb_short_twice (x : Int32) : x.toInt16.toInt32.toInt16.toInt32 = x.toInt16.toInt32 := fb_short (fb_short_rng x).1 (fb_short_rng x).2
theorem fb_char {n : Nat} (h : n < 65536) : (nI n).toUInt32.toUInt16.toUInt32.toInt32 = nI n := by
  apply Int32.toBitVec_inj.1
  apply BitVec.eq_of_toNat_eq
  have e1 : (nI n).toBitVec.toNat = n := by
    show (BitVec.ofNat 32 n).toNat = n
    rw [BitVec.toNat_ofNat, Nat.mod_eq_of_lt (by omega)]
  have e2 : ((nI n).toUInt32.toUInt16.toUInt32).toNat = n := by
    rw [UInt16.toNat_toUInt32, UInt32.toNat_toUInt16]
    show (nI n).toBitVec.toNat % 2 ^ 16 = n
    rw [e1, Nat.mod_eq_of_lt (by omega)]
  rw [e1]
  exact e2
end
section
/-! level 2: words -/
theorem gS_e {α β : Type} (v : α) (f : α → β) : gS v f = f v := rfl
theorem gP_s {α β : Type} (a : α) (f : α → Option β) : gP (some a) f = f a := rfl
theorem gC_s {α β : Type} (a : α) (w : gWd) (f : α → gWd → Option β) : gC (some (a, w)) f = f a w := rfl
theorem gB_n {α : Type} {k n : Nat} (f : Nat → Option α) (h : k < n) (hn : n < 2 ^ 31) : gB (nI k) n f = f k := by
  have h1 : ¬ (nI k < 0 ∨ n ≤ (nI k).toNatClampNeg) := by
    rw [nI_clamp (by omega)]
    intro q
    rcases q with q | q
    · exact nI_pos (by omega) q
    · omega
  unfold gB
  rw [if_neg h1, nI_clamp (by omega)]
theorem gM_t {α : Type} {i n : Nat} {f : Option α} (h : i < n) : gM i n f = f := by unfold gM; rw [if_pos h]
theorem gZ_0 {α : Type} {x : Option α} : gZ 0 x = x := by unfold gZ; rw [if_pos (Or.inl rfl)]
theorem gZ_1 {α : Type} {x : Option α} : gZ 1 x = x := by unfold gZ; rw [if_pos (Or.inr rfl)]
theorem gZ_n {α : Type} {a : Nat} {x : Option α} (h : a ≤ 1) : gZ (nI a) x = x := by
  have : a = 0 ∨ a = 1 := by omega
  rcases this with rfl | rfl
  · exact gZ_0
  · exact gZ_1
theorem gD_n {α : Type} {k : Nat} {x : Option α} (h : 0 < k) (hk : k < 2 ^ 31) : gD (nI k) x = x := by unfold gD; rw [if_neg (nI_ne0 h hk)]
theorem up3_s (w : gWd) (i r j : Nat) (v : Int32) : up3 w i r j v i r j = v := by simp [up3]
theorem up3_n {w : gWd} {i r j : Nat} {v : Int32} {a b c : Nat} (h : ¬ (a = i ∧ b = r ∧ c = j)) : up3 w i r j v a b c = w a b c := if_neg h
section IFS
variable {α : Sort _} {x y : α} {a b : Nat}
theorem iLe (ha : a < 2 ^ 31) (hb : b < 2 ^ 31) : (if nI a ≤ nI b then x else y) = if a ≤ b then x else y := by
  by_cases h : a ≤ b
  · rw [if_pos h, if_pos ((nI_leI ha hb).mpr h)]
  · rw [if_neg h, if_neg (fun q => h ((nI_leI ha hb).mp q))]
theorem iLt (ha : a < 2 ^ 31) (hb : b < 2 ^ 31) : (if nI a < nI b then x else y) = if a < b then x else y := by
  by_cases h : a < b
  · rw [if_pos h, if_pos ((nI_ltI ha hb).mpr h)]
  · rw [if_neg h, if_neg (fun q => h ((nI_ltI ha hb).mp q))]
theorem iEq (ha : a < 2 ^ 31) (hb : b < 2 ^ 31) : (if nI a = nI b then x else y) = if a = b then x else y := by
  by_cases h : a = b
  · rw [if_pos h, if_pos ((nI_eq ha hb).mpr h)]
  · rw [if_neg h, if_neg (fun q => h ((nI_eq ha hb).mp q))]
theorem iE0 (ha : a < 2 ^ 31) : (if nI a = 0 then x else y) = if a = 0 then x else y := iEq (b := 0) ha (by omega)
theorem iE1 (ha : a < 2 ^ 31) : (if nI a = 1 then x else y) = if a = 1 then x else y := iEq (b := 1) ha (by omega)
theorem iE2 (ha : a < 2 ^ 31) : (if nI a = 2 then x else y) = if a = 2 then x else y := iEq (b := 2) ha (by omega)
theorem iE3 (ha : a < 2 ^ 31) : (if nI a = 3 then x else y) = if a = 3 then x else y := iEq (b := 3) ha (by omega)
theorem iL0 (ha : a < 2 ^ 31) : (if nI a < 0 then x else y) = y := if_neg (nI_pos ha)
theorem iLe0 (ha : a < 2 ^ 31) : (if nI a ≤ 0 then x else y) = if a = 0 then x else y := by
  rw [show (0 : Int32) = nI 0 from rfl, iLe ha (by omega)]
  by_cases h : a = 0
  · rw [if_pos h, if_pos (by omega)]
  · rw [if_neg h, if_neg (by omega)]
theorem i0Lt (ha : a < 2 ^ 31) : (if 0 < nI a then x else y) = if 0 < a then x else y := iLt (a := 0) (by omega) ha
theorem i0Le (ha : a < 2 ^ 31) : (if 0 ≤ nI a then x else y) = x := if_pos (nI_pos' ha)
end IFS
theorem mT {a : Nat} (h : a < 2 ^ 30) : (nI a - 1).toInt = (a : Int) - 1 := pk_sub_toInt (b := 1) h (by omega)
section MFS
variable {α : Sort _} {x y : α} {a b : Nat}
theorem mN (ha : a < 2 ^ 30) (h : 1 ≤ a) : nI a - 1 = nI (a - 1) := pk_sub h
theorem mEN1 (ha : a < 2 ^ 30) : (nI a - 1 = -1) ↔ a = 0 := by
  rw [← Int32.toInt_inj, mT ha]
  have : (-1 : Int32).toInt = -1 := by decide
  rw [this]; omega
theorem mE (ha : a < 2 ^ 30) (hb : b < 2 ^ 30) : (nI a - 1 = nI b - 1) ↔ a = b := by
  rw [← Int32.toInt_inj, mT ha, mT hb]; omega
theorem mEn (ha : a < 2 ^ 30) (hb : b < 2 ^ 30) : (nI a - 1 = nI b) ↔ a = b + 1 := by
  rw [← Int32.toInt_inj, mT ha, nI_toInt (by omega)]; omega
theorem mLt (ha : a < 2 ^ 30) (hb : b < 2 ^ 30) : (nI a - 1 < nI b - 1) ↔ a < b := by
  rw [Int32.lt_iff_toInt_lt, mT ha, mT hb]; omega
theorem mLtn (ha : a < 2 ^ 30) (hb : b < 2 ^ 30) : (nI a - 1 < nI b) ↔ a < b + 1 := by
  rw [Int32.lt_iff_toInt_lt, mT ha, nI_toInt (by omega)]; omega
theorem mLen (ha : a < 2 ^ 30) (hb : b < 2 ^ 30) : (nI a - 1 ≤ nI b) ↔ a ≤ b + 1 := by
  rw [Int32.le_iff_toInt_le, mT ha, nI_toInt (by omega)]; omega
theorem mnLt (ha : a < 2 ^ 30) (hb : b < 2 ^ 30) : (nI b < nI a - 1) ↔ b + 1 < a := by
  rw [Int32.lt_iff_toInt_lt, mT ha, nI_toInt (by omega)]; omega
theorem mnLe (ha : a < 2 ^ 30) (hb : b < 2 ^ 30) : (nI b ≤ nI a - 1) ↔ b + 1 ≤ a := by
  rw [Int32.le_iff_toInt_le, mT ha, nI_toInt (by omega)]; omega
theorem mLe0 (ha : a < 2 ^ 30) : (nI a - 1 ≤ 0) ↔ a ≤ 1 := mLen (b := 0) ha (by omega)
theorem m0Lt (ha : a < 2 ^ 30) : (0 < nI a - 1) ↔ 1 < a := mnLt (b := 0) ha (by omega)
end MFS
/-- a loop over a counter -/
theorem loopI {σ ρ : Type} (F : Nat → σ → Nat → Option ρ) (N : Nat) (I : Nat → σ → Prop) (P : Option ρ → Prop) (hend : ∀ fu st, I N st → P (F (fu + 1) st N)) (hstep : ∀ fu st j, j < N → I j st → P (F (fu + 1) st j) ∨ ∃ st', I (j + 1) st' ∧ F (fu + 1) st j = F fu st' (j + 1)) : ∀ fu st j, j ≤ N → N - j < fu → I j st → P (F fu st j) := by
  intro fu
  induction fu with
  | zero => intro st j _ h; omega
  | succ fu ih =>
    intro st j hj hlt hI
    rcases Nat.lt_or_ge j N with h | h
    · rcases hstep fu st j h hI with h1 | ⟨st', h1, h2⟩
      · exact h1
      · rw [h2]; exact ih st' (j + 1) h (by omega) h1
    · have e : j = N := by omega
      subst e
      exact hend fu st hI
theorem gFU_lt {a b : Nat} (h : a < 2000) : a - b < gFU := by unfold gFU; omega
/-! the model's memory as naturals -/
def SV (w : gWd) (S : Nat → Nat) : Prop := ∀ t, t < 320 → w 8 1 t = nI (S t)
def upN (S : Nat → Nat) (t v : Nat) : Nat → Nat := fun q => if q = t then v else S q
theorem upN_s (S : Nat → Nat) (t v : Nat) : upN S t v t = v := by simp [upN]
theorem upN_n {S : Nat → Nat} {t v q : Nat} (h : q ≠ t) : upN S t v q = S q := if_neg h
theorem SV.up {w : gWd} {S : Nat → Nat} (h : SV w S) (t v : Nat) : SV (up3 w 8 1 t (nI v)) (upN S t v) := by
  intro q hq
  by_cases e : q = t
  · subst e; rw [up3_s, upN_s]
  · rw [up3_n (fun z => e z.2.2), upN_n e]; exact h q hq
theorem SV.of {w w' : gWd} {S : Nat → Nat} (h : SV w S) (e : w' 8 1 = w 8 1) : SV w' S := fun t ht => by rw [e]; exact h t ht
/-- what bounds a number of a swimmer -/
def okv (a v : Nat) : Prop := (a = 0 → v ≤ 5) ∧ (a = 1 → v ≤ 999) ∧ (a = 2 → v ≤ 1) ∧ (a = 3 → v ≤ 8) ∧ (a = 5 → v ≤ 1000) ∧ (a = 6 → v ≤ 10) ∧ (a = 7 → v ≤ 1000) ∧ (a = 8 → v ≤ 30)
/-- what bounds the model's memory -/
def WB (S : Nat → Nat) : Prop := S 311 ≤ 30 ∧ S 310 ≤ 3 ∧ S 312 ≤ 8 ∧ S 314 ≤ 999 ∧ S 315 ≤ 30 ∧ (4 ≤ S 317 ∧ S 317 ≤ 10) ∧ (1 ≤ S 318 ∧ S 318 ≤ 3) ∧ S 319 ≤ 4 ∧ (∀ p, p < 4 → S (306 + p) ≤ 30) ∧
  ∀ k, k < 30 → ∀ a, a < 10 → okv a (S (10 * k + a))
theorem WB.N {S : Nat → Nat} (h : WB S) : S 311 ≤ 30 := h.1
theorem WB.k {S : Nat → Nat} (h : WB S) {k : Nat} (hk : k < 30) : S (10 * k) ≤ 5 ∧ S (10 * k + 1) ≤ 999 ∧ S (10 * k + 2) ≤ 1 ∧ S (10 * k + 3) ≤ 8 ∧ True ∧ S (10 * k + 5) ≤ 1000 ∧ S (10 * k + 6) ≤ 10 ∧ S (10 * k + 7) ≤ 1000 ∧ S (10 * k + 8) ≤ 30 := by
  have g := fun a ha => h.2.2.2.2.2.2.2.2.2 k hk a ha
  exact ⟨(g 0 (by omega)).1 rfl, (g 1 (by omega)).2.1 rfl, (g 2 (by omega)).2.2.1 rfl, (g 3 (by omega)).2.2.2.1 rfl, trivial, (g 5 (by omega)).2.2.2.2.1 rfl, (g 6 (by omega)).2.2.2.2.2.1 rfl, (g 7 (by omega)).2.2.2.2.2.2.1 rfl, (g 8 (by omega)).2.2.2.2.2.2.2 rfl⟩
theorem WB.cg {S S' : Nat → Nat} (h : WB S) (hi : ∀ t, 300 ≤ t → S' t = S t) (hk : ∀ k, k < 30 → ∀ a, a < 10 → okv a (S' (10 * k + a))) : WB S' := by
  obtain ⟨h1, h2, h3, h4, h5, h6, h7, h8, h9, -⟩ := h
  refine ⟨by rw [hi 311 (by omega)]; exact h1, by rw [hi 310 (by omega)]; exact h2, by rw [hi 312 (by omega)]; exact h3, by rw [hi 314 (by omega)]; exact h4, by rw [hi 315 (by omega)]; exact h5, by rw [hi 317 (by omega)]; exact h6, by rw [hi 318 (by omega)]; exact h7, by rw [hi 319 (by omega)]; exact h8, fun p hp => by rw [hi (306 + p) (by omega)]; exact h9 p hp, hk⟩
theorem WB.a {S : Nat → Nat} (h : WB S) {k a : Nat} (hk : k < 30) (ha : a < 10) : okv a (S (10 * k + a)) := h.2.2.2.2.2.2.2.2.2 k hk a ha
def ek (S : Nat → Nat) (k : Nat) : Nat := 32 * (if S (10 * k + 1) = 0 then 1000 else S (10 * k + 1)) + k
def pres (S : Nat → Nat) (n : Nat) : Nat := fb_ct (fun k => decide (S (10 * k + 2) = 0)) n
def erank (S : Nat → Nat) (k : Nat) : Nat := fb_ct (fun q => decide (S (10 * q + 2) = 0 ∧ ek S q < ek S k)) (S 311)
def fast (S : Nat → Nat) (a b : Nat) : Prop := S (10 * a + 5) < S (10 * b + 5) ∨ (S (10 * a + 5) = S (10 * b + 5) ∧ ek S a < ek S b)
def fastB (S : Nat → Nat) (a b : Nat) : Bool := decide (S (10 * a + 5) < S (10 * b + 5) ∨ (S (10 * a + 5) = S (10 * b + 5) ∧ ek S a < ek S b))
def trank (S : Nat → Nat) (k : Nat) : Nat := fb_ct (fun q => decide (1 < S (10 * q + 5)) && fastB S q k) (S 311)
def laneI (S : Nat → Nat) (r : Nat) : Int32 := if r % 2 = 1 then nI ((S 317 + 1) / 2 + (r + 1) / 2) else nI ((S 317 + 1) / 2) - nI (r / 2)
def laneN (S : Nat → Nat) (r : Nat) : Nat := if r % 2 = 1 then (S 317 + 1) / 2 + (r + 1) / 2 else (S 317 + 1) / 2 - r / 2
theorem ek_lt {S : Nat → Nat} (h : WB S) {k : Nat} (hk : k < 30) : ek S k < 40000 := by
  have := (h.k hk).2.1
  unfold ek
  split <;> omega
theorem laneI_N {S : Nat → Nat} {r : Nat} (h : r / 2 ≤ (S 317 + 1) / 2) : laneI S r = nI (laneN S r) := by
  unfold laneI laneN
  split
  · rfl
  · exact pk_sub h
theorem laneN_in {S : Nat → Nat} (hB : WB S) {r : Nat} (h : r < S 317) : 1 ≤ laneN S r ∧ laneN S r ≤ S 317 ∧ r / 2 ≤ (S 317 + 1) / 2 := by
  have := hB.2.2.2.2.2.1
  unfold laneN
  split <;> omega
theorem ct_le (p : Nat → Bool) (n : Nat) : fb_ct p n ≤ n := fb_ct_le p n
end
section
/-! level 2: what the model's reads answer -/
section MREADS
variable {w : gWd} {S : Nat → Nat}
theorem M_of (hS : SV w S) {k j : Nat} (h : 10 * k + j < 320) : F_X12_of w (nI k) (nI j) = some (nI (S (10 * k + j))) := by
  unfold F_X12_of
  rw [show (10 : Int32) = nI 10 from rfl, pk_mul, nI_add, gB_n _ h (by omega), hS _ h]
theorem M_of0 (hS : SV w S) {k : Nat} (h : k < 30) : F_X12_of w (nI k) 0 = some (nI (S (10 * k))) := M_of (j := 0) hS (by omega)
theorem M_of1 (hS : SV w S) {k : Nat} (h : k < 30) : F_X12_of w (nI k) 1 = some (nI (S (10 * k + 1))) := M_of (j := 1) hS (by omega)
theorem M_of2 (hS : SV w S) {k : Nat} (h : k < 30) : F_X12_of w (nI k) 2 = some (nI (S (10 * k + 2))) := M_of (j := 2) hS (by omega)
theorem M_of3 (hS : SV w S) {k : Nat} (h : k < 30) : F_X12_of w (nI k) 3 = some (nI (S (10 * k + 3))) := M_of (j := 3) hS (by omega)
theorem M_of4 (hS : SV w S) {k : Nat} (h : k < 30) : F_X12_of w (nI k) 4 = some (nI (S (10 * k + 4))) := M_of (j := 4) hS (by omega)
theorem M_of5 (hS : SV w S) {k : Nat} (h : k < 30) : F_X12_of w (nI k) 5 = some (nI (S (10 * k + 5))) := M_of (j := 5) hS (by omega)
theorem M_of6 (hS : SV w S) {k : Nat} (h : k < 30) : F_X12_of w (nI k) 6 = some (nI (S (10 * k + 6))) := M_of (j := 6) hS (by omega)
theorem M_of7 (hS : SV w S) {k : Nat} (h : k < 30) : F_X12_of w (nI k) 7 = some (nI (S (10 * k + 7))) := M_of (j := 7) hS (by omega)
theorem M_of8 (hS : SV w S) {k : Nat} (h : k < 30) : F_X12_of w (nI k) 8 = some (nI (S (10 * k + 8))) := M_of (j := 8) hS (by omega)
theorem M_of9 (hS : SV w S) {k : Nat} (h : k < 30) : F_X12_of w (nI k) 9 = some (nI (S (10 * k + 9))) := M_of (j := 9) hS (by omega)
theorem M_lay {k j : Nat} (h : 10 * k + j < 320) (v : Int32) : F_X12_lay w (nI k) (nI j) v = some (up3 w 8 1 (10 * k + j) v) := by
  unfold F_X12_lay
  rw [show (10 : Int32) = nI 10 from rfl, pk_mul, nI_add, gB_n _ h (by omega)]
  rfl
theorem M_in (x0 x1 x2 : Int32) : F_X12_in w x0 x1 x2 = some (if x0 < x1 then 0 else if x2 < x0 then 0 else 1) := by
  unfold F_X12_in F_X12_in_14
  split
  · rfl
  · split <;> rfl
theorem M_isSw (hS : SV w S) (hB : WB S) (x : Int32) : F_X12_isSwimmer w x = some (if x < 0 ∨ nI (S 311) ≤ x then 0 else 1) := by
  unfold F_X12_isSwimmer
  rw [M_in, gP_s, hS 311 (by omega)]
  have hN := hB.1
  have h1 : (nI (S 311) - 1).toInt = (S 311 : Int) - 1 := mT (by omega)
  have h2 : (nI (S 311)).toInt = (S 311 : Int) := nI_toInt (by omega)
  by_cases a : x < 0
  · rw [if_pos a, if_pos (Or.inl a)]; rfl
  · rw [if_neg a]
    by_cases b : nI (S 311) ≤ x
    · rw [if_pos (Or.inr b), if_pos]
      · rfl
      · rw [Int32.lt_iff_toInt_lt, h1]
        rw [Int32.le_iff_toInt_le, h2] at b
        omega
    · rw [if_neg, if_neg (fun q => q.elim a b)]
      · rfl
      · rw [Int32.lt_iff_toInt_lt, h1]
        rw [Int32.le_iff_toInt_le, h2] at b
        omega
theorem M_isGone (hS : SV w S) (hB : WB S) {k : Nat} (h : k < 30) : F_X12_isGone w (nI k) = some (nI (S (10 * k + 2))) := by
  unfold F_X12_isGone
  rw [M_of2 hS h, gP_s]
  have := (hB.k h).2.2.1
  have e : S (10 * k + 2) = 0 ∨ S (10 * k + 2) = 1 := by omega
  rcases e with e | e <;> rw [e] <;> rfl
theorem M_lanes (hS : SV w S) : F_X12_lanes w = some (nI (S 317)) := by
  unfold F_X12_lanes
  rw [hS 317 (by omega)]
theorem M_ek (hS : SV w S) (hB : WB S) {k : Nat} (h : k < 30) : F_X12_entryKey w (nI k) = some (nI (ek S k)) := by
  unfold F_X12_entryKey ek
  have := (hB.k h).2.1
  rw [M_of1 hS h, gP_s, iE0 (by omega)]
  split
  · rw [show ((32 : Int32) * 1000) = nI (32 * 1000) from rfl, nI_add]
  · rw [show (32 : Int32) = nI 32 from rfl, pk_mul, nI_add]
theorem M_erank (hS : SV w S) (hB : WB S) {k : Nat} (h : k < 30) : F_X12_entryRank w (nI k) = some (nI (erank S k)) := by
  unfold F_X12_entryRank
  have hN := hB.1
  refine loopI (F := fun fu (acc : Nat) j => F_X12_entryRank_4 fu w (nI k) (nI acc) (nI j)) (S 311) (fun j acc => acc = fb_ct (fun q => decide (S (10 * q + 2) = 0 ∧ ek S q < ek S k)) j) (fun r => r = some (nI (erank S k))) ?_ ?_ gFU 0 0 (by omega) (gFU_lt (by omega)) rfl
  · intro fu acc hI
    show F_X12_entryRank_4 (fu + 1) w (nI k) (nI acc) (nI (S 311)) = _
    rw [F_X12_entryRank_4_s, hS 311 (by omega), iLe (by omega) (by omega), if_pos (Nat.le_refl _), hI]
    rfl
  · intro fu acc j hj hI
    right
    refine ⟨_, rfl, ?_⟩
    show F_X12_entryRank_4 (fu + 1) w (nI k) (nI acc) (nI j) = F_X12_entryRank_4 fu w (nI k) _ (nI (j + 1))
    have hg := (hB.k (k := j) (by omega)).2.2.1
    have h1 := ek_lt hB (k := j) (by omega)
    have h2 := ek_lt hB h
    rw [F_X12_entryRank_4_s, hS 311 (by omega), iLe (by omega) (by omega), if_neg (by omega), M_isGone hS hB (by omega), gP_s, iE0 (by omega), fb_ct_succ, hI]
    by_cases e : S (10 * j + 2) = 0
    · rw [if_pos e, M_ek hS hB (by omega), gP_s, M_ek hS hB h, gP_s, iLe (by omega) (by omega)]
      by_cases e2 : ek S k ≤ ek S j
      · rw [if_pos e2, if_neg (by simp; omega)]
        unfold F_X12_entryRank_42
        simp only [gS_e, Int32.add_zero, Nat.add_zero, nI_1]
      · rw [if_neg e2, if_pos (by simp; omega)]
        simp only [gS_e, nI_1]
    · rw [if_neg e, if_neg (by simp [e])]
      unfold F_X12_entryRank_42
      simp only [gS_e, Int32.add_zero, Nat.add_zero, nI_1]
theorem M_hasT (hS : SV w S) (hB : WB S) {k : Nat} (h : k < 30) : F_X12_hasTime w (nI k) = some (nI (if 1 < S (10 * k + 5) then 1 else 0)) := by
  unfold F_X12_hasTime
  have := (hB.k h).2.2.2.2.2.1
  rw [M_of5 hS h, gP_s, show (1 : Int32) = nI 1 from rfl, iLe (by omega) (by omega)]
  by_cases e : 1 < S (10 * k + 5)
  · rw [if_neg (by omega), if_pos e]
  · rw [if_pos (by omega), if_neg e]; rfl
theorem M_fast (hS : SV w S) (hB : WB S) {a b : Nat} (ha : a < 30) (hb : b < 30) : F_X12_isFaster w (nI a) (nI b) = some (nI (if fastB S a b then 1 else 0)) := by
  unfold F_X12_isFaster F_X12_isFaster_35 F_X12_isFaster_39
  have h1 := (hB.k ha).2.2.2.2.2.1
  have h2 := (hB.k hb).2.2.2.2.2.1
  have k1 := ek_lt hB ha
  have k2 := ek_lt hB hb
  rw [M_of5 hS ha, gP_s, M_of5 hS hb, gP_s, gS_e, M_ek hS hB ha, gP_s, M_ek hS hB hb, gP_s, iLe (by omega) (by omega)]
  have hs : (nI (S (10 * a + 5)) - nI (S (10 * b + 5))).toInt = (S (10 * a + 5) : Int) - S (10 * b + 5) := pk_sub_toInt (by omega) (by omega)
  have c1 : (nI (S (10 * a + 5)) - nI (S (10 * b + 5)) < 0) ↔ S (10 * a + 5) < S (10 * b + 5) := by
    rw [Int32.lt_iff_toInt_lt, hs, show (0 : Int32).toInt = 0 from rfl]; omega
  have c2 : (nI (S (10 * a + 5)) - nI (S (10 * b + 5)) = 0) ↔ S (10 * a + 5) = S (10 * b + 5) := by
    rw [← Int32.toInt_inj, hs, show (0 : Int32).toInt = 0 from rfl]; omega
  unfold fastB
  by_cases e1 : S (10 * a + 5) < S (10 * b + 5)
  · rw [if_pos (c1.mpr e1), if_pos (by simp [e1])]; rfl
  · rw [if_neg (fun q => e1 (c1.mp q))]
    by_cases e2 : S (10 * a + 5) = S (10 * b + 5)
    · rw [if_pos (c2.mpr e2)]
      by_cases e3 : ek S b ≤ ek S a
      · rw [if_pos e3, if_neg (by simp; omega)]; rfl
      · rw [if_neg e3, if_pos (by simp; omega)]; rfl
    · rw [if_neg (fun q => e2 (c2.mp q)), if_neg (by simp; omega)]; rfl
theorem M_trank (hS : SV w S) (hB : WB S) {k : Nat} (h : k < 30) : F_X12_timeRank w (nI k) = some (nI (trank S k)) := by
  unfold F_X12_timeRank
  have hN := hB.1
  refine loopI (F := fun fu (acc : Nat) j => F_X12_timeRank_4 fu w (nI k) (nI acc) (nI j)) (S 311) (fun j acc => acc = fb_ct (fun q => decide (1 < S (10 * q + 5)) && fastB S q k) j) (fun r => r = some (nI (trank S k))) ?_ ?_ gFU 0 0 (by omega) (gFU_lt (by omega)) rfl
  · intro fu acc hI
    show F_X12_timeRank_4 (fu + 1) w (nI k) (nI acc) (nI (S 311)) = _
    rw [F_X12_timeRank_4_s, hS 311 (by omega), iLe (by omega) (by omega), if_pos (Nat.le_refl _), hI]
    rfl
  · intro fu acc j hj hI
    right
    refine ⟨_, rfl, ?_⟩
    show F_X12_timeRank_4 (fu + 1) w (nI k) (nI acc) (nI j) = F_X12_timeRank_4 fu w (nI k) _ (nI (j + 1))
    rw [F_X12_timeRank_4_s, hS 311 (by omega), iLe (by omega) (by omega), if_neg (by omega), M_hasT hS hB (by omega), gP_s, fb_ct_succ, hI]
    unfold F_X12_timeRank_38
    by_cases e : 1 < S (10 * j + 5)
    · rw [if_pos e, iE0 (by omega), if_neg (by omega), M_fast hS hB (by omega) h, gP_s]
      by_cases e2 : fastB S j k = true
      · rw [if_pos e2, iE0 (by omega), if_neg (by omega), if_pos (by simp [e, e2])]
        simp only [gS_e, nI_1]
      · rw [if_neg e2, iE0 (by omega), if_pos rfl, if_neg (by simp [e2])]
        simp only [gS_e, Int32.add_zero, Nat.add_zero, nI_1]
    · rw [if_neg e, iE0 (by omega), if_pos rfl, if_neg (by simp [e])]
      simp only [gS_e, Int32.add_zero, Nat.add_zero, nI_1]
theorem M_pres (hS : SV w S) (hB : WB S) : F_X12_present w = some (nI (pres S (S 311))) := by
  unfold F_X12_present
  have hN := hB.1
  refine loopI (F := fun fu (acc : Nat) j => F_X12_present_4 fu w (nI acc) (nI j)) (S 311) (fun j acc => acc = pres S j) (fun r => r = some (nI (pres S (S 311)))) ?_ ?_ gFU 0 0 (by omega) (gFU_lt (by omega)) rfl
  · intro fu acc hI
    show F_X12_present_4 (fu + 1) w (nI acc) (nI (S 311)) = _
    rw [F_X12_present_4_s, hS 311 (by omega), iLe (by omega) (by omega), if_pos (Nat.le_refl _), hI]
  · intro fu acc j hj hI
    right
    refine ⟨_, rfl, ?_⟩
    show F_X12_present_4 (fu + 1) w (nI acc) (nI j) = F_X12_present_4 fu w _ (nI (j + 1))
    have hg := (hB.k (k := j) (by omega)).2.2.1
    unfold pres at hI ⊢
    rw [F_X12_present_4_s, hS 311 (by omega), iLe (by omega) (by omega), if_neg (by omega), M_isGone hS hB (by omega), gP_s, iE0 (by omega), fb_ct_succ, hI]
    by_cases e : S (10 * j + 2) = 0
    · rw [if_pos e, if_pos (by simp [e])]
      simp only [gS_e, nI_1]
    · rw [if_neg e, if_neg (by simp [e])]
      simp only [gS_e, Int32.add_zero, Nat.add_zero, nI_1]
theorem M_laneOf (hS : SV w S) (hB : WB S) {r : Nat} (h : r < 1000) : F_X12_laneOf w (nI r) = some (laneI S r) := by
  unfold F_X12_laneOf laneI
  have hl := hB.2.2.2.2.2.1
  rw [M_lanes hS, gP_s, gS_e, gS_e, nI_1, nI_1, show (2 : Int32) = nI 2 from rfl, pk_rem (by omega) (by omega) (by omega), pk_div (by omega) (by omega) (by omega), pk_div (by omega) (by omega) (by omega), show (1 : Int32) = nI 1 from rfl, iEq (by omega) (by omega)]
  by_cases e : r % 2 = 1
  · rw [if_pos e, if_pos e, nI_add]
  · rw [if_neg e, if_neg e]
    have : (r + 1) / 2 = r / 2 := by omega
    rw [this]
end MREADS
end
section
/-! level 2: the class's meet beside the model's memory, and what its reads answer -/
/-- how a number of a swimmer stands in the class: heats and times are one less -/
def enc (a v : Nat) : Int32 := if a = 3 ∨ a = 5 ∨ a = 7 then nI v - 1 else nI v
def CVk (c : Nat → Nat → Int32) (S : Nat → Nat) (k : Nat) : Prop := ∀ a, a < 10 → c (4 + k) (a + 1) = enc a (S (10 * k + a))
def CV (c : Nat → Nat → Int32) (S : Nat → Nat) : Prop :=
  (c 0 3 = nI (S 311) ∧ c 0 4 = nI (S 310) ∧ c 0 5 = nI (S 312) ∧ c 0 7 = nI (S 316) ∧ c 0 8 = nI (S 313) ∧ c 0 9 = nI (S 314) ∧ c 0 10 = nI (S 315) ∧ c 1 0 = nI (S 317) ∧ c 1 1 = nI (S 318) ∧ c 1 2 = nI (S 319)) ∧
  ∀ k, k < S 311 → CVk c S k
section CVP
variable {c : Nat → Nat → Int32} {S : Nat → Nat} {k : Nat}
theorem CV.sz (h : CV c S) : c 0 3 = nI (S 311) := h.1.1
theorem CV.st (h : CV c S) : c 0 4 = nI (S 310) := h.1.2.1
theorem CV.ht (h : CV c S) : c 0 5 = nI (S 312) := h.1.2.2.1
theorem CV.ca (h : CV c S) : c 0 7 = nI (S 316) := h.1.2.2.2.1
theorem CV.ev (h : CV c S) : c 0 8 = nI (S 313) := h.1.2.2.2.2.1
theorem CV.rc (h : CV c S) : c 0 9 = nI (S 314) := h.1.2.2.2.2.2.1
theorem CV.rs (h : CV c S) : c 0 10 = nI (S 315) := h.1.2.2.2.2.2.2.1
theorem CV.la (h : CV c S) : c 1 0 = nI (S 317) := h.1.2.2.2.2.2.2.2.1
theorem CV.fe (h : CV c S) : c 1 1 = nI (S 318) := h.1.2.2.2.2.2.2.2.2.1
theorem CV.re (h : CV c S) : c 1 2 = nI (S 319) := h.1.2.2.2.2.2.2.2.2.2
theorem CV.f1 (h : CV c S) (hk : k < S 311) : c (4 + k) 1 = nI (S (10 * k)) := h.2 k hk 0 (by omega)
theorem CV.f2 (h : CV c S) (hk : k < S 311) : c (4 + k) 2 = nI (S (10 * k + 1)) := h.2 k hk 1 (by omega)
theorem CV.f3 (h : CV c S) (hk : k < S 311) : c (4 + k) 3 = nI (S (10 * k + 2)) := h.2 k hk 2 (by omega)
theorem CV.f4 (h : CV c S) (hk : k < S 311) : c (4 + k) 4 = nI (S (10 * k + 3)) - 1 := h.2 k hk 3 (by omega)
theorem CV.f5 (h : CV c S) (hk : k < S 311) : c (4 + k) 5 = nI (S (10 * k + 4)) := h.2 k hk 4 (by omega)
theorem CV.f6 (h : CV c S) (hk : k < S 311) : c (4 + k) 6 = nI (S (10 * k + 5)) - 1 := h.2 k hk 5 (by omega)
theorem CV.f7 (h : CV c S) (hk : k < S 311) : c (4 + k) 7 = nI (S (10 * k + 6)) := h.2 k hk 6 (by omega)
theorem CV.f8 (h : CV c S) (hk : k < S 311) : c (4 + k) 8 = nI (S (10 * k + 7)) - 1 := h.2 k hk 7 (by omega)
theorem CV.f9 (h : CV c S) (hk : k < S 311) : c (4 + k) 9 = nI (S (10 * k + 8)) := h.2 k hk 8 (by omega)
theorem CV.f10 (h : CV c S) (hk : k < S 311) : c (4 + k) 10 = nI (S (10 * k + 9)) := h.2 k hk 9 (by omega)
end CVP
section CREADS
variable {w : gWd} {S : Nat → Nat} {i : Nat}
theorem C_time0 (x : Int32) : F_X1_isTimeOrZero w x = some (if x = 0 then 1 else if x < 100 then 0 else if 999 < x then 0 else 1) := by
  unfold F_X1_isTimeOrZero F_X1_isTimeOrZero_17 F_X1_isTimeOrZero_21
  repeat' split
  all_goals rfl
theorem C_has (hC : CV (w i) S) (x : Int32) : F_X5_has w i x = some (if x < 0 ∨ nI (S 311) ≤ x then 0 else 1) := by
  unfold F_X5_has F_X5_has_16
  rw [hC.sz]
  by_cases a : x < 0
  · rw [if_pos a, if_pos (Or.inl a)]
  · rw [if_neg a]
    by_cases b : nI (S 311) ≤ x
    · rw [if_pos b, if_pos (Or.inr b)]
    · rw [if_neg b, if_neg (fun q => q.elim a b)]
theorem C_hasN (hC : CV (w i) S) (hB : WB S) {k : Nat} (h : k < S 311) : F_X5_has w i (nI k) = some 1 := by
  have := hB.1
  rw [C_has hC, if_neg]
  intro q
  rcases q with q | q
  · exact nI_pos (by omega) q
  · exact absurd ((nI_leI (by omega) (by omega)).mp q) (by omega)
theorem C_lanes (hC : CV (w i) S) : F_X5_lanes w i = some (nI (S 317)) := by
  unfold F_X5_lanes
  rw [hC.la]
theorem C_aE (hC : CV (w i) S) (hB : WB S) {a b : Nat} (ha : a < S 311) (hb : b < S 311) : F_X10_aheadByEntry w i a i b = some (nI (if ek S a < ek S b then 1 else 0)) := by
  have hN := hB.1
  have h1 := (hB.k (k := a) (by omega)).2.1
  have h2 := (hB.k (k := b) (by omega)).2.1
  unfold F_X10_aheadByEntry F_X10_aheadByEntry_36 F_X10_aheadByEntry_40
  rw [hC.f2 ha, hC.f2 hb, iEq (by omega) (by omega), iLe (by omega) (by omega), iE0 (by omega), iE0 (by omega), iLe (by omega) (by omega)]
  unfold ek
  by_cases e1 : S (10 * a + 1) = S (10 * b + 1)
  · rw [if_pos e1, e1]
    by_cases e2 : b ≤ a
    · rw [if_pos e2, if_neg (by omega)]; rfl
    · rw [if_neg e2, if_pos (by omega)]; rfl
  · rw [if_neg e1]
    by_cases e2 : S (10 * b + 1) = 0
    · rw [if_pos e2, if_neg (show ¬ S (10 * a + 1) = 0 by omega), if_pos e2, if_pos (by omega)]; rfl
    · rw [if_neg e2, if_neg e2]
      by_cases e3 : S (10 * a + 1) = 0
      · rw [if_pos e3, if_pos e3, if_neg (by omega)]; rfl
      · rw [if_neg e3, if_neg e3]
        by_cases e4 : S (10 * b + 1) ≤ S (10 * a + 1)
        · rw [if_pos e4, if_neg (by omega)]; rfl
        · rw [if_neg e4, if_pos (by omega)]; rfl
theorem C_aT (hC : CV (w i) S) (hB : WB S) {a b : Nat} (ha : a < S 311) (hb : b < S 311) : F_X10_aheadByHeatTime w i a i b = some (nI (if fastB S a b then 1 else 0)) := by
  have hN := hB.1
  have h1 := (hB.k (k := a) (by omega)).2.2.2.2.2.1
  have h2 := (hB.k (k := b) (by omega)).2.2.2.2.2.1
  unfold F_X10_aheadByHeatTime
  rw [hC.f6 ha, hC.f6 hb, C_aE hC hB ha hb, gP_s]
  unfold fastB
  by_cases e1 : S (10 * a + 5) = S (10 * b + 5)
  · rw [if_pos ((mE (by omega) (by omega)).mpr e1)]
    by_cases e2 : ek S a < ek S b
    · rw [if_pos e2, if_pos (by simp [e1, e2]), gZ_n (by omega)]
    · rw [if_neg e2, if_neg (by simp; omega), gZ_n (by omega)]
  · rw [if_neg (fun q => e1 ((mE (by omega) (by omega)).mp q))]
    by_cases e2 : S (10 * a + 5) < S (10 * b + 5)
    · rw [if_neg (fun q => by rw [← Int32.not_lt] at q; exact q ((mLt (by omega) (by omega)).mpr e2)), if_pos (by simp [e2])]; rfl
    · rw [if_pos (by rw [← Int32.not_lt]; exact fun q => e2 ((mLt (by omega) (by omega)).mp q)), if_neg (by simp; omega)]; rfl
theorem C_erank (hC : CV (w i) S) (hB : WB S) {k : Nat} (h : k < S 311) : F_X5_rankByEntry w i i k = some (nI (erank S k)) := by
  unfold F_X5_rankByEntry
  have hN := hB.1
  refine loopI (F := fun fu (acc : Nat) j => F_X5_rankByEntry_4 fu w i i k (nI acc) (nI j)) (S 311) (fun j acc => acc = fb_ct (fun q => decide (S (10 * q + 2) = 0 ∧ ek S q < ek S k)) j) (fun r => r = some (nI (erank S k))) ?_ ?_ gFU 0 0 (by omega) (gFU_lt (by omega)) rfl
  · intro fu acc hI
    show F_X5_rankByEntry_4 (fu + 1) w i i k (nI acc) (nI (S 311)) = _
    rw [F_X5_rankByEntry_4_s, hC.sz, iLe (by omega) (by omega), if_pos (Nat.le_refl _), hI]
    rfl
  · intro fu acc j hj hI
    right
    refine ⟨_, rfl, ?_⟩
    show F_X5_rankByEntry_4 (fu + 1) w i i k (nI acc) (nI j) = F_X5_rankByEntry_4 fu w i i k _ (nI (j + 1))
    have hg := (hB.k (k := j) (by omega)).2.2.1
    rw [F_X5_rankByEntry_4_s, hC.sz, iLe (by omega) (by omega), if_neg (by omega), gB_n _ (by omega) (by omega), gB_n _ (by omega) (by omega), hC.f3 hj, iE0 (by omega), fb_ct_succ, hI, C_aE hC hB hj h, gP_s]
    by_cases e : S (10 * j + 2) = 0
    · rw [if_pos e]
      by_cases e2 : ek S j < ek S k
      · rw [if_pos e2, iE0 (by omega), if_neg (by omega), if_pos (by simp [e, e2])]
        simp only [gS_e, nI_1]
      · rw [if_neg e2, iE0 (by omega), if_pos rfl, if_neg (by simp; omega)]
        simp only [gS_e, Nat.add_zero, nI_1]
    · rw [if_neg e, if_neg (by simp [e])]
      simp only [gS_e, Nat.add_zero, nI_1]
theorem C_trank (hC : CV (w i) S) (hB : WB S) {k : Nat} (h : k < S 311) : F_X5_rankByHeatTime w i i k = some (nI (trank S k)) := by
  unfold F_X5_rankByHeatTime
  have hN := hB.1
  refine loopI (F := fun fu (acc : Nat) j => F_X5_rankByHeatTime_4 fu w i i k (nI acc) (nI j)) (S 311) (fun j acc => acc = fb_ct (fun q => decide (1 < S (10 * q + 5)) && fastB S q k) j) (fun r => r = some (nI (trank S k))) ?_ ?_ gFU 0 0 (by omega) (gFU_lt (by omega)) rfl
  · intro fu acc hI
    show F_X5_rankByHeatTime_4 (fu + 1) w i i k (nI acc) (nI (S 311)) = _
    rw [F_X5_rankByHeatTime_4_s, hC.sz, iLe (by omega) (by omega), if_pos (Nat.le_refl _), hI]
    rfl
  · intro fu acc j hj hI
    right
    refine ⟨_, rfl, ?_⟩
    show F_X5_rankByHeatTime_4 (fu + 1) w i i k (nI acc) (nI j) = F_X5_rankByHeatTime_4 fu w i i k _ (nI (j + 1))
    have hg := (hB.k (k := j) (by omega)).2.2.2.2.2.1
    rw [F_X5_rankByHeatTime_4_s, hC.sz, iLe (by omega) (by omega), if_neg (by omega), gB_n _ (by omega) (by omega), gB_n _ (by omega) (by omega), hC.f6 hj, fb_ct_succ, hI, C_aT hC hB hj h, gP_s]
    by_cases e : 1 < S (10 * j + 5)
    · rw [if_neg (fun q => absurd ((mLe0 (by omega)).mp q) (by omega))]
      by_cases e2 : fastB S j k = true
      · rw [if_pos e2, iE0 (by omega), if_neg (by omega), if_pos (by simp [e, e2])]
        simp only [gS_e, nI_1]
      · rw [if_neg e2, iE0 (by omega), if_pos rfl, if_neg (by simp [e2])]
        simp only [gS_e, Nat.add_zero, nI_1]
    · rw [if_pos ((mLe0 (by omega)).mpr (by omega)), if_neg (by simp [e])]
      simp only [gS_e, Nat.add_zero, nI_1]
theorem C_pres (hC : CV (w i) S) (hB : WB S) : F_X5_notScratched w i = some (nI (pres S (S 311))) := by
  unfold F_X5_notScratched
  have hN := hB.1
  refine loopI (F := fun fu (acc : Nat) j => F_X5_notScratched_4 fu w i (nI acc) (nI j)) (S 311) (fun j acc => acc = pres S j) (fun r => r = some (nI (pres S (S 311)))) ?_ ?_ gFU 0 0 (by omega) (gFU_lt (by omega)) rfl
  · intro fu acc hI
    show F_X5_notScratched_4 (fu + 1) w i (nI acc) (nI (S 311)) = _
    rw [F_X5_notScratched_4_s, hC.sz, iLe (by omega) (by omega), if_pos (Nat.le_refl _), hI]
  · intro fu acc j hj hI
    right
    refine ⟨_, rfl, ?_⟩
    show F_X5_notScratched_4 (fu + 1) w i (nI acc) (nI j) = F_X5_notScratched_4 fu w i _ (nI (j + 1))
    have hg := (hB.k (k := j) (by omega)).2.2.1
    unfold pres at hI ⊢
    rw [F_X5_notScratched_4_s, hC.sz, iLe (by omega) (by omega), if_neg (by omega), gB_n _ (by omega) (by omega), hC.f3 hj, iE0 (by omega), fb_ct_succ, hI]
    by_cases e : S (10 * j + 2) = 0
    · rw [if_pos e, if_pos (by simp [e])]
      simp only [gS_e, nI_1]
    · rw [if_neg e, if_neg (by simp [e])]
      simp only [gS_e, Nat.add_zero, nI_1]
theorem C_ofRank (hB : WB S) {r : Nat} (h : r < 1000) : F_X4_ofRank w (nI r) (nI (S 317)) = some (laneI S r) := by
  have hl := hB.2.2.2.2.2.1
  unfold F_X4_ofRank laneI
  rw [gS_e, nI_1, nI_1, show (2 : Int32) = nI 2 from rfl, pk_rem (by omega) (by omega) (by omega), pk_div (by omega) (by omega) (by omega), pk_div (by omega) (by omega) (by omega), pk_div (by omega) (by omega) (by omega), show (1 : Int32) = nI 1 from rfl, iEq (by omega) (by omega), nI_add]
  split <;> rfl
end CREADS
end
section
/-! level 2: writes -/
/-- one column of many swimmers -/
def bulk (S : Nat → Nat) (a : Nat) (f : Nat → Nat) (p : Nat → Bool) (j : Nat) : Nat → Nat := fun t => if t < 300 ∧ t % 10 = a ∧ t / 10 < j ∧ p (t / 10) = true then f (t / 10) else S t
theorem bulk_0 (S : Nat → Nat) (a : Nat) (f : Nat → Nat) (p : Nat → Bool) : bulk S a f p 0 = S := by
  funext t
  unfold bulk
  rw [if_neg (by omega)]
theorem bulk_at {S : Nat → Nat} {a : Nat} {f : Nat → Nat} {p : Nat → Bool} {j k : Nat} (ha : a < 10) (hk : k < 30) : bulk S a f p j (10 * k + a) = if k < j ∧ p k = true then f k else S (10 * k + a) := by
  have h1 : (10 * k + a) % 10 = a := by omega
  have h2 : (10 * k + a) / 10 = k := by omega
  unfold bulk
  rw [h1, h2]
  by_cases h : k < j ∧ p k = true
  · rw [if_pos h, if_pos ⟨by omega, rfl, h.1, h.2⟩]
  · rw [if_neg h, if_neg (fun q => h ⟨q.2.2.1, q.2.2.2⟩)]
theorem bulk_ne {S : Nat → Nat} {a b : Nat} {f : Nat → Nat} {p : Nat → Bool} {j k : Nat} (hb : b < 10) (h : b ≠ a) : bulk S a f p j (10 * k + b) = S (10 * k + b) := by
  have h1 : (10 * k + b) % 10 = b := by omega
  unfold bulk
  rw [h1, if_neg (fun q => h q.2.1)]
theorem bulk_hi {S : Nat → Nat} {a : Nat} {f : Nat → Nat} {p : Nat → Bool} {j t : Nat} (h : 300 ≤ t) : bulk S a f p j t = S t := by
  unfold bulk
  rw [if_neg (by omega)]
theorem bulk_t {S : Nat → Nat} {a : Nat} {f : Nat → Nat} {p : Nat → Bool} {j : Nat} (ha : a < 10) (hj : j < 30) (hp : p j = true) : bulk S a f p (j + 1) = upN (bulk S a f p j) (10 * j + a) (f j) := by
  funext t
  by_cases h : t = 10 * j + a
  · subst h
    rw [upN_s, bulk_at ha hj, if_pos ⟨by omega, hp⟩]
  · rw [upN_n h]
    unfold bulk
    by_cases h2 : t < 300 ∧ t % 10 = a ∧ t / 10 < j ∧ p (t / 10) = true
    · rw [if_pos h2, if_pos ⟨h2.1, h2.2.1, by omega, h2.2.2.2⟩]
    · rw [if_neg h2, if_neg]
      rintro ⟨q1, q2, q3, q4⟩
      exact h2 ⟨q1, q2, by omega, q4⟩
theorem bulk_f {S : Nat → Nat} {a : Nat} {f : Nat → Nat} {p : Nat → Bool} {j : Nat} (hp : p j = false) : bulk S a f p (j + 1) = bulk S a f p j := by
  funext t
  unfold bulk
  by_cases h2 : t < 300 ∧ t % 10 = a ∧ t / 10 < j ∧ p (t / 10) = true
  · rw [if_pos h2, if_pos ⟨h2.1, h2.2.1, by omega, h2.2.2.2⟩]
  · rw [if_neg h2, if_neg]
    rintro ⟨q1, q2, q3, q4⟩
    by_cases e : t / 10 = j
    · rw [e, hp] at q4; cases q4
    · exact h2 ⟨q1, q2, by omega, q4⟩
theorem WB.bulk {S : Nat → Nat} (h : WB S) {a : Nat} {f : Nat → Nat} {p : Nat → Bool} {j : Nat} (ha : a < 10) (hf : ∀ k, k < 30 → k < j → p k = true → okv a (f k)) : WB (bulk S a f p j) := by
  refine h.cg (fun t ht => bulk_hi ht) (fun k hk b hb => ?_)
  by_cases e : b = a
  · subst e
    rw [bulk_at ha hk]
    split
    · rename_i q; exact hf k hk q.1 q.2
    · exact h.a hk ha
  · rw [bulk_ne hb e]
    exact h.a hk hb
theorem WB.upk {S : Nat → Nat} (h : WB S) {k a v : Nat} (hk : k < 30) (ha : a < 10) (hv : okv a v) : WB (upN S (10 * k + a) v) := by
  refine h.cg (fun t ht => upN_n (by omega)) (fun q hq b hb => ?_)
  by_cases e : q = k ∧ b = a
  · obtain ⟨rfl, rfl⟩ := e
    rw [upN_s]; exact hv
  · rw [upN_n (by omega)]
    exact h.a hq hb
/-- every int is a natural's -/
def nOf (v : Int32) : Nat := v.toBitVec.toNat
theorem nI_nOf (v : Int32) : nI (nOf v) = v := by
  unfold nOf nI
  apply Int32.toBitVec_inj.mp
  simp
theorem CV.upk {w : gWd} {S : Nat → Nat} {i : Nat} (hC : CV (w i) S) {k a v : Nat} (hk : k < 30) (ha : a < 10) {x : Int32} (hx : x = enc a v) : CV (up3 w i (4 + k) (a + 1) x i) (upN S (10 * k + a) v) := by
  have r0 : ∀ j, up3 w i (4 + k) (a + 1) x i 0 j = w i 0 j := fun j => up3_n (by omega)
  have r1 : ∀ j, up3 w i (4 + k) (a + 1) x i 1 j = w i 1 j := fun j => up3_n (by omega)
  have hi : ∀ t, 300 ≤ t → upN S (10 * k + a) v t = S t := fun t ht => upN_n (by omega)
  refine ⟨?_, fun q hq b hb => ?_⟩
  · simp only [r0, r1, hi 311 (by omega), hi 310 (by omega), hi 312 (by omega), hi 313 (by omega), hi 314 (by omega), hi 315 (by omega), hi 316 (by omega), hi 317 (by omega), hi 318 (by omega), hi 319 (by omega)]
    exact hC.1
  · rw [hi 311 (by omega)] at hq
    by_cases e : q = k ∧ b = a
    · obtain ⟨rfl, rfl⟩ := e
      rw [up3_s, upN_s, hx]
    · rw [up3_n (by omega), upN_n (by omega)]
      exact hC.2 q hq b hb
/-- the other blocks stay -/
theorem up3_b {w : gWd} {i r j : Nat} {v : Int32} {a : Nat} (h : a ≠ i) : up3 w i r j v a = w a := by
  funext b c
  exact up3_n (fun z => h z.1)
theorem up3_r {w : gWd} {i r j : Nat} {v : Int32} {a b : Nat} (h : ¬ (a = i ∧ b = r)) : up3 w i r j v a b = w a b := by
  funext c
  exact up3_n (fun z => h ⟨z.1, z.2.1⟩)
theorem CV.cg {c c' : Nat → Nat → Int32} {S : Nat → Nat} (h : CV c S) (e : ∀ r j, r = 0 ∨ r = 1 ∨ 4 ≤ r → (r = 0 → j ≠ 6) → c' r j = c r j) : CV c' S := by
  refine ⟨?_, fun k hk a ha => ?_⟩
  · have e0 : ∀ j, j ≠ 6 → c' 0 j = c 0 j := fun j hj => e 0 j (Or.inl rfl) (fun _ => hj)
    have e1 : ∀ j, c' 1 j = c 1 j := fun j => e 1 j (Or.inr (Or.inl rfl)) (fun q => by omega)
    simp only [e0 3 (by omega), e0 4 (by omega), e0 5 (by omega), e0 7 (by omega), e0 8 (by omega), e0 9 (by omega), e0 10 (by omega), e1]
    exact h.1
  · rw [e (4 + k) (a + 1) (by omega) (by omega)]
    exact h.2 k hk a ha
/-- counts: strictly fewer -/
theorem ct_lt {p q : Nat → Bool} : ∀ {n : Nat}, (∀ k, k < n → p k = true → q k = true) → (∃ k, k < n ∧ p k = false ∧ q k = true) → fb_ct p n < fb_ct q n
  | 0, _, ⟨k, hk, _⟩ => absurd hk (Nat.not_lt_zero k)
  | n + 1, h, ⟨k, hk, h1, h2⟩ => by
    rw [fb_ct_succ, fb_ct_succ]
    have hle : fb_ct p n ≤ fb_ct q n := fb_ct_sub (fun j hj => h j (by omega))
    by_cases e : k = n
    · subst e
      rw [h1, h2]
      simp
      omega
    · have := ct_lt (n := n) (fun j hj => h j (by omega)) ⟨k, by omega, h1, h2⟩
      have h3 := h n (by omega)
      by_cases e2 : p n = true
      · rw [e2, h3 e2]; omega
      · have : p n = false := by cases hp : p n <;> simp_all
        rw [this]
        simp
        omega
theorem sm_ones : ∀ {f : Nat → Nat} {n : Nat}, (∀ k, k < n → f k ≤ 1) → fb_sm f n = n → ∀ k, k < n → f k = 1
  | _, 0, _, _, k, hk => absurd hk (Nat.not_lt_zero k)
  | f, n + 1, h, hs, k, hk => by
    rw [fb_sm_succ] at hs
    have h1 := h n (by omega)
    have h2 : fb_sm f n ≤ n := by
      have := fb_sm_bound (f := f) (c := 1) (n := n) (fun k hk => h k (by omega))
      omega
    by_cases e : k = n
    · subst e; omega
    · exact sm_ones (f := f) (n := n) (fun k hk => h k (by omega)) (by omega) k (by omega)
section RANKS
variable (U : Nat → Bool) (e : Nat → Nat) (N : Nat)
/-- the rank of a key among those who count -/
def rk (k : Nat) : Nat := fb_ct (fun q => U q && decide (e q < e k)) N
theorem rk_lt {a b : Nat} (ha : a < N) (hU : U a = true) (h : e a < e b) : rk U e N a < rk U e N b := by
  unfold rk
  refine ct_lt (fun k _ hk => ?_) ⟨a, ha, by simp, by simp [hU, h]⟩
  simp at hk ⊢
  exact ⟨hk.1, by omega⟩
theorem rk_n {a : Nat} (ha : a < N) (hU : U a = true) : rk U e N a < fb_ct U N := by
  unfold rk
  exact ct_lt (fun k _ hk => by simp at hk; exact hk.1) ⟨a, ha, by simp, hU⟩
theorem rk_inj (hinj : ∀ a b, a < N → b < N → e a = e b → a = b) {a b : Nat} (ha : a < N) (hb : b < N) (hUa : U a = true) (hUb : U b = true) (h : rk U e N a = rk U e N b) : a = b := by
  rcases Nat.lt_trichotomy (e a) (e b) with q | q | q
  · have := rk_lt U e N ha hUa q; omega
  · exact hinj a b ha hb q
  · have := rk_lt U e N hb hUb q; omega
theorem rk_iff (hinj : ∀ a b, a < N → b < N → e a = e b → a = b) {a b : Nat} (ha : a < N) (hb : b < N) (hUa : U a = true) (hUb : U b = true) : rk U e N a < rk U e N b ↔ e a < e b := by
  refine ⟨fun h => ?_, rk_lt U e N ha hUa⟩
  rcases Nat.lt_trichotomy (e a) (e b) with q | q | q
  · exact q
  · have := hinj a b ha hb q; subst this; omega
  · have := rk_lt U e N hb hUb q; omega
theorem ct_one {p : Nat → Bool} {n : Nat} (h : ∀ a b, a < n → b < n → p a = true → p b = true → a = b) : fb_ct p n ≤ 1 := by
  induction n with
  | zero => exact Nat.zero_le _
  | succ n ih =>
    rw [fb_ct_succ]
    by_cases e : p n = true
    · have : fb_ct p n = 0 := fb_ct_zero.mpr (fun k hk => by
        cases hp : p k with
        | false => rfl
        | true => have := h k n (by omega) (by omega) hp e; omega)
      rw [this, e]; simp
    · have : p n = false := by cases hp : p n <;> simp_all
      rw [this]
      have := ih (fun a b ha hb => h a b (by omega) (by omega))
      simpa using this
theorem rk_ex (r : Nat → Nat) (P : Nat → Bool) : ∀ n, fb_sm (fun x => if P x then fb_ct (fun q => U q && decide (r q = x)) N else 0) n = fb_ct (fun q => U q && (decide (r q < n) && P (r q))) N
  | 0 => by
    have : fb_ct (fun q => U q && (decide (r q < 0) && P (r q))) N = 0 := fb_ct_zero.mpr (fun k _ => by simp)
    rw [this]; rfl
  | n + 1 => by
    rw [fb_sm_succ, rk_ex r P n]
    by_cases hP : P n = true
    · rw [if_pos hP, ← fb_ct_or (p := fun q => U q && (decide (r q < n) && P (r q))) (q := fun q => U q && decide (r q = n)) (fun k _ => by simp; intros; omega)]
      refine fb_ct_cong (fun k _ => ?_)
      cases hU : U k
      · simp
      · simp
        rcases Nat.lt_trichotomy (r k) n with q | q | q
        · simp [q, Nat.lt_succ_of_lt q, Nat.ne_of_lt q]
        · simp [q, hP]
        · have h1 : ¬ r k < n := by omega
          have h2 : ¬ r k < n + 1 := by omega
          have h3 : ¬ r k = n := by omega
          simp [h1, h2, h3]
    · rw [if_neg hP, Nat.add_zero]
      refine fb_ct_cong (fun k _ => ?_)
      rcases Nat.lt_trichotomy (r k) n with q | q | q
      · simp [q, Nat.lt_succ_of_lt q]
      · have : P (r k) = false := by rw [q]; cases hp : P n <;> simp_all
        simp [this]
      · have h1 : ¬ r k < n := by omega
        have h2 : ¬ r k < n + 1 := by omega
        simp [h1, h2]
/-- counting those who count is counting ranks -/
theorem ct_rank (hinj : ∀ a b, a < N → b < N → e a = e b → a = b) (P : Nat → Bool) : fb_ct (fun q => U q && P (rk U e N q)) N = fb_ct P (fb_ct U N) := by
  have key : ∀ x, x < fb_ct U N → fb_ct (fun q => U q && decide (rk U e N q = x)) N = 1 := by
    refine sm_ones (fun x _ => ct_one (fun a b ha hb h1 h2 => ?_)) ?_
    · simp at h1 h2
      exact rk_inj U e N hinj ha hb h1.1 h2.1 (by omega)
    · have h := rk_ex U N (rk U e N) (fun _ => true) (fb_ct U N)
      simp only [if_true] at h
      rw [h]
      refine fb_ct_cong (fun k hk => ?_)
      cases hU : U k
      · rfl
      · simp [rk_n U e N hk hU]
  have h := rk_ex U N (rk U e N) P (fb_ct U N)
  have h2 : fb_ct (fun q => U q && (decide (rk U e N q < fb_ct U N) && P (rk U e N q))) N = fb_ct (fun q => U q && P (rk U e N q)) N := by
    refine fb_ct_cong (fun k hk => ?_)
    cases hU : U k
    · rfl
    · simp [rk_n U e N hk hU]
  rw [← h2, ← h]
  have h3 : ∀ n, n ≤ fb_ct U N → fb_sm (fun x => if P x then fb_ct (fun q => U q && decide (rk U e N q = x)) N else 0) n = fb_ct P n := by
    intro n
    induction n with
    | zero => intro _; rfl
    | succ n ih =>
      intro hn
      rw [fb_sm_succ, fb_ct_succ, ih (by omega)]
      congr 1
      by_cases hP : P n = true
      · rw [if_pos hP, if_pos hP, key n (by omega)]
      · rw [if_neg hP, if_neg hP]
  exact h3 _ (Nat.le_refl _)
end RANKS
theorem ek_cg {S S' : Nat → Nat} {k : Nat} (h : S' (10 * k + 1) = S (10 * k + 1)) : ek S' k = ek S k := by unfold ek; rw [h]
theorem erank_cg {S S' : Nat → Nat} (h1 : ∀ q, S' (10 * q + 1) = S (10 * q + 1)) (h2 : ∀ q, S' (10 * q + 2) = S (10 * q + 2)) (hN : S' 311 = S 311) (k : Nat) : erank S' k = erank S k := by
  unfold erank
  rw [hN]
  exact fb_ct_cong (fun q _ => by rw [h2 q, ek_cg (h1 q), ek_cg (h1 k)])
theorem laneI_cg {S S' : Nat → Nat} (h : S' 317 = S 317) (r : Nat) : laneI S' r = laneI S r := by unfold laneI; rw [h]
end
section
/-! level 2: drawing the heats, the model's side -/
def UN (S : Nat → Nat) (q : Nat) : Bool := decide (S (10 * q + 2) = 0)
theorem erank_rk (S : Nat → Nat) (k : Nat) : erank S k = rk (UN S) (ek S) (S 311) k := by
  unfold erank rk UN
  exact fb_ct_cong (fun q _ => by simp)
theorem pres_ct (S : Nat → Nat) : pres S (S 311) = fb_ct (UN S) (S 311) := rfl
theorem ek_inj {S : Nat → Nat} {a b : Nat} (ha : a < 30) (hb : b < 30) (h : ek S a = ek S b) : a = b := by
  unfold ek at h
  omega
theorem erank_lt {S : Nat → Nat} {k : Nat} (hk : k < S 311) (hU : UN S k = true) : erank S k < pres S (S 311) := by
  rw [erank_rk, pres_ct]
  exact rk_n _ _ _ hk hU
theorem pres_le (S : Nat → Nat) (n : Nat) : pres S n ≤ n := fb_ct_le _ _
def nH (S : Nat → Nat) : Nat := (pres S (S 311) + S 317 - 1) / S 317
theorem nH_in {S : Nat → Nat} (hB : WB S) (h : 0 < pres S (S 311)) : 1 ≤ nH S ∧ nH S ≤ 8 ∧ pres S (S 311) ≤ nH S * S 317 := by
  have h1 := hB.1
  have h2 := hB.2.2.2.2.2.1
  have h3 := pres_le S (S 311)
  unfold nH
  generalize pres S (S 311) = n at *
  generalize hl : S 317 = L at *
  refine ⟨Nat.div_pos (by omega) (by omega), ?_, ?_⟩
  · rw [Nat.div_le_iff_le_mul_add_pred (by omega)]
    omega
  · have := Nat.div_add_mod (n + L - 1) L
    have h4 := Nat.mod_lt (n + L - 1) (show L > 0 by omega)
    rw [Nat.mul_comm]
    omega
/-- the heat of a rank before the first heat is filled -/
def h0 (L H r : Nat) : Nat := if H < 3 then (if H = 2 ∧ r % 2 = 0 then 1 else 0) else if r < 3 * L then H - 1 - r % 3 else H - 1 - r / L
theorem h0_le {L H r : Nat} (h : 1 ≤ H) : h0 L H r ≤ H - 1 := by
  unfold h0
  split
  · split <;> omega
  · split
    · exact Nat.sub_le _ _
    · exact Nat.sub_le _ _
theorem div_lt' {r H L : Nat} (hL : 0 < L) (h : r < H * L) : r / L < H := (Nat.div_lt_iff_lt_mul hL).mpr h
theorem M_heatFor {w : gWd} {S : Nat → Nat} (hS : SV w S) (hB : WB S) {r H : Nat} (h1 : 1 ≤ H) (h8 : H ≤ 8) (hr : r < H * S 317) (hr2 : r < 30) : F_X12_heatFor w (nI r) (nI H) = some (nI (h0 (S 317) H r)) := by
  have hl := hB.2.2.2.2.2.1
  have hd := div_lt' (by omega) hr
  unfold F_X12_heatFor h0
  rw [show (3 : Int32) = nI 3 from rfl, iLe (by omega) (by omega), M_lanes hS, gP_s, gP_s, pk_mul, iLe (by omega) (by omega), gD_n (by omega) (by omega), pk_div (by omega) (by omega) (by omega), pk_rem (by omega) (by omega) (by omega), show (2 : Int32) = nI 2 from rfl, pk_rem (by omega) (by omega) (by omega), show (1 : Int32) = nI 1 from rfl, iEq (by omega) (by omega), pk_sub h1]
  by_cases e1 : 3 ≤ H
  · rw [if_pos e1, if_neg (show ¬ H < 3 by omega)]
    by_cases e2 : 3 * S 317 ≤ r
    · rw [if_pos e2, if_neg (show ¬ r < 3 * S 317 by omega), pk_sub (show r / S 317 ≤ H - 1 by omega)]
    · rw [if_neg e2, if_pos (show r < 3 * S 317 by omega), pk_sub (show r % 3 ≤ H - 1 by omega)]
  · rw [if_neg e1, if_pos (show H < 3 by omega)]
    by_cases e2 : H = 1
    · rw [if_pos e2, if_neg (by omega)]; rfl
    · rw [if_neg e2]
      by_cases e3 : r % 2 = 0
      · rw [if_pos (by omega), e3]; rfl
      · rw [if_neg (by omega), show r % 2 = 1 by omega]; rfl
theorem M_sizeOf {w : gWd} {d : Nat → Nat} {h m : Nat} (hm : m ≤ 30) (hh : h < 1000) (hd : ∀ r, r < m → w 8 5 r = nI (d r) ∧ d r < 1000) : F_X12_sizeOf w (nI h) (nI m) = some (nI (fb_ct (fun r => decide (d r = h)) m)) := by
  unfold F_X12_sizeOf
  refine loopI (F := fun fu (acc : Nat) j => F_X12_sizeOf_5 fu w (nI h) (nI m) (nI acc) (nI j)) m (fun j acc => acc = fb_ct (fun r => decide (d r = h)) j) (fun r => r = some (nI (fb_ct (fun r => decide (d r = h)) m))) ?_ ?_ gFU 0 0 (by omega) (gFU_lt (by omega)) rfl
  · intro fu acc hI
    show F_X12_sizeOf_5 (fu + 1) w (nI h) (nI m) (nI acc) (nI m) = _
    rw [F_X12_sizeOf_5_s, iLe (by omega) (by omega), if_pos (Nat.le_refl _), hI]
  · intro fu acc j hj hI
    right
    refine ⟨_, rfl, ?_⟩
    show F_X12_sizeOf_5 (fu + 1) w (nI h) (nI m) (nI acc) (nI j) = F_X12_sizeOf_5 fu w (nI h) (nI m) _ (nI (j + 1))
    obtain ⟨h1, h2⟩ := hd j hj
    rw [F_X12_sizeOf_5_s, iLe (by omega) (by omega), if_neg (by omega), gB_n _ (by omega) (by omega), h1, iEq (by omega) (by omega), fb_ct_succ, hI]
    by_cases e : d j = h
    · rw [if_pos e, if_pos (by simp [e])]
      simp only [gS_e, nI_1]
    · rw [if_neg e, if_neg (by simp [e])]
      simp only [gS_e, Int32.add_zero, Nat.add_zero, nI_1]
/-- the heat of a rank when those of heat 1 from the rank t on came into the heat 0 -/
def Dt (L H t r : Nat) : Nat := if h0 L H r = 1 ∧ t ≤ r then 0 else h0 L H r
def cg (L H n t : Nat) : Nat := fb_ct (fun r => decide (t ≤ r) && decide (h0 L H r = 1)) n
theorem Dt_le {L H t r : Nat} (h : 1 ≤ H) : Dt L H t r ≤ H - 1 := by
  have := h0_le (L := L) (r := r) h
  unfold Dt
  split <;> omega
theorem cg_n (L H n : Nat) : cg L H n n = 0 := fb_ct_zero.mpr (fun k hk => by simp; intro h; omega)
theorem Dt_n {L H n r : Nat} (h : r < n) : Dt L H n r = h0 L H r := by
  unfold Dt
  rw [if_neg (by omega)]
theorem cg_step {L H n t : Nat} (ht : t < n) : cg L H n t = cg L H n (t + 1) + if h0 L H t = 1 then 1 else 0 := by
  unfold cg
  have h := fb_ct_or (p := fun r => decide (t + 1 ≤ r) && decide (h0 L H r = 1)) (q := fun r => decide (r = t) && decide (h0 L H r = 1)) (n := n) (fun k _ => by simp; omega)
  have h2 : fb_ct (fun r => decide (t ≤ r) && decide (h0 L H r = 1)) n = fb_ct (fun r => (decide (t + 1 ≤ r) && decide (h0 L H r = 1)) || (decide (r = t) && decide (h0 L H r = 1))) n := fb_ct_cong (fun k _ => by
    rcases Nat.lt_trichotomy k t with q | q | q
    · have a1 : ¬ t ≤ k := by omega
      have a2 : ¬ t + 1 ≤ k := by omega
      have a3 : ¬ k = t := by omega
      simp [a1, a2, a3]
    · subst q; simp
    · have a1 : t ≤ k := by omega
      have a2 : t + 1 ≤ k := by omega
      have a3 : ¬ k = t := by omega
      simp [a1, a2, a3])
  rw [h2, h]
  congr 1
  by_cases e : h0 L H t = 1
  · rw [if_pos e]
    refine Nat.le_antisymm (ct_one (fun a b _ _ h1 h2 => by simp at h1 h2; omega)) ?_
    exact fb_ct_pos.mpr ⟨t, ht, by simp [e]⟩
  · rw [if_neg e]
    exact fb_ct_zero.mpr (fun k _ => by
      simp
      intro q
      subst q
      exact e)
theorem cg_mono {L H n a b : Nat} (h : a ≤ b) : cg L H n b ≤ cg L H n a := fb_ct_sub (fun k _ hk => by simp at hk ⊢; exact ⟨by omega, hk.2⟩)
/-- where as many came over, the same came over -/
theorem Dt_cg {L H n a b : Nat} (h : cg L H n a = cg L H n b) {r : Nat} (hr : r < n) : Dt L H a r = Dt L H b r := by
  have key : ∀ a b : Nat, a ≤ b → cg L H n a = cg L H n b → Dt L H a r = Dt L H b r := by
    intro a b hab h
    unfold Dt
    by_cases e : h0 L H r = 1 ∧ a ≤ r ∧ r < b
    · exfalso
      have : cg L H n b < cg L H n a := ct_lt (fun k _ hk => by simp at hk ⊢; exact ⟨by omega, hk.2⟩) ⟨r, hr, by simp; intro; omega, by simp [e.1, e.2.1]⟩
      omega
    · by_cases e1 : h0 L H r = 1 ∧ a ≤ r
      · rw [if_pos e1, if_pos ⟨e1.1, by omega⟩]
      · rw [if_neg e1, if_neg (fun q => e1 ⟨q.1, by omega⟩)]
  rcases Nat.le_total a b with q | q
  · exact key a b q h
  · exact (key b a q h.symm).symm
/-- how many are to come over, if there are as many -/
def nA (S : Nat → Nat) (H : Nat) : Int := if H < 4 then 0 else (S 318 : Int) - fb_ct (fun r => decide (h0 (S 317) H r = 0)) (pres S (S 311))
def nT (S : Nat → Nat) (H : Nat) : Nat := cg (S 317) H (pres S (S 311)) 0
/-- only the model's row of heats has changed -/
def ag5 (w w' : gWd) : Prop := ∀ a b, ¬ (a = 8 ∧ b = 5) → w' a b = w a b
theorem ag5.rf (w : gWd) : ag5 w w := fun _ _ _ => rfl
theorem ag5.tr {w w1 w2 : gWd} (h1 : ag5 w w1) (h2 : ag5 w1 w2) : ag5 w w2 := fun a b h => (h2 a b h).trans (h1 a b h)
theorem ag5.up {w : gWd} (j : Nat) (v : Int32) : ag5 w (up3 w 8 5 j v) := fun a b h => up3_r h
theorem ag5.sv {w w' : gWd} {S : Nat → Nat} (h : ag5 w w') (hS : SV w S) : SV w' S := hS.of (h 8 1 (by omega))
theorem ax1 {A : Int} {Ap a b : Nat} (h : A ≤ Ap) (e : ¬ A - (a : Int) ≤ 0) (hb : b = a + 1) : b ≤ Ap := by omega
theorem ax2 {A : Int} {a b : Nat} (hb : b = a + 1) : A - (a : Int) + -1 = A - (b : Int) := by omega
theorem ax3 {A z : Int} (h : A ≤ 30 ∧ -40 ≤ A) (h1 : 0 ≤ z) (h2 : z ≤ 30) : -2147483648 ≤ A - z + -1 ∧ A - z + -1 < 2147483648 := by omega
theorem M_plans74 {L H n : Nat} (hH : 1 ≤ H ∧ H ≤ 8) (hn : n ≤ 30) {A : Int} {Ap : Nat} (hA : A ≤ 30 ∧ -40 ≤ A) (hAp : A ≤ Ap ∧ (A ≤ 0 → Ap = 0) ∧ (0 ≤ A → (Ap : Int) = A)) (x2 : Int32) : ∀ (m fu : Nat) (w : gWd) (x3 : Int32), m ≤ n → m < fu → (∀ r, r < n → w 8 5 r = nI (Dt L H m r)) → x3.toInt = A - cg L H n m → cg L H n m ≤ Ap →
    ∃ w' t, F_X12_plans_74 fu w x2 x3 (nI m - 1) = some (x2, w') ∧ ag5 w w' ∧ (∀ r, r < n → w' 8 5 r = nI (Dt L H t r)) ∧ cg L H n t = min Ap (cg L H n 0) := by
  intro m
  induction m with
  | zero =>
    intro fu w x3 _ hfu hd hx hc
    obtain ⟨fu, rfl⟩ : ∃ f, fu = f + 1 := ⟨fu - 1, by omega⟩
    refine ⟨w, 0, ?_, ag5.rf w, hd, by omega⟩
    rw [F_X12_plans_74_s, if_pos (by decide)]
  | succ m ih =>
    intro fu w x3 hm hfu hd hx hc
    obtain ⟨fu, rfl⟩ : ∃ f, fu = f + 1 := ⟨fu - 1, by omega⟩
    have hle := cg_mono (L := L) (H := H) (n := n) (show 0 ≤ m + 1 by omega)
    have hx0 : (x3 ≤ 0) ↔ A - cg L H n (m + 1) ≤ 0 := by rw [Int32.le_iff_toInt_le, hx]; rfl
    rw [F_X12_plans_74_s, nI_pred, if_neg (nI_pos (by omega)), gB_n _ (by omega) (by omega), gB_n _ (by omega) (by omega), hd m (by omega)]
    by_cases e1 : A - cg L H n (m + 1) ≤ 0
    · rw [if_pos (hx0.mpr e1)]
      exact ⟨w, m + 1, rfl, ag5.rf w, hd, by omega⟩
    · rw [if_neg (fun q => e1 (hx0.mp q))]
      have hDm : Dt L H (m + 1) m = h0 L H m := by unfold Dt; rw [if_neg (by omega)]
      have h0l := h0_le (L := L) (H := H) (r := m) hH.1
      have hcs := cg_step (L := L) (H := H) (n := n) (t := m) (by omega)
      rw [hDm, show (1 : Int32) = nI 1 from rfl, iEq (by omega) (by omega)]
      have em : nI m + (-nI 1) = nI m - 1 := by rw [Int32.sub_eq_add_neg]; rfl
      by_cases e2 : h0 L H m = 1
      · rw [if_pos e2, gS_e, gS_e, gS_e, em]
        rw [if_pos e2] at hcs
        have hd' : ∀ r, r < n → up3 w 8 5 m 0 8 5 r = nI (Dt L H m r) := by
          intro r hr
          by_cases er : r = m
          · subst er
            rw [up3_s]
            unfold Dt
            rw [if_pos ⟨e2, Nat.le_refl _⟩]
            rfl
          · rw [up3_n (by omega), hd r hr]
            congr 1
            unfold Dt
            by_cases q : h0 L H r = 1 ∧ m + 1 ≤ r
            · rw [if_pos q, if_pos ⟨q.1, by omega⟩]
            · rw [if_neg q, if_neg (fun z => q ⟨z.1, by omega⟩)]
        have hx' : (x3 + (-nI 1)).toInt = A - cg L H n m := by
          have h1 : (-nI 1).toInt = -1 := by decide
          have hb : (cg L H n (m + 1) : Int) ≤ 30 := by
            have := fb_ct_le (fun r => decide (m + 1 ≤ r) && decide (h0 L H r = 1)) n
            unfold cg
            omega
          have hb0 : (0 : Int) ≤ cg L H n (m + 1) := Int.natCast_nonneg _
          have hz := ax3 hA hb0 hb
          rw [fb_addI (by rw [hx, h1]; exact hz.1) (by rw [hx, h1]; exact hz.2), hx, h1]
          exact ax2 hcs
        have hc' : cg L H n m ≤ Ap := ax1 hAp.1 e1 hcs
        obtain ⟨w', t, g1, g2, g3, g4⟩ := ih fu (up3 w 8 5 m 0) (x3 + (-nI 1)) (by omega) (by omega) hd' hx' hc'
        exact ⟨w', t, g1, (ag5.up m 0).tr g2, g3, g4⟩
      · rw [if_neg e2, gS_e, em]
        rw [if_neg e2] at hcs
        have hd' : ∀ r, r < n → w 8 5 r = nI (Dt L H m r) := by
          intro r hr
          rw [hd r hr]
          congr 1
          unfold Dt
          by_cases q : h0 L H r = 1 ∧ m + 1 ≤ r
          · rw [if_pos q, if_pos ⟨q.1, by omega⟩]
          · rw [if_neg q, if_neg (fun z => q ⟨z.1, by
              rcases Nat.lt_or_ge m r with y | y
              · omega
              · have : r = m := by omega
                subst this
                exact absurd z.1 e2⟩)]
        exact ih fu w x3 (by omega) (by omega) hd' (by rw [hx]; omega) (by omega)

theorem M_plans21 {S : Nat → Nat} (hB : WB S) (hp : 0 < pres S (S 311)) : ∀ (d : Nat) (fu : Nat) (w : gWd) (j : Nat), SV w S → j + d = pres S (S 311) → d < fu → (∀ r, r < j → w 8 5 r = nI (h0 (S 317) (nH S) r)) →
    ∃ w' t, F_X12_plans_21 fu w (nI (pres S (S 311))) (nI (nH S)) (nI j) = some (nI (nH S), w') ∧ ag5 w w' ∧ (∀ r, r < pres S (S 311) → w' 8 5 r = nI (Dt (S 317) (nH S) t r)) ∧ cg (S 317) (nH S) (pres S (S 311)) t = min (nA S (nH S)).toNat (nT S (nH S)) := by
  have hN := hB.1
  have hn := pres_le S (S 311)
  obtain ⟨hH1, hH8, hHL⟩ := nH_in hB hp
  have hfe := hB.2.2.2.2.2.2.1
  intro d
  induction d with
  | zero =>
    intro fu w j hS hj hfu hd
    obtain ⟨fu, rfl⟩ : ∃ f, fu = f + 1 := ⟨fu - 1, by omega⟩
    have e : j = pres S (S 311) := by omega
    subst e
    have hDn : ∀ r, r < pres S (S 311) → w 8 5 r = nI (Dt (S 317) (nH S) (pres S (S 311)) r) := fun r hr => by rw [hd r hr, Dt_n hr]
    have hsz : F_X12_sizeOf w 0 (nI (pres S (S 311))) = some (nI (fb_ct (fun r => decide (h0 (S 317) (nH S) r = 0)) (pres S (S 311)))) := M_sizeOf (h := 0) (by omega) (by omega) (fun r hr => ⟨hd r hr, by have := h0_le (L := S 317) (r := r) hH1; omega⟩)
    rw [F_X12_plans_21_s, iLe (by omega) (by omega), if_pos (Nat.le_refl _), show (4 : Int32) = nI 4 from rfl, iLe (by omega) (by omega), hsz, gP_s, gS_e, gS_e, gS_e, hS 318 (by omega)]
    have hc := fb_ct_le (fun r => decide (h0 (S 317) (nH S) r = 0)) (pres S (S 311))
    unfold nA nT
    generalize hcc : fb_ct (fun r => decide (h0 (S 317) (nH S) r = 0)) (pres S (S 311)) = c0 at *
    by_cases e4 : 4 ≤ nH S
    · rw [if_pos e4, if_neg (by omega)]
      exact M_plans74 (A := (S 318 : Int) - c0) (Ap := ((S 318 : Int) - c0).toNat) ⟨hH1, hH8⟩ (by omega) (by omega) (by omega) _ _ gFU w _ (Nat.le_refl _) (by unfold gFU; omega) hDn (by rw [cg_n, pk_sub_toInt (by omega) (by omega)]; omega) (by rw [cg_n]; omega)
    · rw [if_neg e4, if_pos (by omega)]
      exact M_plans74 (A := 0) (Ap := (0 : Int).toNat) ⟨hH1, hH8⟩ (by omega) (by omega) (by decide) _ _ gFU w _ (Nat.le_refl _) (by unfold gFU; omega) hDn (by rw [cg_n]; rfl) (by rw [cg_n]; omega)
  | succ d ih =>
    intro fu w j hS hj hfu hd
    obtain ⟨fu, rfl⟩ : ∃ f, fu = f + 1 := ⟨fu - 1, by omega⟩
    rw [F_X12_plans_21_s, iLe (by omega) (by omega), if_neg (by omega), M_heatFor hS hB hH1 hH8 (by omega) (by omega), gP_s, gB_n _ (by omega) (by omega), gS_e, gS_e, nI_1]
    obtain ⟨w', t, g1, g2, g3⟩ := ih fu (up3 w 8 5 j (nI (h0 (S 317) (nH S) j))) (j + 1) ((ag5.up j _).sv hS) (by omega) (by omega) (fun r hr => by
      by_cases e : r = j
      · subst e; rw [up3_s]
      · rw [up3_n (by omega)]; exact hd r (by omega))
    exact ⟨w', t, g1, (ag5.up j _).tr g2, g3⟩
/-- laying out the heats: what the model's row holds then -/
theorem M_plans {w : gWd} {S : Nat → Nat} (hS : SV w S) (hB : WB S) (hp : 0 < pres S (S 311)) : ∃ w' t, F_X12_plans w = some (nI (nH S), w') ∧ ag5 w w' ∧ (∀ r, r < pres S (S 311) → w' 8 5 r = nI (Dt (S 317) (nH S) t r)) ∧ cg (S 317) (nH S) (pres S (S 311)) t = min (nA S (nH S)).toNat (nT S (nH S)) := by
  have hN := hB.1
  have hn := pres_le S (S 311)
  have hl := hB.2.2.2.2.2.1
  unfold F_X12_plans
  have e : (nI (pres S (S 311)) + nI (S 317) - 1) / nI (S 317) = nI (nH S) := by
    rw [nI_add, show (1 : Int32) = nI 1 from rfl, pk_sub (by omega), pk_div (by omega) (by omega) (by omega)]
    rfl
  rw [M_pres hS hB, gP_s, M_lanes hS, gP_s, gP_s, gD_n (by omega) (by omega), gS_e, e]
  exact M_plans21 hB hp _ gFU w 0 hS (Nat.zero_add _) (by unfold gFU; omega) (fun r hr => by omega)
end
section
/-! level 2: drawing the heats, the model's loop -/
theorem M_laneIn {w : gWd} {S : Nat → Nat} (hS : SV w S) (hB : WB S) {d : Nat → Nat} {n r : Nat} (hn : n ≤ 30) (hr : r < n) (hd : ∀ q, q < n → w 8 5 q = nI (d q) ∧ d q < 1000) : F_X12_laneIn w (nI r) = some (laneI S (fb_ct (fun q => decide (d q = d r)) r)) := by
  have hc := fb_ct_le (fun q => decide (d q = d r)) r
  unfold F_X12_laneIn
  rw [gB_n _ (by omega) (by omega), (hd r hr).1, M_sizeOf (d := d) (by omega) (hd r hr).2 (fun q hq => hd q (by omega)), gP_s, M_laneOf hS hB (by omega), gP_s]
/-- how many of a swimmer's heat are ahead -/
def hcn (S : Nat → Nat) (t k : Nat) : Nat := fb_ct (fun q => decide (Dt (S 317) (nH S) t q = Dt (S 317) (nH S) t (erank S k))) (erank S k)
def Sd (S : Nat → Nat) (t j : Nat) : Nat → Nat := bulk (bulk S 3 (fun k => Dt (S 317) (nH S) t (erank S k) + 1) (UN S) j) 4 (fun k => nOf (laneI S (hcn S t k))) (UN S) j
section SD
variable {S : Nat → Nat} {t j : Nat}
theorem Sd_hi {q : Nat} (h : 300 ≤ q) : Sd S t j q = S q := by unfold Sd; rw [bulk_hi h, bulk_hi h]
theorem Sd_ne {b k : Nat} (hb : b < 10) (h3 : b ≠ 3) (h4 : b ≠ 4) : Sd S t j (10 * k + b) = S (10 * k + b) := by unfold Sd; rw [bulk_ne hb h4, bulk_ne hb h3]
theorem Sd_3 {k : Nat} (hk : k < 30) : Sd S t j (10 * k + 3) = if k < j ∧ UN S k = true then Dt (S 317) (nH S) t (erank S k) + 1 else S (10 * k + 3) := by unfold Sd; rw [bulk_ne (by omega) (by omega), bulk_at (by omega) hk]
theorem Sd_4 {k : Nat} (hk : k < 30) : Sd S t j (10 * k + 4) = if k < j ∧ UN S k = true then nOf (laneI S (hcn S t k)) else S (10 * k + 4) := by unfold Sd; rw [bulk_at (by omega) hk, bulk_ne (by omega) (by omega)]
theorem Sd_0 : Sd S t 0 = S := by unfold Sd; rw [bulk_0, bulk_0]
theorem Sd_t (hj : j < 30) (hU : UN S j = true) : Sd S t (j + 1) = upN (upN (Sd S t j) (10 * j + 3) (Dt (S 317) (nH S) t (erank S j) + 1)) (10 * j + 4) (nOf (laneI S (hcn S t j))) := by
  have e3 : ∀ q, q ≠ 10 * j + 3 → bulk S 3 (fun k => Dt (S 317) (nH S) t (erank S k) + 1) (UN S) (j + 1) q = bulk S 3 (fun k => Dt (S 317) (nH S) t (erank S k) + 1) (UN S) j q := fun q hq => by rw [bulk_t (by omega) hj hU, upN_n hq]
  funext q
  by_cases h4 : q = 10 * j + 4
  · subst h4
    rw [upN_s, Sd_4 hj, if_pos ⟨by omega, hU⟩]
  · rw [upN_n h4]
    by_cases h3 : q = 10 * j + 3
    · subst h3
      rw [upN_s, Sd_3 hj, if_pos ⟨by omega, hU⟩]
    · rw [upN_n h3]
      show bulk (bulk S 3 _ (UN S) (j + 1)) 4 _ (UN S) (j + 1) q = bulk (bulk S 3 _ (UN S) j) 4 _ (UN S) j q
      rw [bulk_t (by omega) hj hU, upN_n h4]
      unfold bulk at e3 ⊢
      by_cases c : q < 300 ∧ q % 10 = 4 ∧ q / 10 < j ∧ UN S (q / 10) = true
      · rw [if_pos c, if_pos c]
      · rw [if_neg c, if_neg c]
        exact e3 q h3
theorem Sd_f (hU : UN S j = false) : Sd S t (j + 1) = Sd S t j := by
  unfold Sd
  rw [bulk_f hU, bulk_f hU]
theorem Sd_WB (hB : WB S) (hp : 0 < pres S (S 311)) : WB (Sd S t j) := by
  obtain ⟨hH1, hH8, hHL⟩ := nH_in hB hp
  refine WB.bulk (hB.bulk (by omega) (fun k _ _ _ => ?_)) (by omega) (fun k _ _ _ => ?_)
  · have := Dt_le (L := S 317) (t := t) (r := erank S k) hH1
    refine ⟨fun h => ?_, fun h => ?_, fun h => ?_, fun h => ?_, fun h => ?_, fun h => ?_, fun h => ?_, fun h => ?_⟩ <;> first | (exact absurd h (by decide)) | omega
  · refine ⟨fun h => ?_, fun h => ?_, fun h => ?_, fun h => ?_, fun h => ?_, fun h => ?_, fun h => ?_, fun h => ?_⟩ <;> exact absurd h (by decide)
theorem Sd_erank (k : Nat) : erank (Sd S t j) k = erank S k := erank_cg (fun q => Sd_ne (by omega) (by omega) (by omega)) (fun q => Sd_ne (by omega) (by omega) (by omega)) (Sd_hi (by omega)) k
end SD
/-- only the model's memory and its row of heats have changed -/
def ag1 (w w' : gWd) : Prop := ∀ a b, ¬ (a = 8 ∧ (b = 1 ∨ b = 5)) → w' a b = w a b
theorem ag1.rf (w : gWd) : ag1 w w := fun _ _ _ => rfl
theorem ag1.tr {w w1 w2 : gWd} (h1 : ag1 w w1) (h2 : ag1 w1 w2) : ag1 w w2 := fun a b h => (h2 a b h).trans (h1 a b h)
theorem ag1.up {w : gWd} (j : Nat) (v : Int32) : ag1 w (up3 w 8 1 j v) := fun a b h => up3_r (fun q => h ⟨q.1, Or.inl q.2⟩)
theorem ag5.ag1 {w w' : gWd} (h : ag5 w w') : ag1 w w' := fun a b q => h a b (fun z => q ⟨z.1, Or.inr z.2⟩)
def Sdraw (S : Nat → Nat) (t : Nat) : Nat → Nat := upN (upN (Sd S t (S 311)) 310 1) 312 (nH S)
theorem M_draw32 {S : Nat → Nat} {t : Nat} (hB : WB S) (hp : 0 < pres S (S 311)) : ∀ (d fu : Nat) (w : gWd) (j : Nat), SV w (Sd S t j) → (∀ r, r < pres S (S 311) → w 8 5 r = nI (Dt (S 317) (nH S) t r)) → j + d = S 311 → d < fu →
    ∃ w', F_X12_draw_32 fu w (nI (nH S)) (nI j) = some (nI (nH S), w') ∧ ag1 w w' ∧ SV w' (Sdraw S t) := by
  have hN := hB.1
  have hn := pres_le S (S 311)
  obtain ⟨hH1, hH8, hHL⟩ := nH_in hB hp
  intro d
  induction d with
  | zero =>
    intro fu w j hS hd hj hfu
    obtain ⟨fu, rfl⟩ : ∃ f, fu = f + 1 := ⟨fu - 1, by omega⟩
    have e : j = S 311 := by omega
    subst e
    refine ⟨up3 (up3 w 8 1 310 (nI 1)) 8 1 312 (nI (nH S)), ?_, (ag1.up _ _).tr (ag1.up _ _), (hS.up 310 1).up 312 (nH S)⟩
    rw [F_X12_draw_32_s, hS 311 (by omega), Sd_hi (by omega), iLe (by omega) (by omega), if_pos (Nat.le_refl _)]
    rfl
  | succ d ih =>
    intro fu w j hS hd hj hfu
    obtain ⟨fu, rfl⟩ : ∃ f, fu = f + 1 := ⟨fu - 1, by omega⟩
    have hBj : WB (Sd S t j) := Sd_WB hB hp
    have hg := (hB.k (k := j) (by omega)).2.2.1
    rw [F_X12_draw_32_s, hS 311 (by omega), Sd_hi (by omega), iLe (by omega) (by omega), if_neg (by omega), M_isGone hS hBj (by omega), gP_s, Sd_ne (by omega) (by omega) (by omega), iE0 (by omega)]
    by_cases e : S (10 * j + 2) = 0
    · have hU : UN S j = true := by simp [UN, e]
      have hr := erank_lt (k := j) (by omega) hU
      have hDl := Dt_le (L := S 317) (t := t) (r := erank S j) hH1
      have hS3 := hS.up (10 * j + 3) (Dt (S 317) (nH S) t (erank S j) + 1)
      have hB3 : WB (upN (Sd S t j) (10 * j + 3) (Dt (S 317) (nH S) t (erank S j) + 1)) := hBj.upk (by omega) (by omega) (by refine ⟨fun h => ?_, fun h => ?_, fun h => ?_, fun h => ?_, fun h => ?_, fun h => ?_, fun h => ?_, fun h => ?_⟩ <;> first | (exact absurd h (by decide)) | omega)
      have hd3 : ∀ q, q < pres S (S 311) → up3 w 8 1 (10 * j + 3) (nI (Dt (S 317) (nH S) t (erank S j) + 1)) 8 5 q = nI (Dt (S 317) (nH S) t q) ∧ Dt (S 317) (nH S) t q < 1000 := fun q hq => ⟨by rw [up3_n (by omega)]; exact hd q hq, by have := Dt_le (L := S 317) (t := t) (r := q) hH1; omega⟩
      have e3 : F_X12_lay w (nI j) 3 (nI (Dt (S 317) (nH S) t (erank S j) + 1)) = some (up3 w 8 1 (10 * j + 3) (nI (Dt (S 317) (nH S) t (erank S j) + 1))) := M_lay (j := 3) (by omega) _
      have e4 : ∀ w1 v, F_X12_lay w1 (nI j) 4 v = some (up3 w1 8 1 (10 * j + 4) v) := fun w1 v => M_lay (j := 4) (by omega) _
      have hl : laneI (upN (Sd S t j) (10 * j + 3) (Dt (S 317) (nH S) t (erank S j) + 1)) (fb_ct (fun q => decide (Dt (S 317) (nH S) t q = Dt (S 317) (nH S) t (erank S j))) (erank S j)) = laneI S (hcn S t j) := laneI_cg (by rw [upN_n (by omega), Sd_hi (by omega)]) _
      rw [if_pos e, M_erank hS hBj (by omega), Sd_erank, gP_s, gB_n _ (by omega) (by omega), hd _ hr, nI_1, e3, gP_s, M_laneIn hS3 hB3 (by omega) hr hd3, gP_s, e4, gP_s, gS_e, nI_1, hl]
      rw [← nI_nOf (laneI S (hcn S t j))]
      have hS4 := hS3.up (10 * j + 4) (nOf (laneI S (hcn S t j)))
      rw [← Sd_t (by omega) hU] at hS4
      obtain ⟨w', g1, g2, g3⟩ := ih fu _ (j + 1) hS4 (fun r hr => by rw [up3_n (by omega)]; exact (hd3 r hr).1) (by omega) (by omega)
      exact ⟨w', g1, ((ag1.up _ _).tr (ag1.up _ _)).tr g2, g3⟩
    · have hU : UN S j = false := by simp [UN, e]
      rw [if_neg e, gS_e, nI_1]
      exact ih fu w (j + 1) (by rw [Sd_f hU]; exact hS) hd (by omega) (by omega)
end
section
/-! level 2: drawing the heats, the class's side -/
def agS (i : Nat) (w w' : gWd) : Prop := (∀ a, a ≠ i → w' a = w a) ∧ ∀ r, r < 4 → w' i r = w i r
theorem agS.rf (i : Nat) (w : gWd) : agS i w w := ⟨fun _ _ => rfl, fun _ _ => rfl⟩
theorem agS.tr {i : Nat} {w w1 w2 : gWd} (h1 : agS i w w1) (h2 : agS i w1 w2) : agS i w w2 := ⟨fun a h => (h2.1 a h).trans (h1.1 a h), fun r h => (h2.2 r h).trans (h1.2 r h)⟩
theorem agS.up {i : Nat} {w : gWd} (k j : Nat) (v : Int32) : agS i w (up3 w i (4 + k) j v) := ⟨fun a h => up3_b h, fun r h => up3_r (fun q => by omega)⟩
theorem CV.cgS {c : Nat → Nat → Int32} {S S' : Nat → Nat} (h : CV c S) (hN : S 311 ≤ 30) (e : ∀ t, t < 320 → S' t = S t) : CV c S' := by
  refine ⟨?_, fun k hk a ha => ?_⟩
  · rw [e 311 (by omega), e 310 (by omega), e 312 (by omega), e 313 (by omega), e 314 (by omega), e 315 (by omega), e 316 (by omega), e 317 (by omega), e 318 (by omega), e 319 (by omega)]
    exact h.1
  · rw [e 311 (by omega)] at hk
    rw [e _ (by omega)]
    exact h.2 k hk a ha
theorem rk_surj {U : Nat → Bool} {e : Nat → Nat} {N : Nat} (hinj : ∀ a b, a < N → b < N → e a = e b → a = b) {x : Nat} (hx : x < fb_ct U N) : ∃ q, q < N ∧ U q = true ∧ rk U e N q = x := by
  have h := ct_rank U e N hinj (fun r => decide (r = x))
  have h1 : 0 < fb_ct (fun r => decide (r = x)) (fb_ct U N) := fb_ct_pos.mpr ⟨x, hx, by simp⟩
  rw [← h] at h1
  obtain ⟨q, hq, hp⟩ := fb_ct_pos.mp h1
  simp at hp
  exact ⟨q, hq, hp.1, hp.2⟩
theorem ct_cut {p : Nat → Bool} {m : Nat} : ∀ {n : Nat}, m ≤ n → fb_ct (fun r => p r && decide (r < m)) n = fb_ct p m
  | 0, h => by
    have : m = 0 := by omega
    subst this; rfl
  | n + 1, h => by
    by_cases e : m = n + 1
    · subst e
      exact fb_ct_cong (fun k hk => by simp [hk])
    · rw [fb_ct_succ, ct_cut (by omega)]
      have : ¬ n < m := by omega
      simp [this]
section ERK
variable {S : Nat → Nat}
theorem erank_surj (hN : S 311 ≤ 30) {x : Nat} (hx : x < pres S (S 311)) : ∃ q, q < S 311 ∧ UN S q = true ∧ erank S q = x := by
  obtain ⟨q, h1, h2, h3⟩ := rk_surj (U := UN S) (e := ek S) (N := S 311) (fun a b ha hb h => ek_inj (by omega) (by omega) h) hx
  exact ⟨q, h1, h2, by rw [erank_rk]; exact h3⟩
theorem erank_inj (hN : S 311 ≤ 30) {a b : Nat} (ha : a < S 311) (hb : b < S 311) (hUa : UN S a = true) (hUb : UN S b = true) (h : erank S a = erank S b) : a = b := by
  rw [erank_rk, erank_rk] at h
  exact rk_inj _ _ _ (fun a b ha hb h => ek_inj (by omega) (by omega) h) ha hb hUa hUb h
theorem erank_iff (hN : S 311 ≤ 30) {a b : Nat} (ha : a < S 311) (hb : b < S 311) (hUa : UN S a = true) (hUb : UN S b = true) : erank S a < erank S b ↔ ek S a < ek S b := by
  rw [erank_rk, erank_rk]
  exact rk_iff _ _ _ (fun a b ha hb h => ek_inj (by omega) (by omega) h) ha hb hUa hUb
theorem ct_erank (hN : S 311 ≤ 30) (P : Nat → Bool) : fb_ct (fun q => UN S q && P (erank S q)) (S 311) = fb_ct P (pres S (S 311)) := by
  rw [pres_ct, ← ct_rank (UN S) (ek S) (S 311) (fun a b ha hb h => ek_inj (by omega) (by omega) h) P]
  exact fb_ct_cong (fun k _ => by rw [erank_rk])
end ERK
theorem C_heatsFor {w : gWd} {n L : Nat} (hn : 0 < n ∧ n ≤ 30) (hL : 4 ≤ L ∧ L ≤ 10) : F_X2_heatsFor w (nI n) (nI L) = some (nI ((n + L - 1) / L)) := by
  unfold F_X2_heatsFor
  rw [show (1 : Int32) = nI 1 from rfl, iLe (by omega) (by omega), if_pos (by omega), gD_n (by omega) (by omega), nI_add, pk_sub (by omega), pk_div (by omega) (by omega) (by omega)]
theorem C_heatOf {w : gWd} {r H L : Nat} (h1 : 1 ≤ H) (h8 : H ≤ 8) (hL : 4 ≤ L ∧ L ≤ 10) (hr : r < H * L) (hr2 : r < 30) : F_X2_heatOfRank w (nI r) (nI H) (nI L) = some (nI (h0 L H r)) := by
  have hd := div_lt' (by omega) hr
  unfold F_X2_heatOfRank F_X2_heatOfRank_20 h0
  rw [show (3 : Int32) = nI 3 from rfl, iLe (by omega) (by omega), pk_mul, iLe (by omega) (by omega), gD_n (by omega) (by omega), pk_div (by omega) (by omega) (by omega), pk_rem (by omega) (by omega) (by omega), show (2 : Int32) = nI 2 from rfl, pk_rem (by omega) (by omega) (by omega), show (1 : Int32) = nI 1 from rfl, iLe (by omega) (by omega), iEq (by omega) (by omega), iE0 (by omega), pk_sub h1]
  by_cases e1 : 3 ≤ H
  · rw [if_pos e1, if_neg (show ¬ H < 3 by omega)]
    by_cases e2 : 3 * L ≤ r
    · rw [if_pos e2, if_neg (show ¬ r < 3 * L by omega), if_pos (by omega), pk_sub (show r / L ≤ H - 1 by omega)]
    · rw [if_neg e2, if_pos (show r < 3 * L by omega), pk_sub (show r % 3 ≤ H - 1 by omega)]
  · rw [if_neg e1, if_pos (show H < 3 by omega)]
    by_cases e2 : H = 2
    · rw [if_pos e2]
      by_cases e3 : r % 2 = 0
      · rw [if_pos e3, if_pos ⟨e2, e3⟩]
      · rw [if_neg e3, if_neg (fun q => e3 q.2)]; rfl
    · rw [if_neg e2, if_neg (fun q => e2 q.1)]; rfl
/-- the heats when those of heat 1 from the rank t on have come over -/
def Dst (S : Nat → Nat) (t j : Nat) : Nat → Nat := bulk S 3 (fun k => Dt (S 317) (nH S) t (erank S k) + 1) (UN S) j
section DST
variable {S : Nat → Nat} {t j : Nat}
theorem Dst_hi {q : Nat} (h : 300 ≤ q) : Dst S t j q = S q := bulk_hi h
theorem Dst_ne {b k : Nat} (hb : b < 10) (h3 : b ≠ 3) : Dst S t j (10 * k + b) = S (10 * k + b) := bulk_ne hb h3
theorem Dst_3 {k : Nat} (hk : k < 30) : Dst S t j (10 * k + 3) = if k < j ∧ UN S k = true then Dt (S 317) (nH S) t (erank S k) + 1 else S (10 * k + 3) := bulk_at (by omega) hk
theorem Dst_WB (hB : WB S) (hp : 0 < pres S (S 311)) : WB (Dst S t j) := by
  obtain ⟨hH1, hH8, hHL⟩ := nH_in hB hp
  refine hB.bulk (by omega) (fun k _ _ _ => ?_)
  have := Dt_le (L := S 317) (t := t) (r := erank S k) hH1
  refine ⟨fun h => ?_, fun h => ?_, fun h => ?_, fun h => ?_, fun h => ?_, fun h => ?_, fun h => ?_, fun h => ?_⟩ <;> first | (exact absurd h (by decide)) | omega
theorem Dst_erank (k : Nat) : erank (Dst S t j) k = erank S k := erank_cg (fun q => Dst_ne (by omega) (by omega)) (fun q => Dst_ne (by omega) (by omega)) (Dst_hi (by omega)) k
theorem Dst_ek (k : Nat) : ek (Dst S t j) k = ek S k := ek_cg (Dst_ne (by omega) (by omega))
end DST
theorem C_spread {w : gWd} {S : Nat → Nat} {i : Nat} (hC : CV (w i) S) (hB : WB S) (hp : 0 < pres S (S 311)) (hH : S 312 = nH S) : ∃ w', F_X2_spread w i = some w' ∧ agS i w w' ∧ CV (w' i) (Dst S (pres S (S 311)) (S 311)) := by
  have hN := hB.1
  have hn := pres_le S (S 311)
  obtain ⟨hH1, hH8, hHL⟩ := nH_in hB hp
  have hl := hB.2.2.2.2.2.1
  unfold F_X2_spread
  refine loopI (F := fun fu (u : gWd) j => F_X2_spread_2 fu u i (nI j)) (S 311) (fun j u => agS i w u ∧ CV (u i) (Dst S (pres S (S 311)) j)) (fun r => ∃ w', r = some w' ∧ agS i w w' ∧ CV (w' i) (Dst S (pres S (S 311)) (S 311))) ?_ ?_ gFU w 0 (by omega) (gFU_lt (by omega)) ⟨agS.rf i w, by unfold Dst; rw [bulk_0]; exact hC⟩
  · intro fu u hI
    refine ⟨u, ?_, hI⟩
    show F_X2_spread_2 (fu + 1) u i (nI (S 311)) = _
    rw [F_X2_spread_2_s, hI.2.sz, Dst_hi (by omega), iLe (by omega) (by omega), if_pos (Nat.le_refl _)]
  · intro fu u j hj hI
    right
    obtain ⟨hag, hCj⟩ := hI
    have hBj : WB (Dst S (pres S (S 311)) j) := Dst_WB hB hp
    have hN' : Dst S (pres S (S 311)) j 311 = S 311 := Dst_hi (by omega)
    have hg := (hB.k (k := j) (by omega)).2.2.1
    by_cases e : S (10 * j + 2) = 0
    · have hU : UN S j = true := by simp [UN, e]
      have hr := erank_lt (k := j) (by omega) hU
      refine ⟨up3 u i (4 + j) 4 (nI (h0 (S 317) (nH S) (erank S j))), ⟨hag.tr (agS.up j 4 _), ?_⟩, ?_⟩
      · have := hCj.upk (k := j) (a := 3) (v := h0 (S 317) (nH S) (erank S j) + 1) (by omega) (by omega) (x := nI (h0 (S 317) (nH S) (erank S j))) (nI_pred _).symm
        unfold Dst at this ⊢
        rw [bulk_t (by omega) (by omega) hU, Dt_n hr]
        exact this
      · show F_X2_spread_2 (fu + 1) u i (nI j) = F_X2_spread_2 fu _ i (nI (j + 1))
        rw [F_X2_spread_2_s, hCj.sz, hN', iLe (by omega) (by omega), if_neg (by omega), gB_n _ (by omega) (by omega), hCj.f3 (by omega), Dst_ne (by omega) (by omega), iE0 (by omega), if_pos e, C_erank hCj hBj (by omega), gP_s, C_lanes hCj, gP_s, Dst_erank, hCj.ht, Dst_hi (by omega), Dst_hi (by omega), hH, C_heatOf hH1 hH8 hl (by omega) (by omega), gP_s, gS_e, gS_e, nI_1]
    · have hU : UN S j = false := by simp [UN, e]
      refine ⟨u, ⟨hag, by unfold Dst; rw [bulk_f hU]; exact hCj⟩, ?_⟩
      show F_X2_spread_2 (fu + 1) u i (nI j) = F_X2_spread_2 fu _ i (nI (j + 1))
      rw [F_X2_spread_2_s, hCj.sz, hN', iLe (by omega) (by omega), if_neg (by omega), gB_n _ (by omega) (by omega), hCj.f3 (by omega), Dst_ne (by omega) (by omega), iE0 (by omega), if_neg e, gS_e, nI_1]
theorem C_sizeOf {w : gWd} {S : Nat → Nat} {i h : Nat} (hC : CV (w i) S) (hB : WB S) (hh : h < 1000) : F_X2_sizeOf w i (nI h) = some (nI (fb_ct (fun q => decide (S (10 * q + 3) = h + 1)) (S 311))) := by
  unfold F_X2_sizeOf
  have hN := hB.1
  refine loopI (F := fun fu (acc : Nat) j => F_X2_sizeOf_4 fu w i (nI h) (nI acc) (nI j)) (S 311) (fun j acc => acc = fb_ct (fun q => decide (S (10 * q + 3) = h + 1)) j) (fun r => r = some (nI (fb_ct (fun q => decide (S (10 * q + 3) = h + 1)) (S 311)))) ?_ ?_ gFU 0 0 (by omega) (gFU_lt (by omega)) rfl
  · intro fu acc hI
    show F_X2_sizeOf_4 (fu + 1) w i (nI h) (nI acc) (nI (S 311)) = _
    rw [F_X2_sizeOf_4_s, hC.sz, iLe (by omega) (by omega), if_pos (Nat.le_refl _), hI]
  · intro fu acc j hj hI
    right
    refine ⟨_, rfl, ?_⟩
    show F_X2_sizeOf_4 (fu + 1) w i (nI h) (nI acc) (nI j) = F_X2_sizeOf_4 fu w i (nI h) _ (nI (j + 1))
    have hg := (hB.k (k := j) (by omega)).2.2.2.1
    rw [F_X2_sizeOf_4_s, hC.sz, iLe (by omega) (by omega), if_neg (by omega), gB_n _ (by omega) (by omega), hC.f4 hj, fb_ct_succ, hI]
    by_cases e : S (10 * j + 3) = h + 1
    · rw [if_pos ((mEn (by omega) (by omega)).mpr e), if_pos (by simp [e])]
      simp only [gS_e, nI_1]
    · rw [if_neg (fun q => e ((mEn (by omega) (by omega)).mp q)), if_neg (by simp [e])]
      simp only [gS_e, Nat.add_zero, nI_1]
/-- the last swimmer by entry of the heat 1 -/
theorem C_lastOf {w : gWd} {S : Nat → Nat} {i : Nat} (hC : CV (w i) S) (hB : WB S) : ∃ v, F_X2_lastOf w i 1 = some v ∧ ((v = -1000004 ∧ ∀ q, q < S 311 → S (10 * q + 3) ≠ 2) ∨ ∃ k, k < S 311 ∧ v = nI k ∧ S (10 * k + 3) = 2 ∧ ∀ q, q < S 311 → S (10 * q + 3) = 2 → ek S q ≤ ek S k) := by
  unfold F_X2_lastOf
  have hN := hB.1
  refine loopI (F := fun fu (v : Int32) j => F_X2_lastOf_5 fu w i 1 v (nI j)) (S 311) (fun j v => (v = -1000004 ∧ ∀ q, q < j → S (10 * q + 3) ≠ 2) ∨ ∃ k, k < j ∧ v = nI k ∧ S (10 * k + 3) = 2 ∧ ∀ q, q < j → S (10 * q + 3) = 2 → ek S q ≤ ek S k) (fun r => ∃ v, r = some v ∧ ((v = -1000004 ∧ ∀ q, q < S 311 → S (10 * q + 3) ≠ 2) ∨ ∃ k, k < S 311 ∧ v = nI k ∧ S (10 * k + 3) = 2 ∧ ∀ q, q < S 311 → S (10 * q + 3) = 2 → ek S q ≤ ek S k)) ?_ ?_ gFU (-1000004) 0 (by omega) (gFU_lt (by omega)) (Or.inl ⟨rfl, fun q hq => by omega⟩)
  · intro fu v hI
    refine ⟨v, ?_, hI⟩
    show F_X2_lastOf_5 (fu + 1) w i 1 v (nI (S 311)) = _
    rw [F_X2_lastOf_5_s, hC.sz, iLe (by omega) (by omega), if_pos (Nat.le_refl _)]
  · intro fu v j hj hI
    right
    have hg := (hB.k (k := j) (by omega)).2.2.2.1
    have e0 : (nI (S (10 * j + 3)) - 1 = 1) ↔ S (10 * j + 3) = 2 := mEn (b := 1) (by omega) (by omega)
    show ∃ st', _ ∧ F_X2_lastOf_5 (fu + 1) w i 1 v (nI j) = F_X2_lastOf_5 fu w i 1 st' (nI (j + 1))
    rw [F_X2_lastOf_5_s, hC.sz, iLe (by omega) (by omega), if_neg (by omega), gB_n _ (by omega) (by omega), hC.f4 hj]
    by_cases e : S (10 * j + 3) = 2
    · rw [if_pos (e0.mpr e)]
      rcases hI with ⟨rfl, hI⟩ | ⟨k, hk, rfl, hk2, hI⟩
      · have hh : F_X5_has w i (-1000004) = some 0 := by rw [C_has hC, if_pos (Or.inl (by decide))]
        rw [hh, gP_s, if_pos rfl]
        unfold F_X2_lastOf_52
        rw [gS_e, nI_1]
        refine ⟨nI j, Or.inr ⟨j, by omega, rfl, e, fun q hq h2 => ?_⟩, rfl⟩
        by_cases y : q = j
        · subst y; exact Nat.le_refl _
        · exact absurd h2 (hI q (by omega))
      · rw [C_hasN hC hB (by omega), gP_s, if_neg (by decide), gB_n _ (by omega) (by omega), gB_n _ (by omega) (by omega), C_aE hC hB (by omega) hj, gP_s]
        by_cases e2 : ek S k < ek S j
        · rw [if_pos e2, iE0 (by omega), if_neg (by omega)]
          unfold F_X2_lastOf_52
          rw [gS_e, nI_1]
          refine ⟨nI j, Or.inr ⟨j, by omega, rfl, e, fun q hq h2 => ?_⟩, rfl⟩
          by_cases y : q = j
          · subst y; exact Nat.le_refl _
          · have := hI q (by omega) h2; omega
        · rw [if_neg e2, iE0 (by omega), if_pos rfl, gS_e, nI_1]
          refine ⟨nI k, Or.inr ⟨k, by omega, rfl, hk2, fun q hq h2 => ?_⟩, rfl⟩
          by_cases y : q = j
          · subst y; omega
          · exact hI q (by omega) h2
    · rw [if_neg (fun q => e (e0.mp q)), gS_e, nI_1]
      refine ⟨v, ?_, rfl⟩
      rcases hI with ⟨h1, hI⟩ | ⟨k, hk, h1, hk2, hI⟩
      · refine Or.inl ⟨h1, fun q hq => ?_⟩
        by_cases y : q = j
        · subst y; exact e
        · exact hI q (by omega)
      · refine Or.inr ⟨k, by omega, h1, hk2, fun q hq h2 => ?_⟩
        by_cases y : q = j
        · subst y; exact absurd h2 e
        · exact hI q (by omega) h2
end
section
/-! level 2: drawing the heats, the class's side: the first heat is filled, lanes -/
theorem cg_le (L H n t : Nat) : cg L H n t ≤ n := fb_ct_le _ _
theorem UN_t {S : Nat → Nat} {q : Nat} : UN S q = true ↔ S (10 * q + 2) = 0 := by simp [UN]
/-- a swimmer's heat is 1 just where its rank's is -/
theorem Dst_2 {S : Nat → Nat} {t q : Nat} (hN : S 311 ≤ 30) (hz : ∀ q, q < S 311 → S (10 * q + 3) = 0) (hq : q < S 311) : Dst S t (S 311) (10 * q + 3) = 2 ↔ UN S q = true ∧ h0 (S 317) (nH S) (erank S q) = 1 ∧ erank S q < t := by
  rw [Dst_3 (by omega)]
  cases hU : UN S q
  · rw [if_neg (fun z => by cases z.2), hz q hq]
    exact ⟨fun z => absurd z (by decide), fun z => by cases z.1⟩
  · rw [if_pos ⟨hq, rfl⟩]
    unfold Dt
    by_cases e : h0 (S 317) (nH S) (erank S q) = 1 ∧ t ≤ erank S q
    · rw [if_pos e]
      exact ⟨fun z => absurd z (by decide), fun z => by omega⟩
    · rw [if_neg e]
      exact ⟨fun z => ⟨rfl, by omega, by omega⟩, fun z => by omega⟩
theorem bulk_ext {S : Nat → Nat} {a : Nat} {f g : Nat → Nat} {p : Nat → Bool} {j : Nat} (h : ∀ k, k < 30 → k < j → p k = true → f k = g k) : bulk S a f p j = bulk S a g p j := by
  funext t
  unfold bulk
  by_cases c : t < 300 ∧ t % 10 = a ∧ t / 10 < j ∧ p (t / 10) = true
  · rw [if_pos c, if_pos c]
    exact h _ (by omega) c.2.2.1 c.2.2.2
  · rw [if_neg c, if_neg c]
theorem ax4 {c tot j : Nat} (h : c = min j tot) (h2 : c = tot) : c = min (j + 1) tot := by omega
theorem ax5 {c c2 tot j : Nat} (h : c = min j tot) (h2 : c2 = c + 1) (h3 : c2 ≤ tot) : c2 = min (j + 1) tot := by omega
theorem C_fill24 {S : Nat → Nat} {i : Nat} (hB : WB S) (hp : 0 < pres S (S 311)) (hz : ∀ q, q < S 311 → S (10 * q + 3) = 0) {A : Int} {Ap : Nat} (hA : A ≤ 30 ∧ -40 ≤ A) (hAp : A ≤ Ap ∧ (A ≤ 0 → Ap = 0) ∧ (0 ≤ A → (Ap : Int) = A)) {x1 : Int32} (hx1 : x1.toInt = A) : ∀ (d fu : Nat) (w : gWd) (j t : Nat), j + d = Ap → d < fu → CV (w i) (Dst S t (S 311)) → cg (S 317) (nH S) (pres S (S 311)) t = min j (nT S (nH S)) →
    ∃ w' t', F_X2_fillFirstHeat_24 fu w i x1 (nI j) = some w' ∧ agS i w w' ∧ CV (w' i) (Dst S t' (S 311)) ∧ cg (S 317) (nH S) (pres S (S 311)) t' = min Ap (nT S (nH S)) := by
  have hN := hB.1
  have hn := pres_le S (S 311)
  obtain ⟨hH1, hH8, hHL⟩ := nH_in hB hp
  intro d
  induction d with
  | zero =>
    intro fu w j t hj hfu hC hc
    obtain ⟨fu, rfl⟩ : ∃ f, fu = f + 1 := ⟨fu - 1, by omega⟩
    refine ⟨w, t, ?_, agS.rf i w, hC, by rw [hc, show j = Ap by omega]⟩
    have hj1 : (nI j).toInt = (j : Int) := nI_toInt (by omega)
    rw [F_X2_fillFirstHeat_24_s, if_pos (by rw [Int32.le_iff_toInt_le, hx1, hj1]; omega)]
  | succ d ih =>
    intro fu w j t hj hfu hC hc
    obtain ⟨fu, rfl⟩ : ∃ f, fu = f + 1 := ⟨fu - 1, by omega⟩
    have hBt : WB (Dst S t (S 311)) := Dst_WB hB hp
    have hN' : Dst S t (S 311) 311 = S 311 := Dst_hi (by omega)
    have hj1 : (nI j).toInt = (j : Int) := nI_toInt (by omega)
    rw [F_X2_fillFirstHeat_24_s, if_neg (by rw [Int32.le_iff_toInt_le, hx1, hj1]; omega)]
    obtain ⟨v, hv, hcase⟩ := C_lastOf hC hBt
    rw [hv, gP_s]
    rw [hN'] at hcase
    rcases hcase with ⟨rfl, hno⟩ | ⟨k, hk, rfl, hk2, hmax⟩
    · have hh : F_X5_has w i (-1000004) = some 0 := by rw [C_has hC, if_pos (Or.inl (by decide))]
      rw [hh, gP_s, if_pos rfl, gS_e, nI_1]
      refine ih fu w (j + 1) t (by omega) (by omega) hC (ax4 hc ?_)
      show cg (S 317) (nH S) (pres S (S 311)) t = cg (S 317) (nH S) (pres S (S 311)) 0
      refine fb_ct_cong (fun r hr => ?_)
      obtain ⟨q, hq1, hq2, hq3⟩ := erank_surj hN hr
      have h1 := hno q hq1
      rw [ne_eq, Dst_2 hN hz hq1, hq3] at h1
      by_cases e : h0 (S 317) (nH S) r = 1
      · have : t ≤ r := Nat.not_lt.mp fun z => h1 ⟨hq2, e, z⟩
        simp [this]
      · simp [e]
    · rw [C_hasN hC hBt (by omega), gP_s, if_neg (by decide), gB_n _ (by omega) (by omega), gS_e, gS_e, nI_1]
      obtain ⟨hkU, hkh, hkt⟩ := (Dst_2 hN hz hk).mp hk2
      have hkn := erank_lt hk hkU
      -- nothing of heat 1 lies between
      have hbt : ∀ r, erank S k < r → r < t → r < pres S (S 311) → h0 (S 317) (nH S) r ≠ 1 := by
        intro r h1 h2 h3 h4
        obtain ⟨q, hq1, hq2, hq3⟩ := erank_surj hN h3
        have h5 := hmax q hq1 ((Dst_2 hN hz hq1).mpr ⟨hq2, by rw [hq3]; exact h4, by rw [hq3]; exact h2⟩)
        rw [Dst_ek, Dst_ek] at h5
        have := (erank_iff hN hk hq1 hkU hq2).mp (by rw [hq3]; exact h1)
        omega
      have hcg : cg (S 317) (nH S) (pres S (S 311)) (erank S k) = cg (S 317) (nH S) (pres S (S 311)) t + 1 := by
        have h1 := cg_step (L := S 317) (H := nH S) (n := pres S (S 311)) hkn
        rw [if_pos hkh] at h1
        rw [h1]
        congr 1
        refine fb_ct_cong (fun r hr => ?_)
        by_cases e : h0 (S 317) (nH S) r = 1
        · by_cases e1 : t ≤ r
          · have : erank S k + 1 ≤ r := by omega
            simp [e1, this]
          · have : ¬ erank S k + 1 ≤ r := fun z => hbt r (by omega) (by omega) hr e
            simp [e1, this]
        · simp [e]
      have hD : upN (Dst S t (S 311)) (10 * k + 3) 1 = Dst S (erank S k) (S 311) := by
        funext q
        by_cases hq : q = 10 * k + 3
        · subst hq
          rw [upN_s, Dst_3 (by omega), if_pos ⟨hk, hkU⟩]
          unfold Dt
          rw [if_pos ⟨hkh, Nat.le_refl _⟩]
        · rw [upN_n hq]
          unfold Dst bulk
          by_cases c : q < 300 ∧ q % 10 = 3 ∧ q / 10 < S 311 ∧ UN S (q / 10) = true
          · rw [if_pos c, if_pos c]
            show Dt (S 317) (nH S) t (erank S (q / 10)) + 1 = Dt (S 317) (nH S) (erank S k) (erank S (q / 10)) + 1
            congr 1
            have hne : erank S (q / 10) ≠ erank S k := fun z => hq (by
              have := erank_inj hN c.2.2.1 hk c.2.2.2 hkU z
              omega)
            have hrn := erank_lt c.2.2.1 c.2.2.2
            unfold Dt
            by_cases e1 : h0 (S 317) (nH S) (erank S (q / 10)) = 1
            · by_cases e2 : t ≤ erank S (q / 10)
              · rw [if_pos ⟨e1, e2⟩, if_pos ⟨e1, by omega⟩]
              · rw [if_neg (fun z => e2 z.2), if_neg (fun z => hbt _ (by omega) (by omega) hrn e1)]
            · rw [if_neg (fun z => e1 z.1), if_neg (fun z => e1 z.1)]
          · rw [if_neg c, if_neg c]
      have hC' : CV (up3 w i (4 + k) 4 0 i) (Dst S (erank S k) (S 311)) := by
        rw [← hD]
        exact hC.upk (a := 3) (v := 1) (by omega) (by omega) (by decide)
      obtain ⟨w', t', g1, g2, g3, g4⟩ := ih fu (up3 w i (4 + k) 4 0) (j + 1) (erank S k) (by omega) (by omega) hC' (ax5 hc hcg (cg_mono (Nat.zero_le _)))
      exact ⟨w', t', g1, (agS.up k 4 0).tr g2, g3, g4⟩
theorem C_fill {w : gWd} {S : Nat → Nat} {i : Nat} (hB : WB S) (hp : 0 < pres S (S 311)) (hz : ∀ q, q < S 311 → S (10 * q + 3) = 0) (hH : S 312 = nH S) (hC : CV (w i) (Dst S (pres S (S 311)) (S 311))) : ∃ w' t, F_X2_fillFirstHeat w i = some w' ∧ agS i w w' ∧ CV (w' i) (Dst S t (S 311)) ∧ cg (S 317) (nH S) (pres S (S 311)) t = min (nA S (nH S)).toNat (nT S (nH S)) := by
  have hN := hB.1
  have hn := pres_le S (S 311)
  obtain ⟨hH1, hH8, hHL⟩ := nH_in hB hp
  have hfe := hB.2.2.2.2.2.2.1
  have hBt : WB (Dst S (pres S (S 311)) (S 311)) := Dst_WB hB hp
  have hN' : Dst S (pres S (S 311)) (S 311) 311 = S 311 := Dst_hi (by omega)
  have hct : fb_ct (fun q => decide (Dst S (pres S (S 311)) (S 311) (10 * q + 3) = 0 + 1)) (Dst S (pres S (S 311)) (S 311) 311) = fb_ct (fun r => decide (h0 (S 317) (nH S) r = 0)) (pres S (S 311)) := by
    rw [hN', ← ct_erank hN (fun r => decide (h0 (S 317) (nH S) r = 0))]
    refine fb_ct_cong (fun q hq => ?_)
    rw [Dst_3 (by omega)]
    cases hU : UN S q
    · rw [if_neg (fun z => by cases z.2), hz q hq]; rfl
    · rw [if_pos ⟨hq, rfl⟩, Dt_n (erank_lt hq hU)]
      simp
  have hsz : F_X2_sizeOf w i 0 = some (nI (fb_ct (fun q => decide (Dst S (pres S (S 311)) (S 311) (10 * q + 3) = 0 + 1)) (Dst S (pres S (S 311)) (S 311) 311))) := C_sizeOf (h := 0) hC hBt (by omega)
  rw [hct] at hsz
  have hc := fb_ct_le (fun r => decide (h0 (S 317) (nH S) r = 0)) (pres S (S 311))
  unfold F_X2_fillFirstHeat
  rw [hC.ht, Dst_hi (by omega), hH, show (4 : Int32) = nI 4 from rfl, iLe (by omega) (by omega), hsz, gP_s, gS_e, hC.fe, Dst_hi (by omega)]
  unfold nA
  generalize hcc : fb_ct (fun r => decide (h0 (S 317) (nH S) r = 0)) (pres S (S 311)) = c0 at *
  by_cases e4 : 4 ≤ nH S
  · rw [if_pos e4, if_neg (by omega)]
    exact C_fill24 (A := (S 318 : Int) - c0) (Ap := ((S 318 : Int) - c0).toNat) hB hp hz (by omega) (by omega) (pk_sub_toInt (by omega) (by omega)) _ gFU w 0 (pres S (S 311)) (Nat.zero_add _) (by unfold gFU; omega) hC (by rw [cg_n]; exact (Nat.zero_min _).symm)
  · rw [if_neg e4, if_pos (by omega)]
    exact ⟨w, pres S (S 311), rfl, agS.rf i w, hC, by rw [cg_n]; exact (Nat.zero_min _).symm⟩
theorem C_rankIn {w : gWd} {S : Nat → Nat} {i k : Nat} (hC : CV (w i) S) (hB : WB S) (hk : k < S 311) : F_X2_rankInHeat w i i k = some (nI (fb_ct (fun q => decide (S (10 * q + 3) = S (10 * k + 3)) && decide (ek S q < ek S k)) (S 311))) := by
  unfold F_X2_rankInHeat
  have hN := hB.1
  refine loopI (F := fun fu (acc : Nat) j => F_X2_rankInHeat_4 fu w i i k (nI acc) (nI j)) (S 311) (fun j acc => acc = fb_ct (fun q => decide (S (10 * q + 3) = S (10 * k + 3)) && decide (ek S q < ek S k)) j) (fun r => r = some (nI (fb_ct (fun q => decide (S (10 * q + 3) = S (10 * k + 3)) && decide (ek S q < ek S k)) (S 311)))) ?_ ?_ gFU 0 0 (by omega) (gFU_lt (by omega)) rfl
  · intro fu acc hI
    show F_X2_rankInHeat_4 (fu + 1) w i i k (nI acc) (nI (S 311)) = _
    rw [F_X2_rankInHeat_4_s, hC.sz, iLe (by omega) (by omega), if_pos (Nat.le_refl _), hI]
  · intro fu acc j hj hI
    right
    refine ⟨_, rfl, ?_⟩
    show F_X2_rankInHeat_4 (fu + 1) w i i k (nI acc) (nI j) = F_X2_rankInHeat_4 fu w i i k _ (nI (j + 1))
    have hg := (hB.k (k := j) (by omega)).2.2.2.1
    have hg2 := (hB.k (k := k) (by omega)).2.2.2.1
    rw [F_X2_rankInHeat_4_s, hC.sz, iLe (by omega) (by omega), if_neg (by omega), gB_n _ (by omega) (by omega), gB_n _ (by omega) (by omega), hC.f4 hj, hC.f4 hk, fb_ct_succ, hI, C_aE hC hB hj hk, gP_s]
    by_cases e : S (10 * j + 3) = S (10 * k + 3)
    · rw [if_pos ((mE (by omega) (by omega)).mpr e)]
      by_cases e2 : ek S j < ek S k
      · rw [if_pos e2, iE0 (by omega), if_neg (by omega), if_pos (by simp [e, e2])]
        simp only [gS_e, nI_1]
      · rw [if_neg e2, iE0 (by omega), if_pos rfl, if_neg (by simp [e2])]
        simp only [gS_e, Nat.add_zero, nI_1]
    · rw [if_neg (fun q => e ((mE (by omega) (by omega)).mp q)), if_neg (by simp [e])]
      simp only [gS_e, Nat.add_zero, nI_1]
theorem C_lanesAll {w : gWd} {S : Nat → Nat} {i t : Nat} (hB : WB S) (hp : 0 < pres S (S 311)) (hz : ∀ q, q < S 311 → S (10 * q + 3) = 0) (hC : CV (w i) (Dst S t (S 311))) : ∃ w', F_X2_giveLanes w i = some w' ∧ agS i w w' ∧ CV (w' i) (Sd S t (S 311)) := by
  have hN := hB.1
  have hn := pres_le S (S 311)
  obtain ⟨hH1, hH8, hHL⟩ := nH_in hB hp
  have hl := hB.2.2.2.2.2.1
  have hBD : WB (Dst S t (S 311)) := Dst_WB hB hp
  have hBj : ∀ j, WB (bulk (Dst S t (S 311)) 4 (fun k => nOf (laneI S (hcn S t k))) (UN S) j) := fun j => hBD.bulk (by omega) (fun k _ _ _ => by
    refine ⟨fun h => ?_, fun h => ?_, fun h => ?_, fun h => ?_, fun h => ?_, fun h => ?_, fun h => ?_, fun h => ?_⟩ <;> exact absurd h (by decide))
  unfold F_X2_giveLanes
  refine loopI (F := fun fu (u : gWd) j => F_X2_giveLanes_2 fu u i (nI j)) (S 311) (fun j u => agS i w u ∧ CV (u i) (bulk (Dst S t (S 311)) 4 (fun k => nOf (laneI S (hcn S t k))) (UN S) j)) (fun r => ∃ w', r = some w' ∧ agS i w w' ∧ CV (w' i) (Sd S t (S 311))) ?_ ?_ gFU w 0 (by omega) (gFU_lt (by omega)) ⟨agS.rf i w, by rw [bulk_0]; exact hC⟩
  · intro fu u hI
    refine ⟨u, ?_, hI⟩
    show F_X2_giveLanes_2 (fu + 1) u i (nI (S 311)) = _
    rw [F_X2_giveLanes_2_s, hI.2.sz, bulk_hi (by omega), Dst_hi (by omega), iLe (by omega) (by omega), if_pos (Nat.le_refl _)]
  · intro fu u j hj hI
    right
    obtain ⟨hag, hCj⟩ := hI
    have h311 : bulk (Dst S t (S 311)) 4 (fun k => nOf (laneI S (hcn S t k))) (UN S) j 311 = S 311 := by rw [bulk_hi (by omega), Dst_hi (by omega)]
    have hf : ∀ b q, b < 10 → b ≠ 4 → bulk (Dst S t (S 311)) 4 (fun k => nOf (laneI S (hcn S t k))) (UN S) j (10 * q + b) = Dst S t (S 311) (10 * q + b) := fun b q hb h4 => bulk_ne hb h4
    have hek : ∀ q, ek (bulk (Dst S t (S 311)) 4 (fun k => nOf (laneI S (hcn S t k))) (UN S) j) q = ek S q := fun q => (ek_cg (hf 1 q (by omega) (by omega))).trans (Dst_ek q)
    have hg := (hB.k (k := j) (by omega)).2.2.1
    by_cases e : S (10 * j + 2) = 0
    · have hU : UN S j = true := by simp [UN, e]
      have hr := erank_lt (k := j) (by omega) hU
      have hcnt : fb_ct (fun q => decide (bulk (Dst S t (S 311)) 4 (fun k => nOf (laneI S (hcn S t k))) (UN S) j (10 * q + 3) = bulk (Dst S t (S 311)) 4 (fun k => nOf (laneI S (hcn S t k))) (UN S) j (10 * j + 3)) && decide (ek (bulk (Dst S t (S 311)) 4 (fun k => nOf (laneI S (hcn S t k))) (UN S) j) q < ek (bulk (Dst S t (S 311)) 4 (fun k => nOf (laneI S (hcn S t k))) (UN S) j) j)) (S 311) = hcn S t j := by
        have h1 := ct_cut (p := fun q => decide (Dt (S 317) (nH S) t q = Dt (S 317) (nH S) t (erank S j))) (Nat.le_of_lt hr)
        rw [show hcn S t j = fb_ct (fun q => decide (Dt (S 317) (nH S) t q = Dt (S 317) (nH S) t (erank S j))) (erank S j) from rfl, ← h1, ← ct_erank hN (fun r => decide (Dt (S 317) (nH S) t r = Dt (S 317) (nH S) t (erank S j)) && decide (r < erank S j))]
        refine fb_ct_cong (fun q hq => ?_)
        rw [hf 3 q (by omega) (by omega), hf 3 j (by omega) (by omega), hek, hek, Dst_3 (by omega), Dst_3 (by omega), if_pos (show j < S 311 ∧ UN S j = true from ⟨hj, hU⟩)]
        cases hUq : UN S q
        · rw [if_neg (fun z => by cases z.2), hz q hq]
          simp
        · rw [if_pos ⟨hq, rfl⟩]
          have := erank_iff hN hq hj hUq hU
          simp [this]
      have hcl := fb_ct_le (fun q => decide (Dt (S 317) (nH S) t q = Dt (S 317) (nH S) t (erank S j))) (erank S j)
      refine ⟨up3 u i (4 + j) 5 (laneI S (hcn S t j)), ⟨hag.tr (agS.up j 5 _), ?_⟩, ?_⟩
      · have := hCj.upk (k := j) (a := 4) (v := nOf (laneI S (hcn S t j))) (by omega) (by omega) (x := laneI S (hcn S t j)) (nI_nOf _).symm
        rw [bulk_t (by omega) (by omega) hU]
        exact this
      · show F_X2_giveLanes_2 (fu + 1) u i (nI j) = F_X2_giveLanes_2 fu _ i (nI (j + 1))
        have hri := C_rankIn hCj (hBj j) (k := j) (by omega)
        rw [h311, hcnt] at hri
        have h317 : bulk (Dst S t (S 311)) 4 (fun k => nOf (laneI S (hcn S t k))) (UN S) j 317 = S 317 := by rw [bulk_hi (by omega), Dst_hi (by omega)]
        rw [F_X2_giveLanes_2_s, hCj.sz, h311, iLe (by omega) (by omega), if_neg (by omega), gB_n _ (by omega) (by omega), hCj.f3 (by omega), hf 2 j (by omega) (by omega), Dst_ne (by omega) (by omega), iE0 (by omega), if_pos e, hri, gP_s, C_lanes hCj, gP_s, h317, C_ofRank hB (by unfold hcn; omega), gP_s, gS_e, gS_e, nI_1]
    · have hU : UN S j = false := by simp [UN, e]
      refine ⟨u, ⟨hag, by rw [bulk_f hU]; exact hCj⟩, ?_⟩
      show F_X2_giveLanes_2 (fu + 1) u i (nI j) = F_X2_giveLanes_2 fu _ i (nI (j + 1))
      rw [F_X2_giveLanes_2_s, hCj.sz, h311, iLe (by omega) (by omega), if_neg (by omega), gB_n _ (by omega) (by omega), hCj.f3 (by omega), hf 2 j (by omega) (by omega), Dst_ne (by omega) (by omega), iE0 (by omega), if_neg e, gS_e, nI_1]

theorem CV.up0 {w : gWd} {S : Nat → Nat} {i : Nat} (hC : CV (w i) S) {j t v : Nat} (hN : S 311 ≤ 30) (h : (j = 4 ∧ t = 310) ∨ (j = 5 ∧ t = 312) ∨ (j = 7 ∧ t = 316) ∨ (j = 8 ∧ t = 313) ∨ (j = 9 ∧ t = 314) ∨ (j = 10 ∧ t = 315)) : CV (up3 w i 0 j (nI v) i) (upN S t v) := by
  have hsw : ∀ k b, up3 w i 0 j (nI v) i (4 + k) b = w i (4 + k) b := fun k b => up3_n (by omega)
  have h1 : ∀ b, up3 w i 0 j (nI v) i 1 b = w i 1 b := fun b => up3_n (by omega)
  have hne : ∀ q, q ≠ t → upN S t v q = S q := fun q hq => upN_n hq
  have g : ∀ jj tt, (jj = j ↔ tt = t) → w i 0 jj = nI (S tt) → up3 w i 0 j (nI v) i 0 jj = nI (upN S t v tt) := by
    intro jj tt hp h2
    by_cases e : jj = j
    · have e2 := hp.mp e
      subst e; subst e2
      rw [up3_s, upN_s]
    · rw [up3_n (fun z => e z.2.2), upN_n (fun z => e (hp.mpr z))]
      exact h2
  refine ⟨⟨g 3 311 (by omega) hC.sz, g 4 310 (by omega) hC.st, g 5 312 (by omega) hC.ht, g 7 316 (by omega) hC.ca, g 8 313 (by omega) hC.ev, g 9 314 (by omega) hC.rc, g 10 315 (by omega) hC.rs, by rw [h1, hne 317 (by omega)]; exact hC.la, by rw [h1, hne 318 (by omega)]; exact hC.fe, by rw [h1, hne 319 (by omega)]; exact hC.re⟩, fun k hk a ha => ?_⟩
  · rw [hne 311 (by omega)] at hk
    rw [hsw, hne _ (by omega)]
    exact hC.2 k hk a ha
end
section
/-! level 2: the whole relation, an order's two sides -/
def RV (c : Nat → Nat → Int32) (S : Nat → Nat) : Prop := ∃ (n : Nat) (q : Nat → Nat), n ≤ 4 ∧ c 0 6 = nI n ∧ (∀ p, p < n → c 3 p = nI (q p) ∧ q p < S 311 ∧ (S (306 + p) = 0 → S (10 * q p + 6) ≠ 0 ∨ S (10 * q p + 2) = 1) ∧ (S (306 + p) ≠ 0 → S (306 + p) = q p + 1 ∧ S (10 * q p + 6) = 0)) ∧
  (∀ p, n ≤ p → p < 4 → S (306 + p) = 0) ∧ (∀ p p', p < n → p' < n → q p = q p' → p = p') ∧ (S 310 ≤ 1 → n = 0)
def clubSum (S : Nat → Nat) (q n : Nat) : Nat := fb_sm (fun k => if S (10 * k) = q then S (10 * k + 9) else 0) n
def inF (S : Nat → Nat) (k : Nat) : Bool := decide (S (10 * k + 6) ≠ 0)
/-- who swims in the final -/
def IW (S : Nat → Nat) : Prop := S 310 = 2 → fb_ct (inF S) (S 311) ≤ S 317 ∧ ∀ k, k < S 311 → S (10 * k + 7) ≠ 0 → S (10 * k + 6) ≠ 0
theorem IW.no {S : Nat → Nat} (h : S 310 ≠ 2) : IW S := fun z => absurd z h
theorem IW.cg {S S' : Nat → Nat} (h : IW S) (h0 : S' 310 = S 310) (hN : S' 311 = S 311) (hL : S' 317 = S 317) (h6 : ∀ k, k < S 311 → S' (10 * k + 6) = S (10 * k + 6)) (h7 : ∀ k, k < S 311 → S' (10 * k + 7) = S (10 * k + 7)) : IW S' := by
  intro z
  rw [h0] at z
  obtain ⟨a, b⟩ := h z
  rw [hN, hL]
  refine ⟨?_, fun k hk => ?_⟩
  · rw [fb_ct_cong (q := inF S) (fun k hk => by unfold inF; rw [h6 k hk])]; exact a
  · rw [h6 k hk, h7 k hk]; exact b k hk
/-- what holds of the model's memory between the calls -/
def IV (EB : Nat) (S : Nat → Nat) : Prop := WB S ∧ (∀ k, S 311 ≤ k → k < 30 → ∀ a, 2 ≤ a → a < 10 → S (10 * k + a) = 0) ∧
  (S 310 = 0 → S 312 = 0 ∧ ∀ k, k < S 311 → ∀ a, 3 ≤ a → a < 9 → S (10 * k + a) = 0) ∧
  (S 310 = 1 → ∀ k, k < S 311 → (S (10 * k + 2) = 1 → S (10 * k + 3) = 0 ∧ S (10 * k + 5) = 0) ∧ S (10 * k + 6) = 0 ∧ S (10 * k + 7) = 0 ∧ S (10 * k + 8) = 0) ∧
  (S 310 = 2 → ∀ k, k < S 311 → (S (10 * k + 6) ≠ 0 → S (10 * k + 2) = 0) ∧ S (10 * k + 8) = 0) ∧
  (∀ q, q < 6 → S (300 + q) = clubSum S q (S 311)) ∧ (∀ k, k < S 311 → S (10 * k + 9) ≤ 120 * S 313) ∧ S 313 ≤ EB ∧ IW S
section IVP
variable {EB : Nat} {S : Nat → Nat}
theorem IV.wb (h : IV EB S) : WB S := h.1
theorem IV.out (h : IV EB S) {k a : Nat} (h1 : S 311 ≤ k) (h2 : k < 30) (h3 : 2 ≤ a) (h4 : a < 10) : S (10 * k + a) = 0 := h.2.1 k h1 h2 a h3 h4
theorem IV.s0 (h : IV EB S) (h0 : S 310 = 0) : S 312 = 0 ∧ ∀ k, k < S 311 → ∀ a, 3 ≤ a → a < 9 → S (10 * k + a) = 0 := h.2.2.1 h0
theorem IV.s1 (h : IV EB S) (h0 : S 310 = 1) : ∀ k, k < S 311 → (S (10 * k + 2) = 1 → S (10 * k + 3) = 0 ∧ S (10 * k + 5) = 0) ∧ S (10 * k + 6) = 0 ∧ S (10 * k + 7) = 0 ∧ S (10 * k + 8) = 0 := h.2.2.2.1 h0
theorem IV.s2 (h : IV EB S) (h0 : S 310 = 2) : ∀ k, k < S 311 → (S (10 * k + 6) ≠ 0 → S (10 * k + 2) = 0) ∧ S (10 * k + 8) = 0 := h.2.2.2.2.1 h0
theorem IV.cl (h : IV EB S) {q : Nat} (hq : q < 6) : S (300 + q) = clubSum S q (S 311) := h.2.2.2.2.2.1 q hq
theorem IV.pt (h : IV EB S) {k : Nat} (hk : k < S 311) : S (10 * k + 9) ≤ 120 * S 313 := h.2.2.2.2.2.2.1 k hk
theorem IV.eb (h : IV EB S) : S 313 ≤ EB := h.2.2.2.2.2.2.2.1
theorem IV.iw (h : IV EB S) : IW S := h.2.2.2.2.2.2.2.2
theorem IV.mono {EB' : Nat} (h : IV EB S) (he : EB ≤ EB') : IV EB' S := ⟨h.1, h.2.1, h.2.2.1, h.2.2.2.1, h.2.2.2.2.1, h.2.2.2.2.2.1, h.2.2.2.2.2.2.1, Nat.le_trans h.eb he, h.iw⟩
end IVP
/-- only the block i has changed -/
def agB (i : Nat) (w w' : gWd) : Prop := ∀ a, a ≠ i → w' a = w a
theorem agB.rf (i : Nat) (w : gWd) : agB i w w := fun _ _ => rfl
theorem agB.tr {i : Nat} {w w1 w2 : gWd} (h1 : agB i w w1) (h2 : agB i w1 w2) : agB i w w2 := fun a h => (h2 a h).trans (h1 a h)
theorem agB.up {i : Nat} {w : gWd} (r j : Nat) (v : Int32) : agB i w (up3 w i r j v) := fun a h => up3_b h
theorem agS.agB {i : Nat} {w w' : gWd} (h : agS i w w') : agB i w w' := h.1
/-- only the model's history has changed -/
def agH (w w' : gWd) : Prop := ∀ a b, ¬ (a = 8 ∧ (b = 0 ∨ b = 2)) → w' a b = w a b
theorem agH.sv {w w' : gWd} {S : Nat → Nat} (h : agH w w') (hS : SV w S) : SV w' S := hS.of (h 8 1 (by omega))
/-- an order: the class's side over the block i, the model's side, from the memory S: both err alike and change nothing, or both answer alike and come to S' -/
def OK2 (i : Nat) (FC FM : gWd → Option (Int32 × gWd)) (EB : Nat) (S : Nat → Nat) : Prop := ∃ r : Int32,
  (r < 0 ∧ (∀ w, CV (w i) S → RV (w i) S → FC w = some (r, w)) ∧ (∀ w, SV w S → FM w = some (r, w))) ∨
  (0 ≤ r ∧ ∃ S', IV (EB + 1) S' ∧ (∀ w, CV (w i) S → RV (w i) S → ∃ w', FC w = some (r, w') ∧ agB i w w' ∧ CV (w' i) S' ∧ RV (w' i) S') ∧
    (∀ w wc, SV w S → F_X12_changes w = some wc → agH w wc → ∃ w', FM w = some (r, w') ∧ ag1 wc w' ∧ SV w' S'))
theorem RV.cg {c c' : Nat → Nat → Int32} {S S' : Nat → Nat} (h : RV c S) (h6 : c' 0 6 = c 0 6) (h3 : c' 3 = c 3) (hN : S 311 ≤ S' 311) (hp : ∀ p, p < 4 → S' (306 + p) = S (306 + p)) (hk : ∀ k, k < S 311 → S' (10 * k + 6) = S (10 * k + 6) ∧ S' (10 * k + 2) = S (10 * k + 2)) (h310 : S' 310 ≤ 1 → S 310 ≤ 1) : RV c' S' := by
  obtain ⟨n, q, h1, h2, h4, h5, h7, h8⟩ := h
  refine ⟨n, q, h1, by rw [h6]; exact h2, fun p hpn => ?_, fun p a b => by rw [hp p b]; exact h5 p a b, h7, fun z => h8 (h310 z)⟩
  obtain ⟨a1, a2, a3, a4⟩ := h4 p hpn
  obtain ⟨b1, b2⟩ := hk _ a2
  rw [h3, hp p (by omega), b1, b2]
  exact ⟨a1, by omega, a3, a4⟩
/-! what the arguments are -/
theorem arg_lt {x : Int32} {n : Nat} (hn : n < 2 ^ 31) (h1 : ¬ x < 0) (h2 : ¬ nI n ≤ x) : ∃ k, k < n ∧ x = nI k := by
  rcases pk_ix x hn with h | h | ⟨j, hj, e⟩
  · exact absurd h h1
  · exact absurd h h2
  · exact ⟨j, hj, e⟩
theorem time_cases (x : Int32) : (∃ e, (e = 0 ∨ (100 ≤ e ∧ e ≤ 999)) ∧ x = nI e) ∨ (¬ x = 0 ∧ (x < 100 ∨ 999 < x)) := by
  by_cases h0 : x = 0
  · exact Or.inl ⟨0, Or.inl rfl, h0⟩
  · by_cases h1 : x < 100
    · exact Or.inr ⟨h0, Or.inl h1⟩
    · by_cases h2 : 999 < x
      · exact Or.inr ⟨h0, Or.inr h2⟩
      · refine Or.inl ?_
        rcases pk_ix x (n := 1000) (by omega) with h | h | ⟨j, hj, e⟩
        · exfalso
          apply h1
          rw [Int32.lt_iff_toInt_lt] at h ⊢
          have a : (0 : Int32).toInt = 0 := rfl
          have b : (100 : Int32).toInt = 100 := rfl
          omega
        · exfalso
          apply h2
          rw [Int32.lt_iff_toInt_lt]
          rw [Int32.le_iff_toInt_le, nI_toInt (by omega)] at h
          have b : (999 : Int32).toInt = 999 := rfl
          omega
        · refine ⟨j, ?_, e⟩
          subst e
          right
          have h3 : ¬ j < 100 := fun z => h1 (nI_lt (b := 100) z (by omega))
          omega
theorem C_time_t {w : gWd} {e : Nat} (h : e = 0 ∨ (100 ≤ e ∧ e ≤ 999)) : F_X1_isTimeOrZero w (nI e) = some 1 := by
  rw [C_time0]
  rcases h with rfl | ⟨h1, h2⟩
  · rfl
  · rw [if_neg (nI_ne0 (by omega) (by omega)), if_neg (show ¬ nI e < 100 from nI_nlt (b := 100) (by omega) (by omega)), if_neg (show ¬ 999 < nI e from nI_nlt (a := 999) (by omega) (by omega))]
theorem C_time_f {w : gWd} {x : Int32} (h : ¬ x = 0 ∧ (x < 100 ∨ 999 < x)) : F_X1_isTimeOrZero w x = some 0 := by
  rw [C_time0, if_neg h.1]
  by_cases h1 : x < 100
  · rw [if_pos h1]
  · rw [if_neg h1, if_pos (h.2.resolve_left h1)]
theorem M_time_t {w : gWd} {e : Nat} (h : 100 ≤ e ∧ e ≤ 999) : F_X12_in w (nI e) 100 999 = some 1 := by
  rw [M_in, if_neg (show ¬ nI e < 100 from nI_nlt (b := 100) (by omega) (by omega)), if_neg (show ¬ 999 < nI e from nI_nlt (a := 999) (by omega) (by omega))]
theorem M_time_f {w : gWd} {x : Int32} (h : x < 100 ∨ 999 < x) : F_X12_in w x 100 999 = some 0 := by
  rw [M_in]
  by_cases h1 : x < 100
  · rw [if_pos h1]
  · rw [if_neg h1, if_pos (h.resolve_left h1)]
theorem M_in_t {w : gWd} {k n : Nat} (h : k ≤ n) (hn : n < 2 ^ 31) : F_X12_in w (nI k) 0 (nI n) = some 1 := by
  rw [M_in, if_neg (nI_pos (by omega)), if_neg (nI_nlt h hn)]
theorem M_in_f {w : gWd} {x : Int32} {n : Nat} (hn : n < 2 ^ 30) (h : x < 0 ∨ nI (n + 1) ≤ x) : F_X12_in w x 0 (nI n) = some 0 := by
  rw [M_in]
  by_cases h1 : x < 0
  · rw [if_pos h1]
  · rw [if_neg h1, if_pos]
    have := h.resolve_left h1
    rw [Int32.lt_iff_toInt_lt, nI_toInt (by omega)]
    rw [Int32.le_iff_toInt_le, nI_toInt (by omega)] at this
    omega
end
section
/-! level 2: enter and set -/
theorem okv0 {a : Nat} : okv a 0 := by
  refine ⟨fun h => ?_, fun h => ?_, fun h => ?_, fun h => ?_, fun h => ?_, fun h => ?_, fun h => ?_, fun h => ?_⟩ <;> omega
theorem fb_sm_zero' {f : Nat → Nat} {n : Nat} (h : ∀ k, k < n → f k = 0) : fb_sm f n = 0 := by
  rw [fb_sm_cong h]
  have := fb_sm_const 0 n
  simpa using this
/-- what entering makes of the memory -/
def Sent (S : Nat → Nat) (cl e : Nat) : Nat → Nat := upN (upN (upN S (10 * S 311) cl) (10 * S 311 + 1) e) 311 (S 311 + 1)
section ENT
variable {S : Nat → Nat} {cl e : Nat}
theorem Sent_hi {t : Nat} (hN : S 311 < 30) (h : 300 ≤ t) (h2 : t ≠ 311) : Sent S cl e t = S t := by
  unfold Sent
  rw [upN_n h2, upN_n (by omega), upN_n (by omega)]
theorem Sent_N : Sent S cl e 311 = S 311 + 1 := upN_s _ _ _
theorem Sent_k {k a : Nat} (hN : S 311 < 30) (hk : k < 30) (ha : a < 10) : Sent S cl e (10 * k + a) = if k = S 311 ∧ a = 0 then cl else if k = S 311 ∧ a = 1 then e else S (10 * k + a) := by
  unfold Sent
  rw [upN_n (by omega)]
  by_cases h1 : k = S 311 ∧ a = 1
  · obtain ⟨rfl, rfl⟩ := h1
    rw [upN_s, if_neg (by omega), if_pos ⟨rfl, rfl⟩]
  · rw [upN_n (by omega)]
    by_cases h0 : k = S 311 ∧ a = 0
    · obtain ⟨rfl, rfl⟩ := h0
      rw [if_pos ⟨rfl, rfl⟩]
      exact upN_s _ _ _
    · rw [upN_n (by omega), if_neg h0, if_neg h1]
theorem Sent_o {k a : Nat} (hN : S 311 < 30) (hk : k < S 311) (ha : a < 10) : Sent S cl e (10 * k + a) = S (10 * k + a) := by
  rw [Sent_k hN (by omega) ha, if_neg (by omega), if_neg (by omega)]
theorem Sent_IV {EB : Nat} (hI : IV EB S) (hN : S 311 < 30) (h0 : S 310 = 0) (hcl : cl ≤ 5) (he : e ≤ 999) : IV EB (Sent S cl e) := by
  have hB := hI.wb
  obtain ⟨b1, b2, b3, b4, b5, b6, b7, b8, b9, b10⟩ := hB
  have hi : ∀ t, 300 ≤ t → t ≠ 311 → Sent S cl e t = S t := fun t => Sent_hi hN
  have h300 := hi 300 (by omega) (by omega)
  refine ⟨⟨by rw [Sent_N]; omega, by rw [hi 310 (by omega) (by omega)]; exact b2, by rw [hi 312 (by omega) (by omega)]; exact b3, by rw [hi 314 (by omega) (by omega)]; exact b4, by rw [hi 315 (by omega) (by omega)]; exact b5, by rw [hi 317 (by omega) (by omega)]; exact b6, by rw [hi 318 (by omega) (by omega)]; exact b7, by rw [hi 319 (by omega) (by omega)]; exact b8, fun p hp => by rw [hi (306 + p) (by omega) (by omega)]; exact b9 p hp, fun k hk a ha => ?_⟩, ?_, ?_, ?_, ?_, ?_, ?_, ?_⟩
  · rw [Sent_k hN hk ha]
    by_cases c0 : k = S 311 ∧ a = 0
    · rw [if_pos c0, c0.2]
      refine ⟨fun h => ?_, fun h => ?_, fun h => ?_, fun h => ?_, fun h => ?_, fun h => ?_, fun h => ?_, fun h => ?_⟩ <;> omega
    · rw [if_neg c0]
      by_cases c1 : k = S 311 ∧ a = 1
      · rw [if_pos c1, c1.2]
        refine ⟨fun h => ?_, fun h => ?_, fun h => ?_, fun h => ?_, fun h => ?_, fun h => ?_, fun h => ?_, fun h => ?_⟩ <;> omega
      · rw [if_neg c1]; exact b10 k hk a ha
  · intro k h1 h2 a h3 h4
    rw [Sent_N] at h1
    rw [Sent_k hN h2 h4, if_neg (by omega), if_neg (by omega)]
    exact hI.out (by omega) h2 h3 h4
  · intro _
    rw [hi 312 (by omega) (by omega)]
    refine ⟨(hI.s0 h0).1, fun k hk a h3 h4 => ?_⟩
    rw [Sent_N] at hk
    rw [Sent_k hN (by omega) (by omega), if_neg (by omega), if_neg (by omega)]
    by_cases c : k = S 311
    · exact hI.out (by omega) (by omega) (by omega) (by omega)
    · exact (hI.s0 h0).2 k (by omega) a h3 h4
  · intro h; rw [hi 310 (by omega) (by omega), h0] at h; omega
  · intro h; rw [hi 310 (by omega) (by omega), h0] at h; omega
  · intro q hq
    rw [hi (300 + q) (by omega) (by omega), hI.cl hq, Sent_N]
    unfold clubSum
    rw [fb_sm_succ]
    have h9 : Sent S cl e (10 * S 311 + 9) = 0 := by
      rw [Sent_k hN (by omega) (by omega), if_neg (by omega), if_neg (by omega)]
      exact hI.out (Nat.le_refl _) (by omega) (by omega) (by omega)
    rw [h9, ite_self, Nat.add_zero]
    refine fb_sm_cong (fun k hk => ?_)
    rw [Sent_o (a := 9) hN hk (by omega), show Sent S cl e (10 * k) = S (10 * k) from Sent_o (a := 0) hN hk (by omega)]
  · intro k hk
    rw [Sent_N] at hk
    rw [hi 313 (by omega) (by omega), Sent_k hN (by omega) (by omega), if_neg (by omega), if_neg (by omega)]
    by_cases c : k = S 311
    · have := hI.out (k := k) (a := 9) (by omega) (by omega) (by omega) (by omega)
      omega
    · exact hI.pt (by omega)
  · rw [hi 313 (by omega) (by omega)]; exact ⟨hI.eb, IW.no (by rw [hi 310 (by omega) (by omega)]; omega)⟩
end ENT
theorem C_join (w : gWd) (i n : Nat) (x1 x2 : Int32) : ∃ w', F_X10_join w i n x1 x2 = some w' ∧ (∀ a r, ¬ (a = i ∧ r = 4 + n) → w' a r = w a r) ∧ w' i (4 + n) 1 = x1 ∧ w' i (4 + n) 2 = x2 ∧ w' i (4 + n) 3 = 0 ∧ w' i (4 + n) 4 = -1 ∧ w' i (4 + n) 5 = 0 ∧ w' i (4 + n) 6 = -1 ∧ w' i (4 + n) 7 = 0 ∧ w' i (4 + n) 8 = -1 ∧ w' i (4 + n) 9 = 0 ∧ w' i (4 + n) 10 = 0 := by
  unfold F_X10_join F_X10_forgetEvent F_X10_leaveHeat F_X10_leaveFinal
  simp only [gS_e, gP_s]
  refine ⟨_, rfl, fun a r h => ?_, ?_⟩
  · repeat rw [up3_r h]
  · simp [up3]
theorem OK_enter {i EB : Nat} {S : Nat → Nat} (hI : IV EB S) (x1 x2 : Int32) : OK2 i (fun w => F_X1_addSwimmer w i x1 x2) (fun w => F_X12_enter w x1 x2) EB S := by
  have hB := hI.wb
  have hN := hB.1
  have hst := hB.2.1
  have hm1 : (-1000001 : Int32) < 0 := by decide
  have hm2 : (-1000002 : Int32) < 0 := by decide
  have hm3 : (-1000003 : Int32) < 0 := by decide
  by_cases a1 : x1 < 0
  · refine ⟨-1000001, Or.inl ⟨hm1, fun w hC _ => ?_, fun w hS => ?_⟩⟩
    · show F_X1_addSwimmer w i x1 x2 = _
      unfold F_X1_addSwimmer; rw [if_pos a1]
    · show F_X12_enter w x1 x2 = _
      unfold F_X12_enter
      rw [show (5 : Int32) = nI 5 from rfl, M_in_f (by omega) (Or.inl a1), gP_s, if_pos rfl]
  by_cases a2 : (6 : Int32) ≤ x1
  · refine ⟨-1000001, Or.inl ⟨hm1, fun w hC _ => ?_, fun w hS => ?_⟩⟩
    · show F_X1_addSwimmer w i x1 x2 = _
      unfold F_X1_addSwimmer; rw [if_neg a1, if_pos a2]
    · show F_X12_enter w x1 x2 = _
      unfold F_X12_enter
      rw [show (5 : Int32) = nI 5 from rfl, M_in_f (by omega) (Or.inr a2), gP_s, if_pos rfl]
  obtain ⟨cl, hcl, rfl⟩ := arg_lt (n := 6) (by omega) a1 a2
  have hin5 : ∀ w, F_X12_in w (nI cl) 0 5 = some 1 := fun w => M_in_t (n := 5) (by omega) (by omega)
  rcases time_cases x2 with ⟨e, he, rfl⟩ | hx2
  · -- the model's test of the time
    have hM : ∀ w, F_X12_enter w (nI cl) (nI e) = F_X12_enter_28 w (nI cl) (nI e) := by
      intro w
      unfold F_X12_enter
      rw [hin5, gP_s, if_neg (by decide), iE0 (by omega)]
      by_cases h0 : e = 0
      · rw [if_pos h0]
      · rw [if_neg h0, M_time_t (by omega), gP_s, if_neg (by decide)]
    have hCt : ∀ w, F_X1_addSwimmer w i (nI cl) (nI e) = (if (w i 0 4) = 0 then (if (w i 0 3) < 30 then (gB ((w i 0 3)) 30 (fun k_9 => gP (F_X10_join w i k_9 (nI cl) (nI e)) (fun w_11 => gS (up3 w_11 i 0 3 (((w_11 i 0 3) + 1))) (fun w_12 => some ((w_11 i 0 3), w_12))))) else (some ((-1000003), w))) else (some ((-1000002), w))) := by
      intro w
      unfold F_X1_addSwimmer
      rw [if_neg a1, if_neg a2, C_time_t he, gP_s, if_neg (by decide)]
    by_cases a3 : S 310 = 0
    · by_cases a4 : S 311 = 30
      · refine ⟨-1000003, Or.inl ⟨hm3, fun w hC _ => ?_, fun w hS => ?_⟩⟩
        · show F_X1_addSwimmer w i _ _ = _
          rw [hCt, hC.st, iE0 (by omega), if_pos a3, hC.sz, show (30 : Int32) = nI 30 from rfl, iLt (by omega) (by omega), if_neg (by omega)]
        · show F_X12_enter w _ _ = _
          rw [hM]
          unfold F_X12_enter_28
          rw [hS 310 (by omega), iE0 (by omega), if_pos a3, hS 311 (by omega), show (30 : Int32) = nI 30 from rfl, iEq (by omega) (by omega), if_pos a4]
      · have hN2 : S 311 < 30 := by omega
        refine ⟨nI (S 311), Or.inr ⟨nI_pos' (by omega), Sent S cl e, (Sent_IV hI hN2 a3 (by omega) (by omega)).mono (by omega), fun w hC hR => ?_, fun w wc hS hch hag => ?_⟩⟩
        · show ∃ w', F_X1_addSwimmer w i _ _ = _ ∧ _
          obtain ⟨u, j0, j1, j2⟩ := C_join w i (S 311) (nI cl) (nI e)
          have u03 : u i 0 3 = nI (S 311) := by rw [j1 i 0 (by omega)]; exact hC.sz
          rw [hCt, hC.st, iE0 (by omega), if_pos a3, hC.sz, show (30 : Int32) = nI 30 from rfl, iLt (by omega) (by omega), if_pos hN2, gB_n _ hN2 (by omega), j0, gP_s, gS_e, u03, nI_1]
          refine ⟨up3 u i 0 3 (nI (S 311 + 1)), rfl, ?_, ?_, ?_⟩
          · exact agB.tr (fun a h => funext (fun r => j1 a r (by omega))) (agB.up 0 3 _)
          · have hrow : ∀ r, r ≠ 4 + S 311 → ∀ b, ¬ (r = 0 ∧ b = 3) → up3 u i 0 3 (nI (S 311 + 1)) i r b = w i r b := by
              intro r h1 b h2
              rw [up3_n (by omega), j1 i r (by omega)]
            refine ⟨⟨by rw [up3_s, Sent_N], ?_, ?_, ?_, ?_, ?_, ?_, ?_, ?_, ?_⟩, fun k hk a ha => ?_⟩
            · rw [hrow 0 (by omega) 4 (by omega), Sent_hi hN2 (by omega) (by omega)]; exact hC.st
            · rw [hrow 0 (by omega) 5 (by omega), Sent_hi hN2 (by omega) (by omega)]; exact hC.ht
            · rw [hrow 0 (by omega) 7 (by omega), Sent_hi hN2 (by omega) (by omega)]; exact hC.ca
            · rw [hrow 0 (by omega) 8 (by omega), Sent_hi hN2 (by omega) (by omega)]; exact hC.ev
            · rw [hrow 0 (by omega) 9 (by omega), Sent_hi hN2 (by omega) (by omega)]; exact hC.rc
            · rw [hrow 0 (by omega) 10 (by omega), Sent_hi hN2 (by omega) (by omega)]; exact hC.rs
            · rw [hrow 1 (by omega) 0 (by omega), Sent_hi hN2 (by omega) (by omega)]; exact hC.la
            · rw [hrow 1 (by omega) 1 (by omega), Sent_hi hN2 (by omega) (by omega)]; exact hC.fe
            · rw [hrow 1 (by omega) 2 (by omega), Sent_hi hN2 (by omega) (by omega)]; exact hC.re
            · rw [Sent_N] at hk
              by_cases hk2 : k = S 311
              · subst hk2
                rw [up3_n (by omega)]
                obtain ⟨f1, f2, f3, f4, f5, f6, f7, f8, f9, f10⟩ := j2
                have hz : ∀ b, 2 ≤ b → b < 10 → Sent S cl e (10 * S 311 + b) = 0 := fun b h1 h2 => by
                  rw [Sent_k hN2 (by omega) h2, if_neg (by omega), if_neg (by omega)]
                  exact hI.out (Nat.le_refl _) (by omega) h1 h2
                have h0 : Sent S cl e (10 * S 311 + 0) = cl := by rw [Sent_k hN2 (by omega) (by omega), if_pos ⟨rfl, rfl⟩]
                have h1 : Sent S cl e (10 * S 311 + 1) = e := by rw [Sent_k hN2 (by omega) (by omega), if_neg (by omega), if_pos ⟨rfl, rfl⟩]
                have hcase : a = 0 ∨ a = 1 ∨ a = 2 ∨ a = 3 ∨ a = 4 ∨ a = 5 ∨ a = 6 ∨ a = 7 ∨ a = 8 ∨ a = 9 := by omega
                rcases hcase with rfl | rfl | rfl | rfl | rfl | rfl | rfl | rfl | rfl | rfl
                · rw [f1, h0]; rfl
                · rw [f2, h1]; rfl
                · rw [f3, hz 2 (by omega) (by omega)]; rfl
                · rw [f4, hz 3 (by omega) (by omega)]; rfl
                · rw [f5, hz 4 (by omega) (by omega)]; rfl
                · rw [f6, hz 5 (by omega) (by omega)]; rfl
                · rw [f7, hz 6 (by omega) (by omega)]; rfl
                · rw [f8, hz 7 (by omega) (by omega)]; rfl
                · rw [f9, hz 8 (by omega) (by omega)]; rfl
                · rw [f10, hz 9 (by omega) (by omega)]; rfl
              · rw [hrow (4 + k) (by omega) _ (by omega), Sent_o hN2 (by omega) ha]
                exact hC.2 k (by omega) a ha
          · refine hR.cg ?_ ?_ (by rw [Sent_N]; omega) (fun p hp => Sent_hi hN2 (by omega) (by omega)) (fun k hk => ⟨Sent_o hN2 hk (by omega), Sent_o hN2 hk (by omega)⟩) (fun h => by rw [Sent_hi hN2 (by omega) (by omega)] at h; exact h)
            · rw [up3_n (by omega), j1 i 0 (by omega)]
            · rw [up3_r (by omega), j1 i 3 (by omega)]
        · show ∃ w', F_X12_enter w _ _ = _ ∧ _
          have hSc := hag.sv hS
          rw [hM]
          unfold F_X12_enter_28
          have l0 : ∀ (u : gWd) (v : Int32), F_X12_lay u (nI (S 311)) 0 v = some (up3 u 8 1 (10 * S 311) v) := fun u v => M_lay (j := 0) (by omega) v
          have l1 : ∀ (u : gWd) (v : Int32), F_X12_lay u (nI (S 311)) 1 v = some (up3 u 8 1 (10 * S 311 + 1) v) := fun u v => M_lay (j := 1) (by omega) v
          have hS1 := hSc.up (10 * S 311) cl
          have hS2 := hS1.up (10 * S 311 + 1) e
          have hS3 := hS2.up 311 (S 311 + 1)
          have e1 : up3 wc 8 1 (10 * S 311) (nI cl) 8 1 311 = nI (S 311) := by rw [hS1 311 (by omega), upN_n (by omega)]
          have e2 : up3 (up3 wc 8 1 (10 * S 311) (nI cl)) 8 1 (10 * S 311 + 1) (nI e) 8 1 311 = nI (S 311) := by rw [hS2 311 (by omega), upN_n (by omega), upN_n (by omega)]
          rw [hS 310 (by omega), iE0 (by omega), if_pos a3, hS 311 (by omega), show (30 : Int32) = nI 30 from rfl, iEq (by omega) (by omega), if_neg a4, hch, gP_s, hSc 311 (by omega), l0, gP_s, e1, l1, gP_s, gS_e, e2, nI_1, up3_s]
          refine ⟨_, ?_, ((ag1.up _ _).tr (ag1.up _ _)).tr (ag1.up _ _), hS3⟩
          rw [show (1 : Int32) = nI 1 from rfl, pk_sub (by omega)]
          rfl
    · refine ⟨-1000002, Or.inl ⟨hm2, fun w hC _ => ?_, fun w hS => ?_⟩⟩
      · show F_X1_addSwimmer w i _ _ = _
        rw [hCt, hC.st, iE0 (by omega), if_neg a3]
      · show F_X12_enter w _ _ = _
        rw [hM]
        unfold F_X12_enter_28
        rw [hS 310 (by omega), iE0 (by omega), if_neg a3]
  · refine ⟨-1000001, Or.inl ⟨hm1, fun w hC _ => ?_, fun w hS => ?_⟩⟩
    · show F_X1_addSwimmer w i _ _ = _
      unfold F_X1_addSwimmer
      rw [if_neg a1, if_neg a2, C_time_f hx2, gP_s, if_pos rfl]
    · show F_X12_enter w _ _ = _
      unfold F_X12_enter
      rw [hin5, gP_s, if_neg (by decide), if_neg hx2.1, M_time_f hx2.2, gP_s, if_pos rfl]
end
section
/-! level 2: set, draw -/
def stLo (k : Nat) : Nat := if k = 0 then 4 else if k = 1 then 1 else 0
def stHi (k : Nat) : Nat := if k = 0 then 10 else if k = 1 then 3 else 4
theorem C_allow {w : gWd} {k : Nat} (hk : k < 3) (x : Int32) : F_X9_allow w (nI k) x = some (if x < nI (stLo k) then 0 else if nI (stHi k) < x then 0 else 1) := by
  have hg : gLeast k = nI (stLo k) ∧ gGreat k = nI (stHi k) := by
    have : k = 0 ∨ k = 1 ∨ k = 2 := by omega
    rcases this with rfl | rfl | rfl <;> exact ⟨rfl, rfl⟩
  unfold F_X9_allow F_X9_allow_31
  rw [if_neg (nI_pos (by omega)), show (3 : Int32) = nI 3 from rfl, iLe (by omega) (by omega), if_neg (by omega), gB_n _ hk (by omega), gB_n _ hk (by omega), hg.1, hg.2]
  split
  · rfl
  · split <;> rfl
theorem rng {x : Int32} {lo hi : Nat} (hl : lo < 2 ^ 20) (hh : hi < 2 ^ 20) (h1 : ¬ x < nI lo) (h2 : ¬ nI hi < x) : ∃ v, lo ≤ v ∧ v ≤ hi ∧ x = nI v := by
  rw [Int32.lt_iff_toInt_lt, nI_toInt (by omega)] at h1 h2
  rcases pk_ix x (n := hi + 1) (by omega) with h | h | ⟨j, hj, e⟩
  · rw [Int32.lt_iff_toInt_lt] at h
    have a : (0 : Int32).toInt = 0 := rfl
    omega
  · rw [Int32.le_iff_toInt_le, nI_toInt (by omega)] at h
    omega
  · subst e
    rw [nI_toInt (by omega)] at h1
    exact ⟨j, by omega, by omega, rfl⟩
theorem M_set_t {w : gWd} {k : Nat} (hk : k < 3) (x : Int32) : F_X12_set w (nI k) x = F_X12_set_47 w (nI k) x (nI (stHi k)) (nI (stLo k)) x := by
  have hin : F_X12_in w (nI k) 0 2 = some 1 := M_in_t (n := 2) (by omega) (by omega)
  have : k = 0 ∨ k = 1 ∨ k = 2 := by omega
  unfold F_X12_set F_X12_set_28
  rw [hin, gP_s, if_neg (by decide)]
  rcases this with rfl | rfl | rfl <;> rfl
theorem Sset_IV {EB : Nat} {S : Nat → Nat} (hI : IV EB S) (h0 : S 310 = 0) {k v : Nat} (hk : k < 3) (h1 : stLo k ≤ v) (h2 : v ≤ stHi k) : IV EB (upN S (317 + k) v) := by
  have hi : ∀ t, t < 317 → upN S (317 + k) v t = S t := fun t ht => upN_n (by omega)
  have h8 := hi 311 (by omega)
  obtain ⟨⟨b1, b2, b3, b4, b5, b6, b7, b8, b9, b10⟩, c2, c3, c4, c5, c6, c7, c8, c9⟩ := hI
  unfold stLo at h1
  unfold stHi at h2
  refine ⟨⟨by rw [h8]; exact b1, by rw [hi 310 (by omega)]; exact b2, by rw [hi 312 (by omega)]; exact b3, by rw [hi 314 (by omega)]; exact b4, by rw [hi 315 (by omega)]; exact b5, ?_, ?_, ?_, fun p hp => by rw [hi (306 + p) (by omega)]; exact b9 p hp, fun q hq a ha => by rw [hi _ (by omega)]; exact b10 q hq a ha⟩, ?_, ?_, ?_, ?_, ?_, ?_, ?_⟩
  · by_cases e : k = 0
    · subst e; rw [show upN S (317 + 0) v 317 = v from upN_s _ _ _]; rw [if_pos rfl] at h1 h2; exact ⟨h1, h2⟩
    · rw [upN_n (by omega)]; exact b6
  · by_cases e : k = 1
    · subst e; rw [show upN S (317 + 1) v 318 = v from upN_s _ _ _]; rw [if_neg (by omega), if_pos rfl] at h1 h2; exact ⟨h1, h2⟩
    · rw [upN_n (by omega)]; exact b7
  · by_cases e : k = 2
    · subst e; rw [show upN S (317 + 2) v 319 = v from upN_s _ _ _]; rw [if_neg (by omega), if_neg (by omega)] at h2; exact h2
    · rw [upN_n (by omega)]; exact b8
  · intro q a1 a2 a a3 a4; rw [h8] at a1; rw [hi _ (by omega)]; exact c2 q a1 a2 a a3 a4
  · intro h; rw [hi 310 (by omega)] at h; rw [hi 312 (by omega), h8]; exact ⟨(c3 h).1, fun q hq a a3 a4 => by rw [hi _ (by omega)]; exact (c3 h).2 q hq a a3 a4⟩
  · intro h q hq; rw [hi 310 (by omega)] at h; rw [h8] at hq; simp only [hi (10 * q + 2) (by omega), hi (10 * q + 3) (by omega), hi (10 * q + 5) (by omega), hi (10 * q + 6) (by omega), hi (10 * q + 7) (by omega), hi (10 * q + 8) (by omega)]; exact c4 h q hq
  · intro h q hq; rw [hi 310 (by omega)] at h; rw [h8] at hq; simp only [hi (10 * q + 2) (by omega), hi (10 * q + 6) (by omega), hi (10 * q + 8) (by omega)]; exact c5 h q hq
  · intro q hq; rw [hi _ (by omega), h8, c6 q hq]; unfold clubSum; exact fb_sm_cong (fun z hz => by rw [hi (10 * z) (by omega), hi (10 * z + 9) (by omega)])
  · intro q hq; rw [h8] at hq; rw [hi _ (by omega), hi 313 (by omega)]; exact c7 q hq
  · rw [hi 313 (by omega)]; exact ⟨c8, IW.no (by rw [hi 310 (by omega)]; omega)⟩
theorem OK_set {i EB : Nat} {S : Nat → Nat} (hI : IV EB S) (x1 x2 : Int32) : OK2 i (fun w => F_X1_changeSetting w i x1 x2) (fun w => F_X12_set w x1 x2) EB S := by
  have hB := hI.wb
  have hst := hB.2.1
  have hm1 : (-1000001 : Int32) < 0 := by decide
  have hm2 : (-1000002 : Int32) < 0 := by decide
  have herr : (x1 < 0 ∨ (3 : Int32) ≤ x1) → OK2 i (fun w => F_X1_changeSetting w i x1 x2) (fun w => F_X12_set w x1 x2) EB S := by
    intro h
    refine ⟨-1000001, Or.inl ⟨hm1, fun w hC _ => ?_, fun w hS => ?_⟩⟩
    · show F_X1_changeSetting w i x1 x2 = _
      unfold F_X1_changeSetting F_X9_allow F_X9_allow_31
      by_cases h1 : x1 < 0
      · rw [if_pos h1]; rfl
      · rw [if_neg h1, if_pos (h.resolve_left h1)]; rfl
    · show F_X12_set w x1 x2 = _
      unfold F_X12_set
      rw [show (2 : Int32) = nI 2 from rfl, M_in_f (by omega) h, gP_s, if_pos rfl]
  by_cases a1 : x1 < 0
  · exact herr (Or.inl a1)
  by_cases a2 : (3 : Int32) ≤ x1
  · exact herr (Or.inr a2)
  obtain ⟨k, hk, rfl⟩ := arg_lt (n := 3) (by omega) a1 a2
  have hlo : stLo k < 2 ^ 20 := by unfold stLo; split <;> (try split) <;> omega
  have hhi : stHi k < 2 ^ 20 := by unfold stHi; split <;> (try split) <;> omega
  by_cases a3 : x2 < nI (stLo k) ∨ nI (stHi k) < x2
  · refine ⟨-1000001, Or.inl ⟨hm1, fun w hC _ => ?_, fun w hS => ?_⟩⟩
    · show F_X1_changeSetting w i _ x2 = _
      unfold F_X1_changeSetting
      rw [C_allow hk, gP_s, if_pos]
      by_cases h1 : x2 < nI (stLo k)
      · rw [if_pos h1]
      · rw [if_neg h1, if_pos (a3.resolve_left h1)]
    · show F_X12_set w _ x2 = _
      rw [M_set_t hk]
      unfold F_X12_set_47
      rw [M_in, gP_s, if_pos]
      by_cases h1 : x2 < nI (stLo k)
      · rw [if_pos h1]
      · rw [if_neg h1, if_pos (a3.resolve_left h1)]
  obtain ⟨v, hv1, hv2, rfl⟩ := rng hlo hhi (fun z => a3 (Or.inl z)) (fun z => a3 (Or.inr z))
  have hCa : ∀ w, F_X1_changeSetting w i (nI k) (nI v) = (if (w i 0 4) = 0 then some (w i 1 k, up3 w i 1 k (nI v)) else (some ((-1000002), w))) := by
    intro w
    unfold F_X1_changeSetting
    rw [C_allow hk, gP_s, if_neg (fun z => a3 (Or.inl z)), if_neg (fun z => a3 (Or.inr z)), if_neg (by decide), gB_n _ hk (by omega), gS_e, gB_n _ hk (by omega), gS_e]
  have hMa : ∀ w, F_X12_set w (nI k) (nI v) = (if (w 8 1 310) = 0 then (gP (F_X12_changes w) (fun w_8 => some (w_8 8 1 (317 + k), up3 w_8 8 1 (317 + k) (nI v)))) else (some ((-1000002), w))) := by
    intro w
    rw [M_set_t hk]
    unfold F_X12_set_47
    have e : (317 : Int32) + nI k = nI (317 + k) := nI_add 317 k
    rw [M_in, gP_s, if_neg (fun z => a3 (Or.inl z)), if_neg (fun z => a3 (Or.inr z)), if_neg (by decide), e]
    congr 1
    congr 1
    funext u
    rw [gB_n _ (by omega) (by omega), gS_e, gB_n _ (by omega) (by omega), gS_e]
  by_cases a4 : S 310 = 0
  · have hset : S (317 + k) ≤ 10 := by
      have h6 := hB.2.2.2.2.2.1
      have h7 := hB.2.2.2.2.2.2.1
      have h8 := hB.2.2.2.2.2.2.2.1
      have : k = 0 ∨ k = 1 ∨ k = 2 := by omega
      rcases this with rfl | rfl | rfl
      · exact h6.2
      · show S 318 ≤ 10; omega
      · show S 319 ≤ 10; omega
    refine ⟨nI (S (317 + k)), Or.inr ⟨nI_pos' (by omega), upN S (317 + k) v, (Sset_IV hI a4 hk hv1 hv2).mono (by omega), fun w hC hR => ?_, fun w wc hS hch hag => ?_⟩⟩
    · show ∃ w', F_X1_changeSetting w i _ _ = _ ∧ _
      have hold : w i 1 k = nI (S (317 + k)) := by
        have : k = 0 ∨ k = 1 ∨ k = 2 := by omega
        rcases this with rfl | rfl | rfl
        · exact hC.la
        · exact hC.fe
        · exact hC.re
      rw [hCa, hC.st, iE0 (by omega), if_pos a4, hold]
      refine ⟨_, rfl, agB.up 1 k _, ?_, ?_⟩
      · have h0 : ∀ j, up3 w i 1 k (nI v) i 0 j = w i 0 j := fun j => up3_n (by omega)
        have h4 : ∀ r j, 4 ≤ r → up3 w i 1 k (nI v) i r j = w i r j := fun r j hr => up3_n (by omega)
        have hi : ∀ t, t < 317 → upN S (317 + k) v t = S t := fun t ht => upN_n (by omega)
        have hs : ∀ j, j < 3 → w i 1 j = nI (S (317 + j)) → up3 w i 1 k (nI v) i 1 j = nI (upN S (317 + k) v (317 + j)) := by
          intro j hj h
          by_cases e : j = k
          · subst e; rw [up3_s, upN_s]
          · rw [up3_n (by omega), upN_n (by omega)]; exact h
        refine ⟨⟨by rw [h0, hi 311 (by omega)]; exact hC.sz, by rw [h0, hi 310 (by omega)]; exact hC.st, by rw [h0, hi 312 (by omega)]; exact hC.ht, by rw [h0, hi 316 (by omega)]; exact hC.ca, by rw [h0, hi 313 (by omega)]; exact hC.ev, by rw [h0, hi 314 (by omega)]; exact hC.rc, by rw [h0, hi 315 (by omega)]; exact hC.rs, hs 0 (by omega) hC.la, hs 1 (by omega) hC.fe, hs 2 (by omega) hC.re⟩, fun q hq a ha => ?_⟩
        rw [hi 311 (by omega)] at hq
        have := hB.1
        rw [h4 _ _ (by omega), hi _ (by omega)]
        exact hC.2 q hq a ha
      · have := hB.1
        exact hR.cg (up3_n (by omega)) (up3_r (by omega)) (by rw [upN_n (by omega)]; exact Nat.le_refl _) (fun p hp => upN_n (by omega)) (fun q hq => ⟨upN_n (by omega), upN_n (by omega)⟩) (fun h => by rw [upN_n (by omega)] at h; exact h)
    · show ∃ w', F_X12_set w _ _ = _ ∧ _
      have hSc := hag.sv hS
      rw [hMa, hS 310 (by omega), iE0 (by omega), if_pos a4, hch, gP_s, hSc (317 + k) (by omega)]
      exact ⟨_, rfl, ag1.up _ _, hSc.up _ _⟩
  · refine ⟨-1000002, Or.inl ⟨hm2, fun w hC _ => ?_, fun w hS => ?_⟩⟩
    · show F_X1_changeSetting w i _ _ = _
      rw [hCa, hC.st, iE0 (by omega), if_neg a4]
    · show F_X12_set w _ _ = _
      rw [hMa, hS 310 (by omega), iE0 (by omega), if_neg a4]
end
section
/-! level 2: draw -/
theorem erank_cg30 {S S' : Nat → Nat} (hN0 : S 311 ≤ 30) (h1 : ∀ q, q < 30 → S' (10 * q + 1) = S (10 * q + 1)) (h2 : ∀ q, q < 30 → S' (10 * q + 2) = S (10 * q + 2)) (hN : S' 311 = S 311) {k : Nat} (hk : k < 30) : erank S' k = erank S k := by
  unfold erank
  rw [hN]
  exact fb_ct_cong (fun q hq => by rw [h2 q (by omega), ek_cg (h1 q (by omega)), ek_cg (h1 k hk)])
theorem bulk_up {S : Nat → Nat} {v a j : Nat} {f g : Nat → Nat} {p p' : Nat → Bool} (hf : ∀ k, k < 30 → f k = g k) (hp : ∀ k, k < 30 → p k = p' k) : bulk (upN S 312 v) a f p j = upN (bulk S a g p' j) 312 v := by
  funext t
  by_cases h : t = 312
  · subst h
    rw [upN_s, bulk_hi (by omega), upN_s]
  · rw [upN_n h]
    unfold bulk
    by_cases c : t < 300
    · rw [hf (t / 10) (by omega), hp (t / 10) (by omega), upN_n h]
    · rw [if_neg (fun z => c z.1), if_neg (fun z => c z.1), upN_n h]
theorem pres_up {S : Nat → Nat} {v : Nat} (hN : S 311 ≤ 30) : pres (upN S 312 v) (upN S 312 v 311) = pres S (S 311) := by
  rw [upN_n (by omega)]
  unfold pres
  exact fb_ct_cong (fun q hq => by rw [upN_n (by omega)])
theorem nH_up {S : Nat → Nat} {v : Nat} (hN : S 311 ≤ 30) : nH (upN S 312 v) = nH S := by
  unfold nH
  rw [pres_up hN, upN_n (by omega)]
theorem erank_up {S : Nat → Nat} {v k : Nat} (hN : S 311 ≤ 30) (hk : k < 30) : erank (upN S 312 v) k = erank S k := erank_cg30 hN (fun q hq => upN_n (by omega)) (fun q hq => upN_n (by omega)) (upN_n (by omega)) hk
theorem hcn_up {S : Nat → Nat} {v t k : Nat} (hN : S 311 ≤ 30) (hk : k < 30) : hcn (upN S 312 v) t k = hcn S t k := by
  unfold hcn
  rw [erank_up hN hk, nH_up hN, upN_n (by omega)]
theorem Sd_up {S : Nat → Nat} {v t : Nat} (hN : S 311 ≤ 30) : Sd (upN S 312 v) t (upN S 312 v 311) = upN (Sd S t (S 311)) 312 v := by
  have hU : ∀ k, k < 30 → UN (upN S 312 v) k = UN S k := fun k hk => by unfold UN; rw [upN_n (by omega)]
  unfold Sd
  rw [upN_n (show (311 : Nat) ≠ 312 by omega), bulk_up (S := S) (g := fun k => Dt (S 317) (nH S) t (erank S k) + 1) (p' := UN S) (fun k hk => by rw [erank_up hN hk, nH_up hN, upN_n (by omega)]) hU]
  exact bulk_up (fun k hk => by rw [hcn_up hN hk, laneI_cg (upN_n (by omega))]) hU
theorem Sd_cg {S : Nat → Nat} {t t' : Nat} (hN : S 311 ≤ 30) (h : cg (S 317) (nH S) (pres S (S 311)) t = cg (S 317) (nH S) (pres S (S 311)) t') : Sd S t (S 311) = Sd S t' (S 311) := by
  have hd : ∀ r, r < pres S (S 311) → Dt (S 317) (nH S) t r = Dt (S 317) (nH S) t' r := fun r hr => Dt_cg h hr
  unfold Sd
  rw [bulk_ext (S := S) (f := fun k => Dt (S 317) (nH S) t (erank S k) + 1) (g := fun k => Dt (S 317) (nH S) t' (erank S k) + 1) (fun k _ hk hU => by rw [hd _ (erank_lt hk hU)])]
  refine bulk_ext (fun k _ hk hU => ?_)
  have hr := erank_lt hk hU
  congr 2
  unfold hcn
  exact fb_ct_cong (fun q hq => by rw [hd q (by omega), hd _ hr])
theorem t0_ex {S : Nat → Nat} (hB : WB S) (hp : 0 < pres S (S 311)) : ∃ t, cg (S 317) (nH S) (pres S (S 311)) t = min (nA S (nH S)).toNat (nT S (nH S)) := by
  have hS : SV (fun a b c => if a = 8 ∧ b = 1 then nI (S c) else 0) S := fun t _ => if_pos ⟨rfl, rfl⟩
  obtain ⟨w', t, -, -, -, h⟩ := M_plans hS hB hp
  exact ⟨t, h⟩
theorem nA_up {S : Nat → Nat} {v : Nat} (hN : S 311 ≤ 30) : nA (upN S 312 v) (nH S) = nA S (nH S) := by
  unfold nA
  rw [pres_up hN, upN_n (by omega), upN_n (by omega)]
theorem Sdraw_IV {EB : Nat} {S : Nat → Nat} {t : Nat} (hI : IV EB S) (hp : 0 < pres S (S 311)) (h0 : S 310 = 0) : IV EB (Sdraw S t) := by
  have hB := hI.wb
  obtain ⟨hH1, hH8, hHL⟩ := nH_in hB hp
  have hN := hB.1
  have hi : ∀ q, 300 ≤ q → q ≠ 310 → q ≠ 312 → Sdraw S t q = S q := fun q h1 h2 h3 => by unfold Sdraw; rw [upN_n h3, upN_n h2, Sd_hi h1]
  have hk : ∀ k a, k < 30 → a < 10 → Sdraw S t (10 * k + a) = Sd S t (S 311) (10 * k + a) := fun k a h1 h2 => by unfold Sdraw; rw [upN_n (by omega), upN_n (by omega)]
  have hne : ∀ k a, k < 30 → a < 10 → a ≠ 3 → a ≠ 4 → Sdraw S t (10 * k + a) = S (10 * k + a) := fun k a h1 h2 h3 h4 => by rw [hk k a h1 h2, Sd_ne h2 h3 h4]
  have h310 : Sdraw S t 310 = 1 := by unfold Sdraw; rw [upN_n (by omega), upN_s]
  have h312 : Sdraw S t 312 = nH S := upN_s _ _ _
  have hBd : WB (Sd S t (S 311)) := Sd_WB hB hp
  have h9 := hB.2.2.2.2.2.2.2.2.1
  refine ⟨⟨by rw [hi 311 (by omega) (by omega) (by omega)]; exact hN, by rw [h310]; omega, by rw [h312]; exact hH8, by rw [hi 314 (by omega) (by omega) (by omega)]; exact hB.2.2.2.1, by rw [hi 315 (by omega) (by omega) (by omega)]; exact hB.2.2.2.2.1, by rw [hi 317 (by omega) (by omega) (by omega)]; exact hB.2.2.2.2.2.1, by rw [hi 318 (by omega) (by omega) (by omega)]; exact hB.2.2.2.2.2.2.1, by rw [hi 319 (by omega) (by omega) (by omega)]; exact hB.2.2.2.2.2.2.2.1, fun p hp2 => by rw [hi (306 + p) (by omega) (by omega) (by omega)]; exact h9 p hp2, fun k hk1 a ha => by rw [hk k a hk1 ha]; exact hBd.a hk1 ha⟩, ?_, ?_, ?_, ?_, ?_, ?_, ?_⟩
  · intro k h1 h2 a h3 h4
    rw [hi 311 (by omega) (by omega) (by omega)] at h1
    rw [hk k a h2 h4]
    by_cases e3 : a = 3
    · subst e3; rw [Sd_3 h2, if_neg (fun z => by omega)]; exact hI.out h1 h2 h3 h4
    · by_cases e4 : a = 4
      · subst e4; rw [Sd_4 h2, if_neg (fun z => by omega)]; exact hI.out h1 h2 h3 h4
      · rw [Sd_ne h4 e3 e4]; exact hI.out h1 h2 h3 h4
  · intro h; omega
  · intro _ k hk1
    rw [hi 311 (by omega) (by omega) (by omega)] at hk1
    have hz := (hI.s0 h0).2 k hk1
    rw [hne k 2 (by omega) (by omega) (by omega) (by omega), hne k 5 (by omega) (by omega) (by omega) (by omega), hne k 6 (by omega) (by omega) (by omega) (by omega), hne k 7 (by omega) (by omega) (by omega) (by omega), hne k 8 (by omega) (by omega) (by omega) (by omega), hk k 3 (by omega) (by omega), Sd_3 (by omega)]
    refine ⟨fun hg => ⟨?_, hz 5 (by omega) (by omega)⟩, hz 6 (by omega) (by omega), hz 7 (by omega) (by omega), hz 8 (by omega) (by omega)⟩
    rw [if_neg (fun z => by have := UN_t.mp z.2; omega)]
    exact hz 3 (by omega) (by omega)
  · intro h; omega
  · intro q hq
    rw [hi (300 + q) (by omega) (by omega) (by omega), hI.cl hq, hi 311 (by omega) (by omega) (by omega)]
    unfold clubSum
    exact fb_sm_cong (fun z hz => by rw [show Sdraw S t (10 * z) = S (10 * z) from hne z 0 (by omega) (by omega) (by omega) (by omega), hne z 9 (by omega) (by omega) (by omega) (by omega)])
  · intro k hk1
    rw [hi 311 (by omega) (by omega) (by omega)] at hk1
    rw [hne k 9 (by omega) (by omega) (by omega) (by omega), hi 313 (by omega) (by omega) (by omega)]
    exact hI.pt hk1
  · rw [hi 313 (by omega) (by omega) (by omega)]; exact ⟨hI.eb, IW.no (by omega)⟩
theorem C_draw {w : gWd} {S : Nat → Nat} {i t0 EB : Nat} (hI : IV EB S) (hC : CV (w i) S) (hR : RV (w i) S) (hp : 0 < pres S (S 311)) (h0 : S 310 = 0) (ht0 : cg (S 317) (nH S) (pres S (S 311)) t0 = min (nA S (nH S)).toNat (nT S (nH S))) : ∃ w', F_X1_drawHeats w i = some (nI (nH S), w') ∧ agB i w w' ∧ CV (w' i) (Sdraw S t0) ∧ RV (w' i) (Sdraw S t0) := by
  have hB := hI.wb
  have hN := hB.1
  have hn := pres_le S (S 311)
  have hl := hB.2.2.2.2.2.1
  obtain ⟨hH1, hH8, hHL⟩ := nH_in hB hp
  have hz := fun k hk => (hI.s0 h0).2 k hk 3 (by omega) (by omega)
  -- the memory with the number of heats
  have hC1 : CV (up3 w i 0 5 (nI (nH S)) i) (upN S 312 (nH S)) := hC.up0 hN (by omega)
  have hB1 : WB (upN S 312 (nH S)) := by
    obtain ⟨b1, b2, b3, b4, b5, b6, b7, b8, b9, b10⟩ := hB
    exact ⟨by rw [upN_n (by omega)]; exact b1, by rw [upN_n (by omega)]; exact b2, by rw [upN_s]; exact hH8, by rw [upN_n (by omega)]; exact b4, by rw [upN_n (by omega)]; exact b5, by rw [upN_n (by omega)]; exact b6, by rw [upN_n (by omega)]; exact b7, by rw [upN_n (by omega)]; exact b8, fun p hp => by rw [upN_n (by omega)]; exact b9 p hp, fun k hk a ha => by rw [upN_n (by omega)]; exact b10 k hk a ha⟩
  have hp1 : 0 < pres (upN S 312 (nH S)) (upN S 312 (nH S) 311) := by rw [pres_up hN]; exact hp
  have hz1 : ∀ q, q < upN S 312 (nH S) 311 → upN S 312 (nH S) (10 * q + 3) = 0 := fun q hq => by
    rw [upN_n (by omega)] at hq
    rw [upN_n (by omega)]
    exact hz q hq
  have hH1' : upN S 312 (nH S) 312 = nH (upN S 312 (nH S)) := by rw [nH_up hN, upN_s]
  obtain ⟨w1, f1, g1, c1⟩ := C_spread hC1 hB1 hp1 hH1'
  obtain ⟨w2, t, f2, g2, c2, k2⟩ := C_fill hB1 hp1 hz1 hH1' c1
  obtain ⟨w3, f3, g3, c3⟩ := C_lanesAll hB1 hp1 hz1 c2
  have k3 : cg (S 317) (nH S) (pres S (S 311)) t = cg (S 317) (nH S) (pres S (S 311)) t0 := by
    rw [ht0]
    have := k2
    rw [pres_up hN, nH_up hN, nA_up hN, upN_n (by omega)] at this
    rw [this]
    congr 1
    unfold nT
    rw [pres_up hN, upN_n (by omega)]
  rw [Sd_up hN, Sd_cg hN k3] at c3
  have e5 : w3 i 0 5 = nI (nH S) := by rw [c3.ht, upN_s]
  have c4 : CV (up3 w3 i 0 4 (nI 1) i) (upN (upN (Sd S t0 (S 311)) 312 (nH S)) 310 1) := c3.up0 (by rw [upN_n (by omega), Sd_hi (by omega)]; exact hN) (by omega)
  have hcom : upN (upN (Sd S t0 (S 311)) 312 (nH S)) 310 1 = Sdraw S t0 := by
    funext q
    unfold Sdraw upN
    by_cases a : q = 310
    · subst a; rfl
    · rw [if_neg a, if_neg a]
  rw [hcom] at c4
  refine ⟨up3 w3 i 0 4 (nI 1), ?_, ?_, c4, ?_⟩
  · unfold F_X1_drawHeats
    rw [C_pres hC hB, gP_s, hC.st, iE0 (by omega), if_pos h0, iE0 (by omega), if_neg (by omega), C_lanes hC, gP_s, C_heatsFor ⟨hp, by omega⟩ hl, gP_s, gS_e]
    show gP (F_X2_spread (up3 w i 0 5 (nI (nH S))) i) _ = _
    rw [f1, gP_s, f2, gP_s, f3, gP_s, gS_e, up3_n (by omega), e5]
    rfl
  · exact (agB.up 0 5 _).tr (g1.agB.tr (g2.agB.tr (g3.agB.tr (agB.up 0 4 _))))
  · have gg := g1.tr (g2.tr g3)
    have hSd : ∀ k a, k < 30 → a < 10 → a ≠ 3 → a ≠ 4 → Sdraw S t0 (10 * k + a) = S (10 * k + a) := fun k a h1 h2 h3 h4 => by unfold Sdraw; rw [upN_n (by omega), upN_n (by omega), Sd_ne h2 h3 h4]
    refine hR.cg ?_ ?_ ?_ (fun p hp => ?_) (fun k hk => ⟨hSd k 6 (by omega) (by omega) (by omega) (by omega), hSd k 2 (by omega) (by omega) (by omega) (by omega)⟩) (fun _ => by omega)
    · rw [up3_n (by omega), gg.2 0 (by omega), up3_n (by omega)]
    · rw [up3_r (by omega), gg.2 3 (by omega), up3_r (by omega)]
    · unfold Sdraw; rw [upN_n (by omega), upN_n (by omega), Sd_hi (by omega)]; exact Nat.le_refl _
    · unfold Sdraw; rw [upN_n (by omega), upN_n (by omega), Sd_hi (by omega)]
theorem OK_draw {i EB : Nat} {S : Nat → Nat} (hI : IV EB S) : OK2 i (fun w => F_X1_drawHeats w i) F_X12_draw EB S := by
  have hB := hI.wb
  have hN := hB.1
  have hst := hB.2.1
  have hn := pres_le S (S 311)
  have hm2 : (-1000002 : Int32) < 0 := by decide
  by_cases h0 : S 310 = 0
  · by_cases hp : pres S (S 311) = 0
    · refine ⟨-1000002, Or.inl ⟨hm2, fun w hC _ => ?_, fun w hS => ?_⟩⟩
      · show F_X1_drawHeats w i = _
        unfold F_X1_drawHeats
        rw [C_pres hC hB, gP_s, hC.st, iE0 (by omega), if_pos h0, iE0 (by omega), if_pos hp]
      · unfold F_X12_draw
        rw [hS 310 (by omega), iE0 (by omega), if_pos h0, M_pres hS hB, gP_s, iE0 (by omega), if_pos hp]
    · have hp0 : 0 < pres S (S 311) := by omega
      obtain ⟨hH1, hH8, hHL⟩ := nH_in hB hp0
      obtain ⟨t0, ht0⟩ := t0_ex hB hp0
      refine ⟨nI (nH S), Or.inr ⟨nI_pos' (by omega), Sdraw S t0, (Sdraw_IV hI hp0 h0).mono (by omega), fun w hC hR => C_draw hI hC hR hp0 h0 ht0, fun w wc hS hch hag => ?_⟩⟩
      have hSc := hag.sv hS
      obtain ⟨w1, t, f1, g1, d1, k1⟩ := M_plans hSc hB hp0
      have hS1 := g1.sv hSc
      obtain ⟨w2, f2, g2, s2⟩ := M_draw32 (t := t) hB hp0 (S 311) gFU w1 0 (by rw [Sd_0]; exact hS1) d1 (Nat.zero_add _) (by unfold gFU; omega)
      refine ⟨w2, ?_, g1.ag1.tr g2, ?_⟩
      · unfold F_X12_draw
        rw [hS 310 (by omega), iE0 (by omega), if_pos h0, M_pres hS hB, gP_s, iE0 (by omega), if_neg hp, hch, gP_s, f1, gC_s]
        exact f2
      · unfold Sdraw at s2 ⊢
        rw [Sd_cg hN (k1.trans ht0.symm)] at s2
        exact s2
  · refine ⟨-1000002, Or.inl ⟨hm2, fun w hC _ => ?_, fun w hS => ?_⟩⟩
    · show F_X1_drawHeats w i = _
      unfold F_X1_drawHeats
      rw [C_pres hC hB, gP_s, hC.st, iE0 (by omega), if_neg h0]
    · unfold F_X12_draw
      rw [hS 310 (by omega), iE0 (by omega), if_neg h0]
end
section
/-! level 2: who swims, times, swim -/
def askB (S : Nat → Nat) (k : Nat) : Bool := decide (S (10 * k + 2) = 0 ∧ ((S 310 = 1 ∧ 0 < S (10 * k + 3)) ∨ (S 310 = 2 ∧ 0 < S (10 * k + 6))))
def tcol (S : Nat → Nat) : Nat := if S 310 = 1 then 5 else 7
theorem tcol_in (S : Nat → Nat) : tcol S = 5 ∨ tcol S = 7 := by unfold tcol; split <;> omega
theorem tcol_le {S : Nat → Nat} (hB : WB S) {k : Nat} (hk : k < 30) : S (10 * k + tcol S) ≤ 1000 := by
  have := hB.k hk
  rcases tcol_in S with e | e <;> rw [e] <;> omega
theorem M_isAsked {w : gWd} {S : Nat → Nat} (hS : SV w S) (hB : WB S) {k : Nat} (hk : k < 30) : F_X12_isAsked w (nI k) = some (nI (if askB S k = true then 1 else 0)) := by
  have h := hB.k hk
  have hst := hB.2.1
  unfold F_X12_isAsked F_X12_isAsked_29 F_X12_isAsked_51 F_X12_isAsked_55 askB
  rw [M_isGone hS hB hk, gP_s, iE0 (by omega), hS 310 (by omega), M_of3 hS hk, gP_s, M_of6 hS hk, gP_s, iE1 (by omega), iE2 (by omega), i0Lt (by omega), iLe0 (by omega)]
  by_cases e0 : S (10 * k + 2) = 0
  · rw [if_pos e0]
    by_cases e1 : S 310 = 1
    · rw [if_pos e1]
      by_cases e3 : 0 < S (10 * k + 3)
      · rw [if_pos e3, if_pos (by simp [e0, e1, e3])]; rfl
      · rw [if_neg e3, if_neg (by omega), if_neg (by simp [e1]; omega)]; rfl
    · rw [if_neg e1]
      by_cases e2 : S 310 = 2
      · rw [if_pos e2]
        by_cases e6 : S (10 * k + 6) = 0
        · rw [if_pos e6, if_neg (by simp [e2, e6])]; rfl
        · rw [if_neg e6, if_pos (by simp [e0, e2]; omega)]; rfl
      · rw [if_neg e2, if_neg (by simp [e1, e2])]; rfl
  · rw [if_neg e0, if_neg (by simp [e0])]; rfl
theorem C_swimsNow {w : gWd} {S : Nat → Nat} {i EB : Nat} (hI : IV EB S) (hC : CV (w i) S) {k : Nat} (hk : k < S 311) : F_X5_swimsNow w i i k = some (nI (if askB S k = true then 1 else 0)) := by
  have hB := hI.wb
  have hN := hB.1
  have h := hB.k (k := k) (by omega)
  have hst := hB.2.1
  unfold F_X5_swimsNow F_X5_swimsNow_41 askB
  rw [hC.st, iE1 (by omega), iE2 (by omega), hC.f4 hk, hC.f7 hk, iE0 (by omega)]
  by_cases e1 : S 310 = 1
  · rw [if_pos e1]
    by_cases e3 : S (10 * k + 3) = 0
    · rw [if_pos ((mEN1 (by omega)).mpr e3), if_neg (by simp [e1, e3])]; rfl
    · have hg : S (10 * k + 2) = 0 := by
        have := (hI.s1 e1 k hk).1
        by_cases z : S (10 * k + 2) = 1
        · have := (this z).1; omega
        · omega
      rw [if_neg (fun q => e3 ((mEN1 (by omega)).mp q)), if_pos (by simp [e1, hg]; omega)]; rfl
  · rw [if_neg e1]
    by_cases e2 : S 310 = 2
    · rw [if_pos e2]
      by_cases e6 : S (10 * k + 6) = 0
      · rw [if_pos e6, if_neg (by simp [e2, e6])]; rfl
      · have hg := (hI.s2 e2 k hk).1 e6
        rw [if_neg e6, if_pos (by simp [e2, hg]; omega)]; rfl
    · rw [if_neg e2, if_neg (by simp [e1, e2])]; rfl
theorem M_timeNow {w : gWd} {S : Nat → Nat} (hS : SV w S) (hB : WB S) : F_X12_timeNow w = some (nI (tcol S)) := by
  have hst := hB.2.1
  unfold F_X12_timeNow tcol
  rw [hS 310 (by omega), iE1 (by omega)]
  split <;> rfl
theorem C_stageTime {w : gWd} {S : Nat → Nat} {i : Nat} (hC : CV (w i) S) (hB : WB S) {k : Nat} (hk : k < S 311) : F_X5_stageTime w i i k = some (nI (S (10 * k + tcol S)) - 1) := by
  have hst := hB.2.1
  unfold F_X5_stageTime tcol
  rw [hC.st, iE1 (by omega)]
  by_cases e : S 310 = 1
  · rw [if_pos e, if_pos e, hC.f6 hk]
  · rw [if_neg e, if_neg e, hC.f8 hk]
def ctF (S : Nat → Nat) (t : Nat) (n : Nat) : Nat := fb_ct (fun k => decide (1 < S (10 * k + tcol S)) && decide (S (10 * k + tcol S) < t + 1)) n
theorem C_faster {w : gWd} {S : Nat → Nat} {i t : Nat} (hC : CV (w i) S) (hB : WB S) (ht : t ≤ 2000) : F_X5_fasterThan w i (nI t) = some (nI (ctF S t (S 311))) := by
  unfold F_X5_fasterThan
  have hN := hB.1
  refine loopI (F := fun fu (acc : Nat) j => F_X5_fasterThan_4 fu w i (nI t) (nI acc) (nI j)) (S 311) (fun j acc => acc = ctF S t j) (fun r => r = some (nI (ctF S t (S 311)))) ?_ ?_ gFU 0 0 (by omega) (gFU_lt (by omega)) rfl
  · intro fu acc hI
    show F_X5_fasterThan_4 (fu + 1) w i (nI t) (nI acc) (nI (S 311)) = _
    rw [F_X5_fasterThan_4_s, hC.sz, iLe (by omega) (by omega), if_pos (Nat.le_refl _), hI]
  · intro fu acc j hj hI
    right
    refine ⟨_, rfl, ?_⟩
    show F_X5_fasterThan_4 (fu + 1) w i (nI t) (nI acc) (nI j) = F_X5_fasterThan_4 fu w i (nI t) _ (nI (j + 1))
    have hg := tcol_le hB (k := j) (by omega)
    unfold ctF at hI ⊢
    rw [F_X5_fasterThan_4_s, hC.sz, iLe (by omega) (by omega), if_neg (by omega), gB_n _ (by omega) (by omega), C_stageTime hC hB hj, gP_s, fb_ct_succ, hI]
    by_cases e : 1 < S (10 * j + tcol S)
    · rw [if_neg (fun q => absurd ((mLe0 (by omega)).mp q) (by omega))]
      by_cases e2 : S (10 * j + tcol S) < t + 1
      · rw [if_neg (fun q => absurd ((mnLe (by omega) (by omega)).mp q) (by omega)), if_pos (by simp [e, e2])]
        simp only [gS_e, nI_1]
      · rw [if_pos ((mnLe (by omega) (by omega)).mpr (by omega)), if_neg (by simp; omega)]
        simp only [gS_e, Nat.add_zero, nI_1]
    · rw [if_pos ((mLe0 (by omega)).mpr (by omega)), if_neg (by simp [e])]
      simp only [gS_e, Nat.add_zero, nI_1]
theorem IV_hi {EB : Nat} {S : Nat → Nat} (hI : IV EB S) {t v : Nat} (h : (t = 314 ∧ v ≤ 999) ∨ (t = 315 ∧ v ≤ 30) ∨ t = 316) : IV EB (upN S t v) := by
  have hN := hI.wb.1
  have hi : ∀ q, q < 314 → upN S t v q = S q := fun q hq => upN_n (by omega)
  have hj : ∀ q, 317 ≤ q → upN S t v q = S q := fun q hq => upN_n (by omega)
  have h8 := hi 311 (by omega)
  obtain ⟨⟨b1, b2, b3, b4, b5, b6, b7, b8, b9, b10⟩, c2, c3, c4, c5, c6, c7, c8, c9⟩ := hI
  refine ⟨⟨by rw [h8]; exact b1, by rw [hi 310 (by omega)]; exact b2, by rw [hi 312 (by omega)]; exact b3, ?_, ?_, by rw [hj 317 (by omega)]; exact b6, by rw [hj 318 (by omega)]; exact b7, by rw [hj 319 (by omega)]; exact b8, fun p hp => by rw [hi (306 + p) (by omega)]; exact b9 p hp, fun q hq a ha => by rw [hi _ (by omega)]; exact b10 q hq a ha⟩, ?_, ?_, ?_, ?_, ?_, ?_, ?_⟩
  · rcases h with ⟨rfl, h⟩ | ⟨rfl, h⟩ | rfl
    · rw [upN_s]; exact h
    · rw [upN_n (by omega)]; exact b4
    · rw [upN_n (by omega)]; exact b4
  · rcases h with ⟨rfl, h⟩ | ⟨rfl, h⟩ | rfl
    · rw [upN_n (by omega)]; exact b5
    · rw [upN_s]; exact h
    · rw [upN_n (by omega)]; exact b5
  · intro q a1 a2 a a3 a4; rw [h8] at a1; rw [hi _ (by omega)]; exact c2 q a1 a2 a a3 a4
  · intro h; rw [hi 310 (by omega)] at h; rw [hi 312 (by omega), h8]; exact ⟨(c3 h).1, fun q hq a a3 a4 => by rw [hi _ (by omega)]; exact (c3 h).2 q hq a a3 a4⟩
  · intro h q hq; rw [hi 310 (by omega)] at h; rw [h8] at hq; simp only [hi (10 * q + 2) (by omega), hi (10 * q + 3) (by omega), hi (10 * q + 5) (by omega), hi (10 * q + 6) (by omega), hi (10 * q + 7) (by omega), hi (10 * q + 8) (by omega)]; exact c4 h q hq
  · intro h q hq; rw [hi 310 (by omega)] at h; rw [h8] at hq; simp only [hi (10 * q + 2) (by omega), hi (10 * q + 6) (by omega), hi (10 * q + 8) (by omega)]; exact c5 h q hq
  · intro q hq; rw [hi _ (by omega), h8, c6 q hq]; unfold clubSum; exact fb_sm_cong (fun z hz => by rw [hi (10 * z) (by omega), hi (10 * z + 9) (by omega)])
  · intro q hq; rw [h8] at hq; rw [hi _ (by omega), hi 313 (by omega)]; exact c7 q hq
  · rw [hi 313 (by omega)]; exact ⟨c8, c9.cg (hi 310 (by omega)) h8 (hj 317 (by omega)) (fun q hq => hi _ (by omega)) (fun q hq => hi _ (by omega))⟩
theorem IV_time {EB : Nat} {S : Nat → Nat} (hI : IV EB S) {k v : Nat} (hk : k < S 311) (ha : askB S k = true) (hv : v ≤ 1000) : IV EB (upN S (10 * k + tcol S) v) := by
  have hN := hI.wb.1
  have hask := of_decide_eq_true ha
  have htc := tcol_in S
  have hi : ∀ q, 300 ≤ q → upN S (10 * k + tcol S) v q = S q := fun q hq => upN_n (by omega)
  have hne : ∀ q a, a < 10 → a ≠ tcol S → upN S (10 * k + tcol S) v (10 * q + a) = S (10 * q + a) := fun q a h1 h2 => upN_n (by omega)
  have hB' : WB (upN S (10 * k + tcol S) v) := hI.wb.upk (by omega) (by omega) (by
    refine ⟨fun h => ?_, fun h => ?_, fun h => ?_, fun h => ?_, fun h => ?_, fun h => ?_, fun h => ?_, fun h => ?_⟩ <;> omega)
  have hne0 : ∀ q, upN S (10 * k + tcol S) v (10 * q) = S (10 * q) := fun q => hne q 0 (by omega) (by omega)
  refine ⟨hB', ?_, ?_, ?_, ?_, ?_, ?_, ?_⟩
  · intro q a1 a2 a a3 a4
    rw [hi 311 (by omega)] at a1
    rw [upN_n (by omega)]
    exact hI.out a1 a2 a3 a4
  · intro h
    rw [hi 310 (by omega)] at h
    omega
  · intro h q hq
    rw [hi 310 (by omega)] at h
    rw [hi 311 (by omega)] at hq
    have htc5 : tcol S = 5 := by unfold tcol; rw [if_pos h]
    have h1 := hI.s1 h q hq
    rw [hne q 2 (by omega) (by omega), hne q 3 (by omega) (by omega), hne q 6 (by omega) (by omega), hne q 7 (by omega) (by omega), hne q 8 (by omega) (by omega)]
    refine ⟨fun hg => ⟨(h1.1 hg).1, ?_⟩, h1.2⟩
    rw [htc5]
    by_cases e : q = k
    · subst e; omega
    · rw [upN_n (by omega)]; exact (h1.1 hg).2
  · intro h q hq
    rw [hi 310 (by omega)] at h
    rw [hi 311 (by omega)] at hq
    rw [hne q 2 (by omega) (by omega), hne q 6 (by omega) (by omega), hne q 8 (by omega) (by omega)]
    exact hI.s2 h q hq
  · intro q hq
    rw [hi (300 + q) (by omega), hI.cl hq, hi 311 (by omega)]
    unfold clubSum
    exact fb_sm_cong (fun z hz => by rw [hne0 z, hne z 9 (by omega) (by omega)])
  · intro q hq
    rw [hi 311 (by omega)] at hq
    rw [hne q 9 (by omega) (by omega), hi 313 (by omega)]
    exact hI.pt hq
  · rw [hi 313 (by omega)]
    refine ⟨hI.eb, fun h => ?_⟩
    rw [hi 310 (by omega)] at h
    obtain ⟨x, y⟩ := hI.iw h
    have htc7 : tcol S = 7 := by unfold tcol; rw [if_neg (by omega)]
    rw [hi 311 (by omega), hi 317 (by omega)]
    refine ⟨?_, fun q hq z => ?_⟩
    · rw [fb_ct_cong (q := inF S) (fun q hq => by unfold inF; rw [hne q 6 (by omega) (by omega)])]; exact x
    · rw [hne q 6 (by omega) (by omega)]
      by_cases e : q = k
      · subst e; omega
      · rw [upN_n (by omega)] at z; exact y q hq z
/-- what swimming a time makes of the memory -/
def Sswim (S : Nat → Nat) (k e : Nat) : Nat → Nat := if 0 < e ∧ (S 314 = 0 ∨ e < S 314) then upN (upN (upN S (10 * k + tcol S) (e + 1)) 314 e) 315 k else upN S (10 * k + tcol S) (e + 1)
theorem Sswim_310 {S : Nat → Nat} {k e : Nat} (hk : k < 30) : Sswim S k e 310 = S 310 := by
  have := tcol_in S
  unfold Sswim
  split
  · rw [upN_n (by omega), upN_n (by omega), upN_n (by omega)]
  · rw [upN_n (by omega)]
theorem Sswim_low {S : Nat → Nat} {k e q : Nat} (hq : q < 314) : Sswim S k e q = upN S (10 * k + tcol S) (e + 1) q := by
  unfold Sswim
  split
  · rw [upN_n (by omega), upN_n (by omega)]
  · rfl
theorem Sswim_IV {EB : Nat} {S : Nat → Nat} (hI : IV EB S) {k e : Nat} (hk : k < S 311) (ha : askB S k = true) (he : e ≤ 999) : IV EB (Sswim S k e) := by
  have hN := hI.wb.1
  have h1 := IV_time hI hk ha (v := e + 1) (by omega)
  unfold Sswim
  split
  · exact IV_hi (IV_hi h1 (by omega)) (by omega)
  · exact h1
theorem M_swim104 {w : gWd} {S : Nat → Nat} (hS : SV w S) (hB : WB S) {e : Nat} (he : e ≤ 999) : F_X12_swim_104 gFU w (nI e) 0 0 = some (if e = 0 then 100 else nI (ctF S e (S 311)), w) := by
  have hN := hB.1
  refine loopI (F := fun fu (acc : Nat) j => F_X12_swim_104 fu w (nI e) (nI acc) (nI j)) (S 311) (fun j acc => acc = ctF S e j) (fun r => r = some (if e = 0 then 100 else nI (ctF S e (S 311)), w)) ?_ ?_ gFU 0 0 (by omega) (gFU_lt (by omega)) rfl
  · intro fu acc hI
    show F_X12_swim_104 (fu + 1) w (nI e) (nI acc) (nI (S 311)) = _
    rw [F_X12_swim_104_s, hS 311 (by omega), iLe (by omega) (by omega), if_pos (Nat.le_refl _), iE0 (by omega), hI]
    split <;> rfl
  · intro fu acc j hj hI
    right
    refine ⟨_, rfl, ?_⟩
    show F_X12_swim_104 (fu + 1) w (nI e) (nI acc) (nI j) = F_X12_swim_104 fu w (nI e) _ (nI (j + 1))
    have hg := tcol_le hB (k := j) (by omega)
    have htc := tcol_in S
    unfold ctF at hI ⊢
    rw [F_X12_swim_104_s, hS 311 (by omega), iLe (by omega) (by omega), if_neg (by omega), M_timeNow hS hB, gP_s, M_of hS (by omega), gP_s, gS_e, fb_ct_succ, hI]
    unfold F_X12_swim_147
    by_cases e1 : 1 < S (10 * j + tcol S)
    · rw [if_neg (fun q => absurd ((mLe0 (by omega)).mp q) (by omega))]
      by_cases e2 : S (10 * j + tcol S) < e + 1
      · rw [if_neg (fun q => absurd ((mnLe (by omega) (by omega)).mp q) (by omega)), if_pos (by simp [e1, e2])]
        simp only [gS_e, nI_1]
      · rw [if_pos ((mnLe (by omega) (by omega)).mpr (by omega)), if_neg (by simp; omega)]
        simp only [gS_e, Int32.add_zero, Nat.add_zero, nI_1]
    · rw [if_pos ((mLe0 (by omega)).mpr (by omega)), if_neg (by simp [e1])]
      simp only [gS_e, Int32.add_zero, Nat.add_zero, nI_1]
theorem OK_swim {i EB : Nat} {S : Nat → Nat} (hI : IV EB S) (x1 x2 : Int32) : OK2 i (fun w => F_X1_giveTime w i x1 x2) (fun w => F_X12_swim w x1 x2) EB S := by
  have hB := hI.wb
  have hN := hB.1
  have hst := hB.2.1
  have hrc := hB.2.2.2.1
  have hm1 : (-1000001 : Int32) < 0 := by decide
  have hm2 : (-1000002 : Int32) < 0 := by decide
  by_cases a1 : x1 < 0 ∨ nI (S 311) ≤ x1
  · refine ⟨-1000001, Or.inl ⟨hm1, fun w hC _ => ?_, fun w hS => ?_⟩⟩
    · show F_X1_giveTime w i x1 x2 = _
      unfold F_X1_giveTime
      rw [C_has hC, if_pos a1, gP_s, if_pos rfl]
    · show F_X12_swim w x1 x2 = _
      unfold F_X12_swim
      rw [M_isSw hS hB, if_pos a1, gP_s, if_pos rfl]
  obtain ⟨k, hk, rfl⟩ := arg_lt (by omega) (fun z => a1 (Or.inl z)) (fun z => a1 (Or.inr z))
  rcases time_cases x2 with ⟨e, he, rfl⟩ | hx2
  · have he9 : e ≤ 999 := by omega
    have hM : ∀ w, SV w S → F_X12_swim w (nI k) (nI e) = F_X12_swim_27 w (nI k) (nI e) := by
      intro w hS
      unfold F_X12_swim
      rw [M_isSw hS hB, if_neg a1, gP_s, if_neg (by decide), iE0 (by omega)]
      by_cases h0 : e = 0
      · rw [if_pos h0]
      · rw [if_neg h0, M_time_t (by omega), gP_s, if_neg (by decide)]
    have hgk := (hB.k (k := k) (by omega)).2.2.1
    by_cases ha : askB S k = true
    · have hask := of_decide_eq_true ha
      have htc := tcol_in S
      -- the answer
      refine ⟨if e = 0 then 100 else nI (ctF (Sswim S k e) e (S 311)), Or.inr ⟨?_, Sswim S k e, (Sswim_IV hI hk ha he9).mono (by omega), fun w hC hR => ?_, fun w wc hS hch hag => ?_⟩⟩
      · split
        · decide
        · have := fb_ct_le (fun q => decide (1 < Sswim S k e (10 * q + tcol (Sswim S k e))) && decide (Sswim S k e (10 * q + tcol (Sswim S k e)) < e + 1)) (S 311)
          exact nI_pos' (by unfold ctF; omega)
      · show ∃ w', F_X1_giveTime w i (nI k) (nI e) = _ ∧ _
        have hIV := Sswim_IV hI hk ha he9
        have hCt : CV (up3 w i (4 + k) (tcol S + 1) (nI e) i) (upN S (10 * k + tcol S) (e + 1)) := hC.upk (by omega) (by omega) (by
          have : enc (tcol S) (e + 1) = nI (e + 1) - 1 := by unfold enc; rw [if_pos (by omega)]
          rw [this, nI_pred])
        have h1 : F_X1_giveTime w i (nI k) (nI e) = F_X1_giveTime_64 (up3 w i (4 + k) (tcol S + 1) (nI e)) i (nI k) (nI e) := by
          unfold F_X1_giveTime
          rw [C_hasN hC hB hk, gP_s, if_neg (by decide), C_time_t he, gP_s, if_neg (by decide), gB_n _ (by omega) (by omega), hC.f3 hk, iE0 (by omega), if_pos hask.1, C_swimsNow hI hC hk, if_pos ha, gP_s, iE0 (by omega), if_neg (by omega), hC.st, iE1 (by omega)]
          unfold tcol
          by_cases z : S 310 = 1
          · rw [if_pos z, if_pos z, gS_e]
          · rw [if_neg z, if_neg z, gS_e]
        rw [h1]
        unfold F_X1_giveTime_64
        rw [iE0 (by omega)]
        have hRt : ∀ S', (∀ q, q < 314 → S' q = upN S (10 * k + tcol S) (e + 1) q) → ∀ u : gWd, u i 0 6 = w i 0 6 → u i 3 = w i 3 → RV (u i) S' := by
          intro S' hS' u h6 h3
          exact hR.cg h6 h3 (by rw [hS' 311 (by omega), upN_n (by omega)]; exact Nat.le_refl _) (fun p hp => by rw [hS' _ (by omega), upN_n (by omega)]) (fun q hq => ⟨by rw [hS' _ (by omega), upN_n (by omega)], by rw [hS' _ (by omega), upN_n (by omega)]⟩) (fun h => by rw [hS' 310 (by omega), upN_n (by omega)] at h; exact h)
        by_cases e0 : e = 0
        · rw [if_pos e0, if_pos e0]
          have hs : Sswim S k e = upN S (10 * k + tcol S) (e + 1) := by unfold Sswim; rw [if_neg (by omega)]
          exact ⟨_, rfl, agB.up _ _ _, by rw [hs]; exact hCt, hRt _ (fun q hq => by rw [hs]) _ (up3_n (by omega)) (up3_r (by omega))⟩
        · rw [if_neg e0, if_neg e0]
          unfold F_X1_noteRecord F_X1_noteRecord_15
          have hr9 : up3 w i (4 + k) (tcol S + 1) (nI e) i 0 9 = nI (S 314) := by rw [up3_n (by omega)]; exact hC.rc
          rw [hr9, iE0 (by omega), iLe (by omega) (by omega)]
          by_cases er : S 314 = 0 ∨ e < S 314
          · have hs : Sswim S k e = upN (upN (upN S (10 * k + tcol S) (e + 1)) 314 e) 315 k := by unfold Sswim; rw [if_pos ⟨by omega, er⟩]
            have hC2 : CV (up3 (up3 (up3 w i (4 + k) (tcol S + 1) (nI e)) i 0 9 (nI e)) i 0 10 (nI k) i) (Sswim S k e) := by
              rw [hs]
              exact (hCt.up0 (j := 9) (t := 314) (by rw [upN_n (by omega)]; exact hN) (by omega)).up0 (j := 10) (t := 315) (by rw [upN_n (by omega), upN_n (by omega)]; exact hN) (by omega)
            have hif : ∀ {α : Type} (a b : α), (if S 314 = 0 then a else if S 314 ≤ e then b else a) = a := by
              intro α a b
              by_cases z : S 314 = 0
              · rw [if_pos z]
              · rw [if_neg z, if_neg (by omega)]
            rw [hif, gS_e, gS_e, gP_s, C_faster hC2 hIV.wb (by omega), gP_s, Sswim_low (by omega), upN_n (by omega)]
            exact ⟨_, rfl, (agB.up _ _ _).tr ((agB.up _ _ _).tr (agB.up _ _ _)), hC2, hRt _ (fun q hq => Sswim_low hq) _ (by rw [up3_n (by omega), up3_n (by omega), up3_n (by omega)]) (by rw [up3_r (by omega), up3_r (by omega), up3_r (by omega)])⟩
          · have hs : Sswim S k e = upN S (10 * k + tcol S) (e + 1) := by unfold Sswim; rw [if_neg (fun z => er z.2)]
            rw [if_neg (by omega), if_pos (by omega), gP_s]
            rw [← hs] at hCt
            rw [C_faster hCt hIV.wb (by omega), gP_s, Sswim_low (by omega), upN_n (by omega)]
            exact ⟨_, rfl, agB.up _ _ _, hCt, hRt _ (fun q hq => Sswim_low hq) _ (up3_n (by omega)) (up3_r (by omega))⟩
      · show ∃ w', F_X12_swim w (nI k) (nI e) = _ ∧ _
        have hSc := hag.sv hS
        have hIV := Sswim_IV hI hk ha he9
        rw [hM w hS]
        unfold F_X12_swim_27 F_X12_swim_81
        have hS1 := hSc.up (10 * k + tcol S) (e + 1)
        have h14 : up3 wc 8 1 (10 * k + tcol S) (nI (e + 1)) 8 1 314 = nI (S 314) := by rw [hS1 314 (by omega), upN_n (by omega)]
        rw [M_isAsked hS hB (by omega), if_pos ha, gP_s, iE0 (by omega), if_neg (by omega), hch, gP_s, M_timeNow hSc hB, gP_s, M_lay (by omega), gP_s, nI_1, iLe0 (by omega), h14, iE0 (by omega), iLe (by omega) (by omega), gS_e, gS_e]
        by_cases er : 0 < e ∧ (S 314 = 0 ∨ e < S 314)
        · have hs : Sswim S k e = upN (upN (upN S (10 * k + tcol S) (e + 1)) 314 e) 315 k := by unfold Sswim; rw [if_pos er]
          have hS3 : SV (up3 (up3 (up3 wc 8 1 (10 * k + tcol S) (nI (e + 1))) 8 1 314 (nI e)) 8 1 315 (nI k)) (Sswim S k e) := by rw [hs]; exact (hS1.up 314 e).up 315 k
          have hif : ∀ {α : Type} (a b : α), (if e = 0 then a else if S 314 = 0 then b else if S 314 ≤ e then a else b) = b := by
            intro α a b
            rw [if_neg (by omega)]
            by_cases z : S 314 = 0
            · rw [if_pos z]
            · rw [if_neg z, if_neg (by omega)]
          rw [hif, M_swim104 hS3 hIV.wb he9, Sswim_low (by omega), upN_n (by omega)]
          exact ⟨_, rfl, (ag1.up _ _).tr ((ag1.up _ _).tr (ag1.up _ _)), hS3⟩
        · have hs : Sswim S k e = upN S (10 * k + tcol S) (e + 1) := by unfold Sswim; rw [if_neg er]
          rw [← hs] at hS1
          have hif : ∀ {α : Type} (a b : α), (if e = 0 then a else if S 314 = 0 then b else if S 314 ≤ e then a else b) = a := by
            intro α a b
            by_cases z : e = 0
            · rw [if_pos z]
            · rw [if_neg z, if_neg (by omega), if_pos (by omega)]
          rw [hif, M_swim104 hS1 hIV.wb he9, Sswim_low (by omega), upN_n (by omega)]
          exact ⟨_, rfl, ag1.up _ _, hS1⟩
    · refine ⟨-1000002, Or.inl ⟨hm2, fun w hC _ => ?_, fun w hS => ?_⟩⟩
      · show F_X1_giveTime w i (nI k) (nI e) = _
        unfold F_X1_giveTime
        rw [C_hasN hC hB hk, gP_s, if_neg (by decide), C_time_t he, gP_s, if_neg (by decide), gB_n _ (by omega) (by omega), hC.f3 hk, iE0 (by omega), C_swimsNow hI hC hk, if_neg ha, gP_s]
        by_cases z : S (10 * k + 2) = 0
        · rw [if_pos z, if_pos (by rfl)]
        · rw [if_neg z]
      · show F_X12_swim w (nI k) (nI e) = _
        rw [hM w hS]
        unfold F_X12_swim_27
        rw [M_isAsked hS hB (by omega), if_neg ha, gP_s, if_pos (by rfl)]
  · refine ⟨-1000001, Or.inl ⟨hm1, fun w hC _ => ?_, fun w hS => ?_⟩⟩
    · show F_X1_giveTime w i _ x2 = _
      unfold F_X1_giveTime
      rw [C_hasN hC hB hk, gP_s, if_neg (by decide), C_time_f hx2, gP_s, if_pos rfl]
    · show F_X12_swim w _ x2 = _
      unfold F_X12_swim
      rw [M_isSw hS hB, if_neg a1, gP_s, if_neg (by decide), if_neg hx2.1, M_time_f hx2.2, gP_s, if_pos rfl]
end
section
/-! level 2: the reserves, who scratches -/
def rsv (S : Nat → Nat) (p : Nat) : Bool := decide (S (306 + p) ≠ 0 ∧ S (10 * (S (306 + p) - 1) + 2) = 0)
theorem WB.r {S : Nat → Nat} (h : WB S) {p : Nat} (hp : p < 4) : S (306 + p) ≤ 30 := h.2.2.2.2.2.2.2.2.1 p hp
theorem C_canBe {w : gWd} {S : Nat → Nat} {i k : Nat} (hC : CV (w i) S) (hB : WB S) (hk : k < S 311) : F_X5_canBeCalled w i (nI k) = some (nI (if S (10 * k + 2) = 0 ∧ S (10 * k + 6) = 0 then 1 else 0)) := by
  have hN := hB.1
  have h := hB.k (k := k) (by omega)
  unfold F_X5_canBeCalled F_X5_canBeCalled_36
  rw [C_hasN hC hB hk, gP_s, if_neg (by decide), gB_n _ (by omega) (by omega), gB_n _ (by omega) (by omega), hC.f3 hk, hC.f7 hk, iE0 (by omega), iE0 (by omega)]
  by_cases e : S (10 * k + 2) = 0
  · rw [if_pos e]
    by_cases e2 : S (10 * k + 6) = 0
    · rw [if_pos e2, if_pos ⟨e, e2⟩]; rfl
    · rw [if_neg e2, if_neg (fun z => e2 z.2)]; rfl
  · rw [if_neg e, if_neg (fun z => e z.1)]; rfl
theorem RV.can {w : gWd} {S : Nat → Nat} {i : Nat} (hC : CV (w i) S) (hR : RV (w i) S) (hB : WB S) : ∃ n, n ≤ 4 ∧ w i 0 6 = nI n ∧ (∀ p, n ≤ p → p < 4 → rsv S p = false) ∧ ∀ p, p < n → F_X5_canBeCalled w i (w i 3 p) = some (nI (if rsv S p = true then 1 else 0)) ∧ (rsv S p = true → w i 3 p = nI (S (306 + p) - 1)) := by
  obtain ⟨n, q, h1, h2, h4, h5, h7, h8⟩ := hR
  refine ⟨n, h1, h2, fun p a b => by simp [rsv, h5 p a b], fun p hp => ?_⟩
  obtain ⟨a1, a2, a3, a4⟩ := h4 p hp
  rw [a1, C_canBe hC hB a2]
  by_cases e : S (306 + p) = 0
  · have hf : rsv S p = false := by simp [rsv, e]
    have := a3 e
    rw [hf, if_neg (by omega)]
    exact ⟨rfl, fun z => absurd z (by decide)⟩
  · obtain ⟨b1, b2⟩ := a4 e
    have hq : S (306 + p) - 1 = q p := by omega
    have hf : rsv S p = decide (S (10 * q p + 2) = 0) := by simp [rsv, e, hq]
    rw [hf, hq]
    by_cases e2 : S (10 * q p + 2) = 0
    · rw [if_pos ⟨e2, b2⟩, if_pos (by simp [e2])]; exact ⟨rfl, fun _ => rfl⟩
    · rw [if_neg (fun z => e2 z.1), if_neg (by simp [e2])]; exact ⟨rfl, fun _ => rfl⟩
/-- the free reserve before whom r are free -/
theorem C_free {w : gWd} {S : Nat → Nat} {i r : Nat} (hC : CV (w i) S) (hR : RV (w i) S) (hB : WB S) (hr : r < 2 ^ 31) : (∀ p, p < 4 → rsv S p = true → fb_ct (rsv S) p = r → F_X5_freeReserve w i (nI r) = some (nI (S (306 + p) - 1))) ∧ (fb_ct (rsv S) 4 ≤ r → F_X5_freeReserve w i (nI r) = some (-1000004)) := by
  obtain ⟨n, hn, h6, hz, hp⟩ := RV.can hC hR hB
  have hend : fb_ct (rsv S) 4 = fb_ct (rsv S) n := by
    have := fb_ct_split (rsv S) n (4 - n)
    rw [show n + (4 - n) = 4 by omega] at this
    rw [this, fb_ct_zero.mpr (fun k hk => hz (n + k) (by omega) (by omega)), Nat.add_zero]
  have key : (∃ p, p < n ∧ rsv S p = true ∧ fb_ct (rsv S) p = r ∧ F_X5_freeReserve w i (nI r) = some (nI (S (306 + p) - 1))) ∨ (fb_ct (rsv S) n ≤ r ∧ F_X5_freeReserve w i (nI r) = some (-1000004)) := by
    unfold F_X5_freeReserve
    refine loopI (F := fun fu (acc : Nat) j => F_X5_freeReserve_4 fu w i (nI r) (nI acc) (nI j)) n (fun j acc => acc = fb_ct (rsv S) j ∧ acc ≤ r) (fun o => (∃ p, p < n ∧ rsv S p = true ∧ fb_ct (rsv S) p = r ∧ o = some (nI (S (306 + p) - 1))) ∨ (fb_ct (rsv S) n ≤ r ∧ o = some (-1000004))) ?_ ?_ gFU 0 0 (by omega) (gFU_lt (by omega)) ⟨rfl, by omega⟩
    · intro fu acc hI
      right
      refine ⟨by omega, ?_⟩
      show F_X5_freeReserve_4 (fu + 1) w i (nI r) (nI acc) (nI n) = _
      rw [F_X5_freeReserve_4_s, h6, iLe (by omega) (by omega), if_pos (Nat.le_refl _)]
    · intro fu acc j hj hI
      have e0 : F_X5_freeReserve_4 (fu + 1) w i (nI r) (nI acc) (nI j) = if rsv S j = true then (if acc = r then some (w i 3 j) else F_X5_freeReserve_4 fu w i (nI r) (nI (acc + 1)) (nI (j + 1))) else F_X5_freeReserve_4 fu w i (nI r) (nI acc) (nI (j + 1)) := by
        rw [F_X5_freeReserve_4_s, h6, iLe (by omega) (by omega), if_neg (by omega), show (4 : Int32) = nI 4 from rfl, iLe (by omega) (by omega), if_neg (by omega), gB_n _ (by omega) (by omega), (hp j hj).1, gP_s, gB_n _ (by omega) (by omega), iEq (by omega) (by omega)]
        by_cases e : rsv S j = true
        · rw [if_pos e, iE0 (by omega), if_neg (by omega), if_pos e]
          simp only [gS_e, nI_1]
        · rw [if_neg e, iE0 (by omega), if_pos rfl, if_neg e]
          simp only [gS_e, nI_1]
      show (_ ∨ ∃ st', _ ∧ F_X5_freeReserve_4 (fu + 1) w i (nI r) (nI acc) (nI j) = F_X5_freeReserve_4 fu w i (nI r) (nI st') (nI (j + 1)))
      by_cases e : rsv S j = true
      · by_cases e2 : acc = r
        · left
          left
          refine ⟨j, hj, e, by omega, ?_⟩
          show F_X5_freeReserve_4 (fu + 1) w i (nI r) (nI acc) (nI j) = _
          rw [e0, if_pos e, if_pos e2, (hp j hj).2 e]
        · right
          refine ⟨acc + 1, ⟨by rw [fb_ct_succ, if_pos e]; omega, by omega⟩, ?_⟩
          rw [e0, if_pos e, if_neg e2]
      · right
        refine ⟨acc, ⟨by rw [fb_ct_succ, if_neg e]; omega, by omega⟩, ?_⟩
        rw [e0, if_neg e]
  refine ⟨fun p hp4 hf hc => ?_, fun hc => ?_⟩
  · rcases key with ⟨p', h1, h2, h3, h4⟩ | ⟨h1, h2⟩
    · have : p' = p := fb_ct_kth_one h2 hf (by omega)
      rw [h4, this]
    · exfalso
      have a1 : p < n := by
        rcases Nat.lt_or_ge p n with z | z
        · exact z
        · rw [hz p z hp4] at hf; cases hf
      have := fb_ct_mono (rsv S) (m := p + 1) (n := n) (by omega)
      rw [fb_ct_succ, if_pos hf] at this
      omega
  · rcases key with ⟨p', h1, h2, h3, h4⟩ | ⟨h1, h2⟩
    · exfalso
      have := fb_ct_mono (rsv S) (m := p' + 1) (n := n) (by omega)
      rw [fb_ct_succ, if_pos h2] at this
      omega
    · exact h2
theorem M_first {w : gWd} {S : Nat → Nat} (hS : SV w S) (hB : WB S) : (∀ p, p < 4 → rsv S p = true → fb_ct (rsv S) p = 0 → F_X12_firstReserve w = some (nI p)) ∧ (fb_ct (rsv S) 4 = 0 → F_X12_firstReserve w = some (-1000004)) := by
  have key : (∃ p, p < 4 ∧ rsv S p = true ∧ fb_ct (rsv S) p = 0 ∧ F_X12_firstReserve w = some (nI p)) ∨ (fb_ct (rsv S) 4 = 0 ∧ F_X12_firstReserve w = some (-1000004)) := by
    unfold F_X12_firstReserve
    refine loopI (F := fun fu (_ : Unit) j => F_X12_firstReserve_2 fu w (nI j)) 4 (fun j _ => fb_ct (rsv S) j = 0) (fun o => (∃ p, p < 4 ∧ rsv S p = true ∧ fb_ct (rsv S) p = 0 ∧ o = some (nI p)) ∨ (fb_ct (rsv S) 4 = 0 ∧ o = some (-1000004))) ?_ ?_ gFU () 0 (by omega) (gFU_lt (by omega)) rfl
    · intro fu _ hI
      right
      refine ⟨hI, ?_⟩
      show F_X12_firstReserve_2 (fu + 1) w (nI 4) = _
      rw [F_X12_firstReserve_2_s]
      rfl
    · intro fu _ j hj hI
      have hr := hB.r hj
      have e0 : F_X12_firstReserve_2 (fu + 1) w (nI j) = if rsv S j = true then some (nI j) else F_X12_firstReserve_2 fu w (nI (j + 1)) := by
        rw [F_X12_firstReserve_2_s, show (4 : Int32) = nI 4 from rfl, iLe (by omega) (by omega), if_neg (by omega), show (306 : Int32) = nI 306 from rfl, nI_add, gB_n _ (by omega) (by omega), gB_n _ (by omega) (by omega), hS _ (by omega), iLe0 (by omega)]
        by_cases e : S (306 + j) = 0
        · rw [if_pos e, if_neg (by simp [rsv, e])]
          simp only [gS_e, nI_1]
        · have hg := (hB.k (k := S (306 + j) - 1) (by omega)).2.2.1
          rw [if_neg e, mN (by omega) (by omega), M_isGone hS hB (by omega), gP_s, iE0 (by omega)]
          by_cases e2 : S (10 * (S (306 + j) - 1) + 2) = 0
          · rw [if_pos e2, if_pos (by simp [rsv, e, e2])]
          · rw [if_neg e2, if_neg (by simp [rsv, e2])]
            simp only [gS_e, nI_1]
      by_cases e : rsv S j = true
      · left
        left
        refine ⟨j, hj, e, hI, ?_⟩
        show F_X12_firstReserve_2 (fu + 1) w (nI j) = _
        rw [e0, if_pos e]
      · right
        refine ⟨(), by rw [fb_ct_succ, if_neg e, hI], ?_⟩
        show F_X12_firstReserve_2 (fu + 1) w (nI j) = F_X12_firstReserve_2 fu w (nI (j + 1))
        rw [e0, if_neg e]
  refine ⟨fun p hp4 hf hc => ?_, fun hc => ?_⟩
  · rcases key with ⟨p', h1, h2, h3, h4⟩ | ⟨h1, h2⟩
    · have : p' = p := fb_ct_kth_one h2 hf (by omega)
      rw [h4, this]
    · exfalso
      rw [fb_ct_zero] at h1
      rw [h1 p hp4] at hf
      cases hf
  · rcases key with ⟨p', h1, h2, h3, h4⟩ | ⟨h1, h2⟩
    · exfalso
      rw [fb_ct_zero] at hc
      rw [hc p' h1] at h2
      cases h2
    · exact h2
theorem IV_cell {EB : Nat} {S : Nat → Nat} (hI : IV EB S) {k a v : Nat} (hk : k < S 311) (ha : 2 ≤ a ∧ a < 9) (hv : okv a v)
  (h0 : S 310 = 0 → a = 2 ∨ v = 0)
  (h1 : S 310 = 1 → (a = 2 → v = 1 → S (10 * k + 3) = 0 ∧ S (10 * k + 5) = 0) ∧ (a = 3 ∨ a = 5 ∨ a = 6 ∨ a = 7 ∨ a = 8 → v = 0))
  (h2 : S 310 = 2 → (a = 2 → S (10 * k + 6) ≠ 0 → v = 0) ∧ (a = 6 → v ≠ 0 → S (10 * k + 2) = 0) ∧ (a = 8 → v = 0))
  (h3 : S 310 = 2 → (a = 6 → (v ≠ 0 → fb_ct (inF S) (S 311) + 1 ≤ S 317) ∧ (v = 0 → S (10 * k + 7) = 0)) ∧ (a = 7 → v ≠ 0 → S (10 * k + 6) ≠ 0)) : IV EB (upN S (10 * k + a) v) := by
  have hN := hI.wb.1
  have hi : ∀ q, 300 ≤ q → upN S (10 * k + a) v q = S q := fun q hq => upN_n (by omega)
  have hq : ∀ q b, b < 10 → (q ≠ k ∨ b ≠ a) → upN S (10 * k + a) v (10 * q + b) = S (10 * q + b) := fun q b h3 h4 => upN_n (by omega)
  have hq0 : ∀ q, upN S (10 * k + a) v (10 * q) = S (10 * q) := fun q => hq q 0 (by omega) (by omega)
  have hs : upN S (10 * k + a) v (10 * k + a) = v := upN_s _ _ _
  refine ⟨hI.wb.upk (by omega) (by omega) hv, ?_, ?_, ?_, ?_, ?_, ?_, ?_⟩
  · intro q b1 b2 b b3 b4
    rw [hi 311 (by omega)] at b1
    rw [hq q b b4 (by omega)]
    exact hI.out b1 b2 b3 b4
  · intro h
    rw [hi 310 (by omega)] at h
    rw [hi 312 (by omega), hi 311 (by omega)]
    refine ⟨(hI.s0 h).1, fun q hq1 b b3 b4 => ?_⟩
    by_cases e : q = k ∧ b = a
    · obtain ⟨rfl, rfl⟩ := e
      rw [hs]
      have := h0 h
      omega
    · rw [hq q b (by omega) (by omega)]
      exact (hI.s0 h).2 q hq1 b b3 b4
  · intro h q hq1
    rw [hi 310 (by omega)] at h
    rw [hi 311 (by omega)] at hq1
    have g := hI.s1 h q hq1
    obtain ⟨g1, g2⟩ := h1 h
    by_cases e : q = k
    · subst e
      refine ⟨fun hg => ?_, ?_, ?_, ?_⟩
      · by_cases a2 : a = 2
        · subst a2
          rw [hs] at hg
          rw [hq q 3 (by omega) (by omega), hq q 5 (by omega) (by omega)]
          exact g1 rfl hg
        · rw [hq q 2 (by omega) (by omega)] at hg
          have := g.1 hg
          refine ⟨?_, ?_⟩
          · by_cases a3 : a = 3
            · subst a3; rw [hs]; exact g2 (by omega)
            · rw [hq q 3 (by omega) (by omega)]; exact this.1
          · by_cases a3 : a = 5
            · subst a3; rw [hs]; exact g2 (by omega)
            · rw [hq q 5 (by omega) (by omega)]; exact this.2
      · by_cases a3 : a = 6
        · subst a3; rw [hs]; exact g2 (by omega)
        · rw [hq q 6 (by omega) (by omega)]; exact g.2.1
      · by_cases a3 : a = 7
        · subst a3; rw [hs]; exact g2 (by omega)
        · rw [hq q 7 (by omega) (by omega)]; exact g.2.2.1
      · by_cases a3 : a = 8
        · subst a3; rw [hs]; exact g2 (by omega)
        · rw [hq q 8 (by omega) (by omega)]; exact g.2.2.2
    · rw [hq q 2 (by omega) (by omega), hq q 3 (by omega) (by omega), hq q 5 (by omega) (by omega), hq q 6 (by omega) (by omega), hq q 7 (by omega) (by omega), hq q 8 (by omega) (by omega)]
      exact g
  · intro h q hq1
    rw [hi 310 (by omega)] at h
    rw [hi 311 (by omega)] at hq1
    have g := hI.s2 h q hq1
    obtain ⟨g1, g2, g3⟩ := h2 h
    by_cases e : q = k
    · subst e
      refine ⟨fun hg => ?_, ?_⟩
      · by_cases a2 : a = 2
        · subst a2
          rw [hq q 6 (by omega) (by omega)] at hg
          rw [hs]
          exact g1 rfl hg
        · rw [hq q 2 (by omega) (by omega)]
          by_cases a6 : a = 6
          · subst a6; rw [hs] at hg; exact g2 rfl hg
          · rw [hq q 6 (by omega) (by omega)] at hg; exact g.1 hg
      · by_cases a8 : a = 8
        · subst a8; rw [hs]; exact g3 rfl
        · rw [hq q 8 (by omega) (by omega)]; exact g.2
    · rw [hq q 2 (by omega) (by omega), hq q 6 (by omega) (by omega), hq q 8 (by omega) (by omega)]
      exact g
  · intro q hq1
    rw [hi _ (by omega), hI.cl hq1, hi 311 (by omega)]
    unfold clubSum
    exact fb_sm_cong (fun z _ => by rw [hq0 z, hq z 9 (by omega) (by omega)])
  · intro q hq1
    rw [hi 311 (by omega)] at hq1
    rw [hq q 9 (by omega) (by omega), hi 313 (by omega)]
    exact hI.pt hq1
  · rw [hi 313 (by omega)]
    refine ⟨hI.eb, fun h => ?_⟩
    rw [hi 310 (by omega)] at h
    obtain ⟨x, y⟩ := hI.iw h
    obtain ⟨z6, z7⟩ := h3 h
    rw [hi 311 (by omega), hi 317 (by omega)]
    by_cases a6 : a = 6
    · subst a6
      obtain ⟨z6a, z6b⟩ := z6 rfl
      refine ⟨?_, fun q hq z => ?_⟩
      · have e := fb_ct_upd (inF S) (decide (v ≠ 0)) (i := k) (n := S 311) hk
        rw [fb_ct_cong (q := fun q => if q = k then decide (v ≠ 0) else inF S q) (fun q hq => by
          unfold inF
          by_cases e : q = k
          · subst e; rw [if_pos rfl, upN_s]
          · rw [if_neg e, upN_n (by omega)])]
        by_cases v0 : v = 0
        · subst v0
          have : decide ((0 : Nat) ≠ 0) = false := rfl
          rw [this] at e ⊢
          have e' : fb_ct (fun q => if q = k then false else inF S q) (S 311) + (if inF S k = true then 1 else 0) = fb_ct (inF S) (S 311) := e
          omega
        · have := z6a v0
          have e1 : decide (v ≠ 0) = true := decide_eq_true v0
          rw [e1] at e ⊢
          have e' : fb_ct (fun q => if q = k then true else inF S q) (S 311) + (if inF S k = true then 1 else 0) = fb_ct (inF S) (S 311) + 1 := e
          omega
      · rw [upN_n (by omega)] at z
        by_cases e : q = k
        · subst e
          rw [upN_s]
          intro v0
          exact z (z6b v0)
        · rw [upN_n (by omega)]; exact y q hq z
    · refine ⟨?_, fun q hq' z => ?_⟩
      · rw [fb_ct_cong (q := inF S) (fun q _ => by unfold inF; rw [hq q 6 (by omega) (by omega)])]; exact x
      · rw [hq q 6 (by omega) (by omega)]
        by_cases e : q = k ∧ a = 7
        · obtain ⟨rfl, rfl⟩ := e
          rw [upN_s] at z
          exact z7 rfl z
        · rw [hq q 7 (by omega) (by omega)] at z; exact y q hq' z
theorem IV_res {EB : Nat} {S : Nat → Nat} (hI : IV EB S) {p v : Nat} (hp : p < 4) (hv : v ≤ 30) : IV EB (upN S (306 + p) v) := by
  have hk : ∀ q a, q < 30 → a < 10 → upN S (306 + p) v (10 * q + a) = S (10 * q + a) := fun q a h1 h2 => upN_n (by omega)
  have hi : ∀ q, 310 ≤ q ∨ q < 306 → upN S (306 + p) v q = S q := fun q hq => upN_n (by omega)
  have h8 := hi 311 (by omega)
  obtain ⟨⟨b1, b2, b3, b4, b5, b6, b7, b8, b9, b10⟩, c2, c3, c4, c5, c6, c7, c8, c9⟩ := hI
  refine ⟨⟨by rw [h8]; exact b1, by rw [hi 310 (by omega)]; exact b2, by rw [hi 312 (by omega)]; exact b3, by rw [hi 314 (by omega)]; exact b4, by rw [hi 315 (by omega)]; exact b5, by rw [hi 317 (by omega)]; exact b6, by rw [hi 318 (by omega)]; exact b7, by rw [hi 319 (by omega)]; exact b8, fun q hq => ?_, fun q hq a ha => by rw [hk q a hq ha]; exact b10 q hq a ha⟩, ?_, ?_, ?_, ?_, ?_, ?_, ?_⟩
  · by_cases e : q = p
    · subst e; rw [upN_s]; exact hv
    · rw [upN_n (by omega)]; exact b9 q hq
  · intro q a1 a2 a a3 a4; rw [h8] at a1; rw [hk q a a2 a4]; exact c2 q a1 a2 a a3 a4
  · intro h; rw [hi 310 (by omega)] at h; rw [hi 312 (by omega), h8]; exact ⟨(c3 h).1, fun q hq a a3 a4 => by rw [hk q a (by omega) (by omega)]; exact (c3 h).2 q hq a a3 a4⟩
  · intro h q hq; rw [hi 310 (by omega)] at h; rw [h8] at hq; rw [hk q 2 (by omega) (by omega), hk q 3 (by omega) (by omega), hk q 5 (by omega) (by omega), hk q 6 (by omega) (by omega), hk q 7 (by omega) (by omega), hk q 8 (by omega) (by omega)]; exact c4 h q hq
  · intro h q hq; rw [hi 310 (by omega)] at h; rw [h8] at hq; rw [hk q 2 (by omega) (by omega), hk q 6 (by omega) (by omega), hk q 8 (by omega) (by omega)]; exact c5 h q hq
  · intro q hq; rw [hi _ (by omega), h8, c6 q hq]; unfold clubSum; exact fb_sm_cong (fun z hz => by rw [show upN S (306 + p) v (10 * z) = S (10 * z) from hk z 0 (by omega) (by omega), hk z 9 (by omega) (by omega)])
  · intro q hq; rw [h8] at hq; rw [hk q 9 (by omega) (by omega), hi 313 (by omega)]; exact c7 q hq
  · rw [hi 313 (by omega)]; exact ⟨c8, c9.cg (hi 310 (by omega)) h8 (hi 317 (by omega)) (fun q hq => hk q 6 (by omega) (by omega)) (fun q hq => hk q 7 (by omega) (by omega))⟩
end
section
/-! level 2: who scratches -/
theorem upN_comm {S : Nat → Nat} {a b u v : Nat} (h : a ≠ b) : upN (upN S a u) b v = upN (upN S b v) a u := by
  funext q
  unfold upN
  by_cases e : q = a
  · rw [if_pos e, if_neg (by omega), if_pos e]
  · rw [if_neg e, if_neg e]
def Sgo (S : Nat → Nat) (k : Nat) : Nat → Nat := upN S (10 * k + 2) 1
def Sgo1 (S : Nat → Nat) (k : Nat) : Nat → Nat := upN (upN (upN (Sgo S k) (10 * k + 3) 0) (10 * k + 4) 0) (10 * k + 5) 0
def Sgo2 (S : Nat → Nat) (k : Nat) : Nat → Nat := upN (upN (Sgo S k) (10 * k + 6) 0) (10 * k + 7) 0
def Sgo3 (S : Nat → Nat) (k p : Nat) : Nat → Nat := upN (upN (upN (Sgo2 S k) (306 + p) 0) 316 (S 316 + 1)) (10 * (S (306 + p) - 1) + 6) (S (10 * k + 6))
theorem okv2 {a : Nat} (h : 2 ≤ a) : okv a 0 := by refine ⟨?_, ?_, ?_, ?_, ?_, ?_, ?_, ?_⟩ <;> omega
theorem okv21 : okv 2 1 := by refine ⟨?_, ?_, ?_, ?_, ?_, ?_, ?_, ?_⟩ <;> omega
theorem Sgo1_IV {EB : Nat} {S : Nat → Nat} (hI : IV EB S) {k : Nat} (hk : k < S 311) (h1 : S 310 = 1) : IV EB (Sgo1 S k) := by
  have e : Sgo1 S k = upN (upN (upN (upN S (10 * k + 3) 0) (10 * k + 4) 0) (10 * k + 5) 0) (10 * k + 2) 1 := by
    unfold Sgo1 Sgo
    rw [upN_comm (a := 10 * k + 2) (b := 10 * k + 3) (by omega), upN_comm (a := 10 * k + 2) (b := 10 * k + 4) (by omega), upN_comm (a := 10 * k + 2) (b := 10 * k + 5) (by omega)]
  have hN := hI.wb.1
  rw [e]
  have i1 := IV_cell hI (k := k) (a := 3) (v := 0) hk (by omega) (okv2 (by omega)) (by omega) (by omega) (by omega) (by omega)
  have i2 := IV_cell i1 (k := k) (a := 4) (v := 0) (by rw [upN_n (by omega)]; exact hk) (by omega) (okv2 (by omega)) (by omega) (by omega) (by omega) (by omega)
  have i3 := IV_cell i2 (k := k) (a := 5) (v := 0) (by rw [upN_n (by omega), upN_n (by omega)]; exact hk) (by omega) (okv2 (by omega)) (by omega) (by omega) (by omega) (by omega)
  refine IV_cell i3 (k := k) (a := 2) (v := 1) (by rw [upN_n (by omega), upN_n (by omega), upN_n (by omega)]; exact hk) (by omega) okv21 (by omega) (fun _ => ⟨fun _ _ => ⟨?_, upN_s _ _ _⟩, by omega⟩) (fun z => ?_) (by omega)
  · rw [upN_n (by omega), upN_n (by omega), upN_s]
  · rw [upN_n (by omega), upN_n (by omega), upN_n (by omega)] at z
    omega
theorem Sgo_IV {EB : Nat} {S : Nat → Nat} (hI : IV EB S) {k : Nat} (hk : k < S 311) (h1 : S 310 ≠ 1) (h6 : S (10 * k + 6) = 0) : IV EB (Sgo S k) :=
  IV_cell hI (k := k) (a := 2) (v := 1) hk (by omega) okv21 (by omega) (fun z => absurd z h1) (fun _ => ⟨fun _ z => absurd h6 z, by omega, by omega⟩) (by omega)
theorem Sgo2_IV {EB : Nat} {S : Nat → Nat} (hI : IV EB S) {k : Nat} (hk : k < S 311) (h1 : S 310 ≠ 1) : IV EB (Sgo2 S k) := by
  have e : Sgo2 S k = upN (upN (upN S (10 * k + 7) 0) (10 * k + 6) 0) (10 * k + 2) 1 := by
    unfold Sgo2 Sgo
    rw [upN_comm (a := 10 * k + 2) (b := 10 * k + 6) (by omega), upN_comm (a := 10 * k + 2) (b := 10 * k + 7) (by omega), upN_comm (a := 10 * k + 6) (b := 10 * k + 7) (by omega)]
  have hN := hI.wb.1
  rw [e]
  have i1 := IV_cell hI (k := k) (a := 7) (v := 0) hk (by omega) (okv2 (by omega)) (by omega) (by omega) (by omega) (by omega)
  have i2 := IV_cell i1 (k := k) (a := 6) (v := 0) (by rw [upN_n (by omega)]; exact hk) (by omega) (okv2 (by omega)) (by omega) (by omega) (by omega) (fun _ => ⟨fun _ => ⟨by omega, fun _ => upN_s _ _ _⟩, by omega⟩)
  refine IV_cell i2 (k := k) (a := 2) (v := 1) (by rw [upN_n (by omega), upN_n (by omega)]; exact hk) (by omega) okv21 (by omega) (fun z => ?_) (fun _ => ⟨fun _ z => absurd ?_ z, by omega, by omega⟩) (by omega)
  · rw [upN_n (by omega), upN_n (by omega)] at z
    exact absurd z h1
  · rw [upN_s]
/-- who leaves the final leaves room -/
theorem Sgo2_room {S : Nat → Nat} {k : Nat} (hN : S 311 ≤ 30) (hk : k < S 311) (h6 : S (10 * k + 6) ≠ 0) : fb_ct (inF (Sgo2 S k)) (S 311) + 1 = fb_ct (inF S) (S 311) := by
  have e := fb_ct_upd (inF S) false (i := k) (n := S 311) hk
  have e1 : inF S k = true := decide_eq_true h6
  rw [fb_ct_cong (q := fun q => if q = k then false else inF S q) (fun q hq => by
    unfold inF Sgo2 Sgo
    by_cases e : q = k
    · subst e; rw [if_pos rfl, upN_n (by omega), upN_s]; rfl
    · rw [if_neg e, upN_n (by omega), upN_n (by omega), upN_n (by omega)])]
  rw [e1] at e
  exact e
theorem rsv_t {S : Nat → Nat} {p : Nat} (h : rsv S p = true) : S (306 + p) ≠ 0 ∧ S (10 * (S (306 + p) - 1) + 2) = 0 := of_decide_eq_true h
theorem rsv_cg {S S' : Nat → Nat} {p : Nat} (h : S' (306 + p) = S (306 + p)) (h2 : S' (10 * (S (306 + p) - 1) + 2) = S (10 * (S (306 + p) - 1) + 2)) : rsv S' p = rsv S p := by unfold rsv; rw [h, h2]
/-- a called reserve -/
theorem Scall_IV {EB : Nat} {S : Nat → Nat} (hI : IV EB S) (h2 : S 310 = 2) {p L c : Nat} (hp : p < 4) (hL : L ≤ 10) (hr : rsv S p = true) (hq : S (306 + p) - 1 < S 311) (hroom : fb_ct (inF S) (S 311) + 1 ≤ S 317) (h70 : L = 0 → S (10 * (S (306 + p) - 1) + 7) = 0) : IV EB (upN (upN (upN S (306 + p) 0) 316 c) (10 * (S (306 + p) - 1) + 6) L) := by
  have hN := hI.wb.1
  obtain ⟨r1, r2⟩ := rsv_t hr
  have i1 := IV_res hI hp (v := 0) (by omega)
  have i2 := IV_hi i1 (t := 316) (v := c) (by omega)
  have e0 : upN (upN S (306 + p) 0) 316 c 310 = 2 := by rw [upN_n (by omega), upN_n (by omega)]; exact h2
  refine IV_cell i2 (k := S (306 + p) - 1) (a := 6) (v := L) (by rw [upN_n (by omega), upN_n (by omega)]; exact hq) (by omega) (by refine ⟨?_, ?_, ?_, ?_, ?_, ?_, ?_, ?_⟩ <;> omega) (by omega) (by omega) (fun _ => ⟨by omega, fun _ _ => ?_, by omega⟩) (fun _ => ⟨fun _ => ⟨fun _ => ?_, fun z => ?_⟩, by omega⟩)
  · rw [upN_n (by omega), upN_n (by omega)]
    exact r2
  · rw [upN_n (t := 316) (by omega), upN_n (t := 306 + p) (by omega), upN_n (t := 316) (q := 317) (by omega), upN_n (t := 306 + p) (q := 317) (by omega)]
    rw [fb_ct_cong (q := inF S) (fun k hk => by unfold inF; rw [upN_n (by omega), upN_n (by omega)])]
    exact hroom
  · rw [upN_n (by omega), upN_n (by omega)]
    exact h70 z
/-- where the relation of the reserves is kept when one has gone, or is called -/
theorem RV.gone {c c' : Nat → Nat → Int32} {S S' : Nat → Nat} (h : RV c S) {k : Nat} (h6 : c' 0 6 = c 0 6) (h3 : c' 3 = c 3) (hN : S' 311 = S 311) (hs : S' 310 = S 310) (hp : ∀ p, p < 4 → S' (306 + p) = S (306 + p)) (hk : S' (10 * k + 2) = 1 ∧ (S' (10 * k + 6) = 0 ∨ S' (10 * k + 6) = S (10 * k + 6))) (ho : ∀ q, q ≠ k → S' (10 * q + 6) = S (10 * q + 6) ∧ S' (10 * q + 2) = S (10 * q + 2)) : RV c' S' := by
  obtain ⟨n, q, h1, h2, h4, h5, h7, h8⟩ := h
  refine ⟨n, q, h1, by rw [h6]; exact h2, fun p hpn => ?_, fun p a b => by rw [hp p b]; exact h5 p a b, h7, fun z => h8 (by rw [← hs]; exact z)⟩
  obtain ⟨a1, a2, a3, a4⟩ := h4 p hpn
  rw [h3, hp p (by omega), hN]
  refine ⟨a1, a2, fun z => ?_, fun z => ⟨(a4 z).1, ?_⟩⟩
  · by_cases e : q p = k
    · right; rw [e]; exact hk.1
    · rw [(ho _ e).1, (ho _ e).2]; exact a3 z
  · have := (a4 z).2
    by_cases e : q p = k
    · rw [e] at this ⊢
      rcases hk.2 with z1 | z1
      · exact z1
      · rw [z1]; exact this
    · rw [(ho _ e).1]; exact this
theorem RV.call {c c' : Nat → Nat → Int32} {S S' : Nat → Nat} (h : RV c S) (hN30 : S 311 ≤ 30) {p0 L : Nat} (hp0 : p0 < 4) (hr : rsv S p0 = true) (h6 : c' 0 6 = c 0 6) (h3 : c' 3 = c 3) (hN : S' 311 = S 311) (hs : S' 310 = S 310) (hL : L ≠ 0) (hp : ∀ p, p < 4 → S' (306 + p) = if p = p0 then 0 else S (306 + p)) (h62 : ∀ q, q < 30 → S' (10 * q + 2) = S (10 * q + 2)) (ho : ∀ q, q < 30 → S' (10 * q + 6) = if q = S (306 + p0) - 1 then L else S (10 * q + 6)) : RV c' S' := by
  obtain ⟨n, q, h1, h2, h4, h5, h7, h8⟩ := h
  have hr0 := (rsv_t hr).1
  have hp0n : p0 < n := by
    rcases Nat.lt_or_ge p0 n with z | z
    · exact z
    · exact absurd (h5 p0 z hp0) hr0
  have hq0 : S (306 + p0) - 1 = q p0 := by have := ((h4 p0 hp0n).2.2.2 hr0).1; omega
  rw [hq0] at ho
  refine ⟨n, q, h1, by rw [h6]; exact h2, fun p hpn => ?_, fun p a b => ?_, h7, fun z => h8 (by rw [← hs]; exact z)⟩
  · obtain ⟨a1, a2, a3, a4⟩ := h4 p hpn
    rw [h3, hp p (by omega), hN, ho _ (by omega), h62 _ (by omega)]
    by_cases e : p = p0
    · subst e
      rw [if_pos rfl, if_pos rfl]
      exact ⟨a1, a2, fun _ => Or.inl hL, fun z => absurd rfl z⟩
    · have hne : q p ≠ q p0 := fun z => e (h7 p p0 hpn hp0n z)
      rw [if_neg e, if_neg hne]
      exact ⟨a1, a2, a3, a4⟩
  · rw [hp p b, h5 p a b]
    split <;> rfl
end
section
/-! level 2: scratch, whole -/
theorem CV.res {c : Nat → Nat → Int32} {S : Nat → Nat} (hC : CV c S) (hN : S 311 ≤ 30) {p v : Nat} (hp : p < 4) : CV c (upN S (306 + p) v) := by
  refine ⟨?_, fun q hq b hb => ?_⟩
  · simp only [upN_n (S := S) (t := 306 + p) (v := v) (show 311 ≠ 306 + p by omega), upN_n (S := S) (t := 306 + p) (v := v) (show 310 ≠ 306 + p by omega), upN_n (S := S) (t := 306 + p) (v := v) (show 312 ≠ 306 + p by omega), upN_n (S := S) (t := 306 + p) (v := v) (show 313 ≠ 306 + p by omega), upN_n (S := S) (t := 306 + p) (v := v) (show 314 ≠ 306 + p by omega), upN_n (S := S) (t := 306 + p) (v := v) (show 315 ≠ 306 + p by omega), upN_n (S := S) (t := 306 + p) (v := v) (show 316 ≠ 306 + p by omega), upN_n (S := S) (t := 306 + p) (v := v) (show 317 ≠ 306 + p by omega), upN_n (S := S) (t := 306 + p) (v := v) (show 318 ≠ 306 + p by omega), upN_n (S := S) (t := 306 + p) (v := v) (show 319 ≠ 306 + p by omega)]
    exact hC.1
  · rw [upN_n (by omega)] at hq
    rw [upN_n (by omega)]
    exact hC.2 q hq b hb
theorem Sgo2_n {S : Nat → Nat} {k t : Nat} (h : 10 * k + 7 < t ∨ t < 10 * k + 2) : Sgo2 S k t = S t := by
  unfold Sgo2 Sgo
  rw [upN_n (by omega), upN_n (by omega), upN_n (by omega)]
theorem OK_scratch {i EB : Nat} {S : Nat → Nat} (hI : IV EB S) (hR0 : ∃ c : Nat → Nat → Int32, RV c S) (x1 : Int32) : OK2 i (fun w => F_X1_withdraw w i x1) (fun w => F_X12_scratch w x1) EB S := by
  have hB := hI.wb
  have hN := hB.1
  have hst := hB.2.1
  have hm1 : (-1000001 : Int32) < 0 := by decide
  have hm2 : (-1000002 : Int32) < 0 := by decide
  by_cases a1 : x1 < 0 ∨ nI (S 311) ≤ x1
  · refine ⟨-1000001, Or.inl ⟨hm1, fun w hC _ => ?_, fun w hS => ?_⟩⟩
    · show F_X1_withdraw w i x1 = _
      unfold F_X1_withdraw
      rw [C_has hC, if_pos a1, gP_s, if_pos rfl]
    · show F_X12_scratch w x1 = _
      unfold F_X12_scratch
      rw [M_isSw hS hB, if_pos a1, gP_s, if_pos rfl]
  obtain ⟨k, hk, rfl⟩ := arg_lt (by omega) (fun z => a1 (Or.inl z)) (fun z => a1 (Or.inr z))
  have hg := (hB.k (k := k) (by omega)).2.2.1
  have hg6 := (hB.k (k := k) (by omega)).2.2.2.2.2.2.1
  have cC : ∀ w, CV (w i) S → F_X1_withdraw w i (nI k) = if S (10 * k + 2) = 0 then (if S 310 = 3 then some (-1000002, w) else if S 310 = 1 then gP (F_X10_leaveHeat (up3 w i (4 + k) 3 1) i k) (fun w_16 => F_X1_withdraw_53 w_16 i i k) else F_X1_withdraw_53 (up3 w i (4 + k) 3 1) i i k) else some (-1000002, w) := by
    intro w hC
    unfold F_X1_withdraw
    rw [C_hasN hC hB hk, gP_s, if_neg (by decide), gB_n _ (by omega) (by omega), hC.f3 hk, iE0 (by omega), hC.st, iE3 (by omega), gS_e, up3_n (by omega), hC.st, iE1 (by omega)]
  have cM : ∀ w, SV w S → F_X12_scratch w (nI k) = if S (10 * k + 2) = 0 then (if S 310 = 3 then some (-1000002, w) else gP (F_X12_changes w) (fun w_19 => gP (F_X12_lay w_19 (nI k) 2 1) (fun w_21 => if (w_21 8 1 310) = 1 then (gP (F_X12_lay w_21 (nI k) 3 0) (fun w_24 => gP (F_X12_lay w_24 (nI k) 4 0) (fun w_26 => gP (F_X12_lay w_26 (nI k) 5 0) (fun w_28 => F_X12_scratch_78 w_28 (nI k))))) else (F_X12_scratch_78 w_21 (nI k))))) else some (-1000002, w) := by
    intro w hS
    unfold F_X12_scratch
    rw [M_isSw hS hB, if_neg a1, gP_s, if_neg (by decide), M_isGone hS hB (by omega), gP_s, iE0 (by omega), hS 310 (by omega), iE3 (by omega)]
  by_cases g0 : S (10 * k + 2) = 0
  · by_cases g3 : S 310 = 3
    · refine ⟨-1000002, Or.inl ⟨hm2, fun w hC _ => ?_, fun w hS => ?_⟩⟩
      · show F_X1_withdraw w i (nI k) = _
        rw [cC w hC, if_pos g0, if_pos g3]
      · show F_X12_scratch w (nI k) = _
        rw [cM w hS, if_pos g0, if_pos g3]
    · have cM2 : ∀ w wc, SV w S → F_X12_changes w = some wc → agH w wc → F_X12_scratch w (nI k) = if S 310 = 1 then F_X12_scratch_78 (up3 (up3 (up3 (up3 wc 8 1 (10 * k + 2) 1) 8 1 (10 * k + 3) 0) 8 1 (10 * k + 4) 0) 8 1 (10 * k + 5) 0) (nI k) else F_X12_scratch_78 (up3 wc 8 1 (10 * k + 2) 1) (nI k) := by
        intro w wc hS hch hag
        have hSc := hag.sv hS
        rw [cM w hS, if_pos g0, if_neg g3, hch, gP_s, show (2 : Int32) = nI 2 from rfl, M_lay (by omega), gP_s, up3_n (by omega), hSc 310 (by omega), iE1 (by omega), show (3 : Int32) = nI 3 from rfl, M_lay (by omega), gP_s, show (4 : Int32) = nI 4 from rfl, M_lay (by omega), gP_s, show (5 : Int32) = nI 5 from rfl, M_lay (by omega), gP_s]
      have hC1 : ∀ w, CV (w i) S → CV (up3 w i (4 + k) 3 1 i) (Sgo S k) := fun w hC => hC.upk (k := k) (a := 2) (v := 1) (by omega) (by omega) rfl
      have hS1 : ∀ w, SV w S → SV (up3 w 8 1 (10 * k + 2) 1) (Sgo S k) := fun w hS => hS.up (10 * k + 2) 1
      have h53 : ∀ (w : gWd) (T : Nat → Nat), CV (w i) T → k < T 311 → T 310 ≤ 3 → T (10 * k + 6) ≤ 10 → F_X1_withdraw_53 w i i k = if T 310 = 2 then (if T (10 * k + 6) = 0 then some (100, w) else (gC (F_X1_callReserve w i i k) (fun v_4 w_5 => some (v_4, w_5)))) else some (100, w) := by
        intro w T hC hkT h1 h2
        unfold F_X1_withdraw_53
        rw [hC.st, hC.f7 hkT, iE2 (by omega), iE0 (by omega)]
      have h78 : ∀ (w : gWd) (T : Nat → Nat), SV w T → T (10 * k + 6) ≤ 10 → F_X12_scratch_78 w (nI k) = if T (10 * k + 6) = 0 then some (100, w) else gC (F_X12_calls (up3 (up3 w 8 1 (10 * k + 6) 0) 8 1 (10 * k + 7) 0) (nI (T (10 * k + 6)))) (fun v_9 w_10 => some (v_9, w_10)) := by
        intro w T hS h2
        unfold F_X12_scratch_78
        rw [M_of6 hS (by omega), gP_s, iE0 (by omega), show (6 : Int32) = nI 6 from rfl, M_lay (by omega), gP_s, show (7 : Int32) = nI 7 from rfl, M_lay (by omega), gP_s]
      by_cases g1 : S 310 = 1
      · -- before the final
        have z6 := (hI.s1 g1 k hk).2.1
        have e6 : Sgo1 S k (10 * k + 6) = 0 := by unfold Sgo1 Sgo; rw [upN_n (by omega), upN_n (by omega), upN_n (by omega), upN_n (by omega)]; exact z6
        have eh : ∀ q, 300 ≤ q → Sgo1 S k q = S q := fun q hq => by unfold Sgo1 Sgo; rw [upN_n (by omega), upN_n (by omega), upN_n (by omega), upN_n (by omega)]
        have eo : ∀ q a, a < 10 → (q ≠ k ∨ a = 6) → Sgo1 S k (10 * q + a) = S (10 * q + a) := fun q a h1 h2 => by unfold Sgo1 Sgo; rw [upN_n (by omega), upN_n (by omega), upN_n (by omega), upN_n (by omega)]
        refine ⟨100, Or.inr ⟨by decide, Sgo1 S k, (Sgo1_IV hI hk g1).mono (by omega), fun w hC hR => ?_, fun w wc hS hch hag => ?_⟩⟩
        · refine ⟨up3 (up3 (up3 (up3 w i (4 + k) 3 1) i (4 + k) 4 (-1)) i (4 + k) 5 0) i (4 + k) 6 (-1), ?_, (agB.up _ _ _).tr ((agB.up _ _ _).tr ((agB.up _ _ _).tr (agB.up _ _ _))), ?_, ?_⟩
          · show F_X1_withdraw w i (nI k) = _
            have hC4 : CV (up3 (up3 (up3 (up3 w i (4 + k) 3 1) i (4 + k) 4 (-1)) i (4 + k) 5 0) i (4 + k) 6 (-1) i) (Sgo1 S k) := (((hC1 w hC).upk (k := k) (a := 3) (v := 0) (by omega) (by omega) rfl).upk (k := k) (a := 4) (v := 0) (by omega) (by omega) rfl).upk (k := k) (a := 5) (v := 0) (by omega) (by omega) rfl
            rw [cC w hC, if_pos g0, if_neg g3, if_pos g1]
            show F_X1_withdraw_53 (up3 (up3 (up3 (up3 w i (4 + k) 3 1) i (4 + k) 4 (-1)) i (4 + k) 5 0) i (4 + k) 6 (-1)) i i k = _
            rw [h53 _ _ hC4 (by rw [eh 311 (by omega)]; exact hk) (by rw [eh 310 (by omega)]; omega) (by omega), eh 310 (by omega), if_neg (by omega)]
          · exact (((hC1 w hC).upk (k := k) (a := 3) (v := 0) (by omega) (by omega) rfl).upk (k := k) (a := 4) (v := 0) (by omega) (by omega) rfl).upk (k := k) (a := 5) (v := 0) (by omega) (by omega) rfl
          · refine hR.gone (k := k) (by rw [up3_n (by omega), up3_n (by omega), up3_n (by omega), up3_n (by omega)]) (by rw [up3_r (by omega), up3_r (by omega), up3_r (by omega), up3_r (by omega)]) (eh 311 (by omega)) (eh 310 (by omega)) (fun p _ => eh _ (by omega)) ⟨?_, Or.inl e6⟩ (fun q hq => ⟨eo q 6 (by omega) (Or.inl hq), eo q 2 (by omega) (Or.inl hq)⟩)
            unfold Sgo1 Sgo
            rw [upN_n (by omega), upN_n (by omega), upN_n (by omega), upN_s]
        · have hSc := hag.sv hS
          have hS4 : SV (up3 (up3 (up3 (up3 wc 8 1 (10 * k + 2) 1) 8 1 (10 * k + 3) 0) 8 1 (10 * k + 4) 0) 8 1 (10 * k + 5) 0) (Sgo1 S k) := (((hS1 wc hSc).up (10 * k + 3) 0).up (10 * k + 4) 0).up (10 * k + 5) 0
          refine ⟨_, ?_, (ag1.up _ _).tr ((ag1.up _ _).tr ((ag1.up _ _).tr (ag1.up _ _))), hS4⟩
          show F_X12_scratch w (nI k) = _
          rw [cM2 w wc hS hch hag, if_pos g1, h78 _ _ hS4 (by omega), if_pos e6]
      · have e6 : Sgo S k (10 * k + 6) = S (10 * k + 6) := by unfold Sgo; rw [upN_n (by omega)]
        have eh : ∀ q, 300 ≤ q → Sgo S k q = S q := fun q hq => by unfold Sgo; rw [upN_n (by omega)]
        have eo : ∀ q a, a < 10 → (q ≠ k ∨ a = 6) → Sgo S k (10 * q + a) = S (10 * q + a) := fun q a h1 h2 => by unfold Sgo; rw [upN_n (by omega)]
        have cC2 : ∀ w, CV (w i) S → F_X1_withdraw w i (nI k) = if S 310 = 2 then (if S (10 * k + 6) = 0 then some (100, up3 w i (4 + k) 3 1) else (gC (F_X1_callReserve (up3 w i (4 + k) 3 1) i i k) (fun v_4 w_5 => some (v_4, w_5)))) else some (100, up3 w i (4 + k) 3 1) := by
          intro w hC
          rw [cC w hC, if_pos g0, if_neg g3, if_neg g1, h53 _ _ (hC1 w hC) (by rw [eh 311 (by omega)]; exact hk) (by rw [eh 310 (by omega)]; omega) (by omega), eh 310 (by omega), e6]
        have cM3 : ∀ w wc, SV w S → F_X12_changes w = some wc → agH w wc → F_X12_scratch w (nI k) = if S (10 * k + 6) = 0 then some (100, up3 wc 8 1 (10 * k + 2) 1) else gC (F_X12_calls (up3 (up3 (up3 wc 8 1 (10 * k + 2) 1) 8 1 (10 * k + 6) 0) 8 1 (10 * k + 7) 0) (nI (S (10 * k + 6)))) (fun v_9 w_10 => some (v_9, w_10)) := by
          intro w wc hS hch hag
          rw [cM2 w wc hS hch hag, if_neg g1, h78 _ _ (hS1 wc (hag.sv hS)) (by omega), e6]
        by_cases g6 : S (10 * k + 6) = 0
        · refine ⟨100, Or.inr ⟨by decide, Sgo S k, (Sgo_IV hI hk g1 g6).mono (by omega), fun w hC hR => ?_, fun w wc hS hch hag => ?_⟩⟩
          · refine ⟨up3 w i (4 + k) 3 1, ?_, agB.up _ _ _, hC1 w hC, ?_⟩
            · show F_X1_withdraw w i (nI k) = _
              rw [cC2 w hC, if_pos g6]
              split <;> rfl
            · exact hR.gone (k := k) (up3_n (by omega)) (up3_r (by omega)) (eh 311 (by omega)) (eh 310 (by omega)) (fun p _ => eh _ (by omega)) ⟨upN_s _ _ _, Or.inr e6⟩ (fun q hq => ⟨eo q 6 (by omega) (Or.inl hq), eo q 2 (by omega) (Or.inl hq)⟩)
          · refine ⟨up3 wc 8 1 (10 * k + 2) 1, ?_, ag1.up _ _, hS1 wc (hag.sv hS)⟩
            show F_X12_scratch w (nI k) = _
            rw [cM3 w wc hS hch hag, if_pos g6]
        · have g2 : S 310 = 2 := by
            have : S 310 ≠ 0 := fun z => g6 ((hI.s0 z).2 k hk 6 (by omega) (by omega))
            omega
          -- the swimmer leaves the final
          have hC3 : ∀ w, CV (w i) S → CV (up3 (up3 (up3 w i (4 + k) 3 1) i (4 + k) 7 0) i (4 + k) 8 (-1) i) (Sgo2 S k) := fun w hC => ((hC1 w hC).upk (k := k) (a := 6) (v := 0) (by omega) (by omega) rfl).upk (k := k) (a := 7) (v := 0) (by omega) (by omega) rfl
          have hS3 : ∀ w, SV w S → SV (up3 (up3 (up3 w 8 1 (10 * k + 2) 1) 8 1 (10 * k + 6) 0) 8 1 (10 * k + 7) 0) (Sgo2 S k) := fun w hS => ((hS1 w hS).up (10 * k + 6) 0).up (10 * k + 7) 0
          have hI2 := Sgo2_IV hI hk g1
          have hB2 := hI2.wb
          have eh2 : ∀ q, 300 ≤ q → Sgo2 S k q = S q := fun q hq => Sgo2_n (by omega)
          have eo2 : ∀ q a, a < 10 → q ≠ k → Sgo2 S k (10 * q + a) = S (10 * q + a) := fun q a h1 h2 => Sgo2_n (by omega)
          have e26 : Sgo2 S k (10 * k + 6) = 0 := by unfold Sgo2; rw [upN_n (by omega), upN_s]
          have e22 : Sgo2 S k (10 * k + 2) = 1 := by unfold Sgo2 Sgo; rw [upN_n (by omega), upN_n (by omega), upN_s]
          have hR3 : ∀ c c' : Nat → Nat → Int32, RV c S → c' 0 6 = c 0 6 → c' 3 = c 3 → RV c' (Sgo2 S k) := fun c c' hR h6 h3 => hR.gone (k := k) h6 h3 (eh2 311 (by omega)) (eh2 310 (by omega)) (fun p _ => eh2 _ (by omega)) ⟨e22, Or.inl e26⟩ (fun q hq => ⟨eo2 q 6 (by omega) hq, eo2 q 2 (by omega) hq⟩)
          have hRw : ∀ w, RV (w i) S → RV (up3 (up3 (up3 w i (4 + k) 3 1) i (4 + k) 7 0) i (4 + k) 8 (-1) i) (Sgo2 S k) := fun w hR => hR3 _ _ hR (by rw [up3_n (by omega), up3_n (by omega), up3_n (by omega)]) (by rw [up3_r (by omega), up3_r (by omega), up3_r (by omega)])
          have cC3 : ∀ w, CV (w i) S → F_X1_withdraw w i (nI k) = gP (F_X5_freeReserve (up3 (up3 (up3 w i (4 + k) 3 1) i (4 + k) 7 0) i (4 + k) 8 (-1)) i 0) (fun v_5 => gP (F_X5_has (up3 (up3 (up3 w i (4 + k) 3 1) i (4 + k) 7 0) i (4 + k) 8 (-1)) i v_5) (fun v_7 => if v_7 = 0 then (some (100, up3 (up3 (up3 w i (4 + k) 3 1) i (4 + k) 7 0) i (4 + k) 8 (-1))) else (gB v_5 30 (fun k_10 => gS (up3 (up3 (up3 (up3 w i (4 + k) 3 1) i (4 + k) 7 0) i (4 + k) 8 (-1)) i (4 + k_10) 7 (nI (S (10 * k + 6)))) (fun w_11 => gS (up3 w_11 i 0 7 (((w_11 i 0 7) + 1))) (fun w_12 => some (v_5, w_12))))))) := by
            intro w hC
            have e7 : up3 w i (4 + k) 3 1 i (4 + k) 7 = nI (S (10 * k + 6)) := by rw [up3_n (by omega), hC.f7 hk]
            rw [cC2 w hC, if_pos g2, if_neg g6]
            unfold F_X1_callReserve
            rw [gS_e, e7]
            show gC (gP (F_X5_freeReserve (up3 (up3 (up3 w i (4 + k) 3 1) i (4 + k) 7 0) i (4 + k) 8 (-1)) i 0) _) _ = _
            cases F_X5_freeReserve (up3 (up3 (up3 w i (4 + k) 3 1) i (4 + k) 7 0) i (4 + k) 8 (-1)) i 0 with
            | none => rfl
            | some v =>
              simp only [gP_s]
              cases F_X5_has (up3 (up3 (up3 w i (4 + k) 3 1) i (4 + k) 7 0) i (4 + k) 8 (-1)) i v with
              | none => rfl
              | some b =>
                simp only [gP_s]
                split
                · rfl
                · unfold gB
                  split
                  · rfl
                  · rfl
          by_cases gf : fb_ct (rsv (Sgo2 S k)) 4 = 0
          · refine ⟨100, Or.inr ⟨by decide, Sgo2 S k, hI2.mono (by omega), fun w hC hR => ?_, fun w wc hS hch hag => ?_⟩⟩
            · refine ⟨up3 (up3 (up3 w i (4 + k) 3 1) i (4 + k) 7 0) i (4 + k) 8 (-1), ?_, (agB.up _ _ _).tr ((agB.up _ _ _).tr (agB.up _ _ _)), hC3 w hC, hRw w hR⟩
              show F_X1_withdraw w i (nI k) = _
              rw [cC3 w hC, show F_X5_freeReserve (up3 (up3 (up3 w i (4 + k) 3 1) i (4 + k) 7 0) i (4 + k) 8 (-1)) i 0 = _ from (C_free (r := 0) (hC3 w hC) (hRw w hR) hB2 (by omega)).2 (by omega), gP_s, C_has (hC3 w hC), if_pos (Or.inl (by decide)), gP_s, if_pos rfl]
            · have hSc := hag.sv hS
              refine ⟨_, ?_, (ag1.up _ _).tr ((ag1.up _ _).tr (ag1.up _ _)), hS3 wc hSc⟩
              show F_X12_scratch w (nI k) = _
              rw [cM3 w wc hS hch hag, if_neg g6]
              unfold F_X12_calls
              rw [(M_first (hS3 wc hSc) hB2).2 gf, gP_s, if_neg (by decide)]
              rfl
          · obtain ⟨p, hp4, hrp, hcp⟩ := fb_ct_kth (p := rsv (Sgo2 S k)) (k := 0) (n := 4) (by omega)
            have hr0 := rsv_t hrp
            have hrb := hB2.r hp4
            have hq : Sgo2 S k (306 + p) - 1 < Sgo2 S k 311 := by
              obtain ⟨c, hR⟩ := hR0
              obtain ⟨n, q, h1, h2, h4, h5, h7, h8⟩ := hR3 c c hR rfl rfl
              rcases Nat.lt_or_ge p n with z | z
              · have := (h4 p z).2.2.2 hr0.1
                have := (h4 p z).2.1
                omega
              · exact absurd (h5 p z hp4) hr0.1
            have hq30 : Sgo2 S k (306 + p) - 1 < 30 := by omega
            have hS' := Scall_IV hI2 (by rw [eh2 310 (by omega)]; exact g2) (p := p) (L := S (10 * k + 6)) (c := Sgo2 S k 316 + 1) hp4 hg6 hrp hq (by rw [eh2 311 (by omega), eh2 317 (by omega), Sgo2_room hN hk g6]; exact (hI.iw g2).1) (fun z => absurd z g6)
            refine ⟨nI (Sgo2 S k (306 + p) - 1), Or.inr ⟨nI_pos' (by omega), _, hS'.mono (by omega), fun w hC hR => ?_, fun w wc hS hch hag => ?_⟩⟩
            · have hCa := ((hC3 w hC).upk (k := Sgo2 S k (306 + p) - 1) (a := 6) (v := S (10 * k + 6)) hq30 (by omega) rfl).up0 (j := 7) (t := 316) (v := Sgo2 S k 316 + 1) (by rw [upN_n (by omega), eh2 311 (by omega)]; exact hN) (by omega)
              have hCb := hCa.res (by rw [upN_n (by omega), upN_n (by omega), eh2 311 (by omega)]; exact hN) (p := p) (v := 0) hp4
              rw [upN_comm (a := 316) (b := 306 + p) (by omega), upN_comm (a := 10 * (Sgo2 S k (306 + p) - 1) + 6) (b := 306 + p) (by omega), upN_comm (a := 10 * (Sgo2 S k (306 + p) - 1) + 6) (b := 316) (by omega)] at hCb
              refine ⟨_, ?_, ?_, hCb, ?_⟩
              · show F_X1_withdraw w i (nI k) = _
                rw [cC3 w hC, show F_X5_freeReserve (up3 (up3 (up3 w i (4 + k) 3 1) i (4 + k) 7 0) i (4 + k) 8 (-1)) i 0 = _ from (C_free (r := 0) (hC3 w hC) (hRw w hR) hB2 (by omega)).1 p hp4 hrp hcp, gP_s, C_hasN (hC3 w hC) hB2 hq, gP_s, if_neg (by decide), gB_n _ hq30 (by omega), gS_e, gS_e]
                have e7 : up3 (up3 (up3 (up3 w i (4 + k) 3 1) i (4 + k) 7 0) i (4 + k) 8 (-1)) i (4 + (Sgo2 S k (306 + p) - 1)) 7 (nI (S (10 * k + 6))) i 0 7 = nI (Sgo2 S k 316) := by rw [up3_n (by omega)]; exact (hC3 w hC).ca
                rw [e7, nI_1]
                rfl
              · exact ((agB.up _ _ _).tr ((agB.up _ _ _).tr (agB.up _ _ _))).tr ((agB.up _ _ _).tr (agB.up _ _ _))
              · refine (hRw w hR).call (by rw [eh2 311 (by omega)]; exact hN) hp4 hrp (L := S (10 * k + 6)) ?_ ?_ ?_ ?_ g6 (fun p' hp' => ?_) (fun q hq3 => ?_) (fun q hq3 => ?_)
                · rw [up3_n (by omega), up3_n (by omega)]
                · rw [up3_r (by omega), up3_r (by omega)]
                · rw [upN_n (by omega), upN_n (by omega), upN_n (by omega)]
                · rw [upN_n (by omega), upN_n (by omega), upN_n (by omega)]
                · rw [upN_n (by omega), upN_n (by omega)]
                  unfold upN
                  by_cases e : p' = p
                  · rw [if_pos (by omega), if_pos e]
                  · rw [if_neg (by omega), if_neg e]
                · rw [upN_n (by omega), upN_n (by omega), upN_n (by omega)]
                · by_cases e : q = Sgo2 S k (306 + p) - 1
                  · rw [if_pos e, e, upN_s]
                  · rw [if_neg e, upN_n (by omega), upN_n (by omega), upN_n (by omega)]
            · have hSc := hag.sv hS
              refine ⟨_, ?_, ?_, (((hS3 wc hSc).up (306 + p) 0).up 316 (Sgo2 S k 316 + 1)).up (10 * (Sgo2 S k (306 + p) - 1) + 6) (S (10 * k + 6))⟩
              · show F_X12_scratch w (nI k) = _
                rw [cM3 w wc hS hch hag, if_neg g6]
                have h3 := hS3 wc hSc
                revert h3
                generalize up3 (up3 (up3 wc 8 1 (10 * k + 2) 1) 8 1 (10 * k + 6) 0) 8 1 (10 * k + 7) 0 = w3
                intro h3
                unfold F_X12_calls
                have e16 : up3 w3 8 1 (306 + p) 0 8 1 316 = nI (Sgo2 S k 316) := by rw [up3_n (by omega)]; exact h3 316 (by omega)
                rw [(M_first h3 hB2).1 p hp4 hrp hcp, gP_s, i0Le (by omega), show (306 : Int32) = nI 306 from rfl, nI_add, gB_n _ (by omega) (by omega), gS_e, gB_n _ (by omega) (by omega), h3 (306 + p) (by omega), gS_e, gS_e, e16, mN (by omega) (by omega), nI_1, show (6 : Int32) = nI 6 from rfl, M_lay (by omega), gP_s]
                rfl
              · exact ((ag1.up _ _).tr ((ag1.up _ _).tr (ag1.up _ _))).tr ((ag1.up _ _).tr ((ag1.up _ _).tr (ag1.up _ _)))
  · refine ⟨-1000002, Or.inl ⟨hm2, fun w hC _ => ?_, fun w hS => ?_⟩⟩
    · show F_X1_withdraw w i (nI k) = _
      rw [cC w hC, if_neg g0]
    · show F_X12_scratch w (nI k) = _
      rw [cM w hS, if_neg g0]
end
section
/-! level 2: sets, who is missing, why it cannot go on -/
def bn (p : Nat → Bool) : Nat → Nat
  | 0 => 0
  | n + 1 => bn p n + if p n = true then 2 ^ n else 0
theorem bn_lt (p : Nat → Bool) : ∀ n, bn p n < 2 ^ n
  | 0 => Nat.one_pos
  | n + 1 => by
    have := bn_lt p n
    have e : 2 ^ (n + 1) = 2 ^ n + 2 ^ n := by rw [Nat.pow_succ]; omega
    show bn p n + (if p n = true then 2 ^ n else 0) < _
    split <;> omega
theorem bn_30 (p : Nat → Bool) {n : Nat} (h : n ≤ 30) : bn p n < 2 ^ 30 := Nat.lt_of_lt_of_le (bn_lt p n) (Nat.pow_le_pow_right (by omega) h)
theorem bn_cong {p q : Nat → Bool} : ∀ {n : Nat}, (∀ k, k < n → p k = q k) → bn p n = bn q n
  | 0, _ => rfl
  | n + 1, h => by
    show bn p n + _ = bn q n + _
    rw [bn_cong (fun k hk => h k (by omega)), h n (by omega)]
theorem shl_n {n : Nat} (h : n < 30) : (1 : Int32) <<< (nI n &&& 31) = nI (2 ^ n) := by
  have : ∀ m : Fin 30, (1 : Int32) <<< (nI m.1 &&& 31) = nI (2 ^ m.1) := by decide
  exact this ⟨n, h⟩
theorem bs_t {p : Nat → Bool} {n : Nat} (h : n < 30) (hp : p n = true) : nI (bn p n) ||| ((1 : Int32) <<< (nI n &&& 31)) = nI (bn p (n + 1)) := by
  have e := fa_or_sum (k := n) 1 (bn_lt p n)
  rw [Nat.mul_one] at e
  rw [shl_n h, Int32.or_comm, e]
  show _ = nI (bn p n + if p n = true then 2 ^ n else 0)
  rw [if_pos hp, Nat.add_comm]
theorem bs_f {p : Nat → Bool} {n : Nat} (hp : ¬ p n = true) : bn p (n + 1) = bn p n := by
  show bn p n + (if p n = true then 2 ^ n else 0) = _
  rw [if_neg hp, Nat.add_zero]
theorem C_finalSet {w : gWd} {S : Nat → Nat} {i : Nat} (hC : CV (w i) S) (hB : WB S) : F_X5_finalSet w i = some (nI (bn (inF S) (S 311))) := by
  unfold F_X5_finalSet
  have hN := hB.1
  refine loopI (F := fun fu (acc : Nat) j => F_X5_finalSet_4 fu w i (nI acc) (nI j)) (S 311) (fun j acc => acc = bn (inF S) j) (fun r => r = some (nI (bn (inF S) (S 311)))) ?_ ?_ gFU 0 0 (by omega) (gFU_lt (by omega)) rfl
  · intro fu acc hI
    show F_X5_finalSet_4 (fu + 1) w i (nI acc) (nI (S 311)) = _
    rw [F_X5_finalSet_4_s, hC.sz, iLe (by omega) (by omega), if_pos (Nat.le_refl _), hI]
  · intro fu acc j hj hI
    right
    refine ⟨_, rfl, ?_⟩
    show F_X5_finalSet_4 (fu + 1) w i (nI acc) (nI j) = F_X5_finalSet_4 fu w i _ (nI (j + 1))
    have hg := (hB.k (k := j) (by omega)).2.2.2.2.2.2.1
    rw [F_X5_finalSet_4_s, hC.sz, iLe (by omega) (by omega), if_neg (by omega), gB_n _ (by omega) (by omega), hC.f7 hj, iE0 (by omega), hI]
    by_cases e : S (10 * j + 6) = 0
    · rw [if_pos e, bs_f (by simp [inF, e])]
      simp only [gS_e, nI_1]
    · rw [if_neg e]
      simp only [gS_e]
      rw [bs_t (by omega) (by simp [inF, e]), nI_1]
theorem M_inFinal {w : gWd} {S : Nat → Nat} (hS : SV w S) (hB : WB S) : F_X12_inFinal w = some (nI (bn (inF S) (S 311))) := by
  unfold F_X12_inFinal
  have hN := hB.1
  refine loopI (F := fun fu (acc : Nat) j => F_X12_inFinal_4 fu w (nI acc) (nI j)) (S 311) (fun j acc => acc = bn (inF S) j) (fun r => r = some (nI (bn (inF S) (S 311)))) ?_ ?_ gFU 0 0 (by omega) (gFU_lt (by omega)) rfl
  · intro fu acc hI
    show F_X12_inFinal_4 (fu + 1) w (nI acc) (nI (S 311)) = _
    rw [F_X12_inFinal_4_s, hS 311 (by omega), iLe (by omega) (by omega), if_pos (Nat.le_refl _), hI]
  · intro fu acc j hj hI
    right
    refine ⟨_, rfl, ?_⟩
    show F_X12_inFinal_4 (fu + 1) w (nI acc) (nI j) = F_X12_inFinal_4 fu w _ (nI (j + 1))
    have hg := (hB.k (k := j) (by omega)).2.2.2.2.2.2.1
    rw [F_X12_inFinal_4_s, hS 311 (by omega), iLe (by omega) (by omega), if_neg (by omega), M_of6 hS (by omega), gP_s, iLe0 (by omega), hI]
    by_cases e : S (10 * j + 6) = 0
    · rw [if_pos e, bs_f (by simp [inF, e])]
      simp only [gS_e, nI_1, Int32.or_zero]
    · rw [if_neg e]
      simp only [gS_e]
      rw [bs_t (by omega) (by simp [inF, e]), nI_1]
def mis (S : Nat → Nat) (k : Nat) : Bool := askB S k && decide (S (10 * k + tcol S) = 0)
/-- he who is still to swim, before whom r are -/
theorem C_still {w : gWd} {S : Nat → Nat} {i r EB : Nat} (hI : IV EB S) (hC : CV (w i) S) (hr : r < 2 ^ 31) : (∃ k, k < S 311 ∧ mis S k = true ∧ fb_ct (mis S) k = r ∧ F_X5_stillToSwim w i (nI r) = some (nI k)) ∨ (fb_ct (mis S) (S 311) ≤ r ∧ F_X5_stillToSwim w i (nI r) = some (-1000004)) := by
  have hB := hI.wb
  have hN := hB.1
  unfold F_X5_stillToSwim
  refine loopI (F := fun fu (acc : Nat) j => F_X5_stillToSwim_4 fu w i (nI r) (nI acc) (nI j)) (S 311) (fun j acc => acc = fb_ct (mis S) j ∧ acc ≤ r ∧ acc ≤ j) (fun o => (∃ k, k < S 311 ∧ mis S k = true ∧ fb_ct (mis S) k = r ∧ o = some (nI k)) ∨ (fb_ct (mis S) (S 311) ≤ r ∧ o = some (-1000004))) ?_ ?_ gFU 0 0 (by omega) (gFU_lt (by omega)) ⟨rfl, by omega, by omega⟩
  · intro fu acc hI
    right
    refine ⟨by omega, ?_⟩
    show F_X5_stillToSwim_4 (fu + 1) w i (nI r) (nI acc) (nI (S 311)) = _
    rw [F_X5_stillToSwim_4_s, hC.sz, iLe (by omega) (by omega), if_pos (Nat.le_refl _)]
  · intro fu acc j hj hJ
    have hg := tcol_le hB (k := j) (by omega)
    have e0 : F_X5_stillToSwim_4 (fu + 1) w i (nI r) (nI acc) (nI j) = if mis S j = true then (if acc = r then some (nI j) else F_X5_stillToSwim_4 fu w i (nI r) (nI (acc + 1)) (nI (j + 1))) else F_X5_stillToSwim_4 fu w i (nI r) (nI acc) (nI (j + 1)) := by
      rw [F_X5_stillToSwim_4_s, hC.sz, iLe (by omega) (by omega), if_neg (by omega), gB_n _ (by omega) (by omega), C_swimsNow hI hC hj, gP_s, gB_n _ (by omega) (by omega), C_stageTime hC hB hj, gP_s, iEq (by omega) (by omega)]
      unfold mis
      by_cases a : askB S j = true
      · rw [if_pos a, iE0 (by omega), if_neg (by omega), a]
        by_cases t : S (10 * j + tcol S) = 0
        · rw [if_pos ((mEN1 (by omega)).mpr t), if_pos (show (true && decide (S (10 * j + tcol S) = 0)) = true by simp [t])]
          simp only [gS_e, nI_1]
        · rw [if_neg (fun q => t ((mEN1 (by omega)).mp q)), if_neg (show ¬ (true && decide (S (10 * j + tcol S) = 0)) = true by simp [t])]
          simp only [gS_e, nI_1]
      · rw [if_neg a, iE0 (by omega), if_pos rfl, if_neg (show ¬ (askB S j && decide (S (10 * j + tcol S) = 0)) = true by simp [a])]
        simp only [gS_e, nI_1]
    show (_ ∨ ∃ st', _ ∧ F_X5_stillToSwim_4 (fu + 1) w i (nI r) (nI acc) (nI j) = F_X5_stillToSwim_4 fu w i (nI r) (nI st') (nI (j + 1)))
    by_cases e : mis S j = true
    · by_cases e2 : acc = r
      · left
        left
        refine ⟨j, hj, e, by omega, ?_⟩
        show F_X5_stillToSwim_4 (fu + 1) w i (nI r) (nI acc) (nI j) = _
        rw [e0, if_pos e, if_pos e2]
      · right
        refine ⟨acc + 1, ⟨by rw [fb_ct_succ, if_pos e]; omega, by omega, by omega⟩, ?_⟩
        rw [e0, if_pos e, if_neg e2]
    · right
      refine ⟨acc, ⟨by rw [fb_ct_succ, if_neg e]; omega, by omega, by omega⟩, ?_⟩
      rw [e0, if_neg e]
theorem M_missing11 {w : gWd} {S : Nat → Nat} {r : Nat} (hS : SV w S) (hB : WB S) (hr : r < 2 ^ 31) : (∃ k, k < S 311 ∧ mis S k = true ∧ fb_ct (mis S) k = r ∧ F_X12_missing_11 gFU w (nI r) 0 0 = some (nI k)) ∨ (fb_ct (mis S) (S 311) ≤ r ∧ F_X12_missing_11 gFU w (nI r) 0 0 = some (-1000004)) := by
  have hN := hB.1
  refine loopI (F := fun fu (acc : Nat) j => F_X12_missing_11 fu w (nI r) (nI acc) (nI j)) (S 311) (fun j acc => acc = fb_ct (mis S) j ∧ acc ≤ r ∧ acc ≤ j) (fun o => (∃ k, k < S 311 ∧ mis S k = true ∧ fb_ct (mis S) k = r ∧ o = some (nI k)) ∨ (fb_ct (mis S) (S 311) ≤ r ∧ o = some (-1000004))) ?_ ?_ gFU 0 0 (by omega) (gFU_lt (by omega)) ⟨rfl, by omega, by omega⟩
  · intro fu acc hI
    right
    refine ⟨by omega, ?_⟩
    show F_X12_missing_11 (fu + 1) w (nI r) (nI acc) (nI (S 311)) = _
    rw [F_X12_missing_11_s, hS 311 (by omega), iLe (by omega) (by omega), if_pos (Nat.le_refl _)]
  · intro fu acc j hj hJ
    have hg := tcol_le hB (k := j) (by omega)
    have htc := tcol_in S
    have e0 : F_X12_missing_11 (fu + 1) w (nI r) (nI acc) (nI j) = if mis S j = true then (if acc = r then some (nI j) else F_X12_missing_11 fu w (nI r) (nI (acc + 1)) (nI (j + 1))) else F_X12_missing_11 fu w (nI r) (nI acc) (nI (j + 1)) := by
      rw [F_X12_missing_11_s, hS 311 (by omega), iLe (by omega) (by omega), if_neg (by omega), M_isAsked hS hB (by omega), gP_s, M_timeNow hS hB, gP_s, M_of hS (by omega), gP_s, iEq (by omega) (by omega), iE0 (a := S (10 * j + tcol S)) (by omega)]
      unfold mis
      by_cases a : askB S j = true
      · rw [if_pos a, iE0 (by omega), if_neg (by omega), a]
        by_cases t : S (10 * j + tcol S) = 0
        · rw [if_pos t, if_pos (show (true && decide (S (10 * j + tcol S) = 0)) = true by simp [t])]
          simp only [gS_e, nI_1]
        · rw [if_neg t, if_neg (show ¬ (true && decide (S (10 * j + tcol S) = 0)) = true by simp [t])]
          simp only [gS_e, nI_1]
      · rw [if_neg a, iE0 (by omega), if_pos rfl, if_neg (show ¬ (askB S j && decide (S (10 * j + tcol S) = 0)) = true by simp [a])]
        simp only [gS_e, nI_1]
    show (_ ∨ ∃ st', _ ∧ F_X12_missing_11 (fu + 1) w (nI r) (nI acc) (nI j) = F_X12_missing_11 fu w (nI r) (nI st') (nI (j + 1)))
    by_cases e : mis S j = true
    · by_cases e2 : acc = r
      · left
        left
        refine ⟨j, hj, e, by omega, ?_⟩
        show F_X12_missing_11 (fu + 1) w (nI r) (nI acc) (nI j) = _
        rw [e0, if_pos e, if_pos e2]
      · right
        refine ⟨acc + 1, ⟨by rw [fb_ct_succ, if_pos e]; omega, by omega, by omega⟩, ?_⟩
        rw [e0, if_pos e, if_neg e2]
    · right
      refine ⟨acc, ⟨by rw [fb_ct_succ, if_neg e]; omega, by omega, by omega⟩, ?_⟩
      rw [e0, if_neg e]
theorem M_missingOnes {w : gWd} {S : Nat → Nat} (hS : SV w S) (hB : WB S) : F_X12_missingOnes w = some (nI (fb_ct (mis S) (S 311))) := by
  unfold F_X12_missingOnes
  have hN := hB.1
  refine loopI (F := fun fu (acc : Nat) j => F_X12_missingOnes_4 fu w (nI acc) (nI j)) (S 311) (fun j acc => acc = fb_ct (mis S) j) (fun r => r = some (nI (fb_ct (mis S) (S 311)))) ?_ ?_ gFU 0 0 (by omega) (gFU_lt (by omega)) rfl
  · intro fu acc hI
    show F_X12_missingOnes_4 (fu + 1) w (nI acc) (nI (S 311)) = _
    rw [F_X12_missingOnes_4_s, hS 311 (by omega), iLe (by omega) (by omega), if_pos (Nat.le_refl _), hI]
  · intro fu acc j hj hI
    right
    refine ⟨_, rfl, ?_⟩
    show F_X12_missingOnes_4 (fu + 1) w (nI acc) (nI j) = F_X12_missingOnes_4 fu w _ (nI (j + 1))
    have hg := tcol_le hB (k := j) (by omega)
    have htc := tcol_in S
    rw [F_X12_missingOnes_4_s, hS 311 (by omega), iLe (by omega) (by omega), if_neg (by omega), M_isAsked hS hB (by omega), gP_s, M_timeNow hS hB, gP_s, M_of hS (by omega), gP_s, iE0 (a := S (10 * j + tcol S)) (by omega), fb_ct_succ, hI]
    unfold F_X12_missingOnes_41
    have hm : mis S j = (askB S j && decide (S (10 * j + tcol S) = 0)) := rfl
    by_cases a : askB S j = true
    · rw [if_pos a, iE0 (by omega), if_neg (by omega)]
      by_cases t : S (10 * j + tcol S) = 0
      · rw [if_pos t, if_pos (by rw [hm]; simp [a, t])]
        simp only [gS_e, nI_1]
      · rw [if_neg t, if_neg (by rw [hm]; simp [t])]
        simp only [gS_e, Int32.add_zero, Nat.add_zero, nI_1]
    · rw [if_neg a, iE0 (by omega), if_pos rfl, if_neg (by rw [hm]; simp [a])]
      simp only [gS_e, Int32.add_zero, Nat.add_zero, nI_1]
def TN (S : Nat → Nat) (q : Nat) : Bool := decide (1 < S (10 * q + 5))
theorem M_timed {w : gWd} {S : Nat → Nat} (hS : SV w S) (hB : WB S) : F_X12_timed w = some (nI (fb_ct (TN S) (S 311))) := by
  unfold F_X12_timed
  have hN := hB.1
  refine loopI (F := fun fu (acc : Nat) j => F_X12_timed_4 fu w (nI acc) (nI j)) (S 311) (fun j acc => acc = fb_ct (TN S) j) (fun r => r = some (nI (fb_ct (TN S) (S 311)))) ?_ ?_ gFU 0 0 (by omega) (gFU_lt (by omega)) rfl
  · intro fu acc hI
    show F_X12_timed_4 (fu + 1) w (nI acc) (nI (S 311)) = _
    rw [F_X12_timed_4_s, hS 311 (by omega), iLe (by omega) (by omega), if_pos (Nat.le_refl _), hI]
  · intro fu acc j hj hI
    right
    refine ⟨_, rfl, ?_⟩
    show F_X12_timed_4 (fu + 1) w (nI acc) (nI j) = F_X12_timed_4 fu w _ (nI (j + 1))
    rw [F_X12_timed_4_s, hS 311 (by omega), iLe (by omega) (by omega), if_neg (by omega), M_hasT hS hB (by omega), gP_s, fb_ct_succ, hI]
    by_cases e : 1 < S (10 * j + 5)
    · rw [if_pos e, iE0 (by omega), if_neg (by omega), if_pos (by simp [TN, e])]
      simp only [gS_e, nI_1]
    · rw [if_neg e, iE0 (by omega), if_pos rfl, if_neg (by simp [TN, e])]
      simp only [gS_e, Int32.add_zero, Nat.add_zero, nI_1]
def whyN (S : Nat → Nat) : Nat := if S 310 = 0 then (if pres S (S 311) = 0 then 1 else 0) else if fb_ct (mis S) (S 311) = 0 then (if S 310 = 1 ∧ fb_ct (TN S) (S 311) = 0 then 1 else 0) else 2
theorem C_why {w : gWd} {S : Nat → Nat} {i EB : Nat} (hI : IV EB S) (hC : CV (w i) S) : F_X5_reasonToWait w i = some (nI (whyN S)) := by
  have hB := hI.wb
  have hN := hB.1
  have hst := hB.2.1
  have hp := pres_le S (S 311)
  unfold F_X5_reasonToWait F_X5_reasonToWait_51 whyN
  rw [hC.st, iE0 (by omega), C_pres hC hB, gP_s, iE0 (by omega)]
  by_cases e0 : S 310 = 0
  · rw [if_pos e0, if_pos e0]
    split <;> rfl
  · rw [if_neg e0, if_neg e0]
    rcases C_still (r := 0) hI hC (by omega) with ⟨k, hk, hm, hc, h⟩ | ⟨hc, h⟩
    · have hne : fb_ct (mis S) (S 311) ≠ 0 := fun z => by
        rw [fb_ct_zero] at z
        rw [z k hk] at hm
        cases hm
      rw [show F_X5_stillToSwim w i 0 = _ from h, gP_s, if_neg, if_neg hne]
      · rfl
      · intro z
        have : nI k < 0 := by rw [z]; decide
        exact nI_pos (by omega) this
    · rw [show F_X5_stillToSwim w i 0 = _ from h, gP_s, if_pos rfl, iE1 (a := S 310) (by omega), if_pos (show fb_ct (mis S) (S 311) = 0 by omega)]
      by_cases e1 : S 310 = 1
      · have hct : ctF S 1000 (S 311) = fb_ct (TN S) (S 311) := by
          unfold ctF
          refine fb_ct_cong (fun q hq => ?_)
          have hg := (hB.k (k := q) (by omega)).2.2.2.2.2.1
          have : tcol S = 5 := by unfold tcol; rw [if_pos e1]
          rw [this]
          unfold TN
          simp
          omega
        have hle := fb_ct_le (TN S) (S 311)
        unfold F_X5_timesAboveZero
        rw [if_pos e1, show (1000 : Int32) = nI 1000 from rfl, C_faster hC hB (by omega), gP_s, gP_s, hct, iE0 (by omega)]
        by_cases z : fb_ct (TN S) (S 311) = 0
        · rw [if_pos z, if_pos ⟨e1, z⟩]; rfl
        · rw [if_neg z, if_neg (fun y => z y.2)]; rfl
      · rw [if_neg e1, if_neg (fun y => e1 y.1)]; rfl
theorem mis_3 {S : Nat → Nat} (h : S 310 = 3) (n : Nat) : fb_ct (mis S) n = 0 := fb_ct_zero.mpr (fun k _ => by unfold mis askB; simp; omega)
theorem M_why {w : gWd} {S : Nat → Nat} (hS : SV w S) (hB : WB S) : F_X12_why w = some (nI (whyN S)) := by
  have hN := hB.1
  have hst := hB.2.1
  have hp := pres_le S (S 311)
  have hm := fb_ct_le (mis S) (S 311)
  have ht := fb_ct_le (TN S) (S 311)
  unfold F_X12_why whyN
  rw [hS 310 (by omega), iE0 (by omega), M_pres hS hB, gP_s, iE0 (by omega), iE1 (by omega), iE2 (by omega), M_missingOnes hS hB, gP_s, gP_s, iLe0 (by omega), M_timed hS hB, gP_s, iE0 (by omega), iLe0 (by omega)]
  by_cases e0 : S 310 = 0
  · rw [if_pos e0, if_pos e0]
    split <;> rfl
  · rw [if_neg e0, if_neg e0]
    by_cases e1 : S 310 = 1
    · rw [if_pos e1]
      by_cases m : fb_ct (mis S) (S 311) = 0
      · rw [if_pos m, if_pos m]
        by_cases z : fb_ct (TN S) (S 311) = 0
        · rw [if_pos z, if_pos ⟨e1, z⟩]; rfl
        · rw [if_neg z, if_neg (fun y => z y.2)]; rfl
      · rw [if_neg m, if_neg m]; rfl
    · rw [if_neg e1]
      by_cases e2 : S 310 = 2
      · rw [if_pos e2]
        by_cases m : fb_ct (mis S) (S 311) = 0
        · rw [if_pos m, if_pos m, if_neg (fun y => e1 y.1)]; rfl
        · rw [if_neg m, if_neg m]; rfl
      · rw [if_neg e2, if_pos (mis_3 (by omega) _), if_neg (fun y => e1 y.1)]; rfl
end
section
/-! level 2: seats by the times -/
def eT (S : Nat → Nat) (q : Nat) : Nat := 40000 * S (10 * q + 5) + ek S q
theorem fastB_e {S : Nat → Nat} (hB : WB S) {a b : Nat} (ha : a < 30) (hb : b < 30) : fastB S a b = decide (eT S a < eT S b) := by
  have h1 := ek_lt hB ha
  have h2 := ek_lt hB hb
  unfold fastB eT
  by_cases e : 40000 * S (10 * a + 5) + ek S a < 40000 * S (10 * b + 5) + ek S b
  · rw [decide_eq_true e, decide_eq_true]; omega
  · rw [decide_eq_false e, decide_eq_false]; omega
theorem eT_inj {S : Nat → Nat} (hB : WB S) {a b : Nat} (ha : a < 30) (hb : b < 30) (h : eT S a = eT S b) : a = b := by
  have h1 := ek_lt hB ha
  have h2 := ek_lt hB hb
  unfold eT at h
  exact ek_inj (S := S) ha hb (by omega)
theorem trank_rk {S : Nat → Nat} (hB : WB S) {k : Nat} (hk : k < 30) : trank S k = rk (TN S) (eT S) (S 311) k := by
  have hN := hB.1
  unfold trank rk TN
  exact fb_ct_cong (fun q hq => by rw [fastB_e hB (by omega) hk])
theorem trank_cg {S S' : Nat → Nat} (h1 : ∀ q, q < 30 → S' (10 * q + 1) = S (10 * q + 1)) (h5 : ∀ q, q < 30 → S' (10 * q + 5) = S (10 * q + 5)) (hN : S' 311 = S 311) (h30 : S 311 ≤ 30) {k : Nat} (hk : k < 30) : trank S' k = trank S k := by
  unfold trank
  rw [hN]
  refine fb_ct_cong (fun q hq => ?_)
  unfold fastB
  rw [ek_cg (h1 q (by omega)), ek_cg (h1 k hk), h5 q (by omega), h5 k hk]
def rsvP (S : Nat → Nat) (q : Nat) : Bool := TN S q && decide (S 317 ≤ trank S q ∧ trank S q < S 317 + S 319)
def finP (S : Nat → Nat) (q : Nat) : Bool := TN S q && decide (trank S q < S 317)
def seat (S T : Nat → Nat) (j : Nat) : Nat → Nat := if finP S j = true then upN T (10 * j + 6) (laneN S (trank S j)) else if rsvP S j = true then upN T (306 + (trank S j - S 317)) (j + 1) else T
def Sf (S : Nat → Nat) : Nat → Nat → Nat
  | 0 => S
  | j + 1 => seat S (Sf S j) j
theorem rsvP_t {S : Nat → Nat} {q : Nat} : rsvP S q = true ↔ TN S q = true ∧ S 317 ≤ trank S q ∧ trank S q < S 317 + S 319 := by simp [rsvP]
theorem finP_t {S : Nat → Nat} {q : Nat} : finP S q = true ↔ TN S q = true ∧ trank S q < S 317 := by simp [finP]
section SEATS
variable {S : Nat → Nat}
theorem Sf_n (hB : WB S) {t : Nat} (h : (t < 300 ∧ t % 10 ≠ 6) ∨ (300 ≤ t ∧ ¬ (306 ≤ t ∧ t < 310))) : ∀ {j}, j ≤ 30 → Sf S j t = S t
  | 0, _ => rfl
  | j + 1, hj => by
    have h9 := hB.2.2.2.2.2.2.2.1
    show seat S (Sf S j) j t = S t
    unfold seat
    by_cases e : finP S j = true
    · rw [if_pos e, upN_n (by omega)]; exact Sf_n hB h (by omega)
    · rw [if_neg e]
      by_cases e2 : rsvP S j = true
      · have := rsvP_t.mp e2
        rw [if_pos e2, upN_n (by omega)]; exact Sf_n hB h (by omega)
      · rw [if_neg e2]; exact Sf_n hB h (by omega)
theorem Sf_6 (hB : WB S) {q : Nat} (hq : q < 30) : ∀ {j}, j ≤ 30 → Sf S j (10 * q + 6) = if q < j ∧ finP S q = true then laneN S (trank S q) else S (10 * q + 6)
  | 0, _ => by rw [if_neg (fun z => absurd z.1 (Nat.not_lt_zero q))]; rfl
  | j + 1, hj => by
    have h9 := hB.2.2.2.2.2.2.2.1
    have ih := Sf_6 hB hq (j := j) (by omega)
    have ih2 : q ≠ j → (if q < j ∧ finP S q = true then laneN S (trank S q) else S (10 * q + 6)) = if q < j + 1 ∧ finP S q = true then laneN S (trank S q) else S (10 * q + 6) := by
      intro hne
      by_cases z : q < j ∧ finP S q = true
      · rw [if_pos z, if_pos ⟨by omega, z.2⟩]
      · rw [if_neg z, if_neg (fun y => z ⟨by omega, y.2⟩)]
    show seat S (Sf S j) j (10 * q + 6) = _
    unfold seat
    by_cases e : finP S j = true
    · rw [if_pos e]
      by_cases ej : q = j
      · subst ej
        rw [upN_s, if_pos ⟨by omega, e⟩]
      · rw [upN_n (by omega), ih, ih2 ej]
    · rw [if_neg e]
      have ih3 : Sf S j (10 * q + 6) = if q < j + 1 ∧ finP S q = true then laneN S (trank S q) else S (10 * q + 6) := by
        by_cases ej : q = j
        · subst ej
          rw [ih, if_neg (fun z => by omega), if_neg (fun z => e z.2)]
        · rw [ih, ih2 ej]
      by_cases e2 : rsvP S j = true
      · have := rsvP_t.mp e2
        rw [if_pos e2, upN_n (by omega)]; exact ih3
      · rw [if_neg e2]; exact ih3
theorem Sf_r (hB : WB S) {p : Nat} (hp : p < 4) : ∀ {j}, j ≤ 30 → (Sf S j (306 + p) = S (306 + p) ∧ ∀ q, q < j → rsvP S q = true → trank S q ≠ S 317 + p) ∨ ∃ q, q < j ∧ rsvP S q = true ∧ trank S q = S 317 + p ∧ Sf S j (306 + p) = q + 1
  | 0, _ => Or.inl ⟨rfl, fun q hq => absurd hq (Nat.not_lt_zero q)⟩
  | j + 1, hj => by
    have ih := Sf_r hB hp (j := j) (by omega)
    have key : Sf S (j + 1) (306 + p) = Sf S j (306 + p) → (rsvP S j = true → trank S j ≠ S 317 + p) → (Sf S (j + 1) (306 + p) = S (306 + p) ∧ ∀ q, q < j + 1 → rsvP S q = true → trank S q ≠ S 317 + p) ∨ ∃ q, q < j + 1 ∧ rsvP S q = true ∧ trank S q = S 317 + p ∧ Sf S (j + 1) (306 + p) = q + 1 := by
      intro h1 h2
      rcases ih with ⟨a, b⟩ | ⟨q, a, b, c, d⟩
      · left
        refine ⟨h1.trans a, fun q hq hr => ?_⟩
        by_cases e : q = j
        · subst e; exact h2 hr
        · exact b q (by omega) hr
      · right
        exact ⟨q, by omega, b, c, h1.trans d⟩
    by_cases e : finP S j = true
    · have e1 : Sf S (j + 1) = upN (Sf S j) (10 * j + 6) (laneN S (trank S j)) := by show seat S (Sf S j) j = _; unfold seat; rw [if_pos e]
      have := finP_t.mp e
      exact key (by rw [e1, upN_n (by omega)]) (fun z => by have := rsvP_t.mp z; omega)
    · by_cases e2 : rsvP S j = true
      · have e1 : Sf S (j + 1) = upN (Sf S j) (306 + (trank S j - S 317)) (j + 1) := by show seat S (Sf S j) j = _; unfold seat; rw [if_neg e, if_pos e2]
        have hr := rsvP_t.mp e2
        by_cases ep : trank S j = S 317 + p
        · right
          refine ⟨j, by omega, e2, ep, ?_⟩
          rw [e1, show 306 + p = 306 + (trank S j - S 317) by omega, upN_s]
        · exact key (by rw [e1, upN_n (by omega)]) (fun _ => ep)
      · have e1 : Sf S (j + 1) = Sf S j := by show seat S (Sf S j) j = _; unfold seat; rw [if_neg e, if_neg e2]
        exact key (by rw [e1]) (fun z => absurd z e2)
theorem WB.res (h : WB S) {p v : Nat} (hp : p < 4) (hv : v ≤ 30) : WB (upN S (306 + p) v) := by
  obtain ⟨b1, b2, b3, b4, b5, b6, b7, b8, b9, b10⟩ := h
  have hi : ∀ q, 310 ≤ q ∨ q < 306 → upN S (306 + p) v q = S q := fun q hq => upN_n (by omega)
  refine ⟨by rw [hi 311 (by omega)]; exact b1, by rw [hi 310 (by omega)]; exact b2, by rw [hi 312 (by omega)]; exact b3, by rw [hi 314 (by omega)]; exact b4, by rw [hi 315 (by omega)]; exact b5, by rw [hi 317 (by omega)]; exact b6, by rw [hi 318 (by omega)]; exact b7, by rw [hi 319 (by omega)]; exact b8, fun q hq => ?_, fun q hq a ha => by rw [hi _ (by omega)]; exact b10 q hq a ha⟩
  by_cases e : q = p
  · subst e; rw [upN_s]; exact hv
  · rw [upN_n (by omega)]; exact b9 q hq
theorem okv6 {v : Nat} (h : v ≤ 10) : okv 6 v := by refine ⟨?_, ?_, ?_, ?_, ?_, ?_, ?_, ?_⟩ <;> omega
theorem Sf_WB (hB : WB S) : ∀ {j}, j ≤ 30 → WB (Sf S j)
  | 0, _ => hB
  | j + 1, hj => by
    have ih := Sf_WB hB (j := j) (by omega)
    have h9 := hB.2.2.2.2.2.2.2.1
    have h7 := hB.2.2.2.2.2.1
    show WB (seat S (Sf S j) j)
    unfold seat
    by_cases e : finP S j = true
    · have := (laneN_in hB (finP_t.mp e).2).2.1
      rw [if_pos e]
      exact ih.upk (by omega) (by omega) (okv6 (by omega))
    · rw [if_neg e]
      by_cases e2 : rsvP S j = true
      · have := rsvP_t.mp e2
        rw [if_pos e2]
        exact ih.res (by omega) (by omega)
      · rw [if_neg e2]; exact ih
theorem Sf_trank (hB : WB S) {j k : Nat} (hj : j ≤ 30) (hk : k < 30) : trank (Sf S j) k = trank S k := trank_cg (fun q _ => Sf_n hB (by omega) hj) (fun q _ => Sf_n hB (by omega) hj) (Sf_n hB (by omega) hj) hB.1 hk
end SEATS
theorem ct_win (a b : Nat) : ∀ m, fb_ct (fun x => decide (a ≤ x ∧ x < a + b)) m = min b (m - a)
  | 0 => by simp [fb_ct]
  | m + 1 => by
    rw [fb_ct_succ, ct_win a b m]
    by_cases e : a ≤ m ∧ m < a + b
    · rw [if_pos (by simp [e])]; omega
    · rw [if_neg (by simpa using e)]; omega
theorem rsvP_ct {S : Nat → Nat} (hB : WB S) : fb_ct (rsvP S) (S 311) = min (S 319) (fb_ct (TN S) (S 311) - S 317) := by
  have hN := hB.1
  rw [← ct_win, ← ct_rank (U := TN S) (e := eT S) (N := S 311) (fun a b ha hb h => eT_inj hB (by omega) (by omega) h)]
  exact fb_ct_cong (fun q hq => by unfold rsvP; rw [trank_rk hB (by omega)])
theorem trank_n {S : Nat → Nat} (hB : WB S) {q : Nat} (hq : q < S 311) (ht : TN S q = true) : trank S q < fb_ct (TN S) (S 311) := by
  have hN := hB.1
  rw [trank_rk hB (by omega)]
  exact rk_n _ _ _ hq ht
theorem trank_surj {S : Nat → Nat} (hB : WB S) {x : Nat} (hx : x < fb_ct (TN S) (S 311)) : ∃ q, q < S 311 ∧ TN S q = true ∧ trank S q = x := by
  have hN := hB.1
  obtain ⟨q, h1, h2, h3⟩ := rk_surj (U := TN S) (e := eT S) (N := S 311) (fun a b ha hb h => eT_inj hB (by omega) (by omega) h) hx
  exact ⟨q, h1, h2, by rw [trank_rk hB (by omega)]; exact h3⟩
theorem trank_inj {S : Nat → Nat} (hB : WB S) {a b : Nat} (ha : a < S 311) (hb : b < S 311) (h1 : TN S a = true) (h2 : TN S b = true) (h : trank S a = trank S b) : a = b := by
  have hN := hB.1
  rw [trank_rk hB (by omega), trank_rk hB (by omega)] at h
  exact rk_inj _ _ _ (fun a b ha hb h => eT_inj hB (by omega) (by omega) h) ha hb h1 h2 h
end
section
/-! level 2: finals, whole -/
def Sfin (S : Nat → Nat) : Nat → Nat := upN (Sf S (S 311)) 310 2
theorem C_seat {w : gWd} {S : Nat → Nat} {i j : Nat} (hB : WB S) (hj : j < S 311) (hC : CV (w i) (Sf S j)) (ht : TN S j = true) : F_X1_seatByTime w i i j = some (if finP S j = true then up3 w i (4 + j) 7 (nI (laneN S (trank S j))) else if rsvP S j = true then up3 (up3 w i 3 (trank S j - S 317) (nI j)) i 0 6 (w i 0 6 + 1) else w) := by
  have hN := hB.1
  have h9 := hB.2.2.2.2.2.2.2.1
  have h7 := hB.2.2.2.2.2.1
  have hT := Sf_WB hB (j := j) (by omega)
  have e311 : Sf S j 311 = S 311 := Sf_n hB (by omega) (by omega)
  have e317 : Sf S j 317 = S 317 := Sf_n hB (by omega) (by omega)
  have e319 : Sf S j 319 = S 319 := Sf_n hB (by omega) (by omega)
  have hr := trank_n hB hj ht
  have hr2 := fb_ct_le (TN S) (S 311)
  unfold F_X1_seatByTime
  rw [C_trank hC hT (by rw [e311]; exact hj), gP_s, C_lanes hC, gP_s, gP_s, gP_s, Sf_trank hB (by omega) (by omega), e317, iLe (by omega) (by omega)]
  by_cases e : S 317 ≤ trank S j
  · have hnf : ¬ finP S j = true := fun z => by have := finP_t.mp z; omega
    rw [if_pos e, gS_e, pk_sub e, hC.re, e319, if_neg hnf, iLe (by omega) (by omega), show (4 : Int32) = nI 4 from rfl, iLe (by omega) (by omega)]
    by_cases e2 : S 319 ≤ trank S j - S 317
    · rw [if_pos e2, if_neg (fun z => by have := rsvP_t.mp z; omega)]
    · rw [if_neg e2, if_neg (by omega), gB_n _ (by omega) (by omega), if_pos (rsvP_t.mpr ⟨ht, by omega, by omega⟩), gS_e, gS_e, up3_n (by omega)]
  · have hf : finP S j = true := finP_t.mpr ⟨ht, by omega⟩
    have hl := laneN_in hB (r := trank S j) (by omega)
    have e3 := C_ofRank (w := w) hT (r := trank S j) (by omega)
    rw [e317, laneI_cg e317, laneI_N hl.2.2] at e3
    rw [if_neg e, e3, gP_s, if_pos hf]
    rfl
theorem C_fin20 {S : Nat → Nat} {i : Nat} (hB : WB S) (h1 : S 310 = 1) : ∀ (d fu : Nat) (w : gWd) (j : Nat), j + d = S 311 → d < fu → CV (w i) (Sf S j) → w i 0 6 = nI (fb_ct (rsvP S) j) → (∀ q, q < j → rsvP S q = true → w i 3 (trank S q - S 317) = nI q) →
    ∃ w', F_X1_drawFinal_20 fu w i (nI j) = some (nI (bn (inF (Sfin S)) (S 311)), w') ∧ agB i w w' ∧ CV (w' i) (Sfin S) ∧ w' i 0 6 = nI (fb_ct (rsvP S) (S 311)) ∧ (∀ q, q < S 311 → rsvP S q = true → w' i 3 (trank S q - S 317) = nI q) := by
  have hN := hB.1
  have h9 := hB.2.2.2.2.2.2.2.1
  intro d
  induction d with
  | zero =>
    intro fu w j hjd hfu hC h6 h3
    obtain ⟨fu, rfl⟩ : ∃ f, fu = f + 1 := ⟨fu - 1, by omega⟩
    have ej : j = S 311 := by omega
    subst ej
    have e311 : Sf S (S 311) 311 = S 311 := Sf_n hB (by omega) (by omega)
    have hT := Sf_WB hB (j := S 311) (by omega)
    have hC2 : CV (up3 w i 0 4 (nI 2) i) (Sfin S) := hC.up0 (by rw [e311]; exact hN) (by omega)
    have hB2 : WB (Sfin S) := by
      obtain ⟨b1, b2, b3, b4, b5, b6, b7, b8, b9, b10⟩ := hT
      unfold Sfin
      exact ⟨by rw [upN_n (by omega)]; exact b1, by rw [upN_s]; omega, by rw [upN_n (by omega)]; exact b3, by rw [upN_n (by omega)]; exact b4, by rw [upN_n (by omega)]; exact b5, by rw [upN_n (by omega)]; exact b6, by rw [upN_n (by omega)]; exact b7, by rw [upN_n (by omega)]; exact b8, fun p hp => by rw [upN_n (by omega)]; exact b9 p hp, fun k hk a ha => by rw [upN_n (by omega)]; exact b10 k hk a ha⟩
    have e2 : Sfin S 311 = S 311 := by unfold Sfin; rw [upN_n (by omega), e311]
    have hfs := C_finalSet hC2 hB2
    rw [e2] at hfs
    refine ⟨up3 w i 0 4 (nI 2), ?_, agB.up _ _ _, hC2, by rw [up3_n (by omega)]; exact h6, fun q hq hr => by rw [up3_n (by omega)]; exact h3 q hq hr⟩
    rw [F_X1_drawFinal_20_s, hC.sz, e311, iLe (by omega) (by omega), if_pos (Nat.le_refl _), gS_e]
    show gP (F_X5_finalSet (up3 w i 0 4 (nI 2)) i) _ = _
    rw [hfs, gP_s]
    rfl
  | succ d ih =>
    intro fu w j hjd hfu hC h6 h3
    obtain ⟨fu, rfl⟩ : ∃ f, fu = f + 1 := ⟨fu - 1, by omega⟩
    have hj : j < S 311 := by omega
    have e311 : Sf S j 311 = S 311 := Sf_n hB (by omega) (by omega)
    have e5 : Sf S j (10 * j + 5) = S (10 * j + 5) := Sf_n hB (by omega) (by omega)
    have hg := (hB.k (k := j) (by omega)).2.2.2.2.2.1
    have hstep : F_X1_drawFinal_20 (fu + 1) w i (nI j) = if TN S j = true then gP (F_X1_seatByTime w i i j) (fun w_12 => F_X1_drawFinal_20 fu w_12 i (nI (j + 1))) else F_X1_drawFinal_20 fu w i (nI (j + 1)) := by
      rw [F_X1_drawFinal_20_s, hC.sz, e311, iLe (by omega) (by omega), if_neg (by omega), gB_n _ (by omega) (by omega), hC.f6 (by rw [e311]; exact hj), e5, gB_n _ (by omega) (by omega)]
      by_cases e : 1 < S (10 * j + 5)
      · rw [if_neg (fun q => absurd ((mLe0 (by omega)).mp q) (by omega)), if_pos (by simp [TN, e])]
        simp only [gS_e, nI_1]
      · rw [if_pos ((mLe0 (by omega)).mpr (by omega)), if_neg (by simp [TN, e])]
        simp only [gS_e, nI_1]
    rw [hstep]
    have hsk : ¬ finP S j = true → ¬ rsvP S j = true → CV (w i) (Sf S (j + 1)) ∧ w i 0 6 = nI (fb_ct (rsvP S) (j + 1)) ∧ (∀ q, q < j + 1 → rsvP S q = true → w i 3 (trank S q - S 317) = nI q) := by
      intro a b
      refine ⟨?_, ?_, fun q hq hr => ?_⟩
      · show CV (w i) (seat S (Sf S j) j)
        unfold seat
        rw [if_neg a, if_neg b]; exact hC
      · rw [fb_ct_succ, if_neg b, Nat.add_zero]; exact h6
      · by_cases e : q = j
        · subst e; exact absurd hr b
        · exact h3 q (by omega) hr
    by_cases ht : TN S j = true
    · rw [if_pos ht, C_seat hB hj hC ht, gP_s]
      by_cases a : finP S j = true
      · have hlt := (finP_t.mp a).2
        have hb : ¬ rsvP S j = true := fun z => by have := rsvP_t.mp z; omega
        rw [if_pos a]
        have hC1 : CV (up3 w i (4 + j) 7 (nI (laneN S (trank S j))) i) (Sf S (j + 1)) := by
          show CV _ (seat S (Sf S j) j)
          unfold seat
          rw [if_pos a]
          exact hC.upk (k := j) (a := 6) (by omega) (by omega) rfl
        obtain ⟨w', f1, f2, f3, f4, f5⟩ := ih fu _ (j + 1) (by omega) (by omega) hC1 (by rw [up3_n (by omega), fb_ct_succ, if_neg hb, Nat.add_zero]; exact h6) (fun q hq hr => by
          rw [up3_n (by omega)]
          by_cases e : q = j
          · subst e; exact absurd hr hb
          · exact h3 q (by omega) hr)
        exact ⟨w', f1, (agB.up _ _ _).tr f2, f3, f4, f5⟩
      · rw [if_neg a]
        by_cases b : rsvP S j = true
        · have hb := rsvP_t.mp b
          rw [if_pos b]
          have hC1 : CV (up3 (up3 w i 3 (trank S j - S 317) (nI j)) i 0 6 (w i 0 6 + 1) i) (Sf S (j + 1)) := by
            show CV _ (seat S (Sf S j) j)
            unfold seat
            rw [if_neg a, if_pos b]
            exact (hC.cg (fun r c hr hc => by rw [up3_n (by omega), up3_n (by omega)])).res (by rw [e311]; exact hN) (by omega)
          obtain ⟨w', f1, f2, f3, f4, f5⟩ := ih fu _ (j + 1) (by omega) (by omega) hC1 (by rw [up3_s, fb_ct_succ, if_pos b, h6, nI_1]) (fun q hq hr => by
            rw [up3_n (by omega)]
            by_cases e : q = j
            · subst e; rw [up3_s]
            · have h2 := rsvP_t.mp hr
              have hne : trank S q ≠ trank S j := fun z => e (trank_inj hB (by omega) (by omega) h2.1 ht z)
              rw [up3_n (by omega)]
              exact h3 q (by omega) hr)
          exact ⟨w', f1, ((agB.up _ _ _).tr (agB.up _ _ _)).tr f2, f3, f4, f5⟩
        · rw [if_neg b]
          obtain ⟨g1, g2, g3⟩ := hsk a b
          exact ih fu _ (j + 1) (by omega) (by omega) g1 g2 g3
    · rw [if_neg ht]
      obtain ⟨g1, g2, g3⟩ := hsk (fun z => ht (finP_t.mp z).1) (fun z => ht (rsvP_t.mp z).1)
      exact ih fu _ (j + 1) (by omega) (by omega) g1 g2 g3
theorem M_fin28 {S : Nat → Nat} (hB : WB S) : ∀ (d fu : Nat) (w : gWd) (j : Nat), j + d = S 311 → d < fu → SV w (Sf S j) →
    ∃ w', F_X12_finals_28 fu w (nI j) = some (nI (bn (inF (Sfin S)) (S 311)), w') ∧ ag1 w w' ∧ SV w' (Sfin S) := by
  have hN := hB.1
  have h9 := hB.2.2.2.2.2.2.2.1
  have h7 := hB.2.2.2.2.2.1
  intro d
  induction d with
  | zero =>
    intro fu w j hjd hfu hS
    obtain ⟨fu, rfl⟩ : ∃ f, fu = f + 1 := ⟨fu - 1, by omega⟩
    have ej : j = S 311 := by omega
    subst ej
    have e311 : Sf S (S 311) 311 = S 311 := Sf_n hB (by omega) (by omega)
    have hT := Sf_WB hB (j := S 311) (by omega)
    have hS2 : SV (up3 w 8 1 310 (nI 2)) (Sfin S) := hS.up 310 2
    have hB2 : WB (Sfin S) := by
      obtain ⟨b1, b2, b3, b4, b5, b6, b7, b8, b9, b10⟩ := hT
      unfold Sfin
      exact ⟨by rw [upN_n (by omega)]; exact b1, by rw [upN_s]; omega, by rw [upN_n (by omega)]; exact b3, by rw [upN_n (by omega)]; exact b4, by rw [upN_n (by omega)]; exact b5, by rw [upN_n (by omega)]; exact b6, by rw [upN_n (by omega)]; exact b7, by rw [upN_n (by omega)]; exact b8, fun p hp => by rw [upN_n (by omega)]; exact b9 p hp, fun k hk a ha => by rw [upN_n (by omega)]; exact b10 k hk a ha⟩
    have e2 : Sfin S 311 = S 311 := by unfold Sfin; rw [upN_n (by omega), e311]
    have hfs := M_inFinal hS2 hB2
    rw [e2] at hfs
    refine ⟨up3 w 8 1 310 (nI 2), ?_, ag1.up _ _, hS2⟩
    rw [F_X12_finals_28_s, hS 311 (by omega), e311, iLe (by omega) (by omega), if_pos (Nat.le_refl _), gS_e]
    show gP (F_X12_inFinal (up3 w 8 1 310 (nI 2))) _ = _
    rw [hfs, gP_s]
    rfl
  | succ d ih =>
    intro fu w j hjd hfu hS
    obtain ⟨fu, rfl⟩ : ∃ f, fu = f + 1 := ⟨fu - 1, by omega⟩
    have hj : j < S 311 := by omega
    have hT := Sf_WB hB (j := j) (by omega)
    have e311 : Sf S j 311 = S 311 := Sf_n hB (by omega) (by omega)
    have e317 : Sf S j 317 = S 317 := Sf_n hB (by omega) (by omega)
    have e319 : Sf S j 319 = S 319 := Sf_n hB (by omega) (by omega)
    have e5 : Sf S j (10 * j + 5) = S (10 * j + 5) := Sf_n hB (by omega) (by omega)
    have hg := (hB.k (k := j) (by omega)).2.2.2.2.2.1
    have h58 : ∀ r, r ≤ 30 → F_X12_finals_58 (F_X12_finals_28 fu) w (nI j) (nI r) = if r < S 317 then F_X12_finals_28 fu (up3 w 8 1 (10 * j + 6) (nI (laneN S r))) (nI (j + 1)) else if r < S 317 + S 319 then F_X12_finals_28 fu (up3 w 8 1 (306 + (r - S 317)) (nI (j + 1))) (nI (j + 1)) else F_X12_finals_28 fu w (nI (j + 1)) := by
      intro r hr
      unfold F_X12_finals_58
      rw [M_lanes hS, gP_s, gP_s, gP_s, hS 319 (by omega), e317, e319, nI_add, iLe (by omega) (by omega), iLe (by omega) (by omega), show (30 : Int32) = nI 30 from rfl, iLe (by omega) (by omega)]
      by_cases e : S 317 ≤ r
      · rw [if_pos e, if_neg (show ¬ r < S 317 by omega)]
        by_cases e2 : S 317 + S 319 ≤ r
        · rw [if_pos e2, if_neg (show ¬ r < S 317 + S 319 by omega)]
          simp only [gS_e, nI_1]
        · rw [if_neg e2, if_neg (by omega), if_pos (show r < S 317 + S 319 by omega), show (306 : Int32) = nI 306 from rfl, nI_add, pk_sub (by omega), show 306 + r - S 317 = 306 + (r - S 317) by omega, gB_n _ (by omega) (by omega)]
          simp only [gS_e, nI_1]
      · have hl := laneN_in hB (r := r) (by omega)
        rw [if_neg e, if_pos (show r < S 317 by omega), M_laneOf hS hT (by omega), gP_s, laneI_cg e317, laneI_N hl.2.2, show (6 : Int32) = nI 6 from rfl, M_lay (by omega), gP_s]
        simp only [gS_e, nI_1]
    have hstep : F_X12_finals_28 (fu + 1) w (nI j) = F_X12_finals_28 fu (if finP S j = true then up3 w 8 1 (10 * j + 6) (nI (laneN S (trank S j))) else if rsvP S j = true then up3 w 8 1 (306 + (trank S j - S 317)) (nI (j + 1)) else w) (nI (j + 1)) := by
      rw [F_X12_finals_28_s, hS 311 (by omega), e311, iLe (by omega) (by omega), if_neg (by omega), M_hasT hS hT (by omega), gP_s, e5]
      by_cases e : 1 < S (10 * j + 5)
      · have ht : TN S j = true := by simp [TN, e]
        have hr := trank_n hB hj ht
        have hr2 := fb_ct_le (TN S) (S 311)
        rw [if_pos e, iE0 (by omega), if_neg (by omega), M_trank hS hT (by omega), gP_s, Sf_trank hB (by omega) (by omega), h58 _ (by omega)]
        by_cases a : trank S j < S 317
        · rw [if_pos a, if_pos (finP_t.mpr ⟨ht, a⟩)]
        · rw [if_neg a, if_neg (fun z => a (finP_t.mp z).2)]
          by_cases b : trank S j < S 317 + S 319
          · rw [if_pos b, if_pos (rsvP_t.mpr ⟨ht, by omega, b⟩)]
          · rw [if_neg b, if_neg (fun z => b (rsvP_t.mp z).2.2)]
      · have ht : ¬ TN S j = true := by simp [TN, e]
        rw [if_neg e, iE0 (by omega), if_pos rfl, show (30 : Int32) = nI 30 from rfl, h58 _ (by omega), if_neg (by omega), if_neg (by omega), if_neg (fun z => ht (finP_t.mp z).1), if_neg (fun z => ht (rsvP_t.mp z).1)]
    rw [hstep]
    have hS1 : SV (if finP S j = true then up3 w 8 1 (10 * j + 6) (nI (laneN S (trank S j))) else if rsvP S j = true then up3 w 8 1 (306 + (trank S j - S 317)) (nI (j + 1)) else w) (Sf S (j + 1)) := by
      show SV _ (seat S (Sf S j) j)
      unfold seat
      by_cases a : finP S j = true
      · rw [if_pos a, if_pos a]; exact hS.up _ _
      · rw [if_neg a, if_neg a]
        by_cases b : rsvP S j = true
        · rw [if_pos b, if_pos b]; exact hS.up _ _
        · rw [if_neg b, if_neg b]; exact hS
    obtain ⟨w', f1, f2, f3⟩ := ih fu _ (j + 1) (by omega) (by omega) hS1
    refine ⟨w', f1, ag1.tr ?_ f2, f3⟩
    split
    · exact ag1.up _ _
    · split
      · exact ag1.up _ _
      · exact ag1.rf _
end
section
/-! level 2: finals, its order -/
section FIN
variable {S : Nat → Nat} {EB : Nat}
theorem Sfin_n (hB : WB S) {t : Nat} (h : (t < 300 ∧ t % 10 ≠ 6) ∨ (300 ≤ t ∧ t ≠ 310 ∧ ¬ (306 ≤ t ∧ t < 310))) : Sfin S t = S t := by
  have hN := hB.1
  unfold Sfin
  rw [upN_n (by omega)]
  exact Sf_n hB (by omega) (by omega)
theorem Sfin_6 (hB : WB S) {q : Nat} (hq : q < 30) : Sfin S (10 * q + 6) = if q < S 311 ∧ finP S q = true then laneN S (trank S q) else S (10 * q + 6) := by
  have hN := hB.1
  unfold Sfin
  rw [upN_n (by omega)]
  exact Sf_6 hB hq (by omega)
theorem Sfin_IV (hI : IV EB S) (h1 : S 310 = 1) : IV EB (Sfin S) := by
  have hB := hI.wb
  have hN := hB.1
  have hT := Sf_WB hB (j := S 311) (by omega)
  have e311 : Sfin S 311 = S 311 := Sfin_n hB (by omega)
  have e310 : Sfin S 310 = 2 := upN_s _ _ _
  refine ⟨?_, ?_, ?_, ?_, ?_, ?_, ?_, ?_⟩
  · obtain ⟨b1, b2, b3, b4, b5, b6, b7, b8, b9, b10⟩ := hT
    unfold Sfin
    exact ⟨by rw [upN_n (by omega)]; exact b1, by rw [upN_s]; omega, by rw [upN_n (by omega)]; exact b3, by rw [upN_n (by omega)]; exact b4, by rw [upN_n (by omega)]; exact b5, by rw [upN_n (by omega)]; exact b6, by rw [upN_n (by omega)]; exact b7, by rw [upN_n (by omega)]; exact b8, fun p hp => by rw [upN_n (by omega)]; exact b9 p hp, fun k hk a ha => by rw [upN_n (by omega)]; exact b10 k hk a ha⟩
  · intro k h1 h2 a h3 h4
    rw [e311] at h1
    by_cases e : a = 6
    · subst e
      rw [Sfin_6 hB h2, if_neg (fun z => by omega)]
      exact hI.out h1 h2 h3 h4
    · rw [Sfin_n hB (by omega)]
      exact hI.out h1 h2 h3 h4
  · intro h; omega
  · intro h; omega
  · intro _ k hk
    rw [e311] at hk
    have g := hI.s1 h1 k hk
    rw [Sfin_n hB (t := 10 * k + 8) (by omega), Sfin_n hB (t := 10 * k + 2) (by omega), Sfin_6 hB (by omega)]
    refine ⟨fun z => ?_, g.2.2.2⟩
    by_cases e : k < S 311 ∧ finP S k = true
    · have h2 := of_decide_eq_true (finP_t.mp e.2).1
      have h3 := (hB.k (k := k) (by omega)).2.2.1
      by_cases y : S (10 * k + 2) = 1
      · have := (g.1 y).2; omega
      · omega
    · rw [if_neg e] at z
      exact absurd g.2.1 z
  · intro q hq
    rw [Sfin_n hB (by omega), hI.cl hq, e311]
    unfold clubSum
    exact fb_sm_cong (fun z hz => by rw [Sfin_n hB (t := 10 * z) (by omega), Sfin_n hB (t := 10 * z + 9) (by omega)])
  · intro k hk
    rw [e311] at hk
    rw [Sfin_n hB (by omega), Sfin_n hB (by omega)]
    exact hI.pt hk
  · rw [Sfin_n hB (by omega)]
    refine ⟨hI.eb, fun _ => ?_⟩
    rw [e311, Sfin_n hB (t := 317) (by omega)]
    have z6 : ∀ k, k < S 311 → S (10 * k + 6) = 0 ∧ S (10 * k + 7) = 0 := fun k hk => ⟨(hI.s1 h1 k hk).2.1, (hI.s1 h1 k hk).2.2.1⟩
    refine ⟨?_, fun k hk z => ?_⟩
    · have e1 : fb_ct (inF (Sfin S)) (S 311) ≤ fb_ct (finP S) (S 311) := fb_ct_sub (fun k hk hp => by
        have hp' := of_decide_eq_true hp
        rw [Sfin_6 hB (by omega)] at hp'
        by_cases y : k < S 311 ∧ finP S k = true
        · exact y.2
        · rw [if_neg y] at hp'; exact absurd (z6 k hk).1 hp')
      have e2 : fb_ct (finP S) (S 311) = min (S 317) (fb_ct (TN S) (S 311)) := by
        have := ct_win 0 (S 317) (fb_ct (TN S) (S 311))
        rw [Nat.sub_zero] at this
        rw [← this, ← ct_rank (U := TN S) (e := eT S) (N := S 311) (fun a b ha hb h => eT_inj hB (by omega) (by omega) h)]
        exact fb_ct_cong (fun q hq => by unfold finP; rw [trank_rk hB (by omega)]; simp)
      omega
    · rw [Sfin_n hB (by omega)] at z
      exact absurd (z6 k hk).2 z
theorem Sfin_RV (hI : IV EB S) (h1 : S 310 = 1) {c c' : Nat → Nat → Int32} (hR : RV c S) (h6 : c' 0 6 = nI (fb_ct (rsvP S) (S 311))) (h3 : ∀ q, q < S 311 → rsvP S q = true → c' 3 (trank S q - S 317) = nI q) : RV c' (Sfin S) := by
  have hB := hI.wb
  have hN := hB.1
  have h9 := hB.2.2.2.2.2.2.2.1
  have hz : ∀ p, p < 4 → S (306 + p) = 0 := by
    obtain ⟨n, q, a1, a2, a3, a4, a5, a6⟩ := hR
    have := a6 (by omega)
    exact fun p hp => a4 p (by omega) hp
  have hct := rsvP_ct hB
  have e311 : Sfin S 311 = S 311 := Sfin_n hB (by omega)
  have er : ∀ p, Sfin S (306 + p) = Sf S (S 311) (306 + p) ∨ ¬ p < 4 := fun p => by
    by_cases z : p < 4
    · left; unfold Sfin; rw [upN_n (by omega)]
    · right; exact z
  have hrow : ∀ p, p < fb_ct (rsvP S) (S 311) → ∃ q, q < S 311 ∧ rsvP S q = true ∧ trank S q = S 317 + p ∧ Sfin S (306 + p) = q + 1 := by
    intro p hp
    rcases er p with e | e
    · rcases Sf_r hB (p := p) (by omega) (j := S 311) (by omega) with ⟨a, b⟩ | ⟨q, a, b, d, f⟩
      · exfalso
        obtain ⟨q, g1, g2, g3⟩ := trank_surj hB (x := S 317 + p) (by omega)
        exact b q g1 (rsvP_t.mpr ⟨g2, by omega, by omega⟩) g3
      · exact ⟨q, a, b, d, e.trans f⟩
    · omega
  refine ⟨fb_ct (rsvP S) (S 311), fun p => Sfin S (306 + p) - 1, by omega, h6, fun p hp => ?_, fun p a b => ?_, fun p p' hp hp' h => ?_, fun z => ?_⟩
  · obtain ⟨q, a1, a2, a3, a4⟩ := hrow p hp
    have eq1 : Sfin S (306 + p) - 1 = q := by omega
    show c' 3 p = nI (Sfin S (306 + p) - 1) ∧ Sfin S (306 + p) - 1 < Sfin S 311 ∧ (Sfin S (306 + p) = 0 → Sfin S (10 * (Sfin S (306 + p) - 1) + 6) ≠ 0 ∨ Sfin S (10 * (Sfin S (306 + p) - 1) + 2) = 1) ∧ (Sfin S (306 + p) ≠ 0 → Sfin S (306 + p) = Sfin S (306 + p) - 1 + 1 ∧ Sfin S (10 * (Sfin S (306 + p) - 1) + 6) = 0)
    rw [eq1, e311]
    have h3' := h3 q a1 a2
    rw [show trank S q - S 317 = p by omega] at h3'
    refine ⟨h3', a1, fun y => by omega, fun _ => ⟨a4, ?_⟩⟩
    have hq6 := (hI.s1 h1 q a1).2.1
    rw [Sfin_6 hB (by omega), if_neg (fun y => by have := (finP_t.mp y.2).2; omega)]
    exact hq6
  · rcases er p with e | e
    · rw [e]
      rcases Sf_r hB (p := p) b (j := S 311) (by omega) with ⟨x, y⟩ | ⟨q, x, y, d, f⟩
      · rw [x]; exact hz p b
      · exfalso
        have h5 := rsvP_t.mp y
        have := trank_n hB x h5.1
        omega
    · exact absurd b e
  · obtain ⟨q, a1, a2, a3, a4⟩ := hrow p hp
    obtain ⟨q', b1, b2, b3, b4⟩ := hrow p' hp'
    have h' : Sfin S (306 + p) - 1 = Sfin S (306 + p') - 1 := h
    have : q = q' := by omega
    subst this
    omega
  · have : Sfin S 310 = 2 := upN_s _ _ _
    omega
end FIN
theorem OK_finals {i EB : Nat} {S : Nat → Nat} (hI : IV EB S) : OK2 i (fun w => F_X1_drawFinal w i) F_X12_finals EB S := by
  have hB := hI.wb
  have hN := hB.1
  have hst := hB.2.1
  have hm2 : (-1000002 : Int32) < 0 := by decide
  have hw : whyN S ≤ 2 := by unfold whyN; split <;> (try split) <;> (try split) <;> omega
  by_cases h1 : S 310 = 1
  · by_cases z : whyN S = 0
    · refine ⟨nI (bn (inF (Sfin S)) (S 311)), Or.inr ⟨nI_pos' (by have := bn_30 (inF (Sfin S)) (n := S 311) (by omega); omega), Sfin S, (Sfin_IV hI h1).mono (by omega), fun w hC hR => ?_, fun w wc hS hch hag => ?_⟩⟩
      · have h6 : w i 0 6 = nI 0 := by
          obtain ⟨n, q, a1, a2, a3, a4, a5, a6⟩ := hR
          have := a6 (by omega)
          subst this
          exact a2
        obtain ⟨w', f1, f2, f3, f4, f5⟩ := C_fin20 (i := i) hB h1 (S 311) gFU w 0 (by omega) (by unfold gFU; omega) hC h6 (fun q hq => absurd hq (Nat.not_lt_zero q))
        refine ⟨w', ?_, f2, f3, Sfin_RV hI h1 hR f4 f5⟩
        show F_X1_drawFinal w i = _
        unfold F_X1_drawFinal
        rw [hC.st, iE1 (by omega), if_pos h1, C_why hI hC, gP_s, iE0 (by omega), if_pos z]
        exact f1
      · have hSc := hag.sv hS
        obtain ⟨w', f1, f2, f3⟩ := M_fin28 hB (S 311) gFU wc 0 (by omega) (by unfold gFU; omega) hSc
        refine ⟨w', ?_, f2, f3⟩
        unfold F_X12_finals
        rw [hS 310 (by omega), iE1 (by omega), if_pos h1, M_why hS hB, gP_s, iLe0 (by omega), if_pos z, hch, gP_s]
        exact f1
    · refine ⟨-1000002, Or.inl ⟨hm2, fun w hC _ => ?_, fun w hS => ?_⟩⟩
      · show F_X1_drawFinal w i = _
        unfold F_X1_drawFinal
        rw [hC.st, iE1 (by omega), if_pos h1, C_why hI hC, gP_s, iE0 (by omega), if_neg z]
      · unfold F_X12_finals
        rw [hS 310 (by omega), iE1 (by omega), if_pos h1, M_why hS hB, gP_s, iLe0 (by omega), if_neg z]
  · refine ⟨-1000002, Or.inl ⟨hm2, fun w hC _ => ?_, fun w hS => ?_⟩⟩
    · show F_X1_drawFinal w i = _
      unfold F_X1_drawFinal
      rw [hC.st, iE1 (by omega), if_neg h1]
    · unfold F_X12_finals
      rw [hS 310 (by omega), iE1 (by omega), if_neg h1]
end
section
/-! level 2: places and points -/
theorem CV.hi {c : Nat → Nat → Int32} {S : Nat → Nat} (hC : CV c S) (hN : S 311 ≤ 30) {t v : Nat} (ht : 300 ≤ t ∧ t < 310) : CV c (upN S t v) := by
  have g : ∀ q, 310 ≤ q ∨ q < 300 → upN S t v q = S q := fun q hq => upN_n (by omega)
  refine ⟨?_, fun q hq b hb => ?_⟩
  · rw [g 311 (by omega), g 310 (by omega), g 312 (by omega), g 316 (by omega), g 313 (by omega), g 314 (by omega), g 315 (by omega), g 317 (by omega), g 318 (by omega), g 319 (by omega)]
    exact hC.1
  · rw [g 311 (by omega)] at hq
    rw [g _ (by omega)]
    exact hC.2 q hq b hb
theorem WB.cl {S : Nat → Nat} (h : WB S) {c v : Nat} (hc : c < 6) : WB (upN S (300 + c) v) := by
  obtain ⟨b1, b2, b3, b4, b5, b6, b7, b8, b9, b10⟩ := h
  have hi : ∀ q, 306 ≤ q ∨ q < 300 → upN S (300 + c) v q = S q := fun q hq => upN_n (by omega)
  exact ⟨by rw [hi 311 (by omega)]; exact b1, by rw [hi 310 (by omega)]; exact b2, by rw [hi 312 (by omega)]; exact b3, by rw [hi 314 (by omega)]; exact b4, by rw [hi 315 (by omega)]; exact b5, by rw [hi 317 (by omega)]; exact b6, by rw [hi 318 (by omega)]; exact b7, by rw [hi 319 (by omega)]; exact b8, fun q hq => by rw [hi (306 + q) (by omega)]; exact b9 q hq, fun q hq a ha => by rw [hi _ (by omega)]; exact b10 q hq a ha⟩
def tm (S : Nat → Nat) (q : Nat) : Bool := decide (1 < S (10 * q + 7))
def pl (S : Nat → Nat) (j : Nat) : Nat := fb_ct (fun q => tm S q && decide (S (10 * q + 7) < S (10 * j + 7))) (S 311) + 1
def sh (S : Nat → Nat) (j : Nat) : Nat := fb_ct (fun q => decide (S (10 * q + 7) = S (10 * j + 7))) (S 311)
def wo (L x : Nat) : Nat := L - x + 1 + if x = 1 then 1 else 0
def sumw (L a n : Nat) : Nat := fb_sm (fun i => wo L (a + i)) n
def ptS (S : Nat → Nat) (j : Nat) : Nat := 2 * sumw (S 317) (pl S j) (sh S j) / sh S j
theorem tm_t {S : Nat → Nat} {q : Nat} : tm S q = true ↔ 1 < S (10 * q + 7) := by simp [tm]
section PLACES
variable {S : Nat → Nat}
theorem pl_sh {j : Nat} (ht : tm S j = true) : pl S j - 1 + sh S j ≤ fb_ct (tm S) (S 311) := by
  have h1 := tm_t.mp ht
  have := fb_ct_or (p := fun q => tm S q && decide (S (10 * q + 7) < S (10 * j + 7))) (q := fun q => decide (S (10 * q + 7) = S (10 * j + 7))) (n := S 311) (fun k hk hp => by
    have a := hp.1
    have b := hp.2
    simp at a b
    omega)
  unfold pl sh
  rw [Nat.add_sub_cancel, ← this]
  refine fb_ct_sub (fun k hk hp => ?_)
  simp at hp
  rcases hp with hp | hp
  · exact hp.1
  · exact tm_t.mpr (by omega)
theorem sh_pos {j : Nat} (hj : j < S 311) : 1 ≤ sh S j := fb_ct_pos.mpr ⟨j, hj, by simp⟩
theorem pl_le {j : Nat} (hj : j < S 311) (ht : tm S j = true) : 1 ≤ pl S j ∧ pl S j ≤ S 311 := by
  have h1 := pl_sh ht
  have h2 := sh_pos hj
  have h3 := fb_ct_le (tm S) (S 311)
  have : 1 ≤ pl S j := by unfold pl; omega
  omega
theorem wo_le {L x : Nat} (h : 1 ≤ x) (hx : x ≤ L) : wo L x ≤ L + 1 := by unfold wo; split <;> omega
theorem sumw_le {L a n : Nat} (ha : 1 ≤ a) (h : a + n ≤ L + 1) : sumw L a n ≤ n * (L + 1) := fb_sm_bound (fun k hk => wo_le (by omega) (by omega))
theorem ptS_le {j : Nat} (hj : j < S 311) (ht : tm S j = true) (hc : fb_ct (tm S) (S 311) ≤ S 317) : ptS S j ≤ 2 * (S 317 + 1) := by
  have h1 := pl_sh ht
  have h2 := pl_le hj ht
  have h3 := sh_pos (S := S) hj
  have h4 := sumw_le (L := S 317) (a := pl S j) (n := sh S j) h2.1 (by omega)
  unfold ptS
  refine (Nat.div_le_iff_le_mul_add_pred h3).mpr ?_
  have : 2 * sumw (S 317) (pl S j) (sh S j) ≤ sh S j * (2 * (S 317 + 1)) := by
    rw [Nat.mul_left_comm]
    exact Nat.mul_le_mul_left 2 h4
  omega
end PLACES
def Se (S : Nat → Nat) : Nat → Nat → Nat
  | 0 => S
  | j + 1 => if tm S j = true then upN (upN (upN (Se S j) (10 * j + 8) (pl S j)) (10 * j + 9) (S (10 * j + 9) + ptS S j)) (300 + S (10 * j)) (Se S j (300 + S (10 * j)) + ptS S j) else Se S j
section SE
variable {S : Nat → Nat}
theorem Se_n (hB : WB S) {t : Nat} (h : (t < 300 ∧ t % 10 < 8) ∨ 306 ≤ t) : ∀ {j}, j ≤ 30 → Se S j t = S t
  | 0, _ => rfl
  | j + 1, hj => by
    have hc := (hB.k (k := j) (by omega)).1
    have ih := Se_n hB h (j := j) (by omega)
    show (if tm S j = true then _ else _ : Nat → Nat) t = S t
    by_cases e : tm S j = true
    · rw [if_pos e, upN_n (by omega), upN_n (by omega), upN_n (by omega)]; exact ih
    · rw [if_neg e]; exact ih
theorem Se_8 (hB : WB S) {q : Nat} (hq : q < 30) : ∀ {j}, j ≤ 30 → Se S j (10 * q + 8) = if q < j ∧ tm S q = true then pl S q else S (10 * q + 8)
  | 0, _ => by rw [if_neg (fun z => absurd z.1 (Nat.not_lt_zero q))]; rfl
  | j + 1, hj => by
    have hc := (hB.k (k := j) (by omega)).1
    have ih := Se_8 hB hq (j := j) (by omega)
    have ih2 : q ≠ j ∨ ¬ tm S q = true → (if q < j ∧ tm S q = true then pl S q else S (10 * q + 8)) = if q < j + 1 ∧ tm S q = true then pl S q else S (10 * q + 8) := by
      intro hne
      by_cases z : q < j ∧ tm S q = true
      · rw [if_pos z, if_pos ⟨by omega, z.2⟩]
      · rw [if_neg z, if_neg (fun y => z ⟨by rcases hne with n | n; omega; exact absurd y.2 n, y.2⟩)]
    show (if tm S j = true then _ else _ : Nat → Nat) _ = _
    by_cases e : tm S j = true
    · rw [if_pos e]
      by_cases ej : q = j
      · subst ej
        rw [upN_n (by omega), upN_n (by omega), upN_s, if_pos ⟨by omega, e⟩]
      · rw [upN_n (by omega), upN_n (by omega), upN_n (by omega), ih, ih2 (Or.inl ej)]
    · rw [if_neg e, ih]
      by_cases ej : q = j
      · subst ej; exact ih2 (Or.inr e)
      · exact ih2 (Or.inl ej)
theorem Se_9 (hB : WB S) {q : Nat} (hq : q < 30) : ∀ {j}, j ≤ 30 → Se S j (10 * q + 9) = if q < j ∧ tm S q = true then S (10 * q + 9) + ptS S q else S (10 * q + 9)
  | 0, _ => by rw [if_neg (fun z => absurd z.1 (Nat.not_lt_zero q))]; rfl
  | j + 1, hj => by
    have hc := (hB.k (k := j) (by omega)).1
    have ih := Se_9 hB hq (j := j) (by omega)
    have ih2 : q ≠ j ∨ ¬ tm S q = true → (if q < j ∧ tm S q = true then S (10 * q + 9) + ptS S q else S (10 * q + 9)) = if q < j + 1 ∧ tm S q = true then S (10 * q + 9) + ptS S q else S (10 * q + 9) := by
      intro hne
      by_cases z : q < j ∧ tm S q = true
      · rw [if_pos z, if_pos ⟨by omega, z.2⟩]
      · rw [if_neg z, if_neg (fun y => z ⟨by rcases hne with n | n; omega; exact absurd y.2 n, y.2⟩)]
    show (if tm S j = true then _ else _ : Nat → Nat) _ = _
    by_cases e : tm S j = true
    · rw [if_pos e]
      by_cases ej : q = j
      · subst ej
        rw [upN_n (by omega), upN_s, if_pos ⟨by omega, e⟩]
      · rw [upN_n (by omega), upN_n (by omega), upN_n (by omega), ih, ih2 (Or.inl ej)]
    · rw [if_neg e, ih]
      by_cases ej : q = j
      · subst ej; exact ih2 (Or.inr e)
      · exact ih2 (Or.inl ej)
theorem Se_cl (hB : WB S) (hcl : ∀ q, q < 6 → S (300 + q) = clubSum S q (S 311)) {q : Nat} (hq : q < 6) : ∀ {j}, j ≤ S 311 → Se S j (300 + q) = clubSum (Se S j) q (S 311)
  | 0, _ => hcl q hq
  | j + 1, hj => by
    have hN := hB.1
    have hc := (hB.k (k := j) (by omega)).1
    have ih := Se_cl hB hcl hq (j := j) (by omega)
    by_cases e : tm S j = true
    · have e1 : Se S (j + 1) = upN (upN (upN (Se S j) (10 * j + 8) (pl S j)) (10 * j + 9) (S (10 * j + 9) + ptS S j)) (300 + S (10 * j)) (Se S j (300 + S (10 * j)) + ptS S j) := by show (if tm S j = true then _ else _ : Nat → Nat) = _; rw [if_pos e]
      have e0 : ∀ k, k < 30 → Se S (j + 1) (10 * k) = Se S j (10 * k) := fun k hk => by rw [e1, upN_n (by omega), upN_n (by omega), upN_n (by omega)]
      have e9 : ∀ k, k < 30 → Se S (j + 1) (10 * k + 9) = if k = j then S (10 * j + 9) + ptS S j else Se S j (10 * k + 9) := fun k hk => by
        rw [e1, upN_n (by omega)]
        by_cases z : k = j
        · subst z; rw [upN_s, if_pos rfl]
        · rw [upN_n (by omega), upN_n (by omega), if_neg z]
      have ec : Se S j (10 * j) = S (10 * j) := Se_n hB (by omega) (by omega)
      have e9j : Se S j (10 * j + 9) = S (10 * j + 9) := by rw [Se_9 hB (by omega) (by omega), if_neg (fun z => by omega)]
      unfold clubSum at ih ⊢
      have hu := fb_sm_upd (fun k => if Se S j (10 * k) = q then Se S j (10 * k + 9) else 0) (if S (10 * j) = q then S (10 * j + 9) + ptS S j else 0) (i := j) (n := S 311) (by omega)
      rw [fb_sm_cong (g := fun k => if k = j then (if S (10 * j) = q then S (10 * j + 9) + ptS S j else 0) else if Se S j (10 * k) = q then Se S j (10 * k + 9) else 0) (fun k hk => by
        rw [e0 k (by omega), e9 k (by omega)]
        by_cases z : k = j
        · subst z; rw [if_pos rfl, if_pos rfl, ec]
        · rw [if_neg z, if_neg z])]
      have hfj : (if Se S j (10 * j) = q then Se S j (10 * j + 9) else 0) = if S (10 * j) = q then S (10 * j + 9) else 0 := by
        rw [ec, e9j]
      rw [hfj, ← ih] at hu
      generalize hV : (if S (10 * j) = q then S (10 * j + 9) + ptS S j else 0) = V at hu ⊢
      generalize hW : (if S (10 * j) = q then S (10 * j + 9) else 0) = W at hu
      by_cases z : S (10 * j) = q
      · rw [if_pos z] at hV hW
        have : Se S (j + 1) (300 + q) = Se S j (300 + q) + ptS S j := by rw [e1, z, upN_s]
        omega
      · rw [if_neg z] at hV hW
        have : Se S (j + 1) (300 + q) = Se S j (300 + q) := by rw [e1, upN_n (by omega), upN_n (by omega), upN_n (by omega)]
        omega
    · have e1 : Se S (j + 1) = Se S j := by show (if tm S j = true then _ else _ : Nat → Nat) = _; rw [if_neg e]
      rw [e1]; exact ih
theorem okv8 {v : Nat} (h : v ≤ 30) : okv 8 v := by refine ⟨?_, ?_, ?_, ?_, ?_, ?_, ?_, ?_⟩ <;> omega
theorem okv9 {v : Nat} : okv 9 v := by refine ⟨?_, ?_, ?_, ?_, ?_, ?_, ?_, ?_⟩ <;> omega
theorem Se_WB (hB : WB S) : ∀ {j}, j ≤ S 311 → WB (Se S j)
  | 0, _ => hB
  | j + 1, hj => by
    have hN := hB.1
    have ih := Se_WB hB (j := j) (by omega)
    have hc := (hB.k (k := j) (by omega)).1
    show WB (if tm S j = true then _ else _)
    by_cases e : tm S j = true
    · rw [if_pos e]
      have := pl_le (S := S) (j := j) (by omega) e
      exact ((ih.upk (a := 8) (by omega) (by omega) (okv8 (by omega))).upk (a := 9) (by omega) (by omega) okv9).cl (by omega)
    · rw [if_neg e]; exact ih
end SE
end
section
/-! level 2: end, both sides -/
theorem sumw_succ (L a n : Nat) : sumw L a (n + 1) = sumw L a n + wo L (a + n) := rfl
theorem C_shared {w : gWd} {L a n : Nat} (ha : 1 ≤ a) (hn : 1 ≤ n) (h : a + n ≤ L + 1) (hL : L ≤ 10) : F_X8_shared w (nI a) (nI n) (nI L) = some (nI (2 * sumw L a n / n)) := by
  unfold F_X8_shared
  have hs := sumw_le ha h
  have hs2 : n * (L + 1) ≤ 10 * 11 := Nat.mul_le_mul (by omega) (by omega)
  refine loopI (F := fun fu (acc : Nat) j => F_X8_shared_5 fu w (nI a) (nI n) (nI L) (nI acc) (nI j)) (a + n) (fun j acc => a ≤ j ∧ acc = sumw L a (j - a)) (fun r => r = some (nI (2 * sumw L a n / n))) ?_ ?_ gFU 0 a (by omega) (gFU_lt (by omega)) ⟨Nat.le_refl _, by rw [Nat.sub_self]; rfl⟩
  · intro fu acc hI
    obtain ⟨h1, h2⟩ := hI
    rw [Nat.add_sub_cancel_left] at h2
    show F_X8_shared_5 (fu + 1) w (nI a) (nI n) (nI L) (nI acc) (nI (a + n)) = _
    rw [F_X8_shared_5_s, nI_add, iLe (by omega) (by omega), if_pos (Nat.le_refl _), show (1 : Int32) = nI 1 from rfl, iLe (by omega) (by omega), if_pos hn, gD_n (by omega) (by omega), show (2 : Int32) = nI 2 from rfl, pk_mul, pk_div (by omega) (by omega) (by omega), h2]
  · intro fu acc j hj hI
    obtain ⟨h1, h2⟩ := hI
    right
    refine ⟨acc + wo L j, ⟨by omega, ?_⟩, ?_⟩
    · rw [show j + 1 - a = (j - a) + 1 by omega, sumw_succ, show a + (j - a) = j by omega, h2]
    show F_X8_shared_5 (fu + 1) w (nI a) (nI n) (nI L) (nI acc) (nI j) = F_X8_shared_5 fu w (nI a) (nI n) (nI L) (nI (acc + wo L j)) (nI (j + 1))
    rw [F_X8_shared_5_s, nI_add, iLe (by omega) (by omega), if_neg (by omega), iE1 (by omega), pk_sub (by omega)]
    unfold wo
    by_cases e : j = 1
    · rw [if_pos e, if_pos e]
      simp only [gS_e, nI_1, nI_add]
    · rw [if_neg e, if_neg e]
      simp only [gS_e, nI_1, nI_add, Nat.add_zero, Int32.add_zero]
theorem M_worth {w : gWd} {S : Nat → Nat} (hS : SV w S) (hB : WB S) {j : Nat} (hj : j ≤ S 317) : F_X12_worth w (nI j) = some (nI (wo (S 317) j)) := by
  have h7 := hB.2.2.2.2.2.1
  unfold F_X12_worth wo
  rw [M_lanes hS, gP_s, iE1 (by omega), pk_sub hj]
  by_cases e : j = 1
  · rw [if_pos e, if_pos e, nI_1, nI_1]
  · rw [if_neg e, if_neg e, nI_1, Int32.add_zero, Nat.add_zero]
theorem M_end83 {rec30 : gWd → Int32 → Int32 → Option (Int32 × gWd)} {w : gWd} {T : Nat → Nat} {j0 a n : Nat} {x1 : Int32} (hS : SV w T) (hB : WB T) (hj0 : j0 < 30) (ha : 1 ≤ a) (hn : 1 ≤ n) (h : a + n ≤ T 317 + 1) : F_X12_end_83 rec30 gFU w x1 (nI j0) (nI a) (nI n) 0 (nI a) = F_X12_end_180 rec30 (up3 (up3 (up3 w 8 1 (10 * j0 + 8) (nI a)) 8 1 (10 * j0 + 9) (nI (T (10 * j0 + 9) + 2 * sumw (T 317) a n / n))) 8 1 (300 + T (10 * j0)) (nI (T (300 + T (10 * j0)) + 2 * sumw (T 317) a n / n))) (nI j0) (if a = 1 then (1 <<< (nI j0 &&& 31)) else 0) x1 := by
  have h7 := hB.2.2.2.2.2.1
  have hc := (hB.k hj0).1
  have hs := sumw_le ha h
  have hs2 : n * (T 317 + 1) ≤ 10 * 11 := Nat.mul_le_mul (by omega) (by omega)
  refine loopI (F := fun fu (acc : Nat) j => F_X12_end_83 rec30 fu w x1 (nI j0) (nI a) (nI n) (nI acc) (nI j)) (a + n) (fun j acc => a ≤ j ∧ acc = sumw (T 317) a (j - a)) (fun r => r = F_X12_end_180 rec30 (up3 (up3 (up3 w 8 1 (10 * j0 + 8) (nI a)) 8 1 (10 * j0 + 9) (nI (T (10 * j0 + 9) + 2 * sumw (T 317) a n / n))) 8 1 (300 + T (10 * j0)) (nI (T (300 + T (10 * j0)) + 2 * sumw (T 317) a n / n))) (nI j0) (if a = 1 then (1 <<< (nI j0 &&& 31)) else 0) x1) ?_ ?_ gFU 0 a (by omega) (gFU_lt (by omega)) ⟨Nat.le_refl _, by rw [Nat.sub_self]; rfl⟩
  · intro fu acc hI
    obtain ⟨h1, h2⟩ := hI
    rw [Nat.add_sub_cancel_left] at h2
    show F_X12_end_83 rec30 (fu + 1) w x1 (nI j0) (nI a) (nI n) (nI acc) (nI (a + n)) = _
    have hS1 : SV (up3 w 8 1 (10 * j0 + 8) (nI a)) (upN T (10 * j0 + 8) a) := hS.up _ _
    have hS2 : SV (up3 (up3 w 8 1 (10 * j0 + 8) (nI a)) 8 1 (10 * j0 + 9) (nI (T (10 * j0 + 9) + 2 * sumw (T 317) a n / n))) (upN (upN T (10 * j0 + 8) a) (10 * j0 + 9) (T (10 * j0 + 9) + 2 * sumw (T 317) a n / n)) := hS1.up _ _
    have e9 : upN T (10 * j0 + 8) a (10 * j0 + 9) = T (10 * j0 + 9) := upN_n (by omega)
    have e0 : upN (upN T (10 * j0 + 8) a) (10 * j0 + 9) (T (10 * j0 + 9) + 2 * sumw (T 317) a n / n) (10 * j0) = T (10 * j0) := by rw [upN_n (by omega), upN_n (by omega)]
    have ec : upN (upN T (10 * j0 + 8) a) (10 * j0 + 9) (T (10 * j0 + 9) + 2 * sumw (T 317) a n / n) (300 + T (10 * j0)) = T (300 + T (10 * j0)) := by rw [upN_n (by omega), upN_n (by omega)]
    rw [F_X12_end_83_s, nI_add, iLe (by omega) (by omega), if_pos (Nat.le_refl _), show (8 : Int32) = nI 8 from rfl, M_lay (by omega), gP_s, M_of9 hS1 hj0, gP_s, e9, gD_n (by omega) (by omega), show (2 : Int32) = nI 2 from rfl, pk_mul, pk_div (by omega) (by omega) (by omega), h2, nI_add, show (9 : Int32) = nI 9 from rfl, M_lay (by omega), gP_s, M_of0 hS2 hj0, gP_s, e0, show (300 : Int32) = nI 300 from rfl, nI_add, gB_n _ (by omega) (by omega), gD_n (by omega) (by omega), gB_n _ (by omega) (by omega), gS_e, hS2 _ (by omega), ec, nI_add, iE1 (by omega)]
    split <;> rfl
  · intro fu acc j hj hI
    obtain ⟨h1, h2⟩ := hI
    right
    refine ⟨acc + wo (T 317) j, ⟨by omega, ?_⟩, ?_⟩
    · rw [show j + 1 - a = (j - a) + 1 by omega, sumw_succ, show a + (j - a) = j by omega, h2]
    show F_X12_end_83 rec30 (fu + 1) w x1 (nI j0) (nI a) (nI n) (nI acc) (nI j) = F_X12_end_83 rec30 fu w x1 (nI j0) (nI a) (nI n) (nI (acc + wo (T 317) j)) (nI (j + 1))
    rw [F_X12_end_83_s, nI_add, iLe (by omega) (by omega), if_neg (by omega), M_worth hS hB (by omega), gP_s]
    simp only [gS_e, nI_1, nI_add]
theorem M_finishers {w : gWd} {S : Nat → Nat} (hS : SV w S) (hB : WB S) (x1 x2 : Int32) (p : Nat → Bool) (hp : ∀ q, q < S 311 → (p q = true ↔ ¬ (nI (S (10 * q + 7)) - 1 < x1) ∧ ¬ (x2 < nI (S (10 * q + 7)) - 1))) : F_X12_finishers w x1 x2 = some (nI (fb_ct p (S 311))) := by
  unfold F_X12_finishers
  have hN := hB.1
  refine loopI (F := fun fu (acc : Nat) j => F_X12_finishers_5 fu w x1 x2 (nI acc) (nI j)) (S 311) (fun j acc => acc = fb_ct p j) (fun r => r = some (nI (fb_ct p (S 311)))) ?_ ?_ gFU 0 0 (by omega) (gFU_lt (by omega)) rfl
  · intro fu acc hI
    show F_X12_finishers_5 (fu + 1) w x1 x2 (nI acc) (nI (S 311)) = _
    rw [F_X12_finishers_5_s, hS 311 (by omega), iLe (by omega) (by omega), if_pos (Nat.le_refl _), hI]
  · intro fu acc j hj hI
    right
    refine ⟨_, rfl, ?_⟩
    show F_X12_finishers_5 (fu + 1) w x1 x2 (nI acc) (nI j) = F_X12_finishers_5 fu w x1 x2 _ (nI (j + 1))
    have h1 := hp j hj
    rw [F_X12_finishers_5_s, hS 311 (by omega), iLe (by omega) (by omega), if_neg (by omega), M_of7 hS (by omega), gP_s, M_in, gP_s, fb_ct_succ, hI]
    by_cases a : nI (S (10 * j + 7)) - 1 < x1
    · rw [if_pos a, if_pos rfl, if_neg (fun z => (h1.mp z).1 a)]
      simp only [gS_e, Int32.add_zero, Nat.add_zero, nI_1]
    · rw [if_neg a]
      by_cases b : x2 < nI (S (10 * j + 7)) - 1
      · rw [if_pos b, if_pos rfl, if_neg (fun z => (h1.mp z).2 b)]
        simp only [gS_e, Int32.add_zero, Nat.add_zero, nI_1]
      · rw [if_neg b, if_neg (by decide), if_pos (h1.mpr ⟨a, b⟩)]
        simp only [gS_e, nI_1]
section ENDS
variable {S : Nat → Nat} {j : Nat}
theorem Se_ctF (hB : WB S) (h2 : S 310 = 2) (hj : j < S 311) (ht : tm S j = true) : ctF (Se S j) (S (10 * j + 7) - 1) (S 311) = pl S j - 1 ∧ ctF (Se S j) (S (10 * j + 7) - 1 + 1) (S 311) = pl S j - 1 + sh S j := by
  have hN := hB.1
  have h1 := tm_t.mp ht
  have e : tcol (Se S j) = 7 := by unfold tcol; rw [Se_n hB (by omega) (by omega), if_neg (by omega)]
  have e7 : ∀ q, q < S 311 → Se S j (10 * q + 7) = S (10 * q + 7) := fun q hq => Se_n hB (by omega) (by omega)
  constructor
  · unfold ctF pl
    rw [Nat.add_sub_cancel, e]
    refine fb_ct_cong (fun q hq => ?_)
    rw [e7 q hq, show S (10 * j + 7) - 1 + 1 = S (10 * j + 7) by omega]
    rfl
  · have := fb_ct_or (p := fun q => tm S q && decide (S (10 * q + 7) < S (10 * j + 7))) (q := fun q => decide (S (10 * q + 7) = S (10 * j + 7))) (n := S 311) (fun k hk hp => by
      have a := hp.1
      have b := hp.2
      simp at a b
      omega)
    unfold ctF pl sh
    rw [Nat.add_sub_cancel, ← this, e]
    refine fb_ct_cong (fun q hq => ?_)
    rw [e7 q hq]
    unfold tm
    by_cases a : 1 < S (10 * q + 7)
    · rw [decide_eq_true a, Bool.true_and, Bool.true_and]
      by_cases b : S (10 * q + 7) < S (10 * j + 7)
      · rw [decide_eq_true b, Bool.true_or, decide_eq_true]; omega
      · rw [decide_eq_false b, Bool.false_or]
        by_cases d : S (10 * q + 7) = S (10 * j + 7)
        · rw [decide_eq_true d, decide_eq_true]; omega
        · rw [decide_eq_false d, decide_eq_false]; omega
    · rw [decide_eq_false a, Bool.false_and, Bool.false_and, Bool.false_or, eq_comm, decide_eq_false]; omega
theorem C_place {w : gWd} {i : Nat} (hB : WB S) (h2 : S 310 = 2) (hj : j < S 311) (hc : fb_ct (tm S) (S 311) ≤ S 317) (hC : CV (w i) (Se S j)) : F_X8_place w i i j = some (if tm S j = true then up3 (up3 w i (4 + j) 9 (nI (pl S j))) i (4 + j) 10 (nI (S (10 * j + 9) + ptS S j)) else w) := by
  have hN := hB.1
  have h7 := hB.2.2.2.2.2.1
  have hg := (hB.k (k := j) (by omega)).2.2.2.2.2.2.2.1
  have hT := Se_WB hB (j := j) (by omega)
  have e311 : Se S j 311 = S 311 := Se_n hB (by omega) (by omega)
  have e317 : Se S j 317 = S 317 := Se_n hB (by omega) (by omega)
  have e7 : Se S j (10 * j + 7) = S (10 * j + 7) := Se_n hB (by omega) (by omega)
  have e9 : Se S j (10 * j + 9) = S (10 * j + 9) := by rw [Se_9 hB (by omega) (by omega), if_neg (fun z => by omega)]
  have hj' : j < Se S j 311 := by rw [e311]; exact hj
  have h8w : w i (4 + j) 8 = nI (S (10 * j + 7)) - 1 := by rw [hC.f8 hj', e7]
  unfold F_X8_place
  rw [h8w]
  by_cases ht : tm S j = true
  · have h1 := tm_t.mp ht
    obtain ⟨c1, c2⟩ := Se_ctF hB h2 hj ht
    have hpl := pl_le hj ht
    have hps := pl_sh ht
    have hsh := sh_pos (S := S) hj
    have hC4 : CV (up3 w i (4 + j) 9 (nI (pl S j)) i) (upN (Se S j) (10 * j + 8) (pl S j)) := hC.upk (k := j) (a := 8) (by omega) (by omega) rfl
    have hB4 : WB (upN (Se S j) (10 * j + 8) (pl S j)) := hT.upk (by omega) (by omega) (okv8 (by omega))
    have e4 : up3 w i (4 + j) 9 (nI (pl S j)) i (4 + j) 8 = nI (S (10 * j + 7)) - 1 := by rw [up3_n (by omega)]; exact h8w
    have e410 : up3 w i (4 + j) 9 (nI (pl S j)) i (4 + j) 10 = nI (S (10 * j + 9)) := by rw [up3_n (by omega), hC.f10 hj', e9]
    have ecg : ∀ x, ctF (upN (Se S j) (10 * j + 8) (pl S j)) x (S 311) = ctF (Se S j) x (S 311) := fun x => by
      unfold ctF
      refine fb_ct_cong (fun q hq => ?_)
      have : tcol (upN (Se S j) (10 * j + 8) (pl S j)) = tcol (Se S j) := by unfold tcol; rw [upN_n (by omega)]
      have h57 := tcol_in (Se S j)
      rw [this, upN_n (by omega)]
    have f1 := C_faster (t := S (10 * j + 7) - 1) hC hT (by omega)
    have f2 := C_faster (t := S (10 * j + 7) - 1 + 1) hC4 hB4 (by omega)
    have f3 := C_faster (t := S (10 * j + 7) - 1) hC4 hB4 (by omega)
    rw [e311, c1] at f1
    rw [upN_n (by omega), e311, ecg, c2] at f2
    rw [upN_n (by omega), e311, ecg, c1] at f3
    have l4 := C_lanes hC4
    rw [upN_n (by omega), e317] at l4
    rw [if_pos ((m0Lt (by omega)).mpr h1), mN (by omega) (by omega), f1, gP_s, gS_e, nI_1, show pl S j - 1 + 1 = pl S j by omega, e4, mN (by omega) (by omega), nI_1, f2, gP_s, f3, gP_s, gS_e, pk_sub (by omega), show pl S j - 1 + sh S j - (pl S j - 1) = sh S j by omega, l4, gP_s, up3_s, C_shared hpl.1 hsh (by omega) (by omega), gP_s, gS_e, e410, nI_add, if_pos ht]
    rfl
  · rw [if_neg (fun z => ht (tm_t.mpr ((m0Lt (by omega)).mp z))), if_neg ht]
end ENDS
end
section
/-! level 2: end, whole -/
def Send (S : Nat → Nat) : Nat → Nat := upN (upN (Se S (S 311)) 310 3) 313 (S 313 + 1)
def fstP (S : Nat → Nat) (q : Nat) : Bool := tm S q && decide (pl S q = 1)
section ENDW
variable {S : Nat → Nat} {EB : Nat}
theorem Send_IV (hI : IV EB S) (hc : fb_ct (tm S) (S 311) ≤ S 317) : IV (EB + 1) (Send S) := by
  have hB := hI.wb
  have hN := hB.1
  have h7 := hB.2.2.2.2.2.1
  have hT := Se_WB hB (j := S 311) (Nat.le_refl _)
  have hlo : ∀ q, q < 310 → Send S q = Se S (S 311) q := fun q hq => by unfold Send; rw [upN_n (by omega), upN_n (by omega)]
  have hn : ∀ t, (t < 300 ∧ t % 10 < 8) ∨ (306 ≤ t ∧ t ≠ 310 ∧ t ≠ 313) → Send S t = S t := fun t ht => by unfold Send; rw [upN_n (by omega), upN_n (by omega)]; exact Se_n hB (by omega) (by omega)
  have e310 : Send S 310 = 3 := by unfold Send; rw [upN_n (by omega), upN_s]
  have e313 : Send S 313 = S 313 + 1 := upN_s _ _ _
  have e311 := hn 311 (by omega)
  refine ⟨?_, ?_, ?_, ?_, ?_, ?_, ?_, ?_, ?_⟩
  · obtain ⟨b1, b2, b3, b4, b5, b6, b7, b8, b9, b10⟩ := hT
    refine ⟨by omega, by omega, ?_, ?_, ?_, ?_, ?_, ?_, fun p hp => ?_, fun k hk a ha => ?_⟩
    · rw [hn 312 (by omega)]; exact hB.2.2.1
    · rw [hn 314 (by omega)]; exact hB.2.2.2.1
    · rw [hn 315 (by omega)]; exact hB.2.2.2.2.1
    · rw [hn 317 (by omega)]; exact h7
    · rw [hn 318 (by omega)]; exact hB.2.2.2.2.2.2.1
    · rw [hn 319 (by omega)]; exact hB.2.2.2.2.2.2.2.1
    · rw [hlo _ (by omega)]; exact b9 p hp
    · rw [hlo _ (by omega)]; exact b10 k hk a ha
  · intro k h1 h2 a h3 h4
    rw [e311] at h1
    rw [hlo _ (by omega)]
    have ho := hI.out h1 h2 h3 h4
    by_cases e8 : a = 8
    · subst e8; rw [Se_8 hB h2 (by omega), if_neg (fun z => by omega)]; exact ho
    · by_cases e9 : a = 9
      · subst e9; rw [Se_9 hB h2 (by omega), if_neg (fun z => by omega)]; exact ho
      · rw [Se_n hB (by omega) (by omega)]; exact ho
  · intro h; omega
  · intro h; omega
  · intro h; omega
  · intro q hq
    rw [hlo _ (by omega), Se_cl hB (fun q hq => hI.cl hq) hq (Nat.le_refl _), e311]
    unfold clubSum
    exact fb_sm_cong (fun z hz => by rw [hlo (10 * z) (by omega), hlo (10 * z + 9) (by omega)])
  · intro k hk
    rw [e311] at hk
    have hp := hI.pt hk
    rw [hlo _ (by omega), Se_9 hB (by omega) (by omega), e313]
    by_cases e : k < S 311 ∧ tm S k = true
    · have := ptS_le hk e.2 hc
      rw [if_pos e]; omega
    · rw [if_neg e]; omega
  · have := hI.eb
    omega
  · exact IW.no (by omega)
theorem C_end22 {i : Nat} (hI : IV EB S) (h2 : S 310 = 2) (hc : fb_ct (tm S) (S 311) ≤ S 317) : ∀ (d fu : Nat) (w : gWd) (j : Nat), j + d = S 311 → d < fu → CV (w i) (Se S j) → RV (w i) S →
    ∃ w', F_X1_endEvent_22 fu w i (nI (bn (fstP S) j)) (nI j) = some (nI (bn (fstP S) (S 311)), w') ∧ agB i w w' ∧ CV (w' i) (Send S) ∧ RV (w' i) (Send S) := by
  have hB := hI.wb
  have hN := hB.1
  intro d
  induction d with
  | zero =>
    intro fu w j hjd hfu hC hR
    obtain ⟨fu, rfl⟩ : ∃ f, fu = f + 1 := ⟨fu - 1, by omega⟩
    have ej : j = S 311 := by omega
    subst ej
    have e311 : Se S (S 311) 311 = S 311 := Se_n hB (by omega) (by omega)
    have e313 : Se S (S 311) 313 = S 313 := Se_n hB (by omega) (by omega)
    have hC1 : CV (up3 w i 0 4 (nI 3) i) (upN (Se S (S 311)) 310 3) := hC.up0 (by rw [e311]; exact hN) (by omega)
    have hC2 : CV (up3 (up3 w i 0 4 (nI 3)) i 0 8 (nI (S 313 + 1)) i) (Send S) := hC1.up0 (by rw [upN_n (by omega), e311]; exact hN) (by omega)
    have e8 : up3 w i 0 4 (nI 3) i 0 8 = nI (S 313) := by rw [up3_n (by omega), hC.ev, e313]
    have hn : ∀ t, (t < 300 ∧ t % 10 < 8) ∨ (306 ≤ t ∧ t ≠ 310 ∧ t ≠ 313) → Send S t = S t := fun t ht => by unfold Send; rw [upN_n (by omega), upN_n (by omega)]; exact Se_n hB (by omega) (by omega)
    refine ⟨_, ?_, (agB.up _ _ _).tr (agB.up _ _ _), hC2, ?_⟩
    · rw [F_X1_endEvent_22_s, hC.sz, e311, iLe (by omega) (by omega), if_pos (Nat.le_refl _), gS_e, gS_e]
      show some (_, up3 (up3 w i 0 4 (nI 3)) i 0 8 (up3 w i 0 4 (nI 3) i 0 8 + 1)) = _
      rw [e8, nI_1]
    · refine hR.cg (by rw [up3_n (by omega), up3_n (by omega)]) (by rw [up3_r (by omega), up3_r (by omega)]) (by rw [hn 311 (by omega)]; exact Nat.le_refl _) (fun p hp => hn _ (by omega)) (fun k hk => ⟨hn _ (by omega), hn _ (by omega)⟩) (fun z => ?_)
      have e310 : Send S 310 = 3 := by unfold Send; rw [upN_n (by omega), upN_s]
      omega
  | succ d ih =>
    intro fu w j hjd hfu hC hR
    obtain ⟨fu, rfl⟩ : ∃ f, fu = f + 1 := ⟨fu - 1, by omega⟩
    have hj : j < S 311 := by omega
    have e311 : Se S j 311 = S 311 := Se_n hB (by omega) (by omega)
    have h8 : S (10 * j + 8) = 0 := (hI.s2 h2 j hj).2
    have hC1 : CV ((if tm S j = true then up3 (up3 w i (4 + j) 9 (nI (pl S j))) i (4 + j) 10 (nI (S (10 * j + 9) + ptS S j)) else w) i) (Se S (j + 1)) := by
      show CV _ (if tm S j = true then _ else _)
      have hcl := (hB.k (k := j) (by omega)).1
      by_cases e : tm S j = true
      · rw [if_pos e, if_pos e]
        exact ((hC.upk (k := j) (a := 8) (by omega) (by omega) rfl).upk (k := j) (a := 9) (by omega) (by omega) rfl).hi (by rw [upN_n (by omega), upN_n (by omega), e311]; exact hN) (by omega)
      · rw [if_neg e, if_neg e]; exact hC
    have hR1 : RV ((if tm S j = true then up3 (up3 w i (4 + j) 9 (nI (pl S j))) i (4 + j) 10 (nI (S (10 * j + 9) + ptS S j)) else w) i) S := by
      refine hR.cg ?_ ?_ (Nat.le_refl _) (fun _ _ => rfl) (fun _ _ => ⟨rfl, rfl⟩) (fun z => z)
      · split
        · rw [up3_n (by omega), up3_n (by omega)]
        · rfl
      · split
        · rw [up3_r (by omega), up3_r (by omega)]
        · rfl
    have hA : agB i w (if tm S j = true then up3 (up3 w i (4 + j) 9 (nI (pl S j))) i (4 + j) 10 (nI (S (10 * j + 9) + ptS S j)) else w) := by
      split
      · exact (agB.up _ _ _).tr (agB.up _ _ _)
      · exact agB.rf _ _
    have e9 : (if tm S j = true then up3 (up3 w i (4 + j) 9 (nI (pl S j))) i (4 + j) 10 (nI (S (10 * j + 9) + ptS S j)) else w) i (4 + j) 9 = nI (if tm S j = true then pl S j else 0) := by
      by_cases e : tm S j = true
      · rw [if_pos e, if_pos e, up3_n (by omega), up3_s]
      · rw [if_neg e, if_neg e, hC.f9 (by rw [e311]; exact hj), Se_8 hB (by omega) (by omega), if_neg (fun z => by omega), h8]
    have hpl : (if tm S j = true then pl S j else 0) ≤ 30 := by
      split
      · rename_i e
        have := pl_le hj e
        omega
      · omega
    obtain ⟨w', f1, f2, f3, f4⟩ := ih fu _ (j + 1) (by omega) (by omega) hC1 hR1
    refine ⟨w', ?_, hA.tr f2, f3, f4⟩
    rw [F_X1_endEvent_22_s, hC.sz, e311, iLe (by omega) (by omega), if_neg (by omega), gB_n _ (by omega) (by omega), C_place hB h2 hj hc hC, gP_s, gB_n _ (by omega) (by omega), e9, iE1 (by omega)]
    have hb : (if tm S j = true then pl S j else 0) = 1 ↔ fstP S j = true := by
      unfold fstP
      by_cases e : tm S j = true
      · rw [if_pos e, e]; simp
      · rw [if_neg e]; simp [e]
    by_cases e : fstP S j = true
    · rw [if_pos (hb.mpr e)]
      simp only [gS_e]
      rw [bs_t (by omega) e, nI_1]
      exact f1
    · rw [if_neg (fun z => e (hb.mp z))]
      simp only [gS_e]
      rw [nI_1]
      rw [bs_f e] at f1
      exact f1
theorem M_end30 (hB : WB S) (h2 : S 310 = 2) (hc : fb_ct (tm S) (S 311) ≤ S 317) : ∀ (d fu : Nat) (w : gWd) (j : Nat), j + d = S 311 → d < fu → SV w (Se S j) →
    ∃ w', F_X12_end_30 fu w (nI (bn (fstP S) j)) (nI j) = some (nI (bn (fstP S) (S 311)), w') ∧ ag1 w w' ∧ SV w' (Send S) := by
  have hN := hB.1
  have h7 := hB.2.2.2.2.2.1
  intro d
  induction d with
  | zero =>
    intro fu w j hjd hfu hS
    obtain ⟨fu, rfl⟩ : ∃ f, fu = f + 1 := ⟨fu - 1, by omega⟩
    have ej : j = S 311 := by omega
    subst ej
    have e311 : Se S (S 311) 311 = S 311 := Se_n hB (by omega) (by omega)
    have e313 : Se S (S 311) 313 = S 313 := Se_n hB (by omega) (by omega)
    have hS2 : SV (up3 (up3 w 8 1 310 (nI 3)) 8 1 313 (nI (S 313 + 1))) (Send S) := (hS.up 310 3).up 313 _
    have e8 : up3 w 8 1 310 (nI 3) 8 1 313 = nI (S 313) := by rw [up3_n (by omega), hS 313 (by omega), e313]
    refine ⟨_, ?_, (ag1.up _ _).tr (ag1.up _ _), hS2⟩
    rw [F_X12_end_30_s, hS 311 (by omega), e311, iLe (by omega) (by omega), if_pos (Nat.le_refl _), gS_e, gS_e]
    show some (_, up3 (up3 w 8 1 310 (nI 3)) 8 1 313 (up3 w 8 1 310 (nI 3) 8 1 313 + 1)) = _
    rw [e8, nI_1]
  | succ d ih =>
    intro fu w j hjd hfu hS
    obtain ⟨fu, rfl⟩ : ∃ f, fu = f + 1 := ⟨fu - 1, by omega⟩
    have hj : j < S 311 := by omega
    have hT := Se_WB hB (j := j) (by omega)
    have hcl := (hB.k (k := j) (by omega)).1
    have hg := (hB.k (k := j) (by omega)).2.2.2.2.2.2.2.1
    have e311 : Se S j 311 = S 311 := Se_n hB (by omega) (by omega)
    have e317 : Se S j 317 = S 317 := Se_n hB (by omega) (by omega)
    have e7 : ∀ q, q < 30 → Se S j (10 * q + 7) = S (10 * q + 7) := fun q hq => Se_n hB (by omega) (by omega)
    have e0 : Se S j (10 * j) = S (10 * j) := Se_n hB (by omega) (by omega)
    have e9 : Se S j (10 * j + 9) = S (10 * j + 9) := by rw [Se_9 hB (by omega) (by omega), if_neg (fun z => by omega)]
    rw [F_X12_end_30_s, hS 311 (by omega), e311, iLe (by omega) (by omega), if_neg (by omega), M_of7 hS (by omega), gP_s, gS_e, e7 j (by omega)]
    by_cases ht : tm S j = true
    · have h1 := tm_t.mp ht
      have hpl := pl_le hj ht
      have hps := pl_sh ht
      have hsh := sh_pos (S := S) hj
      have k1 : F_X12_finishers w 1 (nI (S (10 * j + 7)) - 1 - 1) = some (nI (pl S j - 1)) := by
        rw [mN (by omega) (by omega), mN (by omega) (by omega)]
        have := M_finishers hS hT 1 (nI (S (10 * j + 7) - 1 - 1)) (fun q => tm S q && decide (S (10 * q + 7) < S (10 * j + 7))) (fun q hq => by
          rw [e311] at hq
          have hq7 := (hB.k (k := q) (by omega)).2.2.2.2.2.2.2.1
          rw [e7 q (by omega), show (1 : Int32) = nI 1 from rfl]
          have m1 := mLtn (a := S (10 * q + 7)) (b := 1) (by omega) (by omega)
          have m2 := mnLt (a := S (10 * q + 7)) (b := S (10 * j + 7) - 1 - 1) (by omega) (by omega)
          rw [show (nI 1 : Int32) = 1 from rfl] at m1 ⊢
          rw [m1, m2]
          simp [tm]
          omega)
        rw [this, e311]
        unfold pl
        rw [Nat.add_sub_cancel]
      have k2 : F_X12_finishers w (nI (S (10 * j + 7)) - 1) (nI (S (10 * j + 7)) - 1) = some (nI (sh S j)) := by
        have := M_finishers hS hT (nI (S (10 * j + 7)) - 1) (nI (S (10 * j + 7)) - 1) (fun q => decide (S (10 * q + 7) = S (10 * j + 7))) (fun q hq => by
          rw [e311] at hq
          have hq7 := (hB.k (k := q) (by omega)).2.2.2.2.2.2.2.1
          rw [e7 q (by omega), mLt (by omega) (by omega), mLt (by omega) (by omega)]
          simp
          omega)
        rw [this, e311]
        rfl
      have hS1 : SV (up3 (up3 (up3 w 8 1 (10 * j + 8) (nI (pl S j))) 8 1 (10 * j + 9) (nI (S (10 * j + 9) + ptS S j))) 8 1 (300 + S (10 * j)) (nI (Se S j (300 + S (10 * j)) + ptS S j))) (Se S (j + 1)) := by
        show SV _ (if tm S j = true then _ else _)
        rw [if_pos ht]
        exact ((hS.up _ _).up _ _).up _ _
      obtain ⟨w', f1, f2, f3⟩ := ih fu _ (j + 1) (by omega) (by omega) hS1
      refine ⟨w', ?_, ((ag1.up _ _).tr ((ag1.up _ _).tr (ag1.up _ _))).tr f2, f3⟩
      have k3 := M_end83 (rec30 := F_X12_end_30 fu) (x1 := nI (bn (fstP S) j)) (j0 := j) (a := pl S j) (n := sh S j) hS hT (by omega) hpl.1 hsh (by rw [e317]; omega)
      rw [e0, e9, e317] at k3
      rw [if_neg (fun z => absurd ((mLe0 (by omega)).mp z) (by omega)), k1, gP_s, gS_e, nI_1, show pl S j - 1 + 1 = pl S j by omega, k2, gP_s, k3]
      unfold F_X12_end_180
      have hb : fstP S j = decide (pl S j = 1) := by unfold fstP; rw [ht, Bool.true_and]
      simp only [gS_e]
      by_cases e : pl S j = 1
      · have e' : fstP S j = true := by rw [hb, decide_eq_true e]
        rw [if_pos e, bs_t (by omega) e', nI_1]
        exact f1
      · have e' : ¬ fstP S j = true := by rw [hb, decide_eq_false e]; decide
        rw [if_neg e, Int32.or_zero, nI_1]
        rw [bs_f e'] at f1
        exact f1
    · have h1 : ¬ 1 < S (10 * j + 7) := fun z => ht (tm_t.mpr z)
      have hS1 : SV w (Se S (j + 1)) := by
        show SV _ (if tm S j = true then _ else _)
        rw [if_neg ht]; exact hS
      obtain ⟨w', f1, f2, f3⟩ := ih fu _ (j + 1) (by omega) (by omega) hS1
      refine ⟨w', ?_, f2, f3⟩
      have e' : ¬ fstP S j = true := by simp [fstP, ht]
      rw [if_pos ((mLe0 (by omega)).mpr (by omega)), gS_e, nI_1]
      rw [bs_f e'] at f1
      exact f1
end ENDW
theorem OK_end {i EB : Nat} {S : Nat → Nat} (hI : IV EB S) : OK2 i (fun w => F_X1_endEvent w i) F_X12_end EB S := by
  have hB := hI.wb
  have hN := hB.1
  have hst := hB.2.1
  have hm2 : (-1000002 : Int32) < 0 := by decide
  have hw : whyN S ≤ 2 := by unfold whyN; split <;> (try split) <;> (try split) <;> omega
  by_cases h2 : S 310 = 2
  · by_cases z : whyN S = 0
    · have hc : fb_ct (tm S) (S 311) ≤ S 317 := by
        obtain ⟨a, b⟩ := hI.iw h2
        refine Nat.le_trans (fb_ct_sub (fun k hk hp => ?_)) a
        have := tm_t.mp hp
        exact decide_eq_true (b k hk (by omega))
      refine ⟨nI (bn (fstP S) (S 311)), Or.inr ⟨nI_pos' (by have := bn_30 (fstP S) (n := S 311) (by omega); omega), Send S, Send_IV hI hc, fun w hC hR => ?_, fun w wc hS hch hag => ?_⟩⟩
      · obtain ⟨w', f1, f2, f3, f4⟩ := C_end22 (i := i) hI h2 hc (S 311) gFU w 0 (by omega) (by unfold gFU; omega) hC hR
        refine ⟨w', ?_, f2, f3, f4⟩
        show F_X1_endEvent w i = _
        unfold F_X1_endEvent
        rw [hC.st, iE2 (by omega), if_pos h2, C_why hI hC, gP_s, iE0 (by omega), if_pos z]
        exact f1
      · have hSc := hag.sv hS
        obtain ⟨w', f1, f2, f3⟩ := M_end30 hB h2 hc (S 311) gFU wc 0 (by omega) (by unfold gFU; omega) hSc
        refine ⟨w', ?_, f2, f3⟩
        unfold F_X12_end
        rw [hS 310 (by omega), iE2 (by omega), if_pos h2, M_why hS hB, gP_s, iLe0 (by omega), if_pos z, hch, gP_s]
        exact f1
    · refine ⟨-1000002, Or.inl ⟨hm2, fun w hC _ => ?_, fun w hS => ?_⟩⟩
      · show F_X1_endEvent w i = _
        unfold F_X1_endEvent
        rw [hC.st, iE2 (by omega), if_pos h2, C_why hI hC, gP_s, iE0 (by omega), if_neg z]
      · unfold F_X12_end
        rw [hS 310 (by omega), iE2 (by omega), if_pos h2, M_why hS hB, gP_s, iLe0 (by omega), if_neg z]
  · refine ⟨-1000002, Or.inl ⟨hm2, fun w hC _ => ?_, fun w hS => ?_⟩⟩
    · show F_X1_endEvent w i = _
      unfold F_X1_endEvent
      rw [hC.st, iE2 (by omega), if_neg h2]
    · unfold F_X12_end
      rw [hS 310 (by omega), iE2 (by omega), if_neg h2]
end
section
/-! level 2: next, whole -/
def btr (e t : Nat) : Nat := if t ≤ 1 then e else if e = 0 then t - 1 else if e ≤ t - 1 then e else t - 1
def best (S : Nat → Nat) (k : Nat) : Nat := btr (btr (S (10 * k + 1)) (S (10 * k + 5))) (S (10 * k + 7))
theorem btr_le {e t : Nat} (h1 : e ≤ 999) (h2 : t ≤ 1000) : btr e t ≤ 999 := by
  unfold btr
  split
  · omega
  · split
    · omega
    · split <;> omega
theorem best_le {S : Nat → Nat} (hB : WB S) {k : Nat} (hk : k < 30) : best S k ≤ 999 := by
  have h := hB.k hk
  exact btr_le (btr_le h.2.1 h.2.2.2.2.2.1) h.2.2.2.2.2.2.2.1
theorem M_better {w : gWd} {e t : Nat} (h1 : e ≤ 999) (h2 : t ≤ 1000) : F_X12_better w (nI e) (nI t - 1) = some (nI (btr e t)) := by
  unfold F_X12_better F_X12_better_13 F_X12_better_17 btr
  by_cases a : t ≤ 1
  · rw [if_pos ((mLe0 (by omega)).mpr a), if_pos a]
  · rw [if_neg (fun z => a ((mLe0 (by omega)).mp z)), if_neg a, mN (by omega) (by omega), iE0 (by omega), iLe (by omega) (by omega)]
    split
    · rfl
    · split <;> rfl
theorem C_best {w : gWd} {T : Nat → Nat} {i k : Nat} (hC : CV (w i) T) (hB : WB T) (hk : k < T 311) : F_X10_bestTime w i k = some (nI (best T k)) := by
  have hN := hB.1
  have h := hB.k (k := k) (by omega)
  have h29 : ∀ e, e ≤ 999 → F_X10_bestTime_29 w i k (nI e) = some (nI (btr e (T (10 * k + 7)))) := by
    intro e he
    unfold F_X10_bestTime_29 F_X10_bestTime_48 btr
    rw [hC.f8 hk]
    by_cases a : T (10 * k + 7) ≤ 1
    · rw [if_pos ((mLe0 (by omega)).mpr a), if_pos a]
    · rw [if_neg (fun z => a ((mLe0 (by omega)).mp z)), if_neg a, mN (by omega) (by omega), iE0 (by omega), iLe (by omega) (by omega)]
      split
      · rfl
      · split <;> rfl
  have hb := btr_le h.2.1 h.2.2.2.2.2.1
  unfold F_X10_bestTime F_X10_bestTime_24
  rw [gS_e, gS_e, hC.f2 hk, hC.f6 hk]
  unfold best
  rw [← h29 _ hb]
  unfold btr
  by_cases a : T (10 * k + 5) ≤ 1
  · rw [if_pos ((mLe0 (by omega)).mpr a), if_pos a]
  · rw [if_neg (fun z => a ((mLe0 (by omega)).mp z)), if_neg a, mN (by omega) (by omega), iE0 (by omega), iLe (by omega) (by omega)]
    split
    · rfl
    · split <;> rfl
def Sn (S : Nat → Nat) (j t : Nat) : Nat := if t < 10 * j then (if t % 10 = 1 then best S (t / 10) else if 2 ≤ t % 10 ∧ t % 10 ≤ 8 then 0 else S t) else S t
def Snext (S : Nat → Nat) : Nat → Nat := upN (upN (upN (upN (upN (upN (Sn S (S 311)) 306 0) 307 0) 308 0) 309 0) 310 0) 312 0
theorem SV.cgS {w : gWd} {S S' : Nat → Nat} (h : SV w S) (e : ∀ t, t < 320 → S' t = S t) : SV w S' := fun t ht => by rw [e t ht]; exact h t ht
section NEXT
variable {S : Nat → Nat}
theorem Sn_hi {j t : Nat} (h : 10 * j ≤ t) : Sn S j t = S t := if_neg (by omega)
theorem Sn_st {j : Nat} (t : Nat) : Sn S (j + 1) t = if t = 10 * j + 1 then best S j else if 10 * j + 2 ≤ t ∧ t < 10 * j + 9 then 0 else Sn S j t := by
  unfold Sn
  by_cases a : t < 10 * j
  · rw [if_neg (show ¬ t = 10 * j + 1 by omega), if_neg (show ¬ (10 * j + 2 ≤ t ∧ t < 10 * j + 9) by omega), if_pos (show t < 10 * (j + 1) by omega), if_pos a]
  · rw [if_neg a]
    by_cases b : t < 10 * (j + 1)
    · rw [if_pos b]
      by_cases c : t = 10 * j + 1
      · rw [if_pos c, if_pos (show t % 10 = 1 by omega), show t / 10 = j by omega]
      · rw [if_neg c, if_neg (show ¬ t % 10 = 1 by omega)]
        by_cases d : 10 * j + 2 ≤ t ∧ t < 10 * j + 9
        · rw [if_pos d, if_pos (show 2 ≤ t % 10 ∧ t % 10 ≤ 8 by omega)]
        · rw [if_neg d, if_neg (show ¬ (2 ≤ t % 10 ∧ t % 10 ≤ 8) by omega)]
    · rw [if_neg b, if_neg (show ¬ t = 10 * j + 1 by omega), if_neg (show ¬ (10 * j + 2 ≤ t ∧ t < 10 * j + 9) by omega)]
theorem Sn_c {j k a : Nat} (ha : a < 10) : Sn S j (10 * k + a) = if k < j then (if a = 1 then best S k else if 2 ≤ a ∧ a ≤ 8 then 0 else S (10 * k + a)) else S (10 * k + a) := by
  unfold Sn
  rw [show (10 * k + a) % 10 = a by omega, show (10 * k + a) / 10 = k by omega]
  by_cases h : k < j
  · rw [if_pos (by omega), if_pos h]
  · rw [if_neg (by omega), if_neg h]
theorem Sn_WB (hB : WB S) {j : Nat} (hj : j ≤ 30) : WB (Sn S j) := by
  refine hB.cg (fun t ht => Sn_hi (by omega)) (fun k hk a ha => ?_)
  rw [Sn_c ha]
  have h := hB.a hk ha
  by_cases e : k < j
  · rw [if_pos e]
    have hb := best_le hB hk
    by_cases e1 : a = 1
    · subst e1; rw [if_pos rfl]; refine ⟨?_, ?_, ?_, ?_, ?_, ?_, ?_, ?_⟩ <;> omega
    · rw [if_neg e1]
      by_cases e2 : 2 ≤ a ∧ a ≤ 8
      · rw [if_pos e2]; exact okv2 e2.1
      · rw [if_neg e2]; exact h
  · rw [if_neg e]; exact h
theorem Snext_n {t : Nat} (h : t < 306 ∨ t = 311 ∨ 313 ≤ t) : Snext S t = Sn S (S 311) t := by
  unfold Snext
  rw [upN_n (by omega), upN_n (by omega), upN_n (by omega), upN_n (by omega), upN_n (by omega), upN_n (by omega)]
theorem Snext_0 {t : Nat} (h : (306 ≤ t ∧ t < 310) ∨ t = 310 ∨ t = 312) : Snext S t = 0 := by
  unfold Snext upN
  by_cases a : t = 312
  · rw [if_pos a]
  · rw [if_neg a]
    by_cases b : t = 310
    · rw [if_pos b]
    · rw [if_neg b]
      by_cases c : t = 309
      · rw [if_pos c]
      · rw [if_neg c]
        by_cases d : t = 308
        · rw [if_pos d]
        · rw [if_neg d]
          by_cases e : t = 307
          · rw [if_pos e]
          · rw [if_neg e, if_pos (by omega)]
theorem Snext_IV {EB : Nat} (hI : IV EB S) : IV EB (Snext S) := by
  have hB := hI.wb
  have hN := hB.1
  have hT := Sn_WB hB (j := S 311) (by omega)
  have hi : ∀ t, t = 311 ∨ 313 ≤ t → Snext S t = S t := fun t ht => by rw [Snext_n (by omega)]; exact Sn_hi (by omega)
  have e311 := hi 311 (by omega)
  have e310 : Snext S 310 = 0 := Snext_0 (by omega)
  have hc : ∀ k a, k < 30 → a < 10 → Snext S (10 * k + a) = if k < S 311 then (if a = 1 then best S k else if 2 ≤ a ∧ a ≤ 8 then 0 else S (10 * k + a)) else S (10 * k + a) := fun k a hk ha => by rw [Snext_n (by omega), Sn_c ha]
  refine ⟨⟨by omega, by omega, by rw [Snext_0 (by omega)]; omega, ?_, ?_, ?_, ?_, ?_, fun p hp => by rw [Snext_0 (by omega)]; omega, fun k hk a ha => by rw [Snext_n (by omega)]; exact hT.a hk ha⟩, ?_, ?_, ?_, ?_, ?_, ?_, ?_, ?_⟩
  · rw [hi 314 (by omega)]; exact hB.2.2.2.1
  · rw [hi 315 (by omega)]; exact hB.2.2.2.2.1
  · rw [hi 317 (by omega)]; exact hB.2.2.2.2.2.1
  · rw [hi 318 (by omega)]; exact hB.2.2.2.2.2.2.1
  · rw [hi 319 (by omega)]; exact hB.2.2.2.2.2.2.2.1
  · intro k h1 h2 a h3 h4
    rw [e311] at h1
    rw [hc k a h2 h4, if_neg (by omega)]
    exact hI.out h1 h2 h3 h4
  · intro _
    refine ⟨Snext_0 (by omega), fun k hk a h3 h4 => ?_⟩
    rw [e311] at hk
    rw [hc k a (by omega) (by omega), if_pos hk, if_neg (by omega), if_pos (by omega)]
  · intro h; omega
  · intro h; omega
  · intro q hq
    rw [Snext_n (by omega), Sn_hi (by omega), hI.cl hq, e311]
    unfold clubSum
    refine fb_sm_cong (fun z hz => ?_)
    have h0 := hc z 0 (by omega) (by omega)
    have h9 := hc z 9 (by omega) (by omega)
    rw [if_pos hz, if_neg (by omega), if_neg (by omega)] at h0 h9
    rw [h9, show Snext S (10 * z) = S (10 * z) from h0]
  · intro k hk
    rw [e311] at hk
    have h9 := hc k 9 (by omega) (by omega)
    rw [if_pos hk, if_neg (by omega), if_neg (by omega)] at h9
    rw [h9, hi 313 (by omega)]
    exact hI.pt hk
  · rw [hi 313 (by omega)]
    exact hI.eb
  · exact IW.no (by omega)
def chg (S : Nat → Nat) (q : Nat) : Bool := decide (best S q ≠ S (10 * q + 1))
theorem Sn_best {j : Nat} : best (Sn S j) j = best S j := by
  unfold best
  rw [Sn_hi (t := 10 * j + 1) (by omega), Sn_hi (t := 10 * j + 5) (by omega), Sn_hi (t := 10 * j + 7) (by omega)]
theorem C_next15 {i : Nat} (hB : WB S) : ∀ (d fu : Nat) (w : gWd) (j : Nat), j + d = S 311 → d < fu → CV (w i) (Sn S j) →
    ∃ w', F_X1_beginNextEvent_15 fu w i (nI (fb_ct (chg S) j)) (nI j) = some (nI (fb_ct (chg S) (S 311)), w') ∧ agB i w w' ∧ CV (w' i) (Snext S) ∧ RV (w' i) (Snext S) := by
  have hN := hB.1
  intro d
  induction d with
  | zero =>
    intro fu w j hjd hfu hC
    obtain ⟨fu, rfl⟩ : ∃ f, fu = f + 1 := ⟨fu - 1, by omega⟩
    have ej : j = S 311 := by omega
    subst ej
    have e311 : Sn S (S 311) 311 = S 311 := Sn_hi (by omega)
    have hC1 : CV (up3 w i 0 5 (nI 0) i) (upN (Sn S (S 311)) 312 0) := hC.up0 (by rw [e311]; exact hN) (by omega)
    have hC2 : CV (up3 (up3 w i 0 5 (nI 0)) i 0 6 0 i) (upN (Sn S (S 311)) 312 0) := hC1.cg (fun r c hr hc => by rw [up3_n (by omega)])
    have hC3 : CV (up3 (up3 (up3 w i 0 5 (nI 0)) i 0 6 0) i 0 4 (nI 0) i) (upN (upN (Sn S (S 311)) 312 0) 310 0) := hC2.up0 (by rw [upN_n (by omega), e311]; exact hN) (by omega)
    have hl : upN (upN (Sn S (S 311)) 312 0) 310 0 311 ≤ 30 := by rw [upN_n (by omega), upN_n (by omega), e311]; exact hN
    have hC4 := (((hC3.hi (hl) (t := 306) (v := 0) (by omega)).hi (by rw [upN_n (by omega)]; exact hl) (t := 307) (v := 0) (by omega)).hi (by rw [upN_n (by omega), upN_n (by omega)]; exact hl) (t := 308) (v := 0) (by omega)).hi (by rw [upN_n (by omega), upN_n (by omega), upN_n (by omega)]; exact hl) (t := 309) (v := 0) (by omega)
    have hC5 : CV (up3 (up3 (up3 w i 0 5 (nI 0)) i 0 6 0) i 0 4 (nI 0) i) (Snext S) := hC4.cgS (by rw [upN_n (by omega), upN_n (by omega), upN_n (by omega), upN_n (by omega)]; exact hl) (fun t ht => by
      by_cases h : (306 ≤ t ∧ t < 310) ∨ t = 310 ∨ t = 312
      · rw [Snext_0 h]
        unfold upN
        by_cases a : t = 309
        · rw [if_pos a]
        · rw [if_neg a]
          by_cases a : t = 308
          · rw [if_pos a]
          · rw [if_neg a]
            by_cases a : t = 307
            · rw [if_pos a]
            · rw [if_neg a]
              by_cases a : t = 306
              · rw [if_pos a]
              · rw [if_neg a]
                by_cases a : t = 310
                · rw [if_pos a]
                · rw [if_neg a, if_pos (by omega)]
      · rw [Snext_n (by omega), upN_n (by omega), upN_n (by omega), upN_n (by omega), upN_n (by omega), upN_n (by omega), upN_n (by omega)])
    refine ⟨_, ?_, (agB.up _ _ _).tr ((agB.up _ _ _).tr (agB.up _ _ _)), hC5, ?_⟩
    · rw [F_X1_beginNextEvent_15_s, hC.sz, e311, iLe (by omega) (by omega), if_pos (Nat.le_refl _)]
      rfl
    · refine ⟨0, fun _ => 0, by omega, ?_, fun p hp => absurd hp (Nat.not_lt_zero p), fun p _ hp => Snext_0 (by omega), fun p p' hp => absurd hp (Nat.not_lt_zero p), fun _ => rfl⟩
      rw [up3_n (by omega), up3_s]
      rfl
  | succ d ih =>
    intro fu w j hjd hfu hC
    obtain ⟨fu, rfl⟩ : ∃ f, fu = f + 1 := ⟨fu - 1, by omega⟩
    have hj : j < S 311 := by omega
    have hT := Sn_WB hB (j := j) (by omega)
    have e311 : Sn S j 311 = S 311 := Sn_hi (by omega)
    have hj' : j < Sn S j 311 := by rw [e311]; exact hj
    have hb := best_le hB (k := j) (by omega)
    have he := (hB.k (k := j) (by omega)).2.1
    have h54 : ∀ (x : Int32) (u : gWd), CV (u i) (upN (Sn S j) (10 * j + 1) (best S j)) → agB i w u → x = nI (fb_ct (chg S) (j + 1)) → ∃ w', F_X1_beginNextEvent_54 (F_X1_beginNextEvent_15 fu) u i x (nI j) i j = some (nI (fb_ct (chg S) (S 311)), w') ∧ agB i w w' ∧ CV (w' i) (Snext S) ∧ RV (w' i) (Snext S) := by
      intro x u hu hag hx
      have g := ((((((hu.upk (k := j) (a := 2) (v := 0) (x := 0) (by omega) (by omega) rfl).upk (k := j) (a := 8) (v := 0) (x := 0) (by omega) (by omega) rfl).upk (k := j) (a := 3) (v := 0) (x := -1) (by omega) (by omega) rfl).upk (k := j) (a := 4) (v := 0) (x := 0) (by omega) (by omega) rfl).upk (k := j) (a := 5) (v := 0) (x := -1) (by omega) (by omega) rfl).upk (k := j) (a := 6) (v := 0) (x := 0) (by omega) (by omega) rfl).upk (k := j) (a := 7) (v := 0) (x := -1) (by omega) (by omega) rfl
      have g2 := g.cgS (S' := Sn S (j + 1)) (by rw [upN_n (by omega), upN_n (by omega), upN_n (by omega), upN_n (by omega), upN_n (by omega), upN_n (by omega), upN_n (by omega), upN_n (by omega), e311]; exact hN) (fun t ht => by
        rw [Sn_st]
        unfold upN
        by_cases h1 : t = 10 * j + 1
        · rw [if_pos h1, if_neg (by omega), if_neg (by omega), if_neg (by omega), if_neg (by omega), if_neg (by omega), if_neg (by omega), if_neg (by omega), if_pos h1]
        · rw [if_neg h1]
          by_cases h2 : 10 * j + 2 ≤ t ∧ t < 10 * j + 9
          · rw [if_pos h2]
            by_cases a : t = 10 * j + 7
            · rw [if_pos a]
            · rw [if_neg a]
              by_cases a : t = 10 * j + 6
              · rw [if_pos a]
              · rw [if_neg a]
                by_cases a : t = 10 * j + 5
                · rw [if_pos a]
                · rw [if_neg a]
                  by_cases a : t = 10 * j + 4
                  · rw [if_pos a]
                  · rw [if_neg a]
                    by_cases a : t = 10 * j + 3
                    · rw [if_pos a]
                    · rw [if_neg a]
                      by_cases a : t = 10 * j + 8
                      · rw [if_pos a]
                      · rw [if_neg a, if_pos (by omega)]
          · rw [if_neg h2, if_neg (by omega), if_neg (by omega), if_neg (by omega), if_neg (by omega), if_neg (by omega), if_neg (by omega), if_neg (by omega), if_neg h1])
      obtain ⟨w', f1, f2, f3, f4⟩ := ih fu _ (j + 1) (by omega) (by omega) g2
      refine ⟨w', ?_, (hag.tr ((agB.up _ _ _).tr ((agB.up _ _ _).tr ((agB.up _ _ _).tr ((agB.up _ _ _).tr ((agB.up _ _ _).tr ((agB.up _ _ _).tr (agB.up _ _ _)))))))).tr f2, f3, f4⟩
      rw [hx]
      unfold F_X1_beginNextEvent_54
      show gP (some (up3 (up3 (up3 (up3 (up3 (up3 (up3 u i (4 + j) 3 0) i (4 + j) 9 0) i (4 + j) 4 (-1)) i (4 + j) 5 0) i (4 + j) 6 (-1)) i (4 + j) 7 0) i (4 + j) 8 (-1))) _ = _
      rw [gP_s, gS_e, nI_1]
      exact f1
    rw [F_X1_beginNextEvent_15_s, hC.sz, e311, iLe (by omega) (by omega), if_neg (by omega), gB_n _ (by omega) (by omega), C_best hC hT hj', gP_s, Sn_best, hC.f2 hj', Sn_hi (t := 10 * j + 1) (by omega), iEq (by omega) (by omega)]
    by_cases e : best S j = S (10 * j + 1)
    · rw [if_pos e]
      refine h54 _ w ?_ (agB.rf _ _) ?_
      · refine hC.cgS (by rw [e311]; exact hN) (fun t ht => ?_)
        unfold upN
        by_cases a : t = 10 * j + 1
        · rw [if_pos a, a, Sn_hi (by omega), e]
        · rw [if_neg a]
      · rw [fb_ct_succ, if_neg (by simp [chg, e]), Nat.add_zero]
    · rw [if_neg e, gS_e, gS_e]
      refine h54 _ _ (hC.upk (k := j) (a := 1) (by omega) (by omega) rfl) (agB.up _ _ _) ?_
      rw [fb_ct_succ, if_pos (by simp [chg, e]), nI_1]
theorem M_next93 {rec23 : gWd → Int32 → Int32 → Option (Int32 × gWd)} {w : gWd} {T : Nat → Nat} {j0 : Nat} {x1 : Int32} (hS : SV w T) (hj0 : j0 < 30) : ∃ w', F_X12_next_93 rec23 gFU w x1 (nI j0) 2 = rec23 w' x1 (nI (j0 + 1)) ∧ ag1 w w' ∧ SV w' (fun t => if 10 * j0 + 2 ≤ t ∧ t < 10 * j0 + 9 then 0 else T t) := by
  refine loopI (F := fun fu (u : gWd) j => F_X12_next_93 rec23 fu u x1 (nI j0) (nI j)) 9 (fun j u => ag1 w u ∧ 2 ≤ j ∧ SV u (fun t => if 10 * j0 + 2 ≤ t ∧ t < 10 * j0 + j then 0 else T t)) (fun r => ∃ w', r = rec23 w' x1 (nI (j0 + 1)) ∧ ag1 w w' ∧ SV w' (fun t => if 10 * j0 + 2 ≤ t ∧ t < 10 * j0 + 9 then 0 else T t)) ?_ ?_ gFU w 2 (by omega) (gFU_lt (by omega)) ⟨ag1.rf _, by omega, hS.cgS (fun t ht => if_neg (by omega))⟩
  · intro fu u hI
    refine ⟨u, ?_, hI.1, hI.2.2⟩
    show F_X12_next_93 rec23 (fu + 1) u x1 (nI j0) (nI 9) = _
    rw [F_X12_next_93_s, if_pos (by decide), gS_e, nI_1]
  · intro fu u j hj hI
    right
    refine ⟨up3 u 8 1 (10 * j0 + j) (nI 0), ⟨hI.1.tr (ag1.up _ _), by omega, ?_⟩, ?_⟩
    · refine (hI.2.2.up (10 * j0 + j) 0).cgS (fun t ht => ?_)
      unfold upN
      by_cases a : t = 10 * j0 + j
      · rw [if_pos a, if_pos (by omega)]
      · rw [if_neg a]
        show _ = if 10 * j0 + 2 ≤ t ∧ t < 10 * j0 + j then 0 else T t
        by_cases b : 10 * j0 + 2 ≤ t ∧ t < 10 * j0 + j
        · rw [if_pos b, if_pos (by omega)]
        · rw [if_neg b, if_neg (by omega)]
    · show F_X12_next_93 rec23 (fu + 1) u x1 (nI j0) (nI j) = F_X12_next_93 rec23 fu (up3 u 8 1 (10 * j0 + j) (nI 0)) x1 (nI j0) (nI (j + 1))
      rw [F_X12_next_93_s, show (8 : Int32) = nI 8 from rfl, iLt (by omega) (by omega), if_neg (by omega), M_lay (by omega), gP_s, gS_e, nI_1]
      rfl
theorem M_next122 {w : gWd} {T : Nat → Nat} {x1 : Int32} (hS : SV w T) : ∃ w', F_X12_next_122 gFU w x1 0 = some (x1, w') ∧ ag1 w w' ∧ SV w' (upN (upN (upN (upN (upN (upN T 306 0) 307 0) 308 0) 309 0) 310 0) 312 0) := by
  refine loopI (F := fun fu (u : gWd) j => F_X12_next_122 fu u x1 (nI j)) 4 (fun j u => ag1 w u ∧ SV u (fun t => if 306 ≤ t ∧ t < 306 + j then 0 else T t)) (fun r => ∃ w', r = some (x1, w') ∧ ag1 w w' ∧ SV w' (upN (upN (upN (upN (upN (upN T 306 0) 307 0) 308 0) 309 0) 310 0) 312 0)) ?_ ?_ gFU w 0 (by omega) (gFU_lt (by omega)) ⟨ag1.rf _, hS.cgS (fun t ht => if_neg (by omega))⟩
  · intro fu u hI
    refine ⟨up3 (up3 u 8 1 310 (nI 0)) 8 1 312 (nI 0), ?_, hI.1.tr ((ag1.up _ _).tr (ag1.up _ _)), ?_⟩
    · show F_X12_next_122 (fu + 1) u x1 (nI 4) = _
      rw [F_X12_next_122_s, if_pos (by decide)]
      rfl
    · refine ((hI.2.up 310 0).up 312 0).cgS (fun t ht => ?_)
      unfold upN
      by_cases a : t = 312
      · rw [if_pos a, if_pos a]
      · rw [if_neg a, if_neg a]
        by_cases b : t = 310
        · rw [if_pos b, if_pos b]
        · rw [if_neg b, if_neg b]
          show _ = if 306 ≤ t ∧ t < 306 + 4 then 0 else T t
          by_cases c : 306 ≤ t ∧ t < 306 + 4
          · rw [if_pos c]
            by_cases d : t = 309
            · rw [if_pos d]
            · rw [if_neg d]
              by_cases d : t = 308
              · rw [if_pos d]
              · rw [if_neg d]
                by_cases d : t = 307
                · rw [if_pos d]
                · rw [if_neg d, if_pos (by omega)]
          · rw [if_neg c, if_neg (by omega), if_neg (by omega), if_neg (by omega), if_neg (by omega)]
  · intro fu u j hj hI
    right
    refine ⟨up3 u 8 1 (306 + j) (nI 0), ⟨hI.1.tr (ag1.up _ _), ?_⟩, ?_⟩
    · refine (hI.2.up (306 + j) 0).cgS (fun t ht => ?_)
      unfold upN
      by_cases a : t = 306 + j
      · rw [if_pos a, if_pos (by omega)]
      · rw [if_neg a]
        show _ = if 306 ≤ t ∧ t < 306 + j then 0 else T t
        by_cases b : 306 ≤ t ∧ t < 306 + j
        · rw [if_pos b, if_pos (by omega)]
        · rw [if_neg b, if_neg (by omega)]
    · show F_X12_next_122 (fu + 1) u x1 (nI j) = F_X12_next_122 fu (up3 u 8 1 (306 + j) (nI 0)) x1 (nI (j + 1))
      rw [F_X12_next_122_s, show (4 : Int32) = nI 4 from rfl, iLe (by omega) (by omega), if_neg (by omega), show (306 : Int32) = nI 306 from rfl, nI_add, gB_n _ (by omega) (by omega), gS_e, gS_e, nI_1]
      rfl
theorem M_next23 (hB : WB S) : ∀ (d fu : Nat) (w : gWd) (j : Nat), j + d = S 311 → d < fu → SV w (Sn S j) →
    ∃ w', F_X12_next_23 fu w (nI (fb_ct (chg S) j)) (nI j) = some (nI (fb_ct (chg S) (S 311)), w') ∧ ag1 w w' ∧ SV w' (Snext S) := by
  have hN := hB.1
  intro d
  induction d with
  | zero =>
    intro fu w j hjd hfu hS
    obtain ⟨fu, rfl⟩ : ∃ f, fu = f + 1 := ⟨fu - 1, by omega⟩
    have ej : j = S 311 := by omega
    subst ej
    have e311 : Sn S (S 311) 311 = S 311 := Sn_hi (by omega)
    obtain ⟨w', f1, f2, f3⟩ := M_next122 (x1 := nI (fb_ct (chg S) (S 311))) hS
    refine ⟨w', ?_, f2, f3⟩
    rw [F_X12_next_23_s, hS 311 (by omega), e311, iLe (by omega) (by omega), if_pos (Nat.le_refl _)]
    exact f1
  | succ d ih =>
    intro fu w j hjd hfu hS
    obtain ⟨fu, rfl⟩ : ∃ f, fu = f + 1 := ⟨fu - 1, by omega⟩
    have hj : j < S 311 := by omega
    have h := hB.k (k := j) (by omega)
    have e311 : Sn S j 311 = S 311 := Sn_hi (by omega)
    have hb := best_le hB (k := j) (by omega)
    have hb1 := btr_le h.2.1 h.2.2.2.2.2.1
    have h80 : ∀ (y : Nat), fb_ct (chg S) j + y = fb_ct (chg S) (j + 1) → ∃ w', F_X12_next_80 (F_X12_next_23 fu) w (nI j) (nI (best S j)) (nI y) (nI (fb_ct (chg S) j)) = some (nI (fb_ct (chg S) (S 311)), w') ∧ ag1 w w' ∧ SV w' (Snext S) := by
      intro y hy
      have hS1 : SV (up3 w 8 1 (10 * j + 1) (nI (best S j))) (upN (Sn S j) (10 * j + 1) (best S j)) := hS.up _ _
      obtain ⟨w1, f1, f2, f3⟩ := M_next93 (rec23 := F_X12_next_23 fu) (x1 := nI (fb_ct (chg S) (j + 1))) (j0 := j) hS1 (by omega)
      have hS2 : SV w1 (Sn S (j + 1)) := f3.cgS (fun t ht => by
        rw [Sn_st]
        unfold upN
        by_cases a : t = 10 * j + 1
        · rw [if_pos a, if_neg (by omega), if_pos a]
        · rw [if_neg a, if_neg a])
      obtain ⟨w', g1, g2, g3⟩ := ih fu w1 (j + 1) (by omega) (by omega) hS2
      refine ⟨w', ?_, ((ag1.up _ _).tr f2).tr g2, g3⟩
      unfold F_X12_next_80
      rw [gS_e, nI_add, hy, show (1 : Int32) = nI 1 from rfl, M_lay (by omega), gP_s, f1]
      exact g1
    rw [F_X12_next_23_s, hS 311 (by omega), e311, iLe (by omega) (by omega), if_neg (by omega), M_of1 hS (by omega), gP_s, M_of5 hS (by omega), gP_s, Sn_hi (t := 10 * j + 1) (by omega), Sn_hi (t := 10 * j + 5) (by omega), M_better h.2.1 h.2.2.2.2.2.1, gP_s, M_of7 hS (by omega), gP_s, Sn_hi (t := 10 * j + 7) (by omega), M_better hb1 h.2.2.2.2.2.2.2.1, gP_s, show btr (btr (S (10 * j + 1)) (S (10 * j + 5))) (S (10 * j + 7)) = best S j from rfl, iEq (by omega) (by omega)]
    by_cases e : best S j = S (10 * j + 1)
    · rw [if_pos e]
      exact h80 0 (by rw [fb_ct_succ, if_neg (by simp [chg, e])])
    · rw [if_neg e]
      exact h80 1 (by rw [fb_ct_succ, if_pos (by simp [chg, e])])
end NEXT
theorem OK_next {i EB : Nat} {S : Nat → Nat} (hI : IV EB S) : OK2 i (fun w => F_X1_beginNextEvent w i) F_X12_next EB S := by
  have hB := hI.wb
  have hN := hB.1
  have hst := hB.2.1
  have hm2 : (-1000002 : Int32) < 0 := by decide
  by_cases h3 : S 310 = 3
  · refine ⟨nI (fb_ct (chg S) (S 311)), Or.inr ⟨nI_pos' (by have := fb_ct_le (chg S) (S 311); omega), Snext S, (Snext_IV hI).mono (by omega), fun w hC hR => ?_, fun w wc hS hch hag => ?_⟩⟩
    · obtain ⟨w', f1, f2, f3, f4⟩ := C_next15 (i := i) hB (S 311) gFU w 0 (by omega) (by unfold gFU; omega) (hC.cgS hN (fun t ht => Sn_hi (by omega)))
      refine ⟨w', ?_, f2, f3, f4⟩
      show F_X1_beginNextEvent w i = _
      unfold F_X1_beginNextEvent
      rw [hC.st, iE3 (by omega), if_pos h3]
      exact f1
    · have hSc := hag.sv hS
      obtain ⟨w', f1, f2, f3⟩ := M_next23 hB (S 311) gFU wc 0 (by omega) (by unfold gFU; omega) (hSc.cgS (fun t ht => Sn_hi (by omega)))
      refine ⟨w', ?_, f2, f3⟩
      unfold F_X12_next
      rw [hS 310 (by omega), iE3 (by omega), if_pos h3, hch, gP_s]
      exact f1
  · refine ⟨-1000002, Or.inl ⟨hm2, fun w hC _ => ?_, fun w hS => ?_⟩⟩
    · show F_X1_beginNextEvent w i = _
      unfold F_X1_beginNextEvent
      rw [hC.st, iE3 (by omega), if_neg h3]
    · unfold F_X12_next
      rw [hS 310 (by omega), iE3 (by omega), if_neg h3]
end
section
/-! level 2: questions -/
def QQ (a b : Option Int32) : Prop := ∃ r, a = some r ∧ b = some r
theorem arg_pos {x : Int32} (h : 0 ≤ x) : ∃ r, r < 2 ^ 31 ∧ x = nI r := by
  have h1 := fb_rng x
  rw [Int32.le_iff_toInt_le, show (0 : Int32).toInt = 0 from rfl] at h
  refine ⟨x.toInt.toNat, by omega, ?_⟩
  apply Int32.toInt_inj.mp
  rw [nI_toInt (by omega)]
  omega
theorem C_ofClub {w : gWd} {S : Nat → Nat} {i q : Nat} (hC : CV (w i) S) (hB : WB S) (hq : q < 6) : F_X8_ofClub w i (nI q) = some (nI (clubSum S q (S 311))) := by
  unfold F_X8_ofClub
  have hN := hB.1
  refine loopI (F := fun fu (acc : Nat) j => F_X8_ofClub_4 fu w i (nI q) (nI acc) (nI j)) (S 311) (fun j acc => acc = clubSum S q j) (fun r => r = some (nI (clubSum S q (S 311)))) ?_ ?_ gFU 0 0 (by omega) (gFU_lt (by omega)) rfl
  · intro fu acc hI
    show F_X8_ofClub_4 (fu + 1) w i (nI q) (nI acc) (nI (S 311)) = _
    rw [F_X8_ofClub_4_s, hC.sz, iLe (by omega) (by omega), if_pos (Nat.le_refl _), hI]
  · intro fu acc j hj hI
    right
    refine ⟨_, rfl, ?_⟩
    show F_X8_ofClub_4 (fu + 1) w i (nI q) (nI acc) (nI j) = F_X8_ofClub_4 fu w i (nI q) _ (nI (j + 1))
    have hc := (hB.k (k := j) (by omega)).1
    unfold clubSum at hI ⊢
    rw [F_X8_ofClub_4_s, hC.sz, iLe (by omega) (by omega), if_neg (by omega), gB_n _ (by omega) (by omega), hC.f1 hj, iEq (by omega) (by omega), gB_n _ (by omega) (by omega), hC.f10 hj, fb_sm_succ, hI]
    by_cases e : S (10 * j) = q
    · rw [if_pos e, if_pos e]
      simp only [gS_e, nI_1, nI_add]
    · rw [if_neg e, if_neg e]
      simp only [gS_e, nI_1, Nat.add_zero]
theorem Q_points {w : gWd} {S : Nat → Nat} {EB : Nat} (hI : IV EB S) (hC : CV (w 0) S) (hS : SV w S) (x : Int32) : QQ (F_X11_points w x) (F_X12_points w x) := by
  have hB := hI.wb
  unfold F_X11_points F_X12_points F_X11_points_10
  by_cases a : x < 0
  · exact ⟨-1000001, by rw [if_pos a], by rw [M_in, if_pos a, gP_s, if_pos rfl]⟩
  · by_cases b : nI 6 ≤ x
    · refine ⟨-1000001, ?_, ?_⟩
      · rw [if_neg a, if_neg (show ¬ x < 6 from fun z => (fa_of_lt z).2.1 b)]
      · rw [show (5 : Int32) = nI 5 from rfl, M_in_f (n := 5) (by omega) (Or.inr b), gP_s, if_pos rfl]
    · obtain ⟨q, hq, rfl⟩ := arg_lt (n := 6) (by omega) a b
      refine ⟨nI (clubSum S q (S 311)), ?_, ?_⟩
      · rw [if_neg a, if_pos (show nI q < 6 from fa_of_nle b), C_ofClub hC hB hq, gP_s]
      · rw [show (5 : Int32) = nI 5 from rfl, M_in_t (by omega) (by omega), gP_s, if_neg (by decide), show (300 : Int32) = nI 300 from rfl, nI_add, gB_n _ (by omega) (by omega), hS _ (by omega), hI.cl hq]
theorem kth_no {p : Nat → Bool} {n k r : Nat} (hk : k < n) (hp : p k = true) (hc : fb_ct p k = r) (h : fb_ct p n ≤ r) : False := by
  have := fb_ct_mono p (m := k + 1) (n := n) (by omega)
  rw [fb_ct_succ, if_pos hp] at this
  omega
theorem Q_missing {w : gWd} {S : Nat → Nat} {EB : Nat} (hI : IV EB S) (hC : CV (w 0) S) (hS : SV w S) (x : Int32) : QQ (F_X11_missing w x) (F_X12_missing w x) := by
  unfold F_X11_missing F_X12_missing
  by_cases a : 0 ≤ x
  · rw [if_pos a, if_pos a]
    obtain ⟨r, hr, rfl⟩ := arg_pos a
    rcases C_still (r := r) hI hC hr with ⟨k, h1, h2, h3, h4⟩ | ⟨h1, h2⟩
    · rcases M_missing11 (r := r) hS hI.wb hr with ⟨k', g1, g2, g3, g4⟩ | ⟨g1, g2⟩
      · have : k = k' := fb_ct_kth_one h2 g2 (by omega)
        subst this
        exact ⟨nI k, by rw [h4, gP_s], g4⟩
      · exact (kth_no h1 h2 h3 g1).elim
    · rcases M_missing11 (r := r) hS hI.wb hr with ⟨k', g1, g2, g3, g4⟩ | ⟨g1, g2⟩
      · exact (kth_no g1 g2 g3 h1).elim
      · exact ⟨-1000004, by rw [h2, gP_s], g2⟩
  · exact ⟨-1000001, by rw [if_neg a], by rw [if_neg a]⟩
theorem Q_why {w : gWd} {S : Nat → Nat} {EB : Nat} (hI : IV EB S) (hC : CV (w 0) S) (hS : SV w S) : QQ (F_X11_why w) (F_X12_why w) := by
  unfold F_X11_why
  exact ⟨nI (whyN S), by rw [C_why hI hC, gP_s], M_why hS hI.wb⟩
theorem M_res11 {w : gWd} {S : Nat → Nat} {r : Nat} (hS : SV w S) (hB : WB S) (hr : r < 2 ^ 31) : (∃ p, p < 4 ∧ rsv S p = true ∧ fb_ct (rsv S) p = r ∧ F_X12_reserve_11 gFU w (nI r) 0 0 = some (nI (S (306 + p) - 1))) ∨ (fb_ct (rsv S) 4 ≤ r ∧ F_X12_reserve_11 gFU w (nI r) 0 0 = some (-1000004)) := by
  refine loopI (F := fun fu (acc : Nat) j => F_X12_reserve_11 fu w (nI r) (nI acc) (nI j)) 4 (fun j acc => acc = fb_ct (rsv S) j ∧ acc ≤ r ∧ acc ≤ j) (fun o => (∃ p, p < 4 ∧ rsv S p = true ∧ fb_ct (rsv S) p = r ∧ o = some (nI (S (306 + p) - 1))) ∨ (fb_ct (rsv S) 4 ≤ r ∧ o = some (-1000004))) ?_ ?_ gFU 0 0 (by omega) (gFU_lt (by omega)) ⟨rfl, by omega, by omega⟩
  · intro fu acc hI
    right
    refine ⟨by omega, ?_⟩
    show F_X12_reserve_11 (fu + 1) w (nI r) (nI acc) (nI 4) = _
    rw [F_X12_reserve_11_s]
    rfl
  · intro fu acc j hj hI
    have hb := hB.r hj
    have e0 : F_X12_reserve_11 (fu + 1) w (nI r) (nI acc) (nI j) = if rsv S j = true then (if acc = r then some (nI (S (306 + j) - 1)) else F_X12_reserve_11 fu w (nI r) (nI (acc + 1)) (nI (j + 1))) else F_X12_reserve_11 fu w (nI r) (nI acc) (nI (j + 1)) := by
      rw [F_X12_reserve_11_s, show (4 : Int32) = nI 4 from rfl, iLe (by omega) (by omega), if_neg (by omega), show (306 : Int32) = nI 306 from rfl, nI_add, gB_n _ (by omega) (by omega), gB_n _ (by omega) (by omega), gB_n _ (by omega) (by omega), hS _ (by omega), iLe0 (by omega)]
      by_cases e : S (306 + j) = 0
      · rw [if_pos e, if_neg (show ¬ rsv S j = true by simp [rsv, e])]
        simp only [gS_e, nI_1]
      · have hg := (hB.k (k := S (306 + j) - 1) (by omega)).2.2.1
        rw [if_neg e, mN (by omega) (by omega), M_isGone hS hB (by omega), gP_s, iE0 (by omega), iEq (by omega) (by omega)]
        by_cases e2 : S (10 * (S (306 + j) - 1) + 2) = 0
        · rw [if_pos e2, if_pos (show rsv S j = true by simp [rsv, e, e2])]
          simp only [gS_e, nI_1]
        · rw [if_neg e2, if_neg (show ¬ rsv S j = true by simp [rsv, e2])]
          simp only [gS_e, nI_1]
    show (_ ∨ ∃ st', _ ∧ F_X12_reserve_11 (fu + 1) w (nI r) (nI acc) (nI j) = F_X12_reserve_11 fu w (nI r) (nI st') (nI (j + 1)))
    by_cases e : rsv S j = true
    · by_cases e2 : acc = r
      · left
        left
        refine ⟨j, hj, e, by omega, ?_⟩
        show F_X12_reserve_11 (fu + 1) w (nI r) (nI acc) (nI j) = _
        rw [e0, if_pos e, if_pos e2]
      · right
        refine ⟨acc + 1, ⟨by rw [fb_ct_succ, if_pos e]; omega, by omega, by omega⟩, ?_⟩
        rw [e0, if_pos e, if_neg e2]
    · right
      refine ⟨acc, ⟨by rw [fb_ct_succ, if_neg e]; omega, by omega, by omega⟩, ?_⟩
      rw [e0, if_neg e]
theorem Q_reserve {w : gWd} {S : Nat → Nat} {EB : Nat} (hI : IV EB S) (hC : CV (w 0) S) (hR : RV (w 0) S) (hS : SV w S) (x : Int32) : QQ (F_X11_reserve w x) (F_X12_reserve w x) := by
  unfold F_X11_reserve F_X12_reserve
  by_cases a : 0 ≤ x
  · rw [if_pos a, if_pos a]
    obtain ⟨r, hr, rfl⟩ := arg_pos a
    obtain ⟨h1, h2⟩ := C_free (r := r) hC hR hI.wb hr
    rcases M_res11 (r := r) hS hI.wb hr with ⟨p, g1, g2, g3, g4⟩ | ⟨g1, g2⟩
    · exact ⟨_, by rw [h1 p g1 g2 g3, gP_s], g4⟩
    · exact ⟨-1000004, by rw [h2 g1, gP_s], g2⟩
  · exact ⟨-1000001, by rw [if_neg a], by rw [if_neg a]⟩
theorem M_rankOf {w : gWd} {S : Nat → Nat} (hS : SV w S) (hB : WB S) {x r0 : Nat} (h1 : r0 < S 317) (h2 : laneN S r0 = x) (h3 : ∀ r, r < r0 → laneN S r ≠ x) : F_X12_rankOf w (nI x) = some (nI r0) := by
  have h7 := hB.2.2.2.2.2.1
  have hb := laneN_in hB h1
  unfold F_X12_rankOf
  refine loopI (F := fun fu (_ : Unit) j => F_X12_rankOf_2 fu w (nI x) (nI j)) r0 (fun _ _ => True) (fun o => o = some (nI r0)) ?_ ?_ gFU () 0 (by omega) (gFU_lt (by omega)) trivial
  · intro fu _ _
    show F_X12_rankOf_2 (fu + 1) w (nI x) (nI r0) = _
    rw [F_X12_rankOf_2_s, M_laneOf hS hB (by omega), gP_s, laneI_N hb.2.2, h2, if_pos rfl]
  · intro fu _ j hj _
    right
    refine ⟨(), trivial, ?_⟩
    show F_X12_rankOf_2 (fu + 1) w (nI x) (nI j) = F_X12_rankOf_2 fu w (nI x) (nI (j + 1))
    have hbj := laneN_in hB (r := j) (by omega)
    rw [F_X12_rankOf_2_s, M_laneOf hS hB (by omega), gP_s, laneI_N hbj.2.2, iEq (by omega) (by omega), if_neg (h3 j hj), gS_e, nI_1]
theorem Q_lane {w : gWd} {S : Nat → Nat} {EB : Nat} (hI : IV EB S) (hC : CV (w 0) S) (hS : SV w S) (x y : Int32) : QQ (F_X11_lane w x y) (F_X12_lane w x y) := by
  have hB := hI.wb
  have h7 := hB.2.2.2.2.2.1
  have e1 : nI (S 317) - 1 = nI (S 317 - 1) := mN (by omega) (by omega)
  unfold F_X11_lane F_X12_lane
  rw [C_lanes hC, gP_s, gP_s, gP_s, M_lanes hS, gP_s, e1]
  by_cases a : x < 0
  · exact ⟨-1000001, by rw [if_pos a], by rw [M_in_f (by omega) (Or.inl a), gP_s, if_pos rfl]⟩
  · by_cases b : nI (S 317) ≤ x
    · exact ⟨-1000001, by rw [if_neg a, if_pos b], by rw [M_in_f (n := S 317 - 1) (by omega) (Or.inr (by rw [show S 317 - 1 + 1 = S 317 by omega]; exact b)), gP_s, if_pos rfl]⟩
    · obtain ⟨r, hr, rfl⟩ := arg_lt (n := S 317) (by omega) a b
      rw [if_neg a, if_neg b, M_in_t (by omega) (by omega), gP_s, if_neg (show ¬ (1 : Int32) = 0 by decide)]
      by_cases c : y < 0
      · exact ⟨-1000001, by rw [if_pos c], by rw [show F_X12_in w y 0 1 = F_X12_in w y 0 (nI 1) from rfl, M_in_f (by omega) (Or.inl c), gP_s, if_pos rfl]⟩
      · by_cases d : nI 2 ≤ y
        · refine ⟨-1000001, ?_, ?_⟩
          · rw [if_neg c, if_neg]
            intro z
            rw [Int32.le_iff_toInt_le] at z d
            have k1 : (nI 2).toInt = 2 := by decide
            have k2 : (1 : Int32).toInt = 1 := by decide
            omega
          · rw [show F_X12_in w y 0 1 = F_X12_in w y 0 (nI 1) from rfl, M_in_f (n := 1) (by omega) (Or.inr d), gP_s, if_pos rfl]
        · obtain ⟨q, hq, rfl⟩ := arg_lt (n := 2) (by omega) c d
          rw [if_neg c, if_pos (show nI q ≤ 1 from (nI_leI (b := 1) (by omega) (by omega)).mpr (by omega)), show F_X12_in w (nI q) 0 1 = F_X12_in w (nI q) 0 (nI 1) from rfl, M_in_t (by omega) (by omega), gP_s, if_neg (show ¬ (1 : Int32) = 0 by decide), iE0 (by omega), iE0 (by omega)]
          by_cases e : q = 0
          · rw [if_pos e, if_pos e, C_ofRank hB (by omega), gP_s, M_laneOf hS hB (by omega), gP_s]
            exact ⟨_, rfl, rfl⟩
          · rw [if_neg e, if_neg e, nI_1]
            unfold F_X4_rankOf
            rw [gS_e, nI_1, show (2 : Int32) = nI 2 from rfl, pk_div (by omega) (by omega) (by omega), iLe (by omega) (by omega)]
            by_cases f : r + 1 ≤ (S 317 + 1) / 2
            · rw [if_pos f, pk_sub f, pk_mul, gP_s, M_rankOf hS hB (r0 := 2 * ((S 317 + 1) / 2 - (r + 1))) (by omega) (by unfold laneN; rw [if_neg (by omega)]; omega) (fun r' hr' => by unfold laneN; split <;> omega), gP_s]
              exact ⟨_, rfl, rfl⟩
            · rw [if_neg f, pk_sub (by omega), pk_mul, mN (by omega) (by omega), gP_s, M_rankOf hS hB (r0 := 2 * (r + 1 - (S 317 + 1) / 2) - 1) (by omega) (by unfold laneN; rw [if_pos (by omega)]; omega) (fun r' hr' => by unfold laneN; split <;> omega), gP_s]
              exact ⟨_, rfl, rfl⟩
end
section
/-! level 2: swimmer, at -/
theorem M_orNone {w : gWd} {v : Nat} : F_X12_orNone w (nI v) = some (if nI v ≤ 0 then -1000004 else nI v) := by
  unfold F_X12_orNone; split <;> rfl
theorem C_above {w : gWd} {v : Nat} : F_X0_aboveZero w (nI v) = some (if nI v ≤ 0 then -1000004 else nI v) := by
  unfold F_X0_aboveZero; split <;> rfl
theorem M_less {w : gWd} {v : Nat} (h : v < 2 ^ 30) : F_X12_lessOne w (nI v) = some (if v = 0 then -1000004 else nI v - 1) := by
  unfold F_X12_lessOne
  rw [iLe0 (by omega)]
  split <;> rfl
theorem C_m1 {v : Nat} (h : v < 2 ^ 30) : (if nI v - 1 = -1 then some (-1000004) else some (nI v - 1) : Option Int32) = some (if v = 0 then -1000004 else nI v - 1) := by
  by_cases e : v = 0
  · rw [if_pos ((mEN1 h).mpr e), if_pos e]
  · rw [if_neg (fun z => e ((mEN1 h).mp z)), if_neg e]
theorem Q_swimmer {w : gWd} {S : Nat → Nat} {EB : Nat} (hI : IV EB S) (hC : CV (w 0) S) (hS : SV w S) (x y : Int32) : QQ (F_X11_swimmer w x y) (F_X12_swimmer w x y) := by
  have hB := hI.wb
  have hN := hB.1
  unfold F_X11_swimmer F_X12_swimmer
  rw [C_has hC, gP_s, M_isSw hS hB, gP_s]
  by_cases a : x < 0 ∨ nI (S 311) ≤ x
  · rw [if_pos a, if_pos rfl, if_pos rfl]
    exact ⟨_, rfl, rfl⟩
  · rw [if_neg a, if_neg (show ¬ (1 : Int32) = 0 by decide), if_neg (show ¬ (1 : Int32) = 0 by decide)]
    obtain ⟨k, hk, rfl⟩ := arg_lt (by omega) (fun z => a (Or.inl z)) (fun z => a (Or.inr z))
    have h := hB.k (k := k) (by omega)
    by_cases c : y < 0
    · rw [if_pos c, show F_X12_in w y 0 11 = F_X12_in w y 0 (nI 11) from rfl, M_in_f (by omega) (Or.inl c), gP_s, if_pos rfl]
      exact ⟨_, rfl, rfl⟩
    · by_cases d : nI 12 ≤ y
      · rw [if_neg c, show F_X12_in w y 0 11 = F_X12_in w y 0 (nI 11) from rfl, M_in_f (n := 11) (by omega) (Or.inr d), gP_s, if_pos rfl, if_neg]
        · exact ⟨_, rfl, rfl⟩
        · intro z
          rw [Int32.le_iff_toInt_le] at z d
          have k1 : (nI 12).toInt = 12 := by decide
          have k2 : (11 : Int32).toInt = 11 := by decide
          omega
      · obtain ⟨q, hq, rfl⟩ := arg_lt (n := 12) (by omega) c d
        rw [if_neg c, if_pos (show nI q ≤ 11 from (nI_leI (b := 11) (by omega) (by omega)).mpr (by omega)), show F_X12_in w (nI q) 0 11 = F_X12_in w (nI q) 0 (nI 11) from rfl, M_in_t (by omega) (by omega), gP_s, if_neg (show ¬ (1 : Int32) = 0 by decide), gB_n _ (by omega) (by omega)]
        have : q = 0 ∨ q = 1 ∨ q = 2 ∨ q = 3 ∨ q = 4 ∨ q = 5 ∨ q = 6 ∨ q = 7 ∨ q = 8 ∨ q = 9 ∨ q = 10 ∨ q = 11 := by omega
        rcases this with rfl | rfl | rfl | rfl | rfl | rfl | rfl | rfl | rfl | rfl | rfl | rfl
        · show QQ (some (w 0 (4 + k) 1)) (gP (F_X12_of w (nI k) (nI 0)) (fun v_56 => some v_56))
          rw [hC.f1 hk, M_of hS (by omega), gP_s]
          exact ⟨_, rfl, rfl⟩
        · show QQ (some (w 0 (4 + k) 2)) (gP (F_X12_of w (nI k) (nI 1)) (fun v_56 => some v_56))
          rw [hC.f2 hk, M_of hS (by omega), gP_s]
          exact ⟨_, rfl, rfl⟩
        · show QQ (gP (if (w 0 (4 + k) 3) = 0 then (gP (F_X5_rankByEntry w 0 0 k) (fun v_6 => some v_6)) else (some (-1000004))) (fun v_9 => some v_9)) (gP (F_X12_isGone w (nI k)) (fun v_9 => if v_9 = 0 then (gP (F_X12_entryRank w (nI k)) (fun v_12 => some v_12)) else (some (-1000004))))
          rw [hC.f3 hk, M_isGone hS hB (by omega), gP_s, C_erank hC hB hk, gP_s, M_erank hS hB (by omega), gP_s]
          split
          · exact ⟨_, rfl, rfl⟩
          · exact ⟨_, rfl, rfl⟩
        · show QQ (gP (if (w 0 (4 + k) 4) = (-1) then (some (-1000004)) else (some ((w 0 (4 + k) 4)))) (fun v_9 => some v_9)) (gP (F_X12_of w (nI k) 3) (fun v_15 => gP (F_X12_lessOne w v_15) (fun v_17 => some v_17)))
          rw [hC.f4 hk, C_m1 (by omega), gP_s, M_of3 hS (by omega), gP_s, M_less (by omega), gP_s]
          exact ⟨_, rfl, rfl⟩
        · show QQ (gP (gP (F_X0_aboveZero w ((w 0 (4 + k) 5))) (fun v_11 => some v_11)) (fun v_9 => some v_9)) (gP (F_X12_of w (nI k) 4) (fun v_20 => gP (F_X12_orNone w v_20) (fun v_22 => some v_22)))
          rw [hC.f5 hk, C_above, gP_s, gP_s, M_of4 hS (by omega), gP_s, M_orNone, gP_s]
          exact ⟨_, rfl, rfl⟩
        · show QQ (gP (if (w 0 (4 + k) 6) = (-1) then (some (-1000004)) else (some ((w 0 (4 + k) 6)))) (fun v_9 => some v_9)) (gP (F_X12_of w (nI k) 5) (fun v_15 => gP (F_X12_lessOne w v_15) (fun v_17 => some v_17)))
          rw [hC.f6 hk, C_m1 (by omega), gP_s, M_of5 hS (by omega), gP_s, M_less (by omega), gP_s]
          exact ⟨_, rfl, rfl⟩
        · show QQ (gP (if (w 0 (4 + k) 6) ≤ 0 then (some (-1000004)) else (gP (F_X5_rankByHeatTime w 0 0 k) (fun v_17 => some v_17))) (fun v_9 => some v_9)) (gP (F_X12_hasTime w (nI k)) (fun v_30 => if v_30 = 0 then (some (-1000004)) else (gP (F_X12_timeRank w (nI k)) (fun v_33 => some v_33))))
          rw [hC.f6 hk, C_trank hC hB hk, gP_s, M_hasT hS hB (by omega), gP_s, M_trank hS hB (by omega), gP_s]
          by_cases e : 1 < S (10 * k + 5)
          · rw [if_neg (fun z => absurd ((mLe0 (by omega)).mp z) (by omega)), if_pos e, gP_s, iE0 (by omega), if_neg (by omega)]
            exact ⟨_, rfl, rfl⟩
          · rw [if_pos ((mLe0 (by omega)).mpr (by omega)), if_neg e, gP_s, iE0 (by omega), if_pos rfl]
            exact ⟨_, rfl, rfl⟩
        · show QQ (gP (gP (F_X0_aboveZero w ((w 0 (4 + k) 7))) (fun v_11 => some v_11)) (fun v_9 => some v_9)) (gP (F_X12_of w (nI k) 6) (fun v_20 => gP (F_X12_orNone w v_20) (fun v_22 => some v_22)))
          rw [hC.f7 hk, C_above, gP_s, gP_s, M_of6 hS (by omega), gP_s, M_orNone, gP_s]
          exact ⟨_, rfl, rfl⟩
        · show QQ (gP (if (w 0 (4 + k) 8) = (-1) then (some (-1000004)) else (some ((w 0 (4 + k) 8)))) (fun v_9 => some v_9)) (gP (F_X12_of w (nI k) 7) (fun v_15 => gP (F_X12_lessOne w v_15) (fun v_17 => some v_17)))
          rw [hC.f8 hk, C_m1 (by omega), gP_s, M_of7 hS (by omega), gP_s, M_less (by omega), gP_s]
          exact ⟨_, rfl, rfl⟩
        · show QQ (gP (gP (F_X0_aboveZero w ((w 0 (4 + k) 9))) (fun v_11 => some v_11)) (fun v_9 => some v_9)) (gP (F_X12_of w (nI k) 8) (fun v_20 => gP (F_X12_orNone w v_20) (fun v_22 => some v_22)))
          rw [hC.f9 hk, C_above, gP_s, gP_s, M_of8 hS (by omega), gP_s, M_orNone, gP_s]
          exact ⟨_, rfl, rfl⟩
        · show QQ (gP (if (w 0 (4 + k) 3) = 0 then (some 0) else (some 1)) (fun v_9 => some v_9)) (gP (F_X12_of w (nI k) 2) (fun v_51 => some v_51))
          rw [hC.f3 hk, M_of2 hS (by omega), gP_s]
          have : S (10 * k + 2) = 0 ∨ S (10 * k + 2) = 1 := by omega
          rcases this with e | e <;> rw [e] <;> exact ⟨_, rfl, rfl⟩
        · show QQ (some (w 0 (4 + k) 10)) (gP (F_X12_of w (nI k) 9) (fun v_54 => some v_54))
          rw [hC.f10 hk, M_of9 hS (by omega), gP_s]
          exact ⟨_, rfl, rfl⟩
/-- who is in the heat z - 1, in the final for z = 0 -/
def hIn (S : Nat → Nat) (z k : Nat) : Bool := if z = 0 then decide (S (10 * k + 6) ≠ 0) else decide (S (10 * k + 3) = z)
theorem hX_0 : nI 0 - 1 = -1 := by decide
theorem hX_s {z : Nat} (h : z ≠ 0) (hz : z < 2 ^ 30) : nI z - 1 = nI (z - 1) := mN hz (by omega)
theorem hX_ne {z : Nat} (h : z ≠ 0) (hz : z < 2 ^ 30) : ¬ nI z - 1 = -1 := fun q => h ((mEN1 hz).mp q)
theorem C_isIn {w : gWd} {S : Nat → Nat} {i z k : Nat} (hC : CV (w i) S) (hB : WB S) (hz : z ≤ 8) (hk : k < S 311) : F_X10_isIn w i k (nI z - 1) = some (nI (if hIn S z k = true then 1 else 0)) := by
  have hN := hB.1
  have h := hB.k (k := k) (by omega)
  unfold F_X10_isIn hIn
  by_cases e : z = 0
  · subst e
    rw [if_pos hX_0, hC.f7 hk, iE0 (by omega), if_pos rfl]
    by_cases e2 : S (10 * k + 6) = 0
    · rw [if_pos e2, if_neg (by simp [e2])]; rfl
    · rw [if_neg e2, if_pos (by simp [e2])]; rfl
  · rw [if_neg (hX_ne e (by omega)), hC.f4 hk, if_neg e]
    by_cases e2 : S (10 * k + 3) = z
    · rw [if_pos ((mE (by omega) (by omega)).mpr e2), if_pos (by simp [e2])]; rfl
    · rw [if_neg (fun q => e2 ((mE (by omega) (by omega)).mp q)), if_neg (by simp [e2])]; rfl
theorem hX_pos {z : Nat} (hz : z ≤ 8) : (0 ≤ nI z - 1) ↔ z ≠ 0 := by
  rw [Int32.le_iff_toInt_le, mT (by omega), show (0 : Int32).toInt = 0 from rfl]
  omega
theorem M_isIn {w : gWd} {S : Nat → Nat} {z k : Nat} (hS : SV w S) (hB : WB S) (hz : z ≤ 8) (hk : k < 30) : F_X12_isIn w (nI k) (nI z - 1) = some (nI (if hIn S z k = true then 1 else 0)) := by
  have h := hB.k (k := k) (by omega)
  unfold F_X12_isIn hIn
  rw [M_of3 hS hk, gP_s, M_of6 hS hk, gP_s, iLe0 (by omega)]
  by_cases e : z = 0
  · rw [if_neg (fun q => (hX_pos hz).mp q e), if_pos e]
    by_cases e2 : S (10 * k + 6) = 0
    · rw [if_pos e2, if_neg (by simp [e2])]; rfl
    · rw [if_neg e2, if_pos (by simp [e2])]; rfl
  · rw [if_pos ((hX_pos hz).mpr e), if_neg e, hX_s e (by omega), nI_1, show z - 1 + 1 = z by omega, iEq (by omega) (by omega)]
    by_cases e2 : S (10 * k + 3) = z
    · rw [if_pos e2, if_pos (by simp [e2])]; rfl
    · rw [if_neg e2, if_neg (by simp [e2])]; rfl
def hZ (S : Nat → Nat) (x : Int32) : Prop := (x = -1 ∧ 2 ≤ S 310) ∨ (0 ≤ x ∧ ¬ nI (S 312) ≤ x)
theorem C_hasHeat {w : gWd} {S : Nat → Nat} {i : Nat} (hC : CV (w i) S) (hB : WB S) (x : Int32) : (hZ S x ∧ F_X5_hasHeat w i x = some 1) ∨ (¬ hZ S x ∧ F_X5_hasHeat w i x = some 0) := by
  have hst := hB.2.1
  unfold F_X5_hasHeat F_X5_hasHeat_37 hZ
  rw [hC.st, hC.ht, show (2 : Int32) = nI 2 from rfl, iLt (by omega) (by omega)]
  by_cases a : x = -1
  · subst a
    rw [if_pos rfl]
    by_cases b : S 310 < 2
    · right
      rw [if_pos b]
      exact ⟨fun z => z.elim (fun y => by omega) (fun y => absurd y.1 (by decide)), rfl⟩
    · left
      rw [if_neg b]
      exact ⟨Or.inl ⟨rfl, by omega⟩, rfl⟩
  · rw [if_neg a]
    by_cases b : x < 0
    · right
      rw [if_pos b]
      exact ⟨fun z => z.elim (fun y => a y.1) (fun y => absurd b (fun q => (fa_of_lt q).2.1 y.1)), rfl⟩
    · rw [if_neg b]
      by_cases c : nI (S 312) ≤ x
      · right
        rw [if_pos c]
        exact ⟨fun z => z.elim (fun y => a y.1) (fun y => y.2 c), rfl⟩
      · left
        rw [if_neg c]
        exact ⟨Or.inr ⟨fa_of_nlt b, c⟩, rfl⟩
theorem M_isHeat {w : gWd} {S : Nat → Nat} (hS : SV w S) (hB : WB S) (x : Int32) : (hZ S x ∧ F_X12_isHeat w x = some 1) ∨ (¬ hZ S x ∧ F_X12_isHeat w x = some 0) := by
  have hst := hB.2.1
  unfold F_X12_isHeat F_X12_isHeat_25 hZ
  rw [hS 310 (by omega), hS 312 (by omega), show (if nI (S 310) ≤ 1 then (some 0 : Option Int32) else some 1) = (if nI (S 310) ≤ nI 1 then some 0 else some 1) from rfl, iLe (a := S 310) (by omega) (by omega)]
  by_cases b : 0 ≤ x
  · rw [if_pos b]
    by_cases c : nI (S 312) ≤ x
    · right
      rw [if_pos c]
      exact ⟨fun z => z.elim (fun y => by rw [y.1] at b; exact absurd b (by decide)) (fun y => y.2 c), rfl⟩
    · left
      rw [if_neg c]
      exact ⟨Or.inr ⟨b, c⟩, rfl⟩
  · rw [if_neg b]
    by_cases a : x = -1
    · rw [if_pos a]
      by_cases d : S 310 ≤ 1
      · right
        rw [if_pos d]
        exact ⟨fun z => z.elim (fun y => by omega) (fun y => b y.1), rfl⟩
      · left
        rw [if_neg d]
        exact ⟨Or.inl ⟨a, by omega⟩, rfl⟩
    · right
      rw [if_neg a]
      exact ⟨fun z => z.elim (fun y => a y.1) (fun y => b y.1), rfl⟩
theorem hZ_z {S : Nat → Nat} (hB : WB S) {x : Int32} (h : hZ S x) : ∃ z, z ≤ 8 ∧ x = nI z - 1 := by
  have h8 := hB.2.2.1
  rcases h with ⟨rfl, _⟩ | ⟨a, b⟩
  · exact ⟨0, by omega, by decide⟩
  · obtain ⟨k, hk, rfl⟩ := arg_lt (n := S 312) (by omega) (fun z => (fa_of_lt z).2.1 a) b
    exact ⟨k + 1, by omega, by rw [mN (by omega) (by omega), Nat.add_sub_cancel]⟩
def lnZ (S : Nat → Nat) (z k : Nat) : Nat := if z = 0 then S (10 * k + 6) else S (10 * k + 4)
def atP (S : Nat → Nat) (z : Nat) (y : Int32) (k : Nat) : Prop := hIn S z k = true ∧ nI (lnZ S z k) = y
theorem C_inLane {w : gWd} {S : Nat → Nat} {i z : Nat} {y : Int32} (hC : CV (w i) S) (hB : WB S) (hz : z ≤ 8) : (∃ k, k < S 311 ∧ atP S z y k ∧ (∀ j, j < k → ¬ atP S z y j) ∧ F_X0_inLane w i (nI z - 1) y = some (nI k)) ∨ ((∀ j, j < S 311 → ¬ atP S z y j) ∧ F_X0_inLane w i (nI z - 1) y = some (-1000004)) := by
  unfold F_X0_inLane
  have hN := hB.1
  refine loopI (F := fun fu (_ : Unit) j => F_X0_inLane_2 fu w i (nI z - 1) y (nI j)) (S 311) (fun j _ => ∀ q, q < j → ¬ atP S z y q) (fun o => (∃ k, k < S 311 ∧ atP S z y k ∧ (∀ j, j < k → ¬ atP S z y j) ∧ o = some (nI k)) ∨ ((∀ j, j < S 311 → ¬ atP S z y j) ∧ o = some (-1000004))) ?_ ?_ gFU () 0 (by omega) (gFU_lt (by omega)) (fun q hq => absurd hq (Nat.not_lt_zero q))
  · intro fu _ hI
    right
    refine ⟨hI, ?_⟩
    show F_X0_inLane_2 (fu + 1) w i (nI z - 1) y (nI (S 311)) = _
    rw [F_X0_inLane_2_s, hC.sz, iLe (by omega) (by omega), if_pos (Nat.le_refl _)]
  · intro fu _ j hj hI
    have hl : F_X10_laneOf w i j (nI z - 1) = some (nI (lnZ S z j)) := by
      unfold F_X10_laneOf lnZ
      by_cases e : z = 0
      · subst e; rw [if_pos hX_0, hC.f7 hj, if_pos rfl]
      · rw [if_neg (hX_ne e (by omega)), hC.f5 hj, if_neg e]
    have e0 : F_X0_inLane_2 (fu + 1) w i (nI z - 1) y (nI j) = if hIn S z j = true then (if nI (lnZ S z j) = y then some (nI j) else F_X0_inLane_2 fu w i (nI z - 1) y (nI (j + 1))) else F_X0_inLane_2 fu w i (nI z - 1) y (nI (j + 1)) := by
      rw [F_X0_inLane_2_s, hC.sz, iLe (by omega) (by omega), if_neg (by omega), gB_n _ (by omega) (by omega), C_isIn hC hB hz hj, gP_s, hl, gP_s]
      by_cases e : hIn S z j = true
      · rw [if_pos e, iE0 (by omega), if_neg (by omega), if_pos e]
        simp only [gS_e, nI_1]
      · rw [if_neg e, iE0 (by omega), if_pos rfl, if_neg e]
        simp only [gS_e, nI_1]
    show (_ ∨ ∃ st', _ ∧ F_X0_inLane_2 (fu + 1) w i (nI z - 1) y (nI j) = F_X0_inLane_2 fu w i (nI z - 1) y (nI (j + 1)))
    by_cases e : atP S z y j
    · left
      left
      refine ⟨j, hj, e, hI, ?_⟩
      show F_X0_inLane_2 (fu + 1) w i (nI z - 1) y (nI j) = _
      rw [e0, if_pos e.1, if_pos e.2]
    · right
      refine ⟨(), fun q hq => ?_, ?_⟩
      · by_cases e2 : q = j
        · subst e2; exact e
        · exact hI q (by omega)
      · rw [e0]
        by_cases e1 : hIn S z j = true
        · rw [if_pos e1, if_neg (fun q => e ⟨e1, q⟩)]
        · rw [if_neg e1]
theorem M_at25 {w : gWd} {S : Nat → Nat} {z : Nat} {y : Int32} (hS : SV w S) (hB : WB S) (hz : z ≤ 8) : (∃ k, k < S 311 ∧ atP S z y k ∧ (∀ j, j < k → ¬ atP S z y j) ∧ F_X12_at_25 gFU w (nI z - 1) y 0 = some (nI k)) ∨ ((∀ j, j < S 311 → ¬ atP S z y j) ∧ F_X12_at_25 gFU w (nI z - 1) y 0 = some (-1000004)) := by
  have hN := hB.1
  refine loopI (F := fun fu (_ : Unit) j => F_X12_at_25 fu w (nI z - 1) y (nI j)) (S 311) (fun j _ => ∀ q, q < j → ¬ atP S z y q) (fun o => (∃ k, k < S 311 ∧ atP S z y k ∧ (∀ j, j < k → ¬ atP S z y j) ∧ o = some (nI k)) ∨ ((∀ j, j < S 311 → ¬ atP S z y j) ∧ o = some (-1000004))) ?_ ?_ gFU () 0 (by omega) (gFU_lt (by omega)) (fun q hq => absurd hq (Nat.not_lt_zero q))
  · intro fu _ hI
    right
    refine ⟨hI, ?_⟩
    show F_X12_at_25 (fu + 1) w (nI z - 1) y (nI (S 311)) = _
    rw [F_X12_at_25_s, hS 311 (by omega), iLe (by omega) (by omega), if_pos (Nat.le_refl _)]
  · intro fu _ j hj hI
    have e0 : F_X12_at_25 (fu + 1) w (nI z - 1) y (nI j) = if hIn S z j = true then (if nI (lnZ S z j) = y then some (nI j) else F_X12_at_25 fu w (nI z - 1) y (nI (j + 1))) else F_X12_at_25 fu w (nI z - 1) y (nI (j + 1)) := by
      rw [F_X12_at_25_s, hS 311 (by omega), iLe (by omega) (by omega), if_neg (by omega), M_isIn hS hB hz (by omega), gP_s]
      unfold F_X12_at_58 lnZ
      rw [M_of4 hS (by omega), gP_s, M_of6 hS (by omega), gP_s]
      by_cases e : hIn S z j = true
      · rw [if_pos e, iE0 (by omega), if_neg (by omega), if_pos e]
        by_cases e2 : z = 0
        · rw [if_neg (fun q => (hX_pos hz).mp q e2), if_pos e2]
          simp only [gS_e, nI_1]
        · rw [if_pos ((hX_pos hz).mpr e2), if_neg e2]
          simp only [gS_e, nI_1]
      · rw [if_neg e, iE0 (by omega), if_pos rfl, if_neg e]
        simp only [gS_e, nI_1]
    show (_ ∨ ∃ st', _ ∧ F_X12_at_25 (fu + 1) w (nI z - 1) y (nI j) = F_X12_at_25 fu w (nI z - 1) y (nI (j + 1)))
    by_cases e : atP S z y j
    · left
      left
      refine ⟨j, hj, e, hI, ?_⟩
      show F_X12_at_25 (fu + 1) w (nI z - 1) y (nI j) = _
      rw [e0, if_pos e.1, if_pos e.2]
    · right
      refine ⟨(), fun q hq => ?_, ?_⟩
      · by_cases e2 : q = j
        · subst e2; exact e
        · exact hI q (by omega)
      · rw [e0]
        by_cases e1 : hIn S z j = true
        · rw [if_pos e1, if_neg (fun q => e ⟨e1, q⟩)]
        · rw [if_neg e1]
theorem Q_at {w : gWd} {S : Nat → Nat} {EB : Nat} (hI : IV EB S) (hC : CV (w 0) S) (hS : SV w S) (x y : Int32) : QQ (F_X11_at w x y) (F_X12_at w x y) := by
  have hB := hI.wb
  have hN := hB.1
  have h7 := hB.2.2.2.2.2.1
  unfold F_X11_at F_X12_at
  rcases C_hasHeat hC hB x with ⟨a, b⟩ | ⟨a, b⟩
  · rcases M_isHeat hS hB x with ⟨c, d⟩ | ⟨c, d⟩
    · obtain ⟨z, hz, rfl⟩ := hZ_z hB a
      rw [b, d, gP_s, gP_s, if_neg (show ¬ (1 : Int32) = 0 by decide), if_neg (show ¬ (1 : Int32) = 0 by decide), C_lanes hC, gP_s, M_lanes hS, gP_s, M_in, gP_s]
      by_cases e : y < 1
      · rw [if_pos e, if_pos e, if_pos rfl]
        exact ⟨_, rfl, rfl⟩
      · rw [if_neg e, if_neg e]
        by_cases f : y ≤ nI (S 317)
        · rw [if_pos f, if_neg (fun q => (fa_of_lt q).2.1 f), if_neg (show ¬ (1 : Int32) = 0 by decide)]
          rcases C_inLane (y := y) hC hB hz with ⟨k, g1, g2, g3, g4⟩ | ⟨g1, g2⟩
          · rcases M_at25 (y := y) hS hB hz with ⟨k', i1, i2, i3, i4⟩ | ⟨i1, i2⟩
            · have : k = k' := by
                rcases Nat.lt_trichotomy k k' with q | q | q
                · exact absurd g2 (i3 k q)
                · exact q
                · exact absurd i2 (g3 k' q)
              subst this
              exact ⟨nI k, by rw [g4, gP_s], i4⟩
            · exact absurd g2 (i1 k g1)
          · rcases M_at25 (y := y) hS hB hz with ⟨k', i1, i2, i3, i4⟩ | ⟨i1, i2⟩
            · exact absurd i2 (g1 k' i1)
            · exact ⟨-1000004, by rw [g2, gP_s], i2⟩
        · rw [if_neg f, if_pos (fa_of_nle f), if_pos rfl]
          exact ⟨_, rfl, rfl⟩
    · exact absurd a c
  · rcases M_isHeat hS hB x with ⟨c, d⟩ | ⟨c, d⟩
    · exact absurd c a
    · rw [b, d, gP_s, gP_s, if_pos rfl, if_pos rfl]
      exact ⟨_, rfl, rfl⟩
end
section
/-! level 2: heat -/
def tz (S : Nat → Nat) (z k : Nat) : Nat := if z = 0 then S (10 * k + 7) else S (10 * k + 5)
def cnt (S : Nat → Nat) (z y k : Nat) : Nat := if y = 0 then 1 else if y = 1 then (if tz S z k = 0 then 0 else 1) else if y = 4 then (if tz S z k ≤ 1 then 0 else tz S z k - 1) else S (10 * k + 1)
def cz (S : Nat → Nat) (z y k : Nat) : Nat := if hIn S z k = true then cnt S z y k else 0
def bt (a b : Nat) : Nat := if b = 0 then a else if a = 0 then b else if a ≤ b then a else b
def lsf (c : Nat → Nat) : Nat → Nat
  | 0 => 0
  | n + 1 => bt (lsf c n) (c n)
def mxf (c : Nat → Nat) : Nat → Nat
  | 0 => 0
  | n + 1 => if c n ≤ mxf c n then mxf c n else c n
theorem bt_le {a b m : Nat} (h1 : a ≤ m) (h2 : b ≤ m) : bt a b ≤ m := by
  unfold bt
  split
  · exact h1
  · split
    · exact h2
    · split
      · exact h1
      · exact h2
theorem lsf_le {c : Nat → Nat} {m : Nat} : ∀ {n}, (∀ k, k < n → c k ≤ m) → lsf c n ≤ m
  | 0, _ => Nat.zero_le _
  | n + 1, h => bt_le (lsf_le (fun k hk => h k (by omega))) (h n (by omega))
theorem mxf_le {c : Nat → Nat} {m : Nat} : ∀ {n}, (∀ k, k < n → c k ≤ m) → mxf c n ≤ m
  | 0, _ => Nat.zero_le _
  | n + 1, h => by
    have := mxf_le (c := c) (m := m) (n := n) (fun k hk => h k (by omega))
    have := h n (by omega)
    show (if c n ≤ mxf c n then mxf c n else c n) ≤ m
    split <;> omega
theorem tz_le {S : Nat → Nat} (hB : WB S) {z k : Nat} (hk : k < 30) : tz S z k ≤ 1000 := by
  have h := hB.k hk
  unfold tz
  split <;> omega
theorem cz_le {S : Nat → Nat} (hB : WB S) {z y k : Nat} (hk : k < 30) : cz S z y k ≤ 999 := by
  have h := (hB.k hk).2.1
  have ht := tz_le hB (z := z) hk
  unfold cz cnt
  split
  · split
    · omega
    · split
      · split <;> omega
      · split
        · split <;> omega
        · omega
  · omega
theorem M_bt {w : gWd} {a b : Nat} (ha : a ≤ 999) (hb : b ≤ 999) : F_X12_better w (nI a) (nI b) = some (nI (bt a b)) := by
  unfold F_X12_better F_X12_better_13 F_X12_better_17 bt
  rw [iLe0 (by omega), iE0 (by omega), iLe (by omega) (by omega)]
  split
  · rfl
  · split
    · rfl
    · split <;> rfl
theorem C_timeOf {w : gWd} {S : Nat → Nat} {i z k : Nat} (hC : CV (w i) S) (hz : z ≤ 8) (hk : k < S 311) : F_X10_timeOf w i k (nI z - 1) = some (nI (tz S z k) - 1) := by
  unfold F_X10_timeOf tz
  by_cases e : z = 0
  · subst e; rw [if_pos hX_0, hC.f8 hk, if_pos rfl]
  · rw [if_neg (hX_ne e (by omega)), hC.f6 hk, if_neg e]
theorem C_countIn {w : gWd} {S : Nat → Nat} {i z y : Nat} (hC : CV (w i) S) (hB : WB S) (hz : z ≤ 8) (hy : y ≤ 1) : F_X0_countIn w i (nI z - 1) (nI y) = some (nI (fb_sm (cz S z y) (S 311))) := by
  unfold F_X0_countIn
  have hN := hB.1
  refine loopI (F := fun fu (acc : Nat) j => F_X0_countIn_5 fu w i (nI z - 1) (nI y) (nI acc) (nI j)) (S 311) (fun j acc => acc = fb_sm (cz S z y) j) (fun r => r = some (nI (fb_sm (cz S z y) (S 311)))) ?_ ?_ gFU 0 0 (by omega) (gFU_lt (by omega)) rfl
  · intro fu acc hI
    show F_X0_countIn_5 (fu + 1) w i (nI z - 1) (nI y) (nI acc) (nI (S 311)) = _
    rw [F_X0_countIn_5_s, hC.sz, iLe (by omega) (by omega), if_pos (Nat.le_refl _), hI]
  · intro fu acc j hj hI
    right
    refine ⟨_, rfl, ?_⟩
    show F_X0_countIn_5 (fu + 1) w i (nI z - 1) (nI y) (nI acc) (nI j) = F_X0_countIn_5 fu w i (nI z - 1) (nI y) _ (nI (j + 1))
    have ht := tz_le hB (z := z) (k := j) (by omega)
    rw [F_X0_countIn_5_s, hC.sz, iLe (by omega) (by omega), if_neg (by omega), gB_n _ (by omega) (by omega), C_isIn hC hB hz hj, gP_s, C_timeOf hC hz hj, gP_s, iE0 (a := y) (by omega), fb_sm_succ, hI]
    unfold F_X0_countIn_46
    have hc : cz S z y j = if hIn S z j = true then cnt S z y j else 0 := rfl
    rw [hc]
    by_cases e : hIn S z j = true
    · rw [if_pos e, iE0 (by omega), if_neg (by omega), if_pos e]
      unfold cnt
      by_cases e1 : y = 0
      · rw [if_pos e1, if_pos e1]
        simp only [gS_e, nI_1]
      · rw [if_neg e1, if_neg e1, if_pos (show y = 1 by omega)]
        by_cases e2 : tz S z j = 0
        · rw [if_pos ((mEN1 (by omega)).mpr e2), if_pos e2]
          simp only [gS_e, nI_1, Nat.add_zero]
        · rw [if_neg (fun q => e2 ((mEN1 (by omega)).mp q)), if_neg e2]
          simp only [gS_e, nI_1]
    · rw [if_neg e, iE0 (by omega), if_pos rfl, if_neg e]
      simp only [gS_e, nI_1, Nat.add_zero]
theorem C_leastIn {w : gWd} {S : Nat → Nat} {i z b : Nat} (hC : CV (w i) S) (hB : WB S) (hz : z ≤ 8) (hb : b ≤ 1) : F_X0_leastIn w i (nI z - 1) (nI b) = some (if nI (lsf (cz S z (2 + 2 * b)) (S 311)) ≤ 0 then -1000004 else nI (lsf (cz S z (2 + 2 * b)) (S 311))) := by
  unfold F_X0_leastIn
  have hN := hB.1
  refine loopI (F := fun fu (acc : Nat) j => F_X0_leastIn_5 fu w i (nI z - 1) (nI b) (nI acc) (nI j)) (S 311) (fun j acc => acc = lsf (cz S z (2 + 2 * b)) j) (fun r => r = some (if nI (lsf (cz S z (2 + 2 * b)) (S 311)) ≤ 0 then -1000004 else nI (lsf (cz S z (2 + 2 * b)) (S 311)))) ?_ ?_ gFU 0 0 (by omega) (gFU_lt (by omega)) rfl
  · intro fu acc hI
    show F_X0_leastIn_5 (fu + 1) w i (nI z - 1) (nI b) (nI acc) (nI (S 311)) = _
    rw [F_X0_leastIn_5_s, hC.sz, iLe (by omega) (by omega), if_pos (Nat.le_refl _), C_above, gP_s, hI]
  · intro fu acc j hj hI
    right
    refine ⟨lsf (cz S z (2 + 2 * b)) (j + 1), rfl, ?_⟩
    show F_X0_leastIn_5 (fu + 1) w i (nI z - 1) (nI b) (nI acc) (nI j) = F_X0_leastIn_5 fu w i (nI z - 1) (nI b) (nI (lsf (cz S z (2 + 2 * b)) (j + 1))) (nI (j + 1))
    have ht := tz_le hB (z := z) (k := j) (by omega)
    have he := (hB.k (k := j) (by omega)).2.1
    have hacc : acc ≤ 999 := by rw [hI]; exact lsf_le (fun k hk => cz_le hB (by omega))
    have h41 : ∀ (X : Int32) (c : Nat), c ≤ 999 → ((X ≤ 0 ∧ c = 0) ∨ (X = nI c ∧ 0 < c)) → F_X0_leastIn_41 (F_X0_leastIn_5 fu) w i (nI z - 1) (nI b) (nI acc) (nI j) i j X = F_X0_leastIn_5 fu w i (nI z - 1) (nI b) (nI (bt acc (if hIn S z j = true then c else 0))) (nI (j + 1)) := by
      intro X c hc hX
      unfold F_X0_leastIn_41 F_X0_leastIn_67
      rw [C_isIn hC hB hz hj, gP_s]
      by_cases e : hIn S z j = true
      · rw [if_pos e, iE0 (by omega), if_neg (by omega), if_pos e]
        unfold bt
        rcases hX with ⟨h1, h2⟩ | ⟨h1, h2⟩
        · rw [if_pos h1, if_pos h2]
          simp only [gS_e, nI_1]
        · rw [h1, iLe0 (by omega), if_neg (show ¬ c = 0 by omega), if_neg (show ¬ c = 0 by omega), iE0 (by omega), iLe (by omega) (by omega)]
          by_cases e1 : acc = 0
          · rw [if_pos e1, if_pos e1]
            simp only [gS_e, nI_1]
          · rw [if_neg e1, if_neg e1]
            by_cases e2 : acc ≤ c
            · rw [if_pos e2, if_pos e2]
              simp only [gS_e, nI_1]
            · rw [if_neg e2, if_neg e2]
              simp only [gS_e, nI_1]
      · rw [if_neg e, iE0 (by omega), if_pos rfl, if_neg e]
        unfold bt
        rw [if_pos rfl]
        simp only [gS_e, nI_1]
    have hs : lsf (cz S z (2 + 2 * b)) (j + 1) = bt acc (if hIn S z j = true then cnt S z (2 + 2 * b) j else 0) := by rw [hI]; rfl
    rw [F_X0_leastIn_5_s, hC.sz, iLe (by omega) (by omega), if_neg (by omega), gB_n _ (by omega) (by omega), iE0 (by omega), hC.f2 hj, C_timeOf hC hz hj, gP_s, hs]
    by_cases e : b = 0
    · subst e
      rw [if_pos rfl]
      refine h41 _ _ ?_ ?_
      · show S (10 * j + 1) ≤ 999; exact he
      · show (_ ∧ S (10 * j + 1) = 0) ∨ (_ = nI (S (10 * j + 1)) ∧ 0 < S (10 * j + 1))
        by_cases e1 : S (10 * j + 1) = 0
        · left; exact ⟨by rw [e1]; decide, e1⟩
        · right; exact ⟨rfl, by omega⟩
    · have e' : b = 1 := by omega
      subst e'
      rw [if_neg e]
      have hcn : cnt S z (2 + 2 * 1) j = if tz S z j ≤ 1 then 0 else tz S z j - 1 := rfl
      rw [hcn]
      refine h41 _ _ ?_ ?_
      · split <;> omega
      · by_cases e1 : tz S z j ≤ 1
        · left; exact ⟨(mLe0 (by omega)).mpr e1, if_pos e1⟩
        · right; rw [if_neg e1]; exact ⟨mN (by omega) (by omega), by omega⟩
theorem C_greatest {w : gWd} {S : Nat → Nat} {i z : Nat} (hC : CV (w i) S) (hB : WB S) (hz : z ≤ 8) : F_X0_greatestEntryIn w i (nI z - 1) = some (if nI (mxf (cz S z 3) (S 311)) ≤ 0 then -1000004 else nI (mxf (cz S z 3) (S 311))) := by
  unfold F_X0_greatestEntryIn
  have hN := hB.1
  refine loopI (F := fun fu (acc : Nat) j => F_X0_greatestEntryIn_4 fu w i (nI z - 1) (nI acc) (nI j)) (S 311) (fun j acc => acc = mxf (cz S z 3) j) (fun r => r = some (if nI (mxf (cz S z 3) (S 311)) ≤ 0 then -1000004 else nI (mxf (cz S z 3) (S 311)))) ?_ ?_ gFU 0 0 (by omega) (gFU_lt (by omega)) rfl
  · intro fu acc hI
    show F_X0_greatestEntryIn_4 (fu + 1) w i (nI z - 1) (nI acc) (nI (S 311)) = _
    rw [F_X0_greatestEntryIn_4_s, hC.sz, iLe (by omega) (by omega), if_pos (Nat.le_refl _), C_above, gP_s, hI]
  · intro fu acc j hj hI
    right
    refine ⟨mxf (cz S z 3) (j + 1), rfl, ?_⟩
    show F_X0_greatestEntryIn_4 (fu + 1) w i (nI z - 1) (nI acc) (nI j) = F_X0_greatestEntryIn_4 fu w i (nI z - 1) (nI (mxf (cz S z 3) (j + 1))) (nI (j + 1))
    have he := (hB.k (k := j) (by omega)).2.1
    have hacc : acc ≤ 999 := by rw [hI]; exact mxf_le (fun k hk => cz_le hB (by omega))
    have hs : mxf (cz S z 3) (j + 1) = if cz S z 3 j ≤ acc then acc else cz S z 3 j := by rw [hI]; rfl
    have hc : cz S z 3 j = if hIn S z j = true then S (10 * j + 1) else 0 := rfl
    rw [F_X0_greatestEntryIn_4_s, hC.sz, iLe (by omega) (by omega), if_neg (by omega), gB_n _ (by omega) (by omega), C_isIn hC hB hz hj, gP_s, gB_n _ (by omega) (by omega), gB_n _ (by omega) (by omega), hC.f2 hj, iLe (by omega) (by omega), hs, hc]
    by_cases e : hIn S z j = true
    · rw [if_pos e, iE0 (by omega), if_neg (by omega), if_pos e]
      by_cases e2 : S (10 * j + 1) ≤ acc
      · rw [if_pos e2, if_pos e2]
        simp only [gS_e, nI_1]
      · rw [if_neg e2, if_neg e2]
        simp only [gS_e, nI_1]
    · rw [if_neg e, iE0 (by omega), if_pos rfl, if_neg e, if_pos (Nat.zero_le _)]
      simp only [gS_e, nI_1]
theorem M_counts {w : gWd} {S : Nat → Nat} {z y k : Nat} (hS : SV w S) (hB : WB S) (hz : z ≤ 8) (hy : y ≤ 4) (hk : k < 30) : F_X12_counts w (nI k) (nI z - 1) (nI y) = some (nI (cnt S z y k)) := by
  have h := hB.k hk
  have ht := tz_le hB (z := z) hk
  have h12 : ∀ a, 10 * k + a < 320 → tz S z k = S (10 * k + a) → F_X12_counts_12 w (nI k) (nI y) (nI a) (nI k) = some (nI (cnt S z y k)) := by
    intro a ha hta
    unfold F_X12_counts_12 cnt
    rw [M_of hS ha, gP_s, M_of1 hS hk, gP_s, ← hta, iE0 (by omega), iE1 (by omega), show (4 : Int32) = nI 4 from rfl, iEq (by omega) (by omega), iLe0 (by omega), show (if nI (tz S z k) ≤ 1 then (some 0 : Option Int32) else some (nI (tz S z k) - 1)) = (if nI (tz S z k) ≤ nI 1 then some 0 else some (nI (tz S z k) - 1)) from rfl, iLe (by omega) (by omega)]
    by_cases e0 : y = 0
    · rw [if_pos e0, if_pos e0]; rfl
    · rw [if_neg e0, if_neg e0]
      by_cases e1 : y = 1
      · rw [if_pos e1, if_pos e1]
        split <;> rfl
      · rw [if_neg e1, if_neg e1]
        by_cases e4 : y = 4
        · rw [if_pos e4, if_pos e4]
          by_cases e5 : tz S z k ≤ 1
          · rw [if_pos e5, if_pos e5]; rfl
          · rw [if_neg e5, if_neg e5, mN (by omega) (by omega)]
        · rw [if_neg e4, if_neg e4]
  unfold F_X12_counts
  by_cases e : z = 0
  · rw [if_neg (fun q => (hX_pos hz).mp q e)]
    exact h12 7 (by omega) (by unfold tz; rw [if_pos e])
  · rw [if_pos ((hX_pos hz).mpr e)]
    exact h12 5 (by omega) (by unfold tz; rw [if_neg e])
theorem M_heat31 {w : gWd} {S : Nat → Nat} {z y : Nat} (hS : SV w S) (hB : WB S) (hz : z ≤ 8) (hy : y ≤ 4) : F_X12_heat_31 gFU w (nI z - 1) (nI y) 0 0 0 0 = some (if 2 ≤ y then (if y = 3 then (if nI (mxf (cz S z y) (S 311)) ≤ 0 then -1000004 else nI (mxf (cz S z y) (S 311))) else (if nI (lsf (cz S z y) (S 311)) ≤ 0 then -1000004 else nI (lsf (cz S z y) (S 311)))) else nI (fb_sm (cz S z y) (S 311))) := by
  have hN := hB.1
  refine loopI (F := fun fu (_ : Unit) j => F_X12_heat_31 fu w (nI z - 1) (nI y) (nI (fb_sm (cz S z y) j)) (nI (lsf (cz S z y) j)) (nI (mxf (cz S z y) j)) (nI j)) (S 311) (fun _ _ => True) (fun r => r = some (if 2 ≤ y then (if y = 3 then (if nI (mxf (cz S z y) (S 311)) ≤ 0 then -1000004 else nI (mxf (cz S z y) (S 311))) else (if nI (lsf (cz S z y) (S 311)) ≤ 0 then -1000004 else nI (lsf (cz S z y) (S 311)))) else nI (fb_sm (cz S z y) (S 311)))) ?_ ?_ gFU () 0 (by omega) (gFU_lt (by omega)) trivial
  · intro fu _ _
    show F_X12_heat_31 (fu + 1) w (nI z - 1) (nI y) (nI (fb_sm (cz S z y) (S 311))) (nI (lsf (cz S z y) (S 311))) (nI (mxf (cz S z y) (S 311))) (nI (S 311)) = _
    rw [F_X12_heat_31_s]
    unfold F_X12_heat_125
    rw [hS 311 (by omega), iLe (by omega) (by omega), if_pos (Nat.le_refl _), show (2 : Int32) = nI 2 from rfl, iLe (by omega) (by omega), iE3 (by omega), M_orNone, gP_s, M_orNone, gP_s]
    split
    · split <;> rfl
    · rfl
  · intro fu _ j hj _
    right
    refine ⟨(), trivial, ?_⟩
    show F_X12_heat_31 (fu + 1) w (nI z - 1) (nI y) (nI (fb_sm (cz S z y) j)) (nI (lsf (cz S z y) j)) (nI (mxf (cz S z y) j)) (nI j) = F_X12_heat_31 fu w (nI z - 1) (nI y) (nI (fb_sm (cz S z y) j + cz S z y j)) (nI (bt (lsf (cz S z y) j) (cz S z y j))) (nI (if cz S z y j ≤ mxf (cz S z y) j then mxf (cz S z y) j else cz S z y j)) (nI (j + 1))
    have hc := cz_le hB (z := z) (y := y) (k := j) (by omega)
    have hl : lsf (cz S z y) j ≤ 999 := lsf_le (fun k hk => cz_le hB (by omega))
    have hm : mxf (cz S z y) j ≤ 999 := mxf_le (fun k hk => cz_le hB (by omega))
    have h66 : F_X12_heat_66 (F_X12_heat_31 fu) w (nI z - 1) (nI y) (nI (fb_sm (cz S z y) j)) (nI (lsf (cz S z y) j)) (nI (mxf (cz S z y) j)) (nI j) (nI (cz S z y j)) = F_X12_heat_31 fu w (nI z - 1) (nI y) (nI (fb_sm (cz S z y) j + cz S z y j)) (nI (bt (lsf (cz S z y) j) (cz S z y j))) (nI (if cz S z y j ≤ mxf (cz S z y) j then mxf (cz S z y) j else cz S z y j)) (nI (j + 1)) := by
      unfold F_X12_heat_66
      rw [gS_e, M_bt hl hc, gP_s, iLe (by omega) (by omega), nI_add]
      split <;> simp only [gS_e, nI_1]
    rw [F_X12_heat_31_s, hS 311 (by omega), iLe (by omega) (by omega), if_neg (by omega), M_isIn hS hB hz (by omega), gP_s, M_counts hS hB hz hy (by omega), gP_s, ← h66]
    have hcz : cz S z y j = if hIn S z j = true then cnt S z y j else 0 := rfl
    by_cases e : hIn S z j = true
    · rw [if_pos e, iE0 (by omega), if_neg (by omega), hcz, if_pos e]
    · rw [if_neg e, iE0 (by omega), if_pos rfl, hcz, if_neg e]
      rfl
theorem Q_heat {w : gWd} {S : Nat → Nat} {EB : Nat} (hI : IV EB S) (hC : CV (w 0) S) (hS : SV w S) (x y : Int32) : QQ (F_X11_heat w x y) (F_X12_heat w x y) := by
  have hB := hI.wb
  have hN := hB.1
  unfold F_X11_heat F_X12_heat
  rcases C_hasHeat hC hB x with ⟨a, b⟩ | ⟨a, b⟩
  · rcases M_isHeat hS hB x with ⟨c, d⟩ | ⟨c, d⟩
    · obtain ⟨z, hz, rfl⟩ := hZ_z hB a
      rw [b, d, gP_s, gP_s, if_neg (show ¬ (1 : Int32) = 0 by decide), if_neg (show ¬ (1 : Int32) = 0 by decide)]
      by_cases c1 : y < 0
      · rw [if_pos c1, show F_X12_in w y 0 4 = F_X12_in w y 0 (nI 4) from rfl, M_in_f (by omega) (Or.inl c1), gP_s, if_pos rfl]
        exact ⟨_, rfl, rfl⟩
      · by_cases d1 : nI 5 ≤ y
        · rw [if_neg c1, show F_X12_in w y 0 4 = F_X12_in w y 0 (nI 4) from rfl, M_in_f (n := 4) (by omega) (Or.inr d1), gP_s, if_pos rfl, if_neg]
          · exact ⟨_, rfl, rfl⟩
          · intro q
            rw [Int32.le_iff_toInt_le] at q d1
            have k1 : (nI 5).toInt = 5 := by decide
            have k2 : (4 : Int32).toInt = 4 := by decide
            omega
        · obtain ⟨q, hq, rfl⟩ := arg_lt (n := 5) (by omega) c1 d1
          rw [if_neg c1, if_pos (show nI q ≤ 4 from (nI_leI (b := 4) (by omega) (by omega)).mpr (by omega)), show F_X12_in w (nI q) 0 4 = F_X12_in w (nI q) 0 (nI 4) from rfl, M_in_t (by omega) (by omega), gP_s, if_neg (show ¬ (1 : Int32) = 0 by decide), M_heat31 hS hB hz (by omega)]
          have : q = 0 ∨ q = 1 ∨ q = 2 ∨ q = 3 ∨ q = 4 := by omega
          rcases this with rfl | rfl | rfl | rfl | rfl
          · show QQ (gP (gP (F_X0_countIn w 0 (nI z - 1) (nI 0)) (fun v => some v)) (fun v => some v)) _
            rw [C_countIn hC hB hz (by omega), gP_s, gP_s]
            exact ⟨_, rfl, rfl⟩
          · show QQ (gP (gP (F_X0_countIn w 0 (nI z - 1) (nI 1)) (fun v => some v)) (fun v => some v)) _
            rw [C_countIn hC hB hz (by omega), gP_s, gP_s]
            exact ⟨_, rfl, rfl⟩
          · show QQ (gP (gP (F_X0_leastIn w 0 (nI z - 1) (nI 0)) (fun v => some v)) (fun v => some v)) _
            rw [C_leastIn hC hB hz (by omega), gP_s, gP_s]
            exact ⟨_, rfl, rfl⟩
          · show QQ (gP (gP (F_X0_greatestEntryIn w 0 (nI z - 1)) (fun v => some v)) (fun v => some v)) _
            rw [C_greatest hC hB hz, gP_s, gP_s]
            exact ⟨_, rfl, rfl⟩
          · show QQ (gP (gP (F_X0_leastIn w 0 (nI z - 1) (nI 1)) (fun v => some v)) (fun v => some v)) _
            rw [C_leastIn hC hB hz (by omega), gP_s, gP_s]
            exact ⟨_, rfl, rfl⟩
    · exact absurd a c
  · rcases M_isHeat hS hB x with ⟨c, d⟩ | ⟨c, d⟩
    · exact absurd c a
    · rw [b, d, gP_s, gP_s, if_pos rfl, if_pos rfl]
      exact ⟨_, rfl, rfl⟩
end
section
/-! level 2: leader -/
def ahd (S : Nat → Nat) (c q : Nat) : Bool := decide (S (300 + c) < S (300 + q) ∨ (S (300 + q) = S (300 + c) ∧ q < c))
def crank (S : Nat → Nat) (c : Nat) : Nat := fb_ct (ahd S c) 6
def clE (S : Nat → Nat) (q : Nat) : Nat := 8 * (2 ^ 30 - S (300 + q)) + q
theorem clE_inj {S : Nat → Nat} {a b : Nat} (ha : a < 6) (hb : b < 6) (h : clE S a = clE S b) : a = b := by
  unfold clE at h
  omega
theorem crank_rk {S : Nat → Nat} (hP : ∀ q, q < 6 → S (300 + q) < 2 ^ 30) {c : Nat} (hc : c < 6) : crank S c = rk (fun _ => true) (clE S) 6 c := by
  unfold crank rk
  refine fb_ct_cong (fun q hq => ?_)
  have h1 := hP q hq
  have h2 := hP c hc
  unfold ahd clE
  rw [Bool.true_and]
  by_cases e : 8 * (2 ^ 30 - S (300 + q)) + q < 8 * (2 ^ 30 - S (300 + c)) + c
  · rw [decide_eq_true e, decide_eq_true]; omega
  · rw [decide_eq_false e, decide_eq_false]; omega
theorem clubs_lt {S : Nat → Nat} {EB : Nat} (hI : IV EB S) (hE : EB ≤ 100000) {q : Nat} (hq : q < 6) : S (300 + q) < 2 ^ 30 := by
  have hN := hI.wb.1
  rw [hI.cl hq]
  have h1 : clubSum S q (S 311) ≤ S 311 * (120 * EB) := fb_sm_bound (fun k hk => by
    have := hI.pt hk
    have h2 := hI.eb
    split
    · omega
    · exact Nat.zero_le _)
  have h2 : S 311 * (120 * EB) ≤ 30 * 12000000 := Nat.mul_le_mul hN (by omega)
  omega
theorem C_ahead {w : gWd} {S : Nat → Nat} {i EB c : Nat} (hI : IV EB S) (hE : EB ≤ 100000) (hC : CV (w i) S) (hc : c < 6) : F_X8_clubsAhead w i (nI c) = some (nI (crank S c)) := by
  have hB := hI.wb
  have hP : ∀ q, q < 6 → S (300 + q) < 2 ^ 30 := fun q hq => clubs_lt hI hE hq
  have h0 := hP c hc
  have hcl : ∀ q, q < 6 → F_X8_ofClub w i (nI q) = some (nI (S (300 + q))) := fun q hq => by rw [C_ofClub hC hB hq, hI.cl hq]
  unfold F_X8_clubsAhead
  rw [hcl c hc, gP_s]
  refine loopI (F := fun fu (acc : Nat) j => F_X8_clubsAhead_11 fu w i (nI c) (nI (S (300 + c))) (nI acc) (nI j)) 6 (fun j acc => acc = fb_ct (ahd S c) j) (fun r => r = some (nI (crank S c))) ?_ ?_ gFU 0 0 (by omega) (gFU_lt (by omega)) rfl
  · intro fu acc h
    show F_X8_clubsAhead_11 (fu + 1) w i (nI c) (nI (S (300 + c))) (nI acc) (nI 6) = _
    rw [F_X8_clubsAhead_11_s, if_pos (by decide), h]
    rfl
  · intro fu acc j hj h
    right
    refine ⟨_, rfl, ?_⟩
    show F_X8_clubsAhead_11 (fu + 1) w i (nI c) (nI (S (300 + c))) (nI acc) (nI j) = F_X8_clubsAhead_11 fu w i (nI c) (nI (S (300 + c))) _ (nI (j + 1))
    have h1 := hP j hj
    rw [F_X8_clubsAhead_11_s, show (6 : Int32) = nI 6 from rfl, iLe (by omega) (by omega), if_neg (by omega), hcl j hj, gP_s, iLt (by omega) (by omega), iEq (by omega) (by omega), iLe (by omega) (by omega), fb_ct_succ, h]
    unfold F_X8_clubsAhead_44
    by_cases e1 : S (300 + c) < S (300 + j)
    · rw [if_pos e1, if_pos (show ahd S c j = true by simp [ahd, e1])]
      simp only [gS_e, nI_1]
    · rw [if_neg e1]
      by_cases e2 : S (300 + j) = S (300 + c)
      · rw [if_pos e2]
        by_cases e3 : c ≤ j
        · rw [if_pos e3, if_neg (show ¬ ahd S c j = true by simp [ahd, e2]; omega)]
          simp only [gS_e, nI_1, Nat.add_zero]
        · rw [if_neg e3, if_pos (show ahd S c j = true by simp [ahd, e2]; omega)]
          simp only [gS_e, nI_1]
      · rw [if_neg e2, if_neg (show ¬ ahd S c j = true by simp [ahd, e2]; omega)]
        simp only [gS_e, nI_1, Nat.add_zero]
theorem M_leader28 {rec16 : gWd → Int32 → Int32 → Int32 → Option Int32} {w : gWd} {S : Nat → Nat} {EB c x : Nat} {x2 : Int32} (hI : IV EB S) (hE : EB ≤ 100000) (hS : SV w S) (hc : c < 6) (hx : x < 6) : F_X12_leader_28 rec16 gFU w (nI x) x2 (nI c) 0 0 = if crank S c = x then rec16 w (nI x) (nI c) (nI (c + 1)) else rec16 w (nI x) x2 (nI (c + 1)) := by
  have hP : ∀ q, q < 6 → S (300 + q) < 2 ^ 30 := fun q hq => clubs_lt hI hE hq
  have h0 := hP c hc
  have hr := fb_ct_le (ahd S c) 6
  refine loopI (F := fun fu (acc : Nat) j => F_X12_leader_28 rec16 fu w (nI x) x2 (nI c) (nI acc) (nI j)) 6 (fun j acc => acc = fb_ct (ahd S c) j) (fun r => r = if crank S c = x then rec16 w (nI x) (nI c) (nI (c + 1)) else rec16 w (nI x) x2 (nI (c + 1))) ?_ ?_ gFU 0 0 (by omega) (gFU_lt (by omega)) rfl
  · intro fu acc h
    show F_X12_leader_28 rec16 (fu + 1) w (nI x) x2 (nI c) (nI acc) (nI 6) = _
    rw [F_X12_leader_28_s, if_pos (by decide), h, iEq (by omega) (by omega)]
    show (if crank S c = x then _ else _) = _
    simp only [gS_e, nI_1]
  · intro fu acc j hj h
    right
    refine ⟨_, rfl, ?_⟩
    show F_X12_leader_28 rec16 (fu + 1) w (nI x) x2 (nI c) (nI acc) (nI j) = F_X12_leader_28 rec16 fu w (nI x) x2 (nI c) _ (nI (j + 1))
    have h1 := hP j hj
    have hs : (nI (S (300 + j)) - nI (S (300 + c))).toInt = (S (300 + j) : Int) - S (300 + c) := pk_sub_toInt (by omega) (by omega)
    have c1 : (0 < nI (S (300 + j)) - nI (S (300 + c))) ↔ S (300 + c) < S (300 + j) := by
      rw [Int32.lt_iff_toInt_lt, hs, show (0 : Int32).toInt = 0 from rfl]; omega
    have c2 : (nI (S (300 + j)) - nI (S (300 + c)) = 0) ↔ S (300 + j) = S (300 + c) := by
      rw [← Int32.toInt_inj, hs, show (0 : Int32).toInt = 0 from rfl]; omega
    rw [F_X12_leader_28_s, show (6 : Int32) = nI 6 from rfl, iLe (by omega) (by omega), if_neg (by omega), show (300 : Int32) = nI 300 from rfl, nI_add, nI_add, gB_n _ (by omega) (by omega), gB_n _ (by omega) (by omega), hS _ (by omega), hS _ (by omega), gS_e, iLe (by omega) (by omega), fb_ct_succ, h]
    unfold F_X12_leader_77 F_X12_leader_81
    by_cases e1 : S (300 + c) < S (300 + j)
    · rw [if_pos (c1.mpr e1), if_pos (show ahd S c j = true by simp [ahd, e1])]
      simp only [gS_e, nI_1]
    · rw [if_neg (fun z => e1 (c1.mp z))]
      by_cases e2 : S (300 + j) = S (300 + c)
      · rw [if_pos (c2.mpr e2)]
        by_cases e3 : c ≤ j
        · rw [if_pos e3, if_neg (show ¬ ahd S c j = true by simp [ahd, e2]; omega)]
          simp only [gS_e, nI_1, Nat.add_zero, Int32.add_zero]
        · rw [if_neg e3, if_pos (show ahd S c j = true by simp [ahd, e2]; omega)]
          simp only [gS_e, nI_1]
      · rw [if_neg (fun z => e2 (c2.mp z)), if_neg (show ¬ ahd S c j = true by simp [ahd, e2]; omega)]
        simp only [gS_e, nI_1, Nat.add_zero, Int32.add_zero]
theorem Q_leader {w : gWd} {S : Nat → Nat} {EB : Nat} (hI : IV EB S) (hE : EB ≤ 100000) (hC : CV (w 0) S) (hS : SV w S) (x : Int32) : QQ (F_X11_leader w x) (F_X12_leader w x) := by
  have hP : ∀ q, q < 6 → S (300 + q) < 2 ^ 30 := fun q hq => clubs_lt hI hE hq
  unfold F_X11_leader F_X11_leader_10 F_X12_leader
  by_cases a : x < 0
  · exact ⟨-1000001, by rw [if_pos a], by rw [M_in, if_pos a, gP_s, if_pos rfl]⟩
  · by_cases b : nI 6 ≤ x
    · refine ⟨-1000001, ?_, ?_⟩
      · rw [if_neg a, if_neg (show ¬ x < 6 from fun z => (fa_of_lt z).2.1 b)]
      · rw [show (5 : Int32) = nI 5 from rfl, M_in_f (n := 5) (by omega) (Or.inr b), gP_s, if_pos rfl]
    · obtain ⟨r, hr, rfl⟩ := arg_lt (n := 6) (by omega) a b
      obtain ⟨q0, hq0, -, hk⟩ := rk_surj (U := fun _ => true) (e := clE S) (N := 6) (fun a b ha hb h => clE_inj ha hb h) (x := r) hr
      have hrk : crank S q0 = r := (crank_rk hP hq0).trans hk
      have huni : ∀ c, c < 6 → crank S c = r → c = q0 := fun c hc h => rk_inj (fun _ => true) (clE S) 6 (fun a b ha hb h => clE_inj ha hb h) hc hq0 rfl rfl (by rw [← crank_rk hP hc, ← crank_rk hP hq0, h, hrk])
      refine ⟨nI q0, ?_, ?_⟩
      · rw [if_neg a, if_pos (show nI r < 6 from fa_of_nle b)]
        have : F_X8_clubAtRank w 0 (nI r) = some (nI q0) := by
          unfold F_X8_clubAtRank
          refine loopI (F := fun fu (_ : Unit) j => F_X8_clubAtRank_2 fu w 0 (nI r) (nI j)) 6 (fun j _ => j ≤ q0) (fun o => o = some (nI q0)) ?_ ?_ gFU () 0 (by omega) (gFU_lt (by omega)) (Nat.zero_le _)
          · intro fu _ h
            omega
          · intro fu _ j hj h
            have hcr := fb_ct_le (ahd S j) 6
            have e0 : F_X8_clubAtRank_2 (fu + 1) w 0 (nI r) (nI j) = if crank S j = r then some (nI j) else F_X8_clubAtRank_2 fu w 0 (nI r) (nI (j + 1)) := by
              rw [F_X8_clubAtRank_2_s, show (6 : Int32) = nI 6 from rfl, iLe (by omega) (by omega), if_neg (by omega), C_ahead hI hE hC hj, gP_s]
              unfold crank
              rw [iEq (by omega) (by omega)]
              simp only [gS_e, nI_1]
            by_cases e : crank S j = r
            · left
              show F_X8_clubAtRank_2 (fu + 1) w 0 (nI r) (nI j) = _
              rw [e0, if_pos e, huni j hj e]
            · right
              refine ⟨(), ?_, ?_⟩
              · rcases Nat.lt_or_ge j q0 with z | z
                · exact z
                · exact absurd (show crank S j = r by rw [show j = q0 by omega]; exact hrk) e
              · show F_X8_clubAtRank_2 (fu + 1) w 0 (nI r) (nI j) = F_X8_clubAtRank_2 fu w 0 (nI r) (nI (j + 1))
                rw [e0, if_neg e]
        rw [this, gP_s]
      · rw [show (5 : Int32) = nI 5 from rfl, M_in_t (by omega) (by omega), gP_s, if_neg (by decide)]
        refine loopI (F := fun fu (st : Nat) j => F_X12_leader_16 fu w (nI r) (nI st) (nI j)) 6 (fun j st => q0 < j → st = q0) (fun o => o = some (nI q0)) ?_ ?_ gFU 0 0 (by omega) (gFU_lt (by omega)) (fun h => absurd h (Nat.not_lt_zero _))
        · intro fu st h
          show F_X12_leader_16 (fu + 1) w (nI r) (nI st) (nI 6) = _
          rw [F_X12_leader_16_s, if_pos (by decide), h hq0]
        · intro fu st j hj h
          right
          have e0 : F_X12_leader_16 (fu + 1) w (nI r) (nI st) (nI j) = if crank S j = r then F_X12_leader_16 fu w (nI r) (nI j) (nI (j + 1)) else F_X12_leader_16 fu w (nI r) (nI st) (nI (j + 1)) := by
            rw [F_X12_leader_16_s, show (6 : Int32) = nI 6 from rfl, iLe (by omega) (by omega), if_neg (by omega), M_leader28 hI hE hS hj hr]
          show ∃ st', _ ∧ F_X12_leader_16 (fu + 1) w (nI r) (nI st) (nI j) = F_X12_leader_16 fu w (nI r) (nI st') (nI (j + 1))
          by_cases e : crank S j = r
          · exact ⟨j, fun _ => huni j hj e, by rw [e0, if_pos e]⟩
          · refine ⟨st, fun z => h ?_, by rw [e0, if_neg e]⟩
            rcases Nat.lt_or_ge q0 j with y | y
            · exact y
            · exact absurd (show crank S j = r by rw [show j = q0 by omega]; exact hrk) e
end
section
/-! level 2: count -/
def gn (S : Nat → Nat) (k : Nat) : Bool := decide (S (10 * k + 2) ≠ 0)
theorem C_scrSet {w : gWd} {S : Nat → Nat} {i : Nat} (hC : CV (w i) S) (hB : WB S) : F_X0_scratchedSet w i = some (nI (bn (gn S) (S 311))) := by
  unfold F_X0_scratchedSet
  have hN := hB.1
  refine loopI (F := fun fu (acc : Nat) j => F_X0_scratchedSet_4 fu w i (nI acc) (nI j)) (S 311) (fun j acc => acc = bn (gn S) j) (fun r => r = some (nI (bn (gn S) (S 311)))) ?_ ?_ gFU 0 0 (by omega) (gFU_lt (by omega)) rfl
  · intro fu acc hI
    show F_X0_scratchedSet_4 (fu + 1) w i (nI acc) (nI (S 311)) = _
    rw [F_X0_scratchedSet_4_s, hC.sz, iLe (by omega) (by omega), if_pos (Nat.le_refl _), hI]
  · intro fu acc j hj hI
    right
    refine ⟨_, rfl, ?_⟩
    show F_X0_scratchedSet_4 (fu + 1) w i (nI acc) (nI j) = F_X0_scratchedSet_4 fu w i _ (nI (j + 1))
    have hg := (hB.k (k := j) (by omega)).2.2.1
    rw [F_X0_scratchedSet_4_s, hC.sz, iLe (by omega) (by omega), if_neg (by omega), gB_n _ (by omega) (by omega), hC.f3 hj, iE0 (by omega), hI]
    by_cases e : S (10 * j + 2) = 0
    · rw [if_pos e, bs_f (by simp [gn, e])]
      simp only [gS_e, nI_1]
    · rw [if_neg e]
      simp only [gS_e]
      rw [bs_t (by omega) (by simp [gn, e]), nI_1]
theorem M_goneOnes {w : gWd} {S : Nat → Nat} (hS : SV w S) (hB : WB S) : F_X12_goneOnes w = some (nI (bn (gn S) (S 311))) := by
  unfold F_X12_goneOnes
  have hN := hB.1
  refine loopI (F := fun fu (acc : Nat) j => F_X12_goneOnes_4 fu w (nI acc) (nI j)) (S 311) (fun j acc => acc = bn (gn S) j) (fun r => r = some (nI (bn (gn S) (S 311)))) ?_ ?_ gFU 0 0 (by omega) (gFU_lt (by omega)) rfl
  · intro fu acc hI
    show F_X12_goneOnes_4 (fu + 1) w (nI acc) (nI (S 311)) = _
    rw [F_X12_goneOnes_4_s, hS 311 (by omega), iLe (by omega) (by omega), if_pos (Nat.le_refl _), hI]
  · intro fu acc j hj hI
    right
    refine ⟨_, rfl, ?_⟩
    show F_X12_goneOnes_4 (fu + 1) w (nI acc) (nI j) = F_X12_goneOnes_4 fu w _ (nI (j + 1))
    have hg := (hB.k (k := j) (by omega)).2.2.1
    rw [F_X12_goneOnes_4_s, hS 311 (by omega), iLe (by omega) (by omega), if_neg (by omega), M_isGone hS hB (by omega), gP_s, iE0 (by omega), hI]
    by_cases e : S (10 * j + 2) = 0
    · rw [if_pos e, bs_f (by simp [gn, e])]
      simp only [gS_e, nI_1, Int32.or_zero]
    · rw [if_neg e]
      simp only [gS_e]
      rw [bs_t (by omega) (by simp [gn, e]), nI_1]
theorem C_freeRes {w : gWd} {S : Nat → Nat} {i : Nat} (hC : CV (w i) S) (hR : RV (w i) S) (hB : WB S) : F_X0_freeReserves w i = some (nI (fb_ct (rsv S) 4)) := by
  unfold F_X0_freeReserves
  have h4 := fb_ct_le (rsv S) 4
  refine loopI (F := fun fu (_ : Unit) j => F_X0_freeReserves_2 fu w i (nI j)) (fb_ct (rsv S) 4) (fun _ _ => True) (fun r => r = some (nI (fb_ct (rsv S) 4))) ?_ ?_ gFU () 0 (by omega) (gFU_lt (by omega)) trivial
  · intro fu _ _
    show F_X0_freeReserves_2 (fu + 1) w i (nI (fb_ct (rsv S) 4)) = _
    rw [F_X0_freeReserves_2_s, (C_free hC hR hB (r := fb_ct (rsv S) 4) (by omega)).2 (Nat.le_refl _), gP_s, if_pos rfl]
    split <;> rfl
  · intro fu _ j hj _
    right
    refine ⟨(), trivial, ?_⟩
    show F_X0_freeReserves_2 (fu + 1) w i (nI j) = F_X0_freeReserves_2 fu w i (nI (j + 1))
    obtain ⟨p, h1, h2, h3⟩ := fb_ct_kth hj
    have hb := hB.r h1
    rw [F_X0_freeReserves_2_s, show (4 : Int32) = nI 4 from rfl, iLe (by omega) (by omega), if_neg (by omega), (C_free hC hR hB (r := j) (by omega)).1 p h1 h2 h3, gP_s, if_neg, gS_e, nI_1]
    intro z
    have : nI (S (306 + p) - 1) < 0 := by rw [z]; decide
    exact nI_pos (by omega) this
theorem M_reserves {w : gWd} {S : Nat → Nat} (hS : SV w S) (hB : WB S) : F_X12_reserves w = some (nI (fb_ct (rsv S) 4)) := by
  unfold F_X12_reserves
  have h4 := fb_ct_le (rsv S) 4
  refine loopI (F := fun fu (_ : Unit) j => F_X12_reserves_2 fu w (nI j)) (fb_ct (rsv S) 4) (fun _ _ => True) (fun r => r = some (nI (fb_ct (rsv S) 4))) ?_ ?_ gFU () 0 (by omega) (gFU_lt (by omega)) trivial
  · intro fu _ _
    show F_X12_reserves_2 (fu + 1) w (nI (fb_ct (rsv S) 4)) = _
    rw [F_X12_reserves_2_s]
    unfold F_X12_reserve
    rw [i0Le (by omega)]
    rcases M_res11 (r := fb_ct (rsv S) 4) hS hB (by omega) with ⟨p, g1, g2, g3, g4⟩ | ⟨g1, g2⟩
    · exact (kth_no g1 g2 g3 (Nat.le_refl _)).elim
    · rw [g2, gP_s, if_pos (by decide)]
  · intro fu _ j hj _
    right
    refine ⟨(), trivial, ?_⟩
    show F_X12_reserves_2 (fu + 1) w (nI j) = F_X12_reserves_2 fu w (nI (j + 1))
    rw [F_X12_reserves_2_s]
    unfold F_X12_reserve
    rw [i0Le (by omega)]
    rcases M_res11 (r := j) hS hB (by omega) with ⟨p, g1, g2, g3, g4⟩ | ⟨g1, g2⟩
    · have hb := hB.r g1
      rw [g4, gP_s, iL0 (by omega), gS_e, nI_1]
    · omega
def tms (S : Nat → Nat) (k : Nat) : Nat := (if S (10 * k + 5) = 0 then 0 else 1) + if S (10 * k + 7) = 0 then 0 else 1
theorem C_timesOf {w : gWd} {S : Nat → Nat} {i : Nat} (hC : CV (w i) S) (hB : WB S) : F_X0_timesOfEvent w i = some (nI (fb_sm (tms S) (S 311))) := by
  unfold F_X0_timesOfEvent
  have hN := hB.1
  refine loopI (F := fun fu (acc : Nat) j => F_X0_timesOfEvent_4 fu w i (nI acc) (nI j)) (S 311) (fun j acc => acc = fb_sm (tms S) j) (fun r => r = some (nI (fb_sm (tms S) (S 311)))) ?_ ?_ gFU 0 0 (by omega) (gFU_lt (by omega)) rfl
  · intro fu acc hI
    show F_X0_timesOfEvent_4 (fu + 1) w i (nI acc) (nI (S 311)) = _
    rw [F_X0_timesOfEvent_4_s, hC.sz, iLe (by omega) (by omega), if_pos (Nat.le_refl _), hI]
  · intro fu acc j hj hI
    right
    refine ⟨_, rfl, ?_⟩
    show F_X0_timesOfEvent_4 (fu + 1) w i (nI acc) (nI j) = F_X0_timesOfEvent_4 fu w i _ (nI (j + 1))
    have h := hB.k (k := j) (by omega)
    have h28 : ∀ x : Nat, F_X0_timesOfEvent_28 (F_X0_timesOfEvent_4 fu) w i (nI x) (nI j) = F_X0_timesOfEvent_4 fu w i (nI (x + if S (10 * j + 7) = 0 then 0 else 1)) (nI (j + 1)) := by
      intro x
      unfold F_X0_timesOfEvent_28
      rw [gB_n _ (by omega) (by omega), hC.f8 hj]
      by_cases e : S (10 * j + 7) = 0
      · rw [if_pos ((mEN1 (by omega)).mpr e), if_pos e]
        simp only [gS_e, nI_1, Nat.add_zero]
      · rw [if_neg (fun q => e ((mEN1 (by omega)).mp q)), if_neg e]
        simp only [gS_e, nI_1]
    rw [F_X0_timesOfEvent_4_s, hC.sz, iLe (by omega) (by omega), if_neg (by omega), gB_n _ (by omega) (by omega), hC.f6 hj, fb_sm_succ, hI]
    unfold tms
    by_cases e : S (10 * j + 5) = 0
    · rw [if_pos ((mEN1 (by omega)).mpr e), if_pos e, h28, Nat.zero_add]
    · rw [if_neg (fun q => e ((mEN1 (by omega)).mp q)), if_neg e, gS_e, nI_1, h28, Nat.add_assoc]
theorem M_timesNow {w : gWd} {S : Nat → Nat} (hS : SV w S) (hB : WB S) : F_X12_timesNow w = some (nI (fb_sm (tms S) (S 311))) := by
  unfold F_X12_timesNow
  have hN := hB.1
  refine loopI (F := fun fu (acc : Nat) j => F_X12_timesNow_4 fu w (nI acc) (nI j)) (S 311) (fun j acc => acc = fb_sm (tms S) j) (fun r => r = some (nI (fb_sm (tms S) (S 311)))) ?_ ?_ gFU 0 0 (by omega) (gFU_lt (by omega)) rfl
  · intro fu acc hI
    show F_X12_timesNow_4 (fu + 1) w (nI acc) (nI (S 311)) = _
    rw [F_X12_timesNow_4_s, hS 311 (by omega), iLe (by omega) (by omega), if_pos (Nat.le_refl _), hI]
  · intro fu acc j hj hI
    right
    refine ⟨_, rfl, ?_⟩
    show F_X12_timesNow_4 (fu + 1) w (nI acc) (nI j) = F_X12_timesNow_4 fu w _ (nI (j + 1))
    have h := hB.k (k := j) (by omega)
    have h31 : ∀ x : Nat, F_X12_timesNow_31 (F_X12_timesNow_4 fu) w (nI j) (nI x) (nI acc) = F_X12_timesNow_4 fu w (nI (acc + (x + if S (10 * j + 7) = 0 then 0 else 1))) (nI (j + 1)) := by
      intro x
      unfold F_X12_timesNow_31
      rw [M_of7 hS (by omega), gP_s, iLe0 (by omega)]
      by_cases e : S (10 * j + 7) = 0
      · rw [if_pos e, if_pos e]
        simp only [gS_e, nI_1, Nat.add_zero, Int32.add_zero, nI_add]
      · rw [if_neg e, if_neg e]
        simp only [gS_e, nI_1, nI_add]
    rw [F_X12_timesNow_4_s, hS 311 (by omega), iLe (by omega) (by omega), if_neg (by omega), M_of5 hS (by omega), gP_s, iLe0 (by omega), fb_sm_succ, ← hI]
    unfold tms
    by_cases e : S (10 * j + 5) = 0
    · rw [if_pos e, if_pos e]
      exact h31 0
    · rw [if_neg e, if_neg e]
      exact h31 1
theorem C_allP {w : gWd} {S : Nat → Nat} {i : Nat} (hC : CV (w i) S) (hB : WB S) : F_X8_ofAllClubs w i = some (nI (fb_sm (fun k => S (10 * k + 9)) (S 311))) := by
  unfold F_X8_ofAllClubs
  have hN := hB.1
  refine loopI (F := fun fu (acc : Nat) j => F_X8_ofAllClubs_4 fu w i (nI acc) (nI j)) (S 311) (fun j acc => acc = fb_sm (fun k => S (10 * k + 9)) j) (fun r => r = some (nI (fb_sm (fun k => S (10 * k + 9)) (S 311)))) ?_ ?_ gFU 0 0 (by omega) (gFU_lt (by omega)) rfl
  · intro fu acc hI
    show F_X8_ofAllClubs_4 (fu + 1) w i (nI acc) (nI (S 311)) = _
    rw [F_X8_ofAllClubs_4_s, hC.sz, iLe (by omega) (by omega), if_pos (Nat.le_refl _), hI]
  · intro fu acc j hj hI
    right
    refine ⟨_, rfl, ?_⟩
    show F_X8_ofAllClubs_4 (fu + 1) w i (nI acc) (nI j) = F_X8_ofAllClubs_4 fu w i _ (nI (j + 1))
    rw [F_X8_ofAllClubs_4_s, hC.sz, iLe (by omega) (by omega), if_neg (by omega), gB_n _ (by omega) (by omega), hC.f10 hj, fb_sm_succ, hI]
    simp only [gS_e, nI_1, nI_add]
theorem M_allP {w : gWd} {S : Nat → Nat} (hS : SV w S) : F_X12_allPoints w = some (nI (fb_sm (fun q => S (300 + q)) 6)) := by
  unfold F_X12_allPoints
  refine loopI (F := fun fu (acc : Nat) j => F_X12_allPoints_4 fu w (nI acc) (nI j)) 6 (fun j acc => acc = fb_sm (fun q => S (300 + q)) j) (fun r => r = some (nI (fb_sm (fun q => S (300 + q)) 6))) ?_ ?_ gFU 0 0 (by omega) (gFU_lt (by omega)) rfl
  · intro fu acc hI
    show F_X12_allPoints_4 (fu + 1) w (nI acc) (nI 6) = _
    rw [F_X12_allPoints_4_s, if_pos (by decide), hI]
  · intro fu acc j hj hI
    right
    refine ⟨_, rfl, ?_⟩
    show F_X12_allPoints_4 (fu + 1) w (nI acc) (nI j) = F_X12_allPoints_4 fu w _ (nI (j + 1))
    rw [F_X12_allPoints_4_s, show (6 : Int32) = nI 6 from rfl, iLe (by omega) (by omega), if_neg (by omega), show (300 : Int32) = nI 300 from rfl, nI_add, gB_n _ (by omega) (by omega), hS _ (by omega), fb_sm_succ, hI]
    simp only [gS_e, nI_1, nI_add]
theorem sum6 (f : Nat → Nat) : fb_sm f 6 = f 0 + f 1 + f 2 + f 3 + f 4 + f 5 := by
  simp only [fb_sm]
  omega
theorem clubs_all {S : Nat → Nat} : ∀ {n}, (∀ k, k < n → S (10 * k) ≤ 5) → fb_sm (fun q => clubSum S q n) 6 = fb_sm (fun k => S (10 * k + 9)) n
  | 0, _ => by rw [sum6]; rfl
  | n + 1, h => by
    have ih := clubs_all (S := S) (n := n) (fun k hk => h k (by omega))
    have h5 := h n (by omega)
    rw [sum6] at ih ⊢
    have hs : ∀ q, clubSum S q (n + 1) = clubSum S q n + if S (10 * n) = q then S (10 * n + 9) else 0 := fun q => rfl
    rw [hs, hs, hs, hs, hs, hs, fb_sm_succ, ← ih]
    have : S (10 * n) = 0 ∨ S (10 * n) = 1 ∨ S (10 * n) = 2 ∨ S (10 * n) = 3 ∨ S (10 * n) = 4 ∨ S (10 * n) = 5 := by omega
    rcases this with e | e | e | e | e | e <;> simp [e] <;> omega
theorem all_eq {S : Nat → Nat} {EB : Nat} (hI : IV EB S) : fb_sm (fun q => S (300 + q)) 6 = fb_sm (fun k => S (10 * k + 9)) (S 311) := by
  have hN := hI.wb.1
  rw [fb_sm_cong (g := fun q => clubSum S q (S 311)) (fun q hq => hI.cl hq)]
  exact clubs_all (fun k hk => (hI.wb.k (by omega)).1)
end
section
/-! level 2: count, whole -/
theorem Q_count {w : gWd} {S : Nat → Nat} {EB : Nat} (hI : IV EB S) (hC : CV (w 0) S) (hR : RV (w 0) S) (hS : SV w S) (hK : w 7 1 1 = w 8 0 3) (hT : w 7 3 1 = w 8 0 6) (x : Int32) : QQ (F_X11_count w x) (F_X12_count w x) := by
  have hB := hI.wb
  have hN := hB.1
  have hrc := hB.2.2.2.1
  by_cases h12 : x = 12
  · subst h12
    show QQ (some (w 7 1 1)) (some (w 8 0 3))
    exact ⟨_, rfl, by rw [hK]⟩
  by_cases h13 : x = 13
  · subst h13
    show QQ (some (w 7 3 1)) (some (w 8 0 6))
    exact ⟨_, rfl, by rw [hT]⟩
  by_cases h20 : x = 20
  · subst h20
    show QQ (some (w 0 1 0)) (some (w 8 1 317))
    exact ⟨_, rfl, by rw [hC.la, hS 317 (by omega)]⟩
  by_cases h21 : x = 21
  · subst h21
    show QQ (some (w 0 1 1)) (some (w 8 1 318))
    exact ⟨_, rfl, by rw [hC.fe, hS 318 (by omega)]⟩
  by_cases h22 : x = 22
  · subst h22
    show QQ (some (w 0 1 2)) (some (w 8 1 319))
    exact ⟨_, rfl, by rw [hC.re, hS 319 (by omega)]⟩
  have hcl : F_X11_count w x = F_X0_ofMeet w 0 x := by
    have h53 : F_X11_count_53 w x = F_X0_ofMeet w 0 x := by
      unfold F_X11_count_53
      cases F_X0_ofMeet w 0 x <;> rfl
    unfold F_X11_count
    rw [if_neg h12, if_neg h13, h53]
    by_cases a : x < 20
    · rw [if_pos a]
    · rw [if_neg a]
      by_cases b : (23 : Int32) ≤ x
      · rw [if_pos b]
      · exfalso
        have k1 : (20 : Int32).toInt = 20 := by decide
        have k2 : (21 : Int32).toInt = 21 := by decide
        have k3 : (22 : Int32).toInt = 22 := by decide
        have k4 : (23 : Int32).toInt = 23 := by decide
        rw [fa_eq, k1] at h20
        rw [fa_eq, k2] at h21
        rw [fa_eq, k3] at h22
        rw [fa_lt, k1] at a
        rw [fa_le, k4] at b
        omega
  rw [hcl]
  by_cases h0 : x = 0
  · subst h0
    show QQ (some (w 0 0 4)) (some (w 8 1 310))
    exact ⟨_, rfl, by rw [hC.st, hS 310 (by omega)]⟩
  by_cases h1 : x = 1
  · subst h1
    show QQ (some (w 0 0 3)) (some (w 8 1 311))
    exact ⟨_, rfl, by rw [hC.sz, hS 311 (by omega)]⟩
  by_cases h2 : x = 2
  · subst h2
    show QQ (gP (F_X0_scratchedSet w 0) (fun v => some v)) (gP (F_X12_goneOnes w) (fun v => some v))
    rw [C_scrSet hC hB, M_goneOnes hS hB]
    exact ⟨_, rfl, rfl⟩
  by_cases h3 : x = 3
  · subst h3
    show QQ (some (w 0 0 5)) (some (w 8 1 312))
    exact ⟨_, rfl, by rw [hC.ht, hS 312 (by omega)]⟩
  by_cases h4 : x = 4
  · subst h4
    show QQ (gP (F_X5_finalSet w 0) (fun v => some v)) (gP (F_X12_inFinal w) (fun v => some v))
    rw [C_finalSet hC hB, M_inFinal hS hB]
    exact ⟨_, rfl, rfl⟩
  by_cases h5 : x = 5
  · subst h5
    show QQ (gP (F_X0_freeReserves w 0) (fun v => some v)) (gP (F_X12_reserves w) (fun v => some v))
    rw [C_freeRes hC hR hB, M_reserves hS hB]
    exact ⟨_, rfl, rfl⟩
  by_cases h6 : x = 6
  · subst h6
    show QQ (gP (F_X0_timesOfEvent w 0) (fun v => some v)) (gP (F_X12_timesNow w) (fun v => some v))
    rw [C_timesOf hC hB, M_timesNow hS hB]
    exact ⟨_, rfl, rfl⟩
  by_cases h7 : x = 7
  · subst h7
    show QQ (some (w 0 0 8)) (some (w 8 1 313))
    exact ⟨_, rfl, by rw [hC.ev, hS 313 (by omega)]⟩
  by_cases h8 : x = 8
  · subst h8
    show QQ (gP (F_X0_aboveZero w (w 0 0 9)) (fun v => some v)) (gP (F_X12_orNone w (w 8 1 314)) (fun v => some v))
    rw [hC.rc, hS 314 (by omega), C_above, M_orNone]
    exact ⟨_, rfl, rfl⟩
  by_cases h9 : x = 9
  · subst h9
    show QQ (if (w 0 0 9) ≤ 0 then (some (-1000004)) else (some ((w 0 0 10)))) (if (w 8 1 314) ≤ 0 then (some (-1000004)) else (some ((w 8 1 315))))
    rw [hC.rc, hS 314 (by omega), hC.rs, hS 315 (by omega)]
    split <;> exact ⟨_, rfl, rfl⟩
  by_cases h10 : x = 10
  · subst h10
    show QQ (some (w 0 0 7)) (some (w 8 1 316))
    exact ⟨_, rfl, by rw [hC.ca, hS 316 (by omega)]⟩
  by_cases h11 : x = 11
  · subst h11
    show QQ (gP (F_X8_ofAllClubs w 0) (fun v => some v)) (gP (F_X12_allPoints w) (fun v => some v))
    rw [C_allP hC hB, M_allP hS, all_eq hI]
    exact ⟨_, rfl, rfl⟩
  refine ⟨-1000001, ?_, ?_⟩
  · unfold F_X0_ofMeet
    rw [if_neg h0, if_neg h1, if_neg h2, if_neg h3, if_neg h4, if_neg h5, if_neg h6, if_neg h7, if_neg h8, if_neg h9, if_neg h10, if_neg h11]
  · unfold F_X12_count
    rw [if_neg h0, if_neg h1, if_neg h2, if_neg h3, if_neg h4, if_neg h5, if_neg h6, if_neg h7, if_neg h8, if_neg h9, if_neg h10, if_neg h11, if_neg h12, if_neg h13, if_neg h20, if_neg h21, if_neg h22]
end
section
/-! level 2: copying a meet, ifDrawn -/
theorem up3_o {w : gWd} {i i1 r j : Nat} {v : Int32} (h : i1 ≠ i) (b c : Nat) : up3 w i r j v i1 b c = w i1 b c := up3_n (fun z => h z.1)
theorem C_copySw {u : gWd} {i0 i1 k : Nat} (h : i1 ≠ i0) (hz : u i1 (4 + k) 3 = 0 ∨ u i1 (4 + k) 3 = 1) : ∃ u', F_X10_copyFrom u i0 k i1 k = some u' ∧ (∀ a b c, ¬ (a = i0 ∧ b = 4 + k) → u' a b c = u a b c) ∧ ∀ c, 1 ≤ c → c ≤ 10 → u' i0 (4 + k) c = u i1 (4 + k) c := by
  unfold F_X10_copyFrom gZ
  simp only [gS_e, up3_o h]
  rw [if_pos hz]
  refine ⟨_, rfl, fun a b c hab => ?_, fun c h1 h2 => ?_⟩
  · rw [up3_n (fun z => hab ⟨z.1, z.2.1⟩), up3_n (fun z => hab ⟨z.1, z.2.1⟩), up3_n (fun z => hab ⟨z.1, z.2.1⟩), up3_n (fun z => hab ⟨z.1, z.2.1⟩), up3_n (fun z => hab ⟨z.1, z.2.1⟩), up3_n (fun z => hab ⟨z.1, z.2.1⟩), up3_n (fun z => hab ⟨z.1, z.2.1⟩), up3_n (fun z => hab ⟨z.1, z.2.1⟩), up3_n (fun z => hab ⟨z.1, z.2.1⟩), up3_n (fun z => hab ⟨z.1, z.2.1⟩)]
  · have : c = 1 ∨ c = 2 ∨ c = 3 ∨ c = 4 ∨ c = 5 ∨ c = 6 ∨ c = 7 ∨ c = 8 ∨ c = 9 ∨ c = 10 := by omega
    rcases this with rfl | rfl | rfl | rfl | rfl | rfl | rfl | rfl | rfl | rfl <;> simp [up3]
/-- what the copy has of the meet -/
def cpR (w : gWd) (i0 i1 : Nat) (u : gWd) (a b d : Nat) : Prop := agB i0 w u ∧ (∀ c, 3 ≤ c → c ≤ 10 → u i0 0 c = w i1 0 c) ∧ (∀ c, c < a → u i0 1 c = w i1 1 c) ∧ (∀ c, c < b → u i0 3 c = w i1 3 c) ∧ ∀ q, q < d → ∀ c, 1 ≤ c → c ≤ 10 → u i0 (4 + q) c = w i1 (4 + q) c
theorem C_copy116 {w u : gWd} {S : Nat → Nat} {i0 i1 : Nat} (h : i1 ≠ i0) (hC : CV (w i1) S) (hB : WB S) (hu : cpR w i0 i1 u 3 4 0) : ∃ w', F_X5_copyFrom_116 gFU u i0 i1 0 = some w' ∧ cpR w i0 i1 w' 3 4 (S 311) := by
  have hN := hB.1
  refine loopI (F := fun fu (v : gWd) j => F_X5_copyFrom_116 fu v i0 i1 (nI j)) (S 311) (fun j v => cpR w i0 i1 v 3 4 j) (fun o => ∃ w', o = some w' ∧ cpR w i0 i1 w' 3 4 (S 311)) ?_ ?_ gFU u 0 (by omega) (gFU_lt (by omega)) hu
  · intro fu v hv
    refine ⟨v, ?_, hv⟩
    show F_X5_copyFrom_116 (fu + 1) v i0 i1 (nI (S 311)) = _
    rw [F_X5_copyFrom_116_s, hv.2.1 3 (by omega) (by omega), hC.sz, iLe (by omega) (by omega), if_pos (Nat.le_refl _)]
  · intro fu v j hj hv
    right
    have hk := hB.k (k := j) (by omega)
    have e1 : v i1 = w i1 := hv.1 i1 h
    obtain ⟨v', f1, f2, f3⟩ := C_copySw (u := v) (i0 := i0) (i1 := i1) (k := j) h (by
      rw [e1, hC.f3 hj]
      have : S (10 * j + 2) = 0 ∨ S (10 * j + 2) = 1 := by omega
      rcases this with e | e <;> rw [e]
      · left; rfl
      · right; rfl)
    refine ⟨v', ⟨fun a ha => ?_, fun c h3 h4 => ?_, fun c hc => ?_, fun c hc => ?_, fun q hq c h3 h4 => ?_⟩, ?_⟩
    · rw [← hv.1 a ha]
      funext b c
      exact f2 a b c (fun z => ha z.1)
    · rw [f2 _ _ _ (fun z => by omega)]; exact hv.2.1 c h3 h4
    · rw [f2 _ _ _ (fun z => by omega)]; exact hv.2.2.1 c hc
    · rw [f2 _ _ _ (fun z => by omega)]; exact hv.2.2.2.1 c hc
    · by_cases e : q = j
      · subst e; rw [f3 c h3 h4, e1]
      · rw [f2 _ _ _ (fun z => by omega)]; exact hv.2.2.2.2 q (by omega) c h3 h4
    · show F_X5_copyFrom_116 (fu + 1) v i0 i1 (nI j) = F_X5_copyFrom_116 fu v' i0 i1 (nI (j + 1))
      rw [F_X5_copyFrom_116_s, hv.2.1 3 (by omega) (by omega), hC.sz, iLe (by omega) (by omega), if_neg (by omega), gB_n _ (by omega) (by omega), gB_n _ (by omega) (by omega), f1, gP_s, gS_e, nI_1]
theorem C_copy91 {w u : gWd} {S : Nat → Nat} {i0 i1 : Nat} (h : i1 ≠ i0) (hC : CV (w i1) S) (hB : WB S) (hu : cpR w i0 i1 u 3 0 0) : ∃ w', F_X5_copyFrom_91 gFU u i0 i1 0 = some w' ∧ cpR w i0 i1 w' 3 4 (S 311) := by
  refine loopI (F := fun fu (v : gWd) j => F_X5_copyFrom_91 fu v i0 i1 (nI j)) 4 (fun j v => cpR w i0 i1 v 3 j 0) (fun o => ∃ w', o = some w' ∧ cpR w i0 i1 w' 3 4 (S 311)) ?_ ?_ gFU u 0 (by omega) (gFU_lt (by omega)) hu
  · intro fu v hv
    obtain ⟨w', f1, f2⟩ := C_copy116 h hC hB hv
    refine ⟨w', ?_, f2⟩
    show F_X5_copyFrom_91 (fu + 1) v i0 i1 (nI 4) = _
    rw [F_X5_copyFrom_91_s, if_pos (by decide)]
    exact f1
  · intro fu v j hj hv
    right
    have e1 : v i1 = w i1 := hv.1 i1 h
    refine ⟨up3 v i0 3 j (v i1 3 j), ⟨hv.1.tr (agB.up _ _ _), fun c h3 h4 => ?_, fun c hc => ?_, fun c hc => ?_, fun q hq => absurd hq (Nat.not_lt_zero q)⟩, ?_⟩
    · rw [up3_n (by omega)]; exact hv.2.1 c h3 h4
    · rw [up3_n (by omega)]; exact hv.2.2.1 c hc
    · by_cases e : c = j
      · subst e; rw [up3_s, e1]
      · rw [up3_n (by omega)]; exact hv.2.2.2.1 c (by omega)
    · show F_X5_copyFrom_91 (fu + 1) v i0 i1 (nI j) = F_X5_copyFrom_91 fu (up3 v i0 3 j (v i1 3 j)) i0 i1 (nI (j + 1))
      rw [F_X5_copyFrom_91_s, show (4 : Int32) = nI 4 from rfl, iLe (by omega) (by omega), if_neg (by omega), gB_n _ (by omega) (by omega), gB_n _ (by omega) (by omega), gS_e, gS_e, nI_1]
theorem C_copy66 {w u : gWd} {S : Nat → Nat} {i0 i1 : Nat} (h : i1 ≠ i0) (hC : CV (w i1) S) (hB : WB S) (hu : cpR w i0 i1 u 0 0 0) : ∃ w', F_X5_copyFrom_66 gFU u i0 i1 0 = some w' ∧ cpR w i0 i1 w' 3 4 (S 311) := by
  refine loopI (F := fun fu (v : gWd) j => F_X5_copyFrom_66 fu v i0 i1 (nI j)) 3 (fun j v => cpR w i0 i1 v j 0 0) (fun o => ∃ w', o = some w' ∧ cpR w i0 i1 w' 3 4 (S 311)) ?_ ?_ gFU u 0 (by omega) (gFU_lt (by omega)) hu
  · intro fu v hv
    obtain ⟨w', f1, f2⟩ := C_copy91 h hC hB hv
    refine ⟨w', ?_, f2⟩
    show F_X5_copyFrom_66 (fu + 1) v i0 i1 (nI 3) = _
    rw [F_X5_copyFrom_66_s, if_pos (by decide)]
    exact f1
  · intro fu v j hj hv
    right
    have e1 : v i1 = w i1 := hv.1 i1 h
    refine ⟨up3 v i0 1 j (v i1 1 j), ⟨hv.1.tr (agB.up _ _ _), fun c h3 h4 => ?_, fun c hc => ?_, fun c hc => absurd hc (Nat.not_lt_zero c), fun q hq => absurd hq (Nat.not_lt_zero q)⟩, ?_⟩
    · rw [up3_n (by omega)]; exact hv.2.1 c h3 h4
    · by_cases e : c = j
      · subst e; rw [up3_s, e1]
      · rw [up3_n (by omega)]; exact hv.2.2.1 c (by omega)
    · show F_X5_copyFrom_66 (fu + 1) v i0 i1 (nI j) = F_X5_copyFrom_66 fu (up3 v i0 1 j (v i1 1 j)) i0 i1 (nI (j + 1))
      rw [F_X5_copyFrom_66_s, show (3 : Int32) = nI 3 from rfl, iLe (by omega) (by omega), if_neg (by omega), gB_n _ (by omega) (by omega), gB_n _ (by omega) (by omega), gS_e, gS_e, nI_1]
/-- the copy of a meet is that meet -/
theorem C_copy {w : gWd} {S : Nat → Nat} {i0 i1 : Nat} (h : i1 ≠ i0) (hC : CV (w i1) S) (hR : RV (w i1) S) (hB : WB S) : ∃ w', F_X5_copyFrom w i0 i1 = some w' ∧ agB i0 w w' ∧ CV (w' i0) S ∧ RV (w' i0) S := by
  have key : ∃ w', F_X5_copyFrom w i0 i1 = some w' ∧ cpR w i0 i1 w' 3 4 (S 311) := by
    unfold F_X5_copyFrom
    rw [gS_e, gS_e, gS_e, gS_e, gS_e, gS_e, gS_e, gS_e]
    refine C_copy66 h hC hB ⟨fun a ha => ?_, fun c h3 h4 => ?_, fun c hc => absurd hc (Nat.not_lt_zero c), fun c hc => absurd hc (Nat.not_lt_zero c), fun q hq => absurd hq (Nat.not_lt_zero q)⟩
    · rw [up3_b ha, up3_b ha, up3_b ha, up3_b ha, up3_b ha, up3_b ha, up3_b ha, up3_b ha]
    · have : c = 3 ∨ c = 4 ∨ c = 5 ∨ c = 6 ∨ c = 7 ∨ c = 8 ∨ c = 9 ∨ c = 10 := by omega
      rcases this with rfl | rfl | rfl | rfl | rfl | rfl | rfl | rfl <;> simp [up3, h]
  obtain ⟨w', f1, g1, g2, g3, g4, g5⟩ := key
  refine ⟨w', f1, g1, ⟨?_, fun k hk a ha => ?_⟩, ?_⟩
  · rw [g2 3 (by omega) (by omega), g2 4 (by omega) (by omega), g2 5 (by omega) (by omega), g2 7 (by omega) (by omega), g2 8 (by omega) (by omega), g2 9 (by omega) (by omega), g2 10 (by omega) (by omega), g3 0 (by omega), g3 1 (by omega), g3 2 (by omega)]
    exact hC.1
  · rw [g5 k hk (a + 1) (by omega) (by omega)]
    exact hC.2 k hk a ha
  · obtain ⟨n, q, h1, h2, h4, h5, h7, h8⟩ := hR
    exact ⟨n, q, h1, by rw [g2 6 (by omega) (by omega)]; exact h2, fun p hp => by rw [g4 p (by omega)]; exact h4 p hp, h5, h7, h8⟩
theorem Sdraw_c {S : Nat → Nat} {t k : Nat} (hk : k < S 311) (hN : S 311 ≤ 30) (hU : UN S k = true) : nI (Sdraw S t (10 * k + 3)) - 1 = nI (Dt (S 317) (nH S) t (erank S k)) ∧ nI (Sdraw S t (10 * k + 4)) = laneI S (hcn S t k) := by
  unfold Sdraw
  rw [upN_n (by omega), upN_n (by omega), upN_n (by omega), upN_n (by omega), Sd_3 (by omega), Sd_4 (by omega), if_pos ⟨hk, hU⟩, if_pos ⟨hk, hU⟩, nI_nOf]
  refine ⟨?_, rfl⟩
  rw [← nI_1, Int32.add_sub_cancel]
/-- ifDrawn: the class's side changes its trial only, the model's side its row of heats -/
theorem Q_ifDrawn {S : Nat → Nat} {EB : Nat} (hI : IV EB S) (x y : Int32) : ∃ r : Int32, (∀ w, CV (w 0) S → RV (w 0) S → ∃ w', F_X11_ifDrawn w x y = some (r, w') ∧ agB 1 w w') ∧ (∀ w, SV w S → ∃ w', F_X12_ifDrawn w x y = some (r, w') ∧ ag5 w w') := by
  have hB := hI.wb
  have hN := hB.1
  have hst := hB.2.1
  by_cases a : x < 0 ∨ nI (S 311) ≤ x
  · refine ⟨-1000001, fun w hC _ => ⟨w, ?_, agB.rf _ _⟩, fun w hS => ⟨w, ?_, ag5.rf _⟩⟩
    · unfold F_X11_ifDrawn
      rw [C_has hC, if_pos a, gP_s, if_pos rfl]
    · unfold F_X12_ifDrawn
      rw [M_isSw hS hB, if_pos a, gP_s, if_pos rfl]
  obtain ⟨k, hk, rfl⟩ := arg_lt (by omega) (fun z => a (Or.inl z)) (fun z => a (Or.inr z))
  have hg := (hB.k (k := k) (by omega)).2.2.1
  by_cases c : y < 0
  · refine ⟨-1000001, fun w hC _ => ⟨w, ?_, agB.rf _ _⟩, fun w hS => ⟨w, ?_, ag5.rf _⟩⟩
    · unfold F_X11_ifDrawn
      rw [C_hasN hC hB hk, gP_s, if_neg (show ¬ (1 : Int32) = 0 by decide), if_pos c]
    · unfold F_X12_ifDrawn
      rw [M_isSw hS hB, if_neg a, gP_s, if_neg (show ¬ (1 : Int32) = 0 by decide), show F_X12_in w y 0 2 = F_X12_in w y 0 (nI 2) from rfl, M_in_f (by omega) (Or.inl c), gP_s, if_pos rfl]
  by_cases d : nI 3 ≤ y
  · refine ⟨-1000001, fun w hC _ => ⟨w, ?_, agB.rf _ _⟩, fun w hS => ⟨w, ?_, ag5.rf _⟩⟩
    · unfold F_X11_ifDrawn
      rw [C_hasN hC hB hk, gP_s, if_neg (show ¬ (1 : Int32) = 0 by decide), if_neg c, if_neg]
      intro q
      rw [Int32.le_iff_toInt_le] at q d
      have k1 : (nI 3).toInt = 3 := by decide
      have k2 : (2 : Int32).toInt = 2 := by decide
      omega
    · unfold F_X12_ifDrawn
      rw [M_isSw hS hB, if_neg a, gP_s, if_neg (show ¬ (1 : Int32) = 0 by decide), show F_X12_in w y 0 2 = F_X12_in w y 0 (nI 2) from rfl, M_in_f (n := 2) (by omega) (Or.inr d), gP_s, if_pos rfl]
  obtain ⟨q, hq, rfl⟩ := arg_lt (n := 3) (by omega) c d
  have cC : ∀ w, CV (w 0) S → F_X11_ifDrawn w (nI k) (nI q) = if S 310 = 0 then (if S (10 * k + 2) = 0 then (gP (F_X5_copyFrom w 1 0) (fun w_11 => gC (F_X1_drawHeats w_11 1) (fun v_13 w_14 => if q = 2 then (some (v_13, w_14)) else (if q = 0 then (some ((w_14 1 (4 + k) 4), w_14)) else (some ((w_14 1 (4 + k) 5), w_14)))))) else (some ((-1000002), w))) else (some ((-1000002), w)) := by
    intro w hC
    unfold F_X11_ifDrawn
    rw [C_hasN hC hB hk, gP_s, if_neg (show ¬ (1 : Int32) = 0 by decide), if_neg c, if_pos (show nI q ≤ 2 from (nI_leI (b := 2) (by omega) (by omega)).mpr (by omega)), hC.st, iE0 (by omega), gB_n _ (by omega) (by omega), hC.f3 hk, iE0 (by omega)]
    have e : (fun (v_13 : Int32) (w_14 : gWd) => if nI q = 2 then some (v_13, w_14) else if nI q = 0 then gB (nI k) 30 (fun k_20 => some (w_14 1 (4 + k_20) 4, w_14)) else gB (nI k) 30 (fun k_18 => some (w_14 1 (4 + k_18) 5, w_14))) = (fun v_13 w_14 => if q = 2 then (some (v_13, w_14)) else (if q = 0 then (some ((w_14 1 (4 + k) 4), w_14)) else (some ((w_14 1 (4 + k) 5), w_14)))) := by
      funext v u
      rw [iE2 (by omega), iE0 (by omega), gB_n _ (by omega) (by omega), gB_n _ (by omega) (by omega)]
    rw [e]
  have cM : ∀ w, SV w S → F_X12_ifDrawn w (nI k) (nI q) = if S 310 = 0 then (if S (10 * k + 2) = 0 then (gC (F_X12_plans w) (fun v_12 w_13 => gP (F_X12_entryRank w_13 (nI k)) (fun v_15 => if q = 0 then (gB v_15 30 (fun k_21 => some ((w_13 8 5 k_21), w_13))) else (if q = 1 then (gP (F_X12_laneIn w_13 v_15) (fun v_19 => some (v_19, w_13))) else (some (v_12, w_13)))))) else (some ((-1000002), w))) else (some ((-1000002), w)) := by
    intro w hS
    unfold F_X12_ifDrawn
    rw [M_isSw hS hB, if_neg a, gP_s, if_neg (show ¬ (1 : Int32) = 0 by decide), show F_X12_in w (nI q) 0 2 = F_X12_in w (nI q) 0 (nI 2) from rfl, M_in_t (by omega) (by omega), gP_s, if_neg (show ¬ (1 : Int32) = 0 by decide), hS 310 (by omega), iE0 (by omega), M_isGone hS hB (by omega), gP_s, iE0 (by omega)]
    simp only [iE0 (a := q) (show q < 2 ^ 31 by omega), iE1 (a := q) (show q < 2 ^ 31 by omega)]
  by_cases s0 : S 310 = 0
  · by_cases g0 : S (10 * k + 2) = 0
    · have hU : UN S k = true := UN_t.mpr g0
      have hp : 0 < pres S (S 311) := by
        rw [pres_ct]
        exact fb_ct_pos.mpr ⟨k, hk, hU⟩
      obtain ⟨t0, ht0⟩ := t0_ex hB hp
      have her := erank_lt hk hU
      have hpl := pres_le S (S 311)
      have hsd := Sdraw_c (t := t0) hk hN hU
      refine ⟨if q = 2 then nI (nH S) else if q = 0 then nI (Dt (S 317) (nH S) t0 (erank S k)) else laneI S (hcn S t0 k), fun w hC hR => ?_, fun w hS => ?_⟩
      · obtain ⟨w1, f1, f2, f3, f4⟩ := C_copy (i0 := 1) (i1 := 0) (by omega) hC hR hB
        obtain ⟨w2, g1, g2, g3, g4⟩ := C_draw (i := 1) hI f3 f4 hp s0 ht0
        have h311 : Sdraw S t0 311 = S 311 := by unfold Sdraw; rw [upN_n (by omega), upN_n (by omega), Sd_hi (by omega)]
        refine ⟨w2, ?_, f2.tr g2⟩
        rw [cC w hC, if_pos s0, if_pos g0, f1, gP_s, g1, gC_s, g3.f4 (by rw [h311]; exact hk), g3.f5 (by rw [h311]; exact hk), hsd.1, hsd.2]
        split
        · rfl
        · split <;> rfl
      · obtain ⟨w1, t, f1, g1, d1, k1⟩ := M_plans hS hB hp
        have hS1 := g1.sv hS
        have hcg : cg (S 317) (nH S) (pres S (S 311)) t = cg (S 317) (nH S) (pres S (S 311)) t0 := k1.trans ht0.symm
        have hsd2 := Sdraw_c (t := t) hk hN hU
        have hSS : Sdraw S t = Sdraw S t0 := by unfold Sdraw; rw [Sd_cg hN hcg]
        rw [hSS] at hsd2
        have eD : nI (Dt (S 317) (nH S) t (erank S k)) = nI (Dt (S 317) (nH S) t0 (erank S k)) := hsd2.1.symm.trans hsd.1
        have eL : laneI S (hcn S t k) = laneI S (hcn S t0 k) := hsd2.2.symm.trans hsd.2
        obtain ⟨hH1, hH8, hHL⟩ := nH_in hB hp
        refine ⟨w1, ?_, g1⟩
        rw [cM w hS, if_pos s0, if_pos g0, f1, gC_s, M_erank hS1 hB (by omega), gP_s, gB_n _ (by omega) (by omega), d1 _ her, M_laneIn (d := Dt (S 317) (nH S) t) hS1 hB (n := pres S (S 311)) (by omega) her (fun r hr => ⟨d1 r hr, by have := Dt_le (L := S 317) (t := t) (r := r) hH1; omega⟩), gP_s, eD]
        show (if q = 0 then _ else if q = 1 then some (laneI S (hcn S t k), w1) else _) = _
        rw [eL]
        have : q = 0 ∨ q = 1 ∨ q = 2 := by omega
        rcases this with rfl | rfl | rfl <;> rfl
    · refine ⟨-1000002, fun w hC _ => ⟨w, ?_, agB.rf _ _⟩, fun w hS => ⟨w, ?_, ag5.rf _⟩⟩
      · rw [cC w hC, if_pos s0, if_neg g0]
      · rw [cM w hS, if_pos s0, if_neg g0]
  · refine ⟨-1000002, fun w hC _ => ⟨w, ?_, agB.rf _ _⟩, fun w hS => ⟨w, ?_, ag5.rf _⟩⟩
    · rw [cC w hC, if_neg s0]
    · rw [cM w hS, if_neg s0]
end
section
/-! level 2: the text that is typed -/
def TV (w : gWd) (T : Nat) : Prop := T ≤ 60 ∧ w 7 3 1 = nI T ∧ w 8 0 6 = nI T ∧ ∀ k, k < T → ∃ c, 32 ≤ c ∧ c ≤ 126 ∧ w 7 4 k = nI c ∧ w 8 4 k = nI c
/-- only the text has changed -/
def agT (w w' : gWd) : Prop := ∀ a b c, ¬ ((a = 7 ∧ b = 3 ∧ c = 1) ∨ (a = 7 ∧ b = 4) ∨ (a = 8 ∧ b = 0 ∧ c = 6) ∨ (a = 8 ∧ b = 4)) → w' a b c = w a b c
theorem agT.rf (w : gWd) : agT w w := fun _ _ _ _ => rfl
theorem agT.tr {w w1 w2 : gWd} (h1 : agT w w1) (h2 : agT w1 w2) : agT w w2 := fun a b c h => (h2 a b c h).trans (h1 a b c h)
theorem agT.up {w : gWd} {i r j : Nat} {v : Int32} (hs : (i = 7 ∧ r = 3 ∧ j = 1) ∨ (i = 7 ∧ r = 4) ∨ (i = 8 ∧ r = 0 ∧ j = 6) ∨ (i = 8 ∧ r = 4)) : agT w (up3 w i r j v) := fun a b c h => up3_n (fun z => by obtain ⟨rfl, rfl, rfl⟩ := z; exact h hs)
theorem OK_type {w : gWd} {T : Nat} (hT : TV w T) (x : Int32) : ∃ r w' w'' T', F_X11_type w x = some (r, w') ∧ F_X12_type w' x = some (r, w'') ∧ agT w w' ∧ agT w w'' ∧ TV w'' T' := by
  obtain ⟨t1, t2, t3, t4⟩ := hT
  by_cases a : x < 32
  · refine ⟨-1000001, w, w, T, ?_, ?_, agT.rf _, agT.rf _, t1, t2, t3, t4⟩
    · unfold F_X11_type
      rw [if_pos a]
    · unfold F_X12_type
      rw [M_in, if_pos a, gP_s, if_pos rfl]
  by_cases b : (126 : Int32) < x
  · refine ⟨-1000001, w, w, T, ?_, ?_, agT.rf _, agT.rf _, t1, t2, t3, t4⟩
    · unfold F_X11_type
      rw [if_neg a, if_neg (fun z => (fa_of_lt b).2.1 z)]
    · unfold F_X12_type
      rw [M_in, if_neg a, if_pos b, gP_s, if_pos rfl]
  have k1 : (32 : Int32).toInt = 32 := by decide
  have k2 : (126 : Int32).toInt = 126 := by decide
  have k3 : (nI 127).toInt = 127 := by decide
  obtain ⟨c, hc, rfl⟩ := arg_lt (x := x) (n := 127) (by omega) (fun z => a (by rw [fa_lt, show (0 : Int32).toInt = 0 from rfl] at z; rw [fa_lt, k1]; omega)) (fun z => b (by rw [fa_le, k3] at z; rw [fa_lt, k2]; omega))
  have hc2 : 32 ≤ c := by
    rw [fa_lt, k1, nI_toInt (by omega)] at a
    omega
  have cC : F_X11_type w (nI c) = if T < 60 then some (nI (T + 1), up3 (up3 w 7 4 T (nI c)) 7 3 1 (nI (T + 1))) else some (-1000003, w) := by
    unfold F_X11_type F_X6_append
    rw [if_neg a, if_pos (fa_of_nlt b), t2, show (60 : Int32) = nI 60 from rfl, iLt (by omega) (by omega)]
    by_cases e : T < 60
    · rw [if_pos e, if_pos e, gB_n _ (by omega) (by omega), gS_e, gS_e, gC_s, up3_s]
      rw [up3_n (by omega), t2, nI_1]
    · rw [if_neg e, if_neg e, gC_s]
  have cM : ∀ u : gWd, u 8 0 6 = nI T → F_X12_type u (nI c) = if T < 60 then some (nI (T + 1), up3 (up3 u 8 4 T (nI c)) 8 0 6 (nI (T + 1))) else some (-1000003, u) := by
    intro u hu
    unfold F_X12_type
    rw [M_in, if_neg a, if_neg b, gP_s, if_neg (show ¬ (1 : Int32) = 0 by decide), hu, show (60 : Int32) = nI 60 from rfl, iEq (by omega) (by omega)]
    by_cases e : T = 60
    · rw [if_pos e, if_neg (by omega)]
    · rw [if_neg e, if_pos (by omega), gB_n _ (by omega) (by omega), gS_e, gS_e, up3_s]
      rw [up3_n (by omega), hu, nI_1]
  by_cases e : T < 60
  · refine ⟨nI (T + 1), up3 (up3 w 7 4 T (nI c)) 7 3 1 (nI (T + 1)), up3 (up3 (up3 (up3 w 7 4 T (nI c)) 7 3 1 (nI (T + 1))) 8 4 T (nI c)) 8 0 6 (nI (T + 1)), T + 1, ?_, ?_, (agT.up (by omega)).tr (agT.up (by omega)), ((agT.up (by omega)).tr (agT.up (by omega))).tr ((agT.up (by omega)).tr (agT.up (by omega))), by omega, ?_, by rw [up3_s], fun k hk => ?_⟩
    · rw [cC, if_pos e]
    · rw [cM _ (by rw [up3_n (by omega), up3_n (by omega)]; exact t3), if_pos e]
    · rw [up3_n (by omega), up3_n (by omega), up3_s]
    · by_cases ek : k = T
      · subst ek
        refine ⟨c, hc2, by omega, ?_, ?_⟩
        · rw [up3_n (by omega), up3_n (by omega), up3_n (by omega), up3_s]
        · rw [up3_n (by omega), up3_s]
      · obtain ⟨c', g1, g2, g3, g4⟩ := t4 k (by omega)
        refine ⟨c', g1, g2, ?_, ?_⟩
        · rw [up3_n (by omega), up3_n (by omega), up3_n (by omega), up3_n (by omega)]; exact g3
        · rw [up3_n (by omega), up3_n (by omega), up3_n (by omega), up3_n (by omega)]; exact g4
  · exact ⟨-1000003, w, w, T, by rw [cC, if_neg e], by rw [cM w t3, if_neg e], agT.rf _, agT.rf _, t1, t2, t3, t4⟩
theorem OK_clear {w : gWd} {T : Nat} (hT : TV w T) : ∃ r w' w'' T', F_X11_clearText w = some (r, w') ∧ F_X12_clearText w' = some (r, w'') ∧ agT w w' ∧ agT w w'' ∧ TV w'' T' := by
  obtain ⟨t1, t2, t3, t4⟩ := hT
  refine ⟨nI T, up3 w 7 3 1 (nI 0), up3 (up3 w 7 3 1 (nI 0)) 8 0 6 (nI 0), 0, ?_, ?_, agT.up (by omega), (agT.up (by omega)).tr (agT.up (by omega)), by omega, ?_, by rw [up3_s], fun k hk => absurd hk (Nat.not_lt_zero k)⟩
  · unfold F_X11_clearText F_X6_empty
    rw [gS_e, gS_e, gC_s, t2]
    rfl
  · unfold F_X12_clearText
    rw [gS_e, gS_e, up3_n (by omega), t3]
    rfl
  · rw [up3_n (by omega), up3_s]
end
section
/-! level 2: the model's history -/
/-- only the model's past has changed -/
def agP (w w' : gWd) : Prop := ∀ a b, ¬ (a = 8 ∧ b = 2) → w' a b = w a b
theorem agP.rf (w : gWd) : agP w w := fun _ _ _ => rfl
theorem agP.tr {w w1 w2 : gWd} (h1 : agP w w1) (h2 : agP w1 w2) : agP w w2 := fun a b h => (h2 a b h).trans (h1 a b h)
theorem agP.up {w : gWd} (j : Nat) (v : Int32) : agP w (up3 w 8 2 j v) := fun a b h => up3_r (fun q => h ⟨q.1, q.2⟩)
/-- only the model's history has changed -/
def agH2 (w w' : gWd) : Prop := ∀ a b c, ¬ (a = 8 ∧ ((b = 0 ∧ c = 3) ∨ b = 2)) → w' a b c = w a b c
theorem agH2.agH {w w' : gWd} (h : agH2 w w') : agH w w' := fun a b hab => funext fun c => h a b c (fun z => hab (by omega))
theorem M_ch59 {w : gWd} {K : Nat} (hK : K ≤ 3) (hp : w 8 0 3 = nI K) : ∃ wc, F_X12_changes_59 gFU w 0 = some wc ∧ agH2 w wc ∧ wc 8 0 3 = nI (K + 1) ∧ (∀ t, t < 320 → wc 8 2 (320 * K + t) = w 8 1 t) ∧ ∀ q, q < 320 * K → wc 8 2 q = w 8 2 q := by
  refine loopI (F := fun fu (u : gWd) j => F_X12_changes_59 fu u (nI j)) 320 (fun j u => agP w u ∧ (∀ t, t < j → u 8 2 (320 * K + t) = w 8 1 t) ∧ ∀ q, q < 320 * K → u 8 2 q = w 8 2 q) (fun o => ∃ wc, o = some wc ∧ agH2 w wc ∧ wc 8 0 3 = nI (K + 1) ∧ (∀ t, t < 320 → wc 8 2 (320 * K + t) = w 8 1 t) ∧ ∀ q, q < 320 * K → wc 8 2 q = w 8 2 q) ?_ ?_ gFU w 0 (by omega) (gFU_lt (by omega)) ⟨agP.rf _, fun t ht => absurd ht (Nat.not_lt_zero t), fun _ _ => rfl⟩
  · intro fu u hu
    have e3 : u 8 0 3 = nI K := by rw [hu.1 8 0 (by omega)]; exact hp
    refine ⟨up3 u 8 0 3 (nI (K + 1)), ?_, fun a b c h => ?_, up3_s _ _ _ _ _, fun t ht => ?_, fun q hq => ?_⟩
    · show F_X12_changes_59 (fu + 1) u (nI 320) = _
      rw [F_X12_changes_59_s, if_pos (by decide), gS_e, e3, nI_1]
    · rw [up3_n (by omega), hu.1 a b (by omega)]
    · rw [up3_n (by omega)]; exact hu.2.1 t ht
    · rw [up3_n (by omega)]; exact hu.2.2 q hq
  · intro fu u j hj hu
    right
    have e3 : u 8 0 3 = nI K := by rw [hu.1 8 0 (by omega)]; exact hp
    have e1 : u 8 1 = w 8 1 := hu.1 8 1 (by omega)
    refine ⟨up3 u 8 2 (320 * K + j) (u 8 1 j), ⟨hu.1.tr (agP.up _ _), fun t ht => ?_, fun q hq => ?_⟩, ?_⟩
    · by_cases e : t = j
      · subst e; rw [up3_s, e1]
      · rw [up3_n (by omega)]; exact hu.2.1 t (by omega)
    · rw [up3_n (by omega)]; exact hu.2.2 q hq
    · show F_X12_changes_59 (fu + 1) u (nI j) = F_X12_changes_59 fu (up3 u 8 2 (320 * K + j) (u 8 1 j)) (nI (j + 1))
      rw [F_X12_changes_59_s, show (320 : Int32) = nI 320 from rfl, iLe (by omega) (by omega), if_neg (by omega), gB_n _ (by omega) (by omega), e3, pk_mul, nI_add, gB_n _ (by omega) (by omega), gS_e, gS_e, nI_1]
theorem M_ch18 {w : gWd} (hp : w 8 0 3 = nI 4) : ∃ wc, F_X12_changes_18 gFU w 0 = some wc ∧ agH2 w wc ∧ wc 8 0 3 = nI 4 ∧ (∀ t, t < 320 → wc 8 2 (320 * 3 + t) = w 8 1 t) ∧ ∀ q, q < 960 → wc 8 2 q = w 8 2 (q + 320) := by
  refine loopI (F := fun fu (u : gWd) j => F_X12_changes_18 fu u (nI j)) 960 (fun j u => agP w u ∧ (∀ q, q < j → u 8 2 q = w 8 2 (q + 320)) ∧ ∀ q, j ≤ q → u 8 2 q = w 8 2 q) (fun o => ∃ wc, o = some wc ∧ agH2 w wc ∧ wc 8 0 3 = nI 4 ∧ (∀ t, t < 320 → wc 8 2 (320 * 3 + t) = w 8 1 t) ∧ ∀ q, q < 960 → wc 8 2 q = w 8 2 (q + 320)) ?_ ?_ gFU w 0 (by omega) (gFU_lt (by omega)) ⟨agP.rf _, fun t ht => absurd ht (Nat.not_lt_zero t), fun _ _ => rfl⟩
  · intro fu u hu
    have e3 : u 8 0 3 = nI 4 := by rw [hu.1 8 0 (by omega)]; exact hp
    obtain ⟨wc, f1, f2, f3, f4, f5⟩ := M_ch59 (w := up3 u 8 0 3 (nI 3)) (K := 3) (by omega) (up3_s _ _ _ _ _)
    refine ⟨wc, ?_, fun a b c h => ?_, f3, fun t ht => ?_, fun q hq => ?_⟩
    · show F_X12_changes_18 (fu + 1) u (nI 960) = _
      rw [F_X12_changes_18_s, if_pos (by decide), gS_e, e3]
      exact f1
    · rw [f2 a b c h, up3_n (by omega), hu.1 a b (by omega)]
    · rw [f4 t ht, up3_n (by omega), hu.1 8 1 (by omega)]
    · rw [f5 q (by omega), up3_n (by omega)]; exact hu.2.1 q hq
  · intro fu u j hj hu
    right
    refine ⟨up3 u 8 2 j (u 8 2 (j + 320)), ⟨hu.1.tr (agP.up _ _), fun q hq => ?_, fun q hq => ?_⟩, ?_⟩
    · by_cases e : q = j
      · subst e; rw [up3_s]; exact hu.2.2 _ (by omega)
      · rw [up3_n (by omega)]; exact hu.2.1 q (by omega)
    · rw [up3_n (by omega)]; exact hu.2.2 q (by omega)
    · show F_X12_changes_18 (fu + 1) u (nI j) = F_X12_changes_18 fu (up3 u 8 2 j (u 8 2 (j + 320))) (nI (j + 1))
      rw [F_X12_changes_18_s, show (960 : Int32) = nI 960 from rfl, iLe (by omega) (by omega), if_neg (by omega), show (320 : Int32) = nI 320 from rfl, nI_add, gB_n _ (by omega) (by omega), gB_n _ (by omega) (by omega), gS_e, gS_e, nI_1]
theorem M_undo {w : gWd} {K : Nat} (hK : K < 4) (hp : w 8 0 3 = nI (K + 1)) : ∃ w', F_X12_undo w = some (nI K, w') ∧ w' 8 0 3 = nI K ∧ (∀ a b c, ¬ (a = 8 ∧ ((b = 0 ∧ c = 3) ∨ b = 1)) → w' a b c = w a b c) ∧ ∀ t, t < 320 → w' 8 1 t = w 8 2 (320 * K + t) := by
  have e0 : F_X12_undo w = F_X12_undo_22 gFU (up3 w 8 0 3 (nI K)) 0 := by
    unfold F_X12_undo
    rw [hp, iE0 (by omega), if_neg (by omega), gS_e, mN (by omega) (by omega), Nat.add_sub_cancel]
  rw [e0]
  refine loopI (F := fun fu (u : gWd) j => F_X12_undo_22 fu u (nI j)) 320 (fun j u => u 8 0 3 = nI K ∧ (∀ a b c, ¬ (a = 8 ∧ ((b = 0 ∧ c = 3) ∨ b = 1)) → u a b c = w a b c) ∧ ∀ t, t < j → u 8 1 t = w 8 2 (320 * K + t)) (fun o => ∃ w', o = some (nI K, w') ∧ w' 8 0 3 = nI K ∧ (∀ a b c, ¬ (a = 8 ∧ ((b = 0 ∧ c = 3) ∨ b = 1)) → w' a b c = w a b c) ∧ ∀ t, t < 320 → w' 8 1 t = w 8 2 (320 * K + t)) ?_ ?_ gFU _ 0 (by omega) (gFU_lt (by omega)) ⟨up3_s _ _ _ _ _, fun a b c h => up3_n (by omega), fun t ht => absurd ht (Nat.not_lt_zero t)⟩
  · intro fu u hu
    refine ⟨u, ?_, hu.1, hu.2.1, hu.2.2⟩
    show F_X12_undo_22 (fu + 1) u (nI 320) = _
    rw [F_X12_undo_22_s, if_pos (by decide), hu.1]
  · intro fu u j hj hu
    right
    have e2 : ∀ q, u 8 2 q = w 8 2 q := fun q => hu.2.1 8 2 q (by omega)
    refine ⟨up3 u 8 1 j (u 8 2 (320 * K + j)), ⟨by rw [up3_n (by omega)]; exact hu.1, fun a b c h => by rw [up3_n (by omega)]; exact hu.2.1 a b c h, fun t ht => ?_⟩, ?_⟩
    · by_cases e : t = j
      · subst e; rw [up3_s, e2]
      · rw [up3_n (by omega)]; exact hu.2.2 t (by omega)
    · show F_X12_undo_22 (fu + 1) u (nI j) = F_X12_undo_22 fu (up3 u 8 1 j (u 8 2 (320 * K + j))) (nI (j + 1))
      rw [F_X12_undo_22_s, show (320 : Int32) = nI 320 from rfl, iLe (by omega) (by omega), if_neg (by omega), hu.1, pk_mul, nI_add, gB_n _ (by omega) (by omega), gB_n _ (by omega) (by omega), gS_e, gS_e, nI_1]
theorem M_undo0 {w : gWd} (hp : w 8 0 3 = 0) : F_X12_undo w = some (-1000002, w) := by
  unfold F_X12_undo
  rw [if_pos hp]
end
section
/-! level 2: the class's history -/
def HC (w : gWd) (K : Nat) (ρ : Nat → Nat) : Prop := K ≤ 4 ∧ w 7 1 1 = nI K ∧ (∀ j, j < 5 → w 7 2 j = nI (ρ j) ∧ 2 ≤ ρ j ∧ ρ j ≤ 6) ∧ ∀ j j', j < 5 → j' < 5 → ρ j = ρ j' → j = j'
/-- only the class's list of kept meets has changed -/
def agK (w w' : gWd) : Prop := ∀ a b c, ¬ (a = 7 ∧ ((b = 1 ∧ c = 1) ∨ b = 2)) → w' a b c = w a b c
def rot (ρ : Nat → Nat) (j : Nat) : Nat := if j < 4 then ρ (j + 1) else ρ 0
theorem rot_inj {ρ : Nat → Nat} (h : ∀ j j', j < 5 → j' < 5 → ρ j = ρ j' → j = j') : ∀ j j', j < 5 → j' < 5 → rot ρ j = rot ρ j' → j = j' := by
  intro j j' hj hj' e
  unfold rot at e
  by_cases a : j < 4
  · rw [if_pos a] at e
    by_cases b : j' < 4
    · rw [if_pos b] at e
      have := h _ _ (by omega) (by omega) e
      omega
    · rw [if_neg b] at e
      have := h _ _ (by omega) (by omega) e
      omega
  · rw [if_neg a] at e
    by_cases b : j' < 4
    · rw [if_pos b] at e
      have := h _ _ (by omega) (by omega) e
      omega
    · omega
theorem C_prepare {w : gWd} {S : Nat → Nat} {K : Nat} {ρ : Nat → Nat} (hH : HC w K ρ) (hC : CV (w 0) S) (hR : RV (w 0) S) (hB : WB S) : ∃ w', F_X3_prepare w 0 = some w' ∧ agB (ρ K) w w' ∧ CV (w' (ρ K)) S ∧ RV (w' (ρ K)) S := by
  obtain ⟨h1, h2, h3, h4⟩ := hH
  obtain ⟨g1, g2, g3⟩ := h3 K (by omega)
  obtain ⟨w', f1, f2, f3, f4⟩ := C_copy (w := w) (i0 := ρ K) (i1 := 0) (by omega) hC hR hB
  refine ⟨w', ?_, f2, f3, f4⟩
  unfold F_X3_prepare
  rw [h2, iL0 (by omega), show (4 : Int32) = nI 4 from rfl, iLt (by omega) (by omega), if_neg (by omega), gB_n _ (by omega) (by omega), g1, nI_clamp (by omega), gM_t (by omega), f1, gP_s]
theorem C_drop {w : gWd} {ρ : Nat → Nat} (h3 : ∀ j, j < 5 → w 7 2 j = nI (ρ j) ∧ 2 ≤ ρ j ∧ ρ j ≤ 6) : ∃ w', F_X3_dropOldest w = some w' ∧ agK w w' ∧ w' 7 1 1 = nI 4 ∧ ∀ j, j < 5 → w' 7 2 j = nI (rot ρ j) := by
  obtain ⟨g1, g2, g3⟩ := h3 0 (by omega)
  unfold F_X3_dropOldest
  rw [g1, nI_clamp (by omega), gM_t (by omega)]
  refine loopI (F := fun fu (u : gWd) j => F_X3_dropOldest_9 fu u (ρ 0) (nI j)) 4 (fun j u => agK w u ∧ (∀ q, q < j → u 7 2 q = nI (ρ (q + 1))) ∧ ∀ q, j ≤ q → u 7 2 q = w 7 2 q) (fun o => ∃ w', o = some w' ∧ agK w w' ∧ w' 7 1 1 = nI 4 ∧ ∀ j, j < 5 → w' 7 2 j = nI (rot ρ j)) ?_ ?_ gFU w 0 (by omega) (gFU_lt (by omega)) ⟨fun _ _ _ _ => rfl, fun t ht => absurd ht (Nat.not_lt_zero t), fun _ _ => rfl⟩
  · intro fu u hu
    refine ⟨up3 (up3 u 7 2 4 (nI (ρ 0))) 7 1 1 4, ?_, fun a b c h => ?_, up3_s _ _ _ _ _, fun j hj => ?_⟩
    · show F_X3_dropOldest_9 (fu + 1) u (ρ 0) (nI 4) = _
      rw [F_X3_dropOldest_9_s, if_pos (by decide)]
      rfl
    · rw [up3_n (by omega), up3_n (by omega)]; exact hu.1 a b c h
    · unfold rot
      by_cases e : j < 4
      · rw [if_pos e, up3_n (by omega), up3_n (by omega)]; exact hu.2.1 j e
      · rw [if_neg e, show j = 4 by omega, up3_n (by omega), up3_s]
  · intro fu u j hj hu
    right
    obtain ⟨k1, k2, k3⟩ := h3 (j + 1) (by omega)
    have e1 : u 7 2 (j + 1) = nI (ρ (j + 1)) := by rw [hu.2.2 _ (by omega)]; exact k1
    refine ⟨up3 u 7 2 j (nI (ρ (j + 1))), ⟨fun a b c h => ?_, fun q hq => ?_, fun q hq => ?_⟩, ?_⟩
    · rw [up3_n (by omega)]; exact hu.1 a b c h
    · by_cases e : q = j
      · subst e; rw [up3_s]
      · rw [up3_n (by omega)]; exact hu.2.1 q (by omega)
    · rw [up3_n (by omega)]; exact hu.2.2 q (by omega)
    · show F_X3_dropOldest_9 (fu + 1) u (ρ 0) (nI j) = F_X3_dropOldest_9 fu (up3 u 7 2 j (nI (ρ (j + 1)))) (ρ 0) (nI (j + 1))
      rw [F_X3_dropOldest_9_s, show (4 : Int32) = nI 4 from rfl, iLe (by omega) (by omega), if_neg (by omega), nI_1, gB_n _ (by omega) (by omega), e1, nI_clamp (by omega), gM_t (by omega), gB_n _ (by omega) (by omega), gS_e, gS_e]
theorem C_keepE {w : gWd} {v : Int32} (hv : v < 0) : F_X3_keepUnlessError w v = some (v, w) := by
  unfold F_X3_keepUnlessError
  rw [if_pos hv]
theorem C_keep {w : gWd} {K : Nat} {ρ : Nat → Nat} {v : Int32} (hH : HC w K ρ) (hv : 0 ≤ v) : ∃ w', F_X3_keepUnlessError w v = some (v, w') ∧ agK w w' ∧ HC w' (if K = 4 then 4 else K + 1) (if K = 4 then rot ρ else ρ) := by
  obtain ⟨h1, h2, h3, h4⟩ := hH
  have e0 : F_X3_keepUnlessError w v = if K + 1 ≤ 4 then some (v, up3 w 7 1 1 (nI (K + 1))) else gP (F_X3_dropOldest (up3 w 7 1 1 (nI (K + 1)))) (fun w_5 => some (v, w_5)) := by
    unfold F_X3_keepUnlessError
    rw [if_neg (fun z => (fa_of_lt z).2.1 hv), gS_e, h2, nI_1, up3_s, show (4 : Int32) = nI 4 from rfl, iLe (by omega) (by omega)]
  by_cases e : K = 4
  · obtain ⟨w', f1, f2, f3, f4⟩ := C_drop (w := up3 w 7 1 1 (nI (K + 1))) (ρ := ρ) (fun j hj => by rw [up3_n (by omega)]; exact h3 j hj)
    refine ⟨w', ?_, fun a b c h => ?_, ?_⟩
    · rw [e0, if_neg (by omega), f1, gP_s]
    · rw [f2 a b c h, up3_n (by omega)]
    · rw [if_pos e, if_pos e]
      refine ⟨by omega, f3, fun j hj => ⟨f4 j hj, ?_⟩, rot_inj h4⟩
      unfold rot
      by_cases a : j < 4
      · rw [if_pos a]; exact (h3 _ (by omega)).2
      · rw [if_neg a]; exact (h3 _ (by omega)).2
  · refine ⟨up3 w 7 1 1 (nI (K + 1)), ?_, fun a b c h => up3_n (by omega), ?_⟩
    · rw [e0, if_pos (by omega)]
    · rw [if_neg e, if_neg e]
      exact ⟨by omega, up3_s _ _ _ _ _, fun j hj => by rw [up3_n (by omega)]; exact h3 j hj, h4⟩
theorem C_undo0 {w : gWd} {ρ : Nat → Nat} (hH : HC w 0 ρ) : F_X3_restoreInto w 0 = some (-1000002, w) := by
  unfold F_X3_restoreInto
  rw [hH.2.1, if_pos (by decide)]
theorem C_undo {w : gWd} {S : Nat → Nat} {K : Nat} {ρ : Nat → Nat} (hH : HC w (K + 1) ρ) (hC : CV (w (ρ K)) S) (hR : RV (w (ρ K)) S) (hB : WB S) : ∃ w', F_X3_restoreInto w 0 = some (nI K, w') ∧ (∀ a, a ≠ 0 → a ≠ 7 → w' a = w a) ∧ (∀ b c, ¬ (b = 1 ∧ c = 1) → w' 7 b c = w 7 b c) ∧ HC w' K ρ ∧ CV (w' 0) S ∧ RV (w' 0) S := by
  obtain ⟨h1, h2, h3, h4⟩ := hH
  obtain ⟨g1, g2, g3⟩ := h3 K (by omega)
  have e7 : up3 w 7 1 1 (nI K) (ρ K) = w (ρ K) := up3_b (by omega)
  obtain ⟨w', f1, f2, f3, f4⟩ := C_copy (w := up3 w 7 1 1 (nI K)) (i0 := 0) (i1 := ρ K) (by omega) (by rw [e7]; exact hC) (by rw [e7]; exact hR) hB
  have e71 : w' 7 1 1 = nI K := by rw [f2 7 (by omega), up3_s]
  refine ⟨w', ?_, fun a h0 h7 => ?_, fun b c h => ?_, ⟨by omega, e71, fun j hj => ?_, h4⟩, f3, f4⟩
  · unfold F_X3_restoreInto
    rw [h2, show (1 : Int32) = nI 1 from rfl, iLt (by omega) (by omega), if_neg (by omega), show (4 : Int32) = nI 4 from rfl, iLe (by omega) (by omega), if_pos (by omega), gS_e, show nI (K + 1) - nI 1 = nI K from by rw [pk_sub (by omega), Nat.add_sub_cancel], up3_s, gB_n _ (by omega) (by omega), up3_n (by omega), g1, nI_clamp (by omega), gM_t (by omega), f1, gP_s, e71]
  · rw [f2 a h0, up3_b h7]
  · rw [f2 7 (by omega), up3_n (by omega)]
  · rw [f2 7 (by omega), up3_n (by omega)]; exact h3 j hj
end
section
/-! level 2: the whole relation, a changing order -/
/-- what is kept -/
def HK (w : gWd) (EB K : Nat) (ρ : Nat → Nat) (R : Nat → Nat → Nat) : Prop := HC w K ρ ∧ w 8 0 3 = nI K ∧ ∀ j, j < K → CV (w (ρ j)) (R j) ∧ RV (w (ρ j)) (R j) ∧ IV EB (R j) ∧ ∀ t, t < 320 → w 8 2 (320 * j + t) = nI (R j t)
def REL (w : gWd) (EB : Nat) : Prop := ∃ S K ρ R T, IV EB S ∧ CV (w 0) S ∧ RV (w 0) S ∧ SV w S ∧ w 8 0 4 = 0 ∧ HK w EB K ρ R ∧ TV w T
theorem M_changes {w : gWd} {K : Nat} (hK : K ≤ 4) (h0 : w 8 0 4 = 0) (hp : w 8 0 3 = nI K) : ∃ wc, F_X12_changes w = some wc ∧ agH2 w wc ∧ wc 8 0 3 = nI (if K = 4 then 4 else K + 1) ∧ (∀ t, t < 320 → wc 8 2 (320 * (if K = 4 then 3 else K) + t) = w 8 1 t) ∧ ∀ q, q < 320 * (if K = 4 then 3 else K) → wc 8 2 q = w 8 2 (if K = 4 then q + 320 else q) := by
  unfold F_X12_changes
  rw [if_pos h0, hp, show (4 : Int32) = nI 4 from rfl, iEq (by omega) (by omega)]
  by_cases e : K = 4
  · subst e
    simp only [if_pos]
    exact M_ch18 hp
  · simp only [if_neg e]
    exact M_ch59 (by omega) hp
theorem TV.of {w w' : gWd} {T : Nat} (h : TV w T) (h1 : w' 7 3 1 = w 7 3 1) (h2 : w' 8 0 6 = w 8 0 6) (h3 : w' 7 4 = w 7 4) (h4 : w' 8 4 = w 8 4) : TV w' T := by
  obtain ⟨t1, t2, t3, t4⟩ := h
  exact ⟨t1, by rw [h1]; exact t2, by rw [h2]; exact t3, fun k hk => by rw [h3, h4]; exact t4 k hk⟩
/-- the class's way through its history -/
def FCC (FC : gWd → Option (Int32 × gWd)) (w : gWd) : Option (Int32 × gWd) := gP (F_X3_prepare w 0) (fun w_2 => gC (FC w_2) (fun v_4 w_5 => gC (F_X3_keepUnlessError w_5 v_4) (fun v_7 w_8 => some (v_7, w_8))))
theorem REL_op {FC FM : gWd → Option (Int32 × gWd)} {w : gWd} {EB : Nat} (hW : REL w EB) (hok : ∀ S, IV EB S → (∃ c : Nat → Nat → Int32, RV c S) → OK2 0 FC FM EB S) : ∃ r w' w'', FCC FC w = some (r, w') ∧ FM w' = some (r, w'') ∧ REL w'' (EB + 1) := by
  obtain ⟨S, K, ρ, R, T, hI, hC, hR, hS, h04, ⟨hH, hp, hk⟩, hT⟩ := hW
  have hB := hI.wb
  obtain ⟨h1, h2, h3, h4⟩ := hH
  obtain ⟨g1, g2, g3⟩ := h3 K (by omega)
  obtain ⟨w2, p1, p2, p3, p4⟩ := C_prepare ⟨h1, h2, h3, h4⟩ hC hR hB
  have e0 : w2 0 = w 0 := p2 0 (by omega)
  have e7 : w2 7 = w 7 := p2 7 (by omega)
  have e8 : w2 8 = w 8 := p2 8 (by omega)
  have hρ : ∀ j, j < K → ρ j ≠ ρ K := fun j hj z => by have := h4 j K (by omega) (by omega) z; omega
  have hk2 : ∀ j, j < K → w2 (ρ j) = w (ρ j) := fun j hj => p2 _ (hρ j hj)
  rcases hok S hI ⟨w 0, hR⟩ with ⟨r, ⟨hr, oc, om⟩ | ⟨hr, S', hI', oc, om⟩⟩
  · have hS2 : SV w2 S := hS.of (by rw [e8])
    refine ⟨r, w2, w2, ?_, om w2 hS2, S, K, ρ, R, T, hI.mono (by omega), by rw [e0]; exact hC, by rw [e0]; exact hR, hS2, by rw [e8]; exact h04, ⟨⟨h1, by rw [e7]; exact h2, by rw [e7]; exact h3, h4⟩, by rw [e8]; exact hp, fun j hj => ?_⟩, hT.of (by rw [e7]) (by rw [e8]) (by rw [e7]) (by rw [e8])⟩
    · unfold FCC
      rw [p1, gP_s, oc w2 (by rw [e0]; exact hC) (by rw [e0]; exact hR), gC_s, C_keepE hr, gC_s]
    · obtain ⟨a1, a2, a3, a4⟩ := hk j hj
      exact ⟨by rw [hk2 j hj]; exact a1, by rw [hk2 j hj]; exact a2, a3.mono (by omega), by rw [e8]; exact a4⟩
  · obtain ⟨w5, f1, f2, f3, f4⟩ := oc w2 (by rw [e0]; exact hC) (by rw [e0]; exact hR)
    have k7 : w5 7 = w 7 := by rw [f2 7 (by omega), e7]
    have k8 : w5 8 = w 8 := by rw [f2 8 (by omega), e8]
    have hH5 : HC w5 K ρ := ⟨h1, by rw [k7]; exact h2, by rw [k7]; exact h3, h4⟩
    obtain ⟨w8, c1, c2, c3⟩ := C_keep hH5 hr
    have n8 : ∀ a, a ≠ 7 → w8 a = w5 a := fun a ha => funext fun b => funext fun c => c2 a b c (fun z => ha z.1)
    have hS8 : SV w8 S := hS.of (by rw [n8 8 (by omega), k8])
    obtain ⟨wc, d1, d2, d3, d4, d5⟩ := M_changes (w := w8) (K := K) h1 (by rw [n8 8 (by omega), k8]; exact h04) (by rw [n8 8 (by omega), k8]; exact hp)
    obtain ⟨w'', m1, m2, m3⟩ := om w8 wc hS8 d1 d2.agH
    have q8 : ∀ a b c, ¬ (a = 8 ∧ ((b = 0 ∧ c = 3) ∨ b = 1 ∨ b = 2 ∨ b = 5)) → w'' a b c = w8 a b c := fun a b c h => by
      rw [m2 a b (fun z => h (by omega)), d2 a b c (fun z => h (by omega))]
    have qa : ∀ a, a ≠ 8 → w'' a = w8 a := fun a ha => funext fun b => funext fun c => q8 a b c (fun z => ha z.1)
    have q2 : w'' 8 2 = wc 8 2 := m2 8 2 (by omega)
    have q03 : w'' 8 0 3 = wc 8 0 3 := by rw [m2 8 0 (by omega)]
    refine ⟨r, w8, w'', ?_, m1, S', if K = 4 then 4 else K + 1, if K = 4 then rot ρ else ρ, fun j => if j = (if K = 4 then 3 else K) then S else if K = 4 then R (j + 1) else R j, T, hI', ?_, ?_, m3, ?_, ⟨?_, ?_, fun j hj => ?_⟩, ?_⟩
    · unfold FCC
      rw [p1, gP_s, f1, gC_s, c1, gC_s]
    · rw [qa 0 (by omega), n8 0 (by omega)]; exact f3
    · rw [qa 0 (by omega), n8 0 (by omega)]; exact f4
    · rw [q8 8 0 4 (by omega), n8 8 (by omega), k8]; exact h04
    · obtain ⟨x1, x2, x3, x4⟩ := c3
      exact ⟨x1, by rw [qa 7 (by omega)]; exact x2, by rw [qa 7 (by omega)]; exact x3, x4⟩
    · rw [q03]; exact d3
    · have hblk : ∀ b, 2 ≤ b → b ≤ 6 → w'' b = w2 b := fun b h1 h2 => by rw [qa b (by omega), n8 b (by omega), f2 b (by omega)]
      show CV (w'' ((if K = 4 then rot ρ else ρ) j)) (if j = (if K = 4 then 3 else K) then S else if K = 4 then R (j + 1) else R j) ∧ RV (w'' ((if K = 4 then rot ρ else ρ) j)) (if j = (if K = 4 then 3 else K) then S else if K = 4 then R (j + 1) else R j) ∧ IV (EB + 1) (if j = (if K = 4 then 3 else K) then S else if K = 4 then R (j + 1) else R j) ∧ ∀ t, t < 320 → w'' 8 2 (320 * j + t) = nI ((if j = (if K = 4 then 3 else K) then S else if K = 4 then R (j + 1) else R j) t)
      rw [q2]
      by_cases e : K = 4
      · rw [if_pos e] at hj d4 d5
        rw [if_pos e, if_pos e, if_pos e]
        have er : rot ρ j = ρ (j + 1) := by unfold rot; rw [if_pos hj]
        obtain ⟨y1, y2, y3⟩ := h3 (j + 1) (by omega)
        rw [er, hblk _ y2 y3]
        by_cases ej : j = 3
        · rw [if_pos ej]
          have : ρ (j + 1) = ρ K := by rw [ej, e]
          rw [this]
          refine ⟨p3, p4, hI.mono (by omega), fun t ht => ?_⟩
          rw [ej, d4 t ht, n8 8 (by omega), k8, hS t (by omega)]
        · rw [if_neg ej, hk2 (j + 1) (by omega)]
          obtain ⟨a1, a2, a3, a4⟩ := hk (j + 1) (by omega)
          refine ⟨a1, a2, a3.mono (by omega), fun t ht => ?_⟩
          have := d5 (320 * j + t) (by omega)
          rw [if_pos e] at this
          rw [this, n8 8 (by omega), k8, show 320 * j + t + 320 = 320 * (j + 1) + t by omega]
          exact a4 t ht
      · rw [if_neg e] at hj d4 d5
        rw [if_neg e, if_neg e, if_neg e]
        obtain ⟨y1, y2, y3⟩ := h3 j (by omega)
        rw [hblk _ y2 y3]
        by_cases ej : j = K
        · rw [if_pos ej, ej]
          refine ⟨p3, p4, hI.mono (by omega), fun t ht => ?_⟩
          rw [d4 t ht, n8 8 (by omega), k8, hS t (by omega)]
        · rw [if_neg ej, hk2 j (by omega)]
          obtain ⟨a1, a2, a3, a4⟩ := hk j (by omega)
          refine ⟨a1, a2, a3.mono (by omega), fun t ht => ?_⟩
          have := d5 (320 * j + t) (by omega)
          rw [if_neg e] at this
          rw [this, n8 8 (by omega), k8]
          exact a4 t ht
    · have c73 : w8 7 3 = w 7 3 := by funext c; rw [c2 7 3 c (by omega), k7]
      have c74 : w8 7 4 = w 7 4 := by funext c; rw [c2 7 4 c (by omega), k7]
      have c84 : w'' 8 4 = w 8 4 := by funext c; rw [q8 8 4 c (by omega), n8 8 (by omega), k8]
      exact hT.of (by rw [qa 7 (by omega), c73]) (by rw [q8 8 0 6 (by omega), n8 8 (by omega), k8]) (by rw [qa 7 (by omega), c74]) c84
end
section
/-! level 2: undo, the typed text, in the whole relation -/
theorem REL_undo {w : gWd} {EB : Nat} (hW : REL w EB) : ∃ r w' w'', F_X11_undo w = some (r, w') ∧ F_X12_undo w' = some (r, w'') ∧ REL w'' EB := by
  obtain ⟨S, K, ρ, R, T, hI, hC, hR, hS, h04, ⟨hH, hp, hk⟩, hT⟩ := hW
  by_cases e : K = 0
  · subst e
    refine ⟨-1000002, w, w, ?_, M_undo0 hp, S, 0, ρ, R, T, hI, hC, hR, hS, h04, ⟨hH, hp, hk⟩, hT⟩
    unfold F_X11_undo
    rw [C_undo0 hH, gC_s]
  · obtain ⟨K', rfl⟩ : ∃ k, K = k + 1 := ⟨K - 1, by omega⟩
    obtain ⟨a1, a2, a3, a4⟩ := hk K' (by omega)
    have h1 := hH.1
    obtain ⟨w', f1, f2, f3, f4, f5, f6⟩ := C_undo hH a1 a2 a3.wb
    have e8 : w' 8 = w 8 := f2 8 (by omega) (by omega)
    obtain ⟨w'', g1, g2, g3, g4⟩ := M_undo (w := w') (K := K') (by omega) (by rw [e8]; exact hp)
    have qa : ∀ a, a ≠ 8 → w'' a = w' a := fun a ha => funext fun b => funext fun c => g3 a b c (fun z => ha z.1)
    refine ⟨nI K', w', w'', ?_, g1, R K', K', ρ, R, T, a3, by rw [qa 0 (by omega)]; exact f5, by rw [qa 0 (by omega)]; exact f6, fun t ht => ?_, ?_, ⟨?_, g2, fun j hj => ?_⟩, ?_⟩
    · unfold F_X11_undo
      rw [f1, gC_s]
    · rw [g4 t ht, e8]; exact a4 t ht
    · rw [g3 8 0 4 (by omega), e8]; exact h04
    · obtain ⟨x1, x2, x3, x4⟩ := f4
      exact ⟨x1, by rw [qa 7 (by omega)]; exact x2, by rw [qa 7 (by omega)]; exact x3, x4⟩
    · obtain ⟨y1, y2, y3⟩ := hH.2.2.1 j (by omega)
      obtain ⟨b1, b2, b3, b4⟩ := hk j (by omega)
      have eb : w'' (ρ j) = w (ρ j) := by rw [qa _ (by omega), f2 _ (by omega) (by omega)]
      refine ⟨by rw [eb]; exact b1, by rw [eb]; exact b2, b3, fun t ht => ?_⟩
      rw [g3 8 2 _ (by omega), e8]; exact b4 t ht
    · have c73 : w' 7 3 = w 7 3 := by funext c; rw [f3 3 c (by omega)]
      have c74 : w' 7 4 = w 7 4 := by funext c; rw [f3 4 c (by omega)]
      have c84 : w'' 8 4 = w 8 4 := by funext c; rw [g3 8 4 c (by omega), e8]
      exact hT.of (by rw [qa 7 (by omega), c73]) (by rw [g3 8 0 6 (by omega), e8]) (by rw [qa 7 (by omega), c74]) c84
/-- the text's steps keep all else -/
theorem REL_T {w w'' : gWd} {EB T' : Nat} (hW : REL w EB) (h : agT w w'') (hT' : TV w'' T') : REL w'' EB := by
  obtain ⟨S, K, ρ, R, T, hI, hC, hR, hS, h04, ⟨hH, hp, hk⟩, hT⟩ := hW
  have hb : ∀ a, a < 7 → w'' a = w a := fun a ha => funext fun b => funext fun c => h a b c (by omega)
  refine ⟨S, K, ρ, R, T', hI, by rw [hb 0 (by omega)]; exact hC, by rw [hb 0 (by omega)]; exact hR, fun t ht => by rw [h 8 1 t (by omega)]; exact hS t ht, by rw [h 8 0 4 (by omega)]; exact h04, ⟨?_, by rw [h 8 0 3 (by omega)]; exact hp, fun j hj => ?_⟩, hT'⟩
  · obtain ⟨x1, x2, x3, x4⟩ := hH
    exact ⟨x1, by rw [h 7 1 1 (by omega)]; exact x2, fun j hj => by rw [h 7 2 j (by omega)]; exact x3 j hj, x4⟩
  · have h1 := hH.1
    obtain ⟨y1, y2, y3⟩ := hH.2.2.1 j (by omega)
    obtain ⟨b1, b2, b3, b4⟩ := hk j hj
    exact ⟨by rw [hb _ (by omega)]; exact b1, by rw [hb _ (by omega)]; exact b2, b3, fun t ht => by rw [h 8 2 _ (by omega)]; exact b4 t ht⟩
theorem REL_type {w : gWd} {EB : Nat} (hW : REL w EB) (x : Int32) : ∃ r w' w'', F_X11_type w x = some (r, w') ∧ F_X12_type w' x = some (r, w'') ∧ REL w'' EB := by
  have hW2 := hW
  obtain ⟨S, K, ρ, R, T, hI, hC, hR, hS, h04, hK, hT⟩ := hW
  obtain ⟨r, w', w'', T', f1, f2, f3, f4, f5⟩ := OK_type hT x
  exact ⟨r, w', w'', f1, f2, REL_T hW2 f4 f5⟩
theorem REL_clear {w : gWd} {EB : Nat} (hW : REL w EB) : ∃ r w' w'', F_X11_clearText w = some (r, w') ∧ F_X12_clearText w' = some (r, w'') ∧ REL w'' EB := by
  have hW2 := hW
  obtain ⟨S, K, ρ, R, T, hI, hC, hR, hS, h04, hK, hT⟩ := hW
  obtain ⟨r, w', w'', T', f1, f2, f3, f4, f5⟩ := OK_clear hT
  exact ⟨r, w', w'', f1, f2, REL_T hW2 f4 f5⟩
/-- ifDrawn in the whole relation -/
theorem REL_ifDrawn {w : gWd} {EB : Nat} (hW : REL w EB) (x y : Int32) : ∃ r w' w'', F_X11_ifDrawn w x y = some (r, w') ∧ F_X12_ifDrawn w' x y = some (r, w'') ∧ REL w'' EB := by
  obtain ⟨S, K, ρ, R, T, hI, hC, hR, hS, h04, ⟨hH, hp, hk⟩, hT⟩ := hW
  obtain ⟨r, hc, hm⟩ := Q_ifDrawn hI x y
  obtain ⟨w', f1, f2⟩ := hc w hC hR
  have e8 : w' 8 = w 8 := f2 8 (by omega)
  have e7 : w' 7 = w 7 := f2 7 (by omega)
  obtain ⟨w'', g1, g2⟩ := hm w' (hS.of (by rw [e8]))
  have qa : ∀ a, a ≠ 8 → w'' a = w' a := fun a ha => funext fun b => g2 a b (fun z => ha z.1)
  have q8 : ∀ b, b ≠ 5 → w'' 8 b = w 8 b := fun b hb => by rw [g2 8 b (fun z => hb z.2), e8]
  have q7 : w'' 7 = w 7 := by rw [qa 7 (by omega), e7]
  have q0 : w'' 0 = w 0 := by rw [qa 0 (by omega), f2 0 (by omega)]
  refine ⟨r, w', w'', f1, g1, S, K, ρ, R, T, hI, by rw [q0]; exact hC, by rw [q0]; exact hR, hS.of (q8 1 (by omega)), by rw [q8 0 (by omega)]; exact h04, ⟨?_, by rw [q8 0 (by omega)]; exact hp, fun j hj => ?_⟩, hT.of (by rw [q7]) (by rw [q8 0 (by omega)]) (by rw [q7]) (q8 4 (by omega))⟩
  · obtain ⟨x1, x2, x3, x4⟩ := hH
    exact ⟨x1, by rw [q7]; exact x2, by rw [q7]; exact x3, x4⟩
  · have h1 := hH.1
    obtain ⟨y1, y2, y3⟩ := hH.2.2.1 j (by omega)
    obtain ⟨b1, b2, b3, b4⟩ := hk j hj
    have eb : w'' (ρ j) = w (ρ j) := by rw [qa _ (by omega), f2 _ (by omega)]
    exact ⟨by rw [eb]; exact b1, by rw [eb]; exact b2, b3, fun t ht => by rw [q8 2 (by omega)]; exact b4 t ht⟩
end
section
/-! level 2: all the calls in the whole relation, but mean, fault, play -/
section RELS
variable {w : gWd} {EB : Nat}
theorem REL_enter (hW : REL w EB) (x y : Int32) : ∃ r w' w'', F_X11_enter w x y = some (r, w') ∧ F_X12_enter w' x y = some (r, w'') ∧ REL w'' (EB + 1) :=
  REL_op (FC := fun w => F_X1_addSwimmer w 0 x y) (FM := fun w => F_X12_enter w x y) hW (fun S hI _ => OK_enter hI x y)
theorem REL_scratch (hW : REL w EB) (x : Int32) : ∃ r w' w'', F_X11_scratch w x = some (r, w') ∧ F_X12_scratch w' x = some (r, w'') ∧ REL w'' (EB + 1) :=
  REL_op (FC := fun w => F_X1_withdraw w 0 x) (FM := fun w => F_X12_scratch w x) hW (fun S hI hR => OK_scratch hI hR x)
theorem REL_set (hW : REL w EB) (x y : Int32) : ∃ r w' w'', F_X11_set w x y = some (r, w') ∧ F_X12_set w' x y = some (r, w'') ∧ REL w'' (EB + 1) :=
  REL_op (FC := fun w => F_X1_changeSetting w 0 x y) (FM := fun w => F_X12_set w x y) hW (fun S hI _ => OK_set hI x y)
theorem REL_draw (hW : REL w EB) : ∃ r w' w'', F_X11_draw w = some (r, w') ∧ F_X12_draw w' = some (r, w'') ∧ REL w'' (EB + 1) :=
  REL_op (FC := fun w => F_X1_drawHeats w 0) (FM := F_X12_draw) hW (fun S hI _ => OK_draw hI)
theorem REL_swim (hW : REL w EB) (x y : Int32) : ∃ r w' w'', F_X11_swim w x y = some (r, w') ∧ F_X12_swim w' x y = some (r, w'') ∧ REL w'' (EB + 1) :=
  REL_op (FC := fun w => F_X1_giveTime w 0 x y) (FM := fun w => F_X12_swim w x y) hW (fun S hI _ => OK_swim hI x y)
theorem REL_finals (hW : REL w EB) : ∃ r w' w'', F_X11_finals w = some (r, w') ∧ F_X12_finals w' = some (r, w'') ∧ REL w'' (EB + 1) :=
  REL_op (FC := fun w => F_X1_drawFinal w 0) (FM := F_X12_finals) hW (fun S hI _ => OK_finals hI)
theorem REL_end (hW : REL w EB) : ∃ r w' w'', F_X11_end w = some (r, w') ∧ F_X12_end w' = some (r, w'') ∧ REL w'' (EB + 1) :=
  REL_op (FC := fun w => F_X1_endEvent w 0) (FM := F_X12_end) hW (fun S hI _ => OK_end hI)
theorem REL_next (hW : REL w EB) : ∃ r w' w'', F_X11_next w = some (r, w') ∧ F_X12_next w' = some (r, w'') ∧ REL w'' (EB + 1) :=
  REL_op (FC := fun w => F_X1_beginNextEvent w 0) (FM := F_X12_next) hW (fun S hI _ => OK_next hI)
theorem REL.mono {EB' : Nat} (hW : REL w EB) (h : EB ≤ EB') : REL w EB' := by
  obtain ⟨S, K, ρ, R, T, hI, hC, hR, hS, h04, ⟨hH, hp, hk⟩, hT⟩ := hW
  exact ⟨S, K, ρ, R, T, hI.mono h, hC, hR, hS, h04, ⟨hH, hp, fun j hj => ⟨(hk j hj).1, (hk j hj).2.1, (hk j hj).2.2.1.mono h, (hk j hj).2.2.2⟩⟩, hT⟩
theorem REL_points (hW : REL w EB) (x : Int32) : QQ (F_X11_points w x) (F_X12_points w x) := by
  obtain ⟨S, K, ρ, R, T, hI, hC, hR, hS, h04, hK, hT⟩ := hW
  exact Q_points hI hC hS x
theorem REL_missing (hW : REL w EB) (x : Int32) : QQ (F_X11_missing w x) (F_X12_missing w x) := by
  obtain ⟨S, K, ρ, R, T, hI, hC, hR, hS, h04, hK, hT⟩ := hW
  exact Q_missing hI hC hS x
theorem REL_why (hW : REL w EB) : QQ (F_X11_why w) (F_X12_why w) := by
  obtain ⟨S, K, ρ, R, T, hI, hC, hR, hS, h04, hK, hT⟩ := hW
  exact Q_why hI hC hS
theorem REL_reserve (hW : REL w EB) (x : Int32) : QQ (F_X11_reserve w x) (F_X12_reserve w x) := by
  obtain ⟨S, K, ρ, R, T, hI, hC, hR, hS, h04, hK, hT⟩ := hW
  exact Q_reserve hI hC hR hS x
theorem REL_lane (hW : REL w EB) (x y : Int32) : QQ (F_X11_lane w x y) (F_X12_lane w x y) := by
  obtain ⟨S, K, ρ, R, T, hI, hC, hR, hS, h04, hK, hT⟩ := hW
  exact Q_lane hI hC hS x y
theorem REL_swimmer (hW : REL w EB) (x y : Int32) : QQ (F_X11_swimmer w x y) (F_X12_swimmer w x y) := by
  obtain ⟨S, K, ρ, R, T, hI, hC, hR, hS, h04, hK, hT⟩ := hW
  exact Q_swimmer hI hC hS x y
theorem REL_at (hW : REL w EB) (x y : Int32) : QQ (F_X11_at w x y) (F_X12_at w x y) := by
  obtain ⟨S, K, ρ, R, T, hI, hC, hR, hS, h04, hK, hT⟩ := hW
  exact Q_at hI hC hS x y
theorem REL_heat (hW : REL w EB) (x y : Int32) : QQ (F_X11_heat w x y) (F_X12_heat w x y) := by
  obtain ⟨S, K, ρ, R, T, hI, hC, hR, hS, h04, hK, hT⟩ := hW
  exact Q_heat hI hC hS x y
theorem REL_leader (hE : EB ≤ 100000) (hW : REL w EB) (x : Int32) : QQ (F_X11_leader w x) (F_X12_leader w x) := by
  obtain ⟨S, K, ρ, R, T, hI, hC, hR, hS, h04, hK, hT⟩ := hW
  exact Q_leader hI hE hC hS x
theorem REL_count (hW : REL w EB) (x : Int32) : QQ (F_X11_count w x) (F_X12_count w x) := by
  obtain ⟨S, K, ρ, R, T, hI, hC, hR, hS, h04, hK, hT⟩ := hW
  exact Q_count hI hC hR hS (hK.1.2.1.trans hK.2.1.symm) (hT.2.1.trans hT.2.2.1.symm) x
end RELS
end
section
/-! level 2: the model's copies -/
theorem M_copies {w : gWd} {r0 r1 : Nat} (h : r0 ≠ r1) : ∃ w', F_X12_copies w r0 r1 = some w' ∧ (∀ a b, ¬ (a = 8 ∧ b = r1) → w' a b = w a b) ∧ ∀ t, t < 320 → w' 8 r1 t = w 8 r0 t := by
  unfold F_X12_copies
  refine loopI (F := fun fu (u : gWd) j => F_X12_copies_2 fu u r0 r1 (nI j)) 320 (fun j u => (∀ a b, ¬ (a = 8 ∧ b = r1) → u a b = w a b) ∧ ∀ t, t < j → u 8 r1 t = w 8 r0 t) (fun o => ∃ w', o = some w' ∧ (∀ a b, ¬ (a = 8 ∧ b = r1) → w' a b = w a b) ∧ ∀ t, t < 320 → w' 8 r1 t = w 8 r0 t) ?_ ?_ gFU w 0 (by omega) (gFU_lt (by omega)) ⟨fun _ _ _ => rfl, fun t ht => absurd ht (Nat.not_lt_zero t)⟩
  · intro fu u hu
    refine ⟨u, ?_, hu.1, hu.2⟩
    show F_X12_copies_2 (fu + 1) u r0 r1 (nI 320) = _
    rw [F_X12_copies_2_s, if_pos (by decide)]
  · intro fu u j hj hu
    right
    have e1 : u 8 r0 = w 8 r0 := hu.1 8 r0 (fun z => h z.2)
    refine ⟨up3 u 8 r1 j (u 8 r0 j), ⟨fun a b hab => ?_, fun t ht => ?_⟩, ?_⟩
    · rw [up3_r hab]; exact hu.1 a b hab
    · by_cases e : t = j
      · subst e; rw [up3_s, e1]
      · rw [up3_n (by omega)]; exact hu.2 t (by omega)
    · show F_X12_copies_2 (fu + 1) u r0 r1 (nI j) = F_X12_copies_2 fu (up3 u 8 r1 j (u 8 r0 j)) r0 r1 (nI (j + 1))
      rw [F_X12_copies_2_s, show (320 : Int32) = nI 320 from rfl, iLe (by omega) (by omega), if_neg (by omega), gB_n _ (by omega) (by omega), gB_n _ (by omega) (by omega), gS_e, gS_e, nI_1]
end
section
/-! level 2: the signs of the text -/
def TX (w : gWd) (T : Nat) (c : Nat → Nat) : Prop := T ≤ 60 ∧ w 7 3 1 = nI T ∧ w 8 0 6 = nI T ∧ ∀ k, k < T → 32 ≤ c k ∧ c k ≤ 126 ∧ w 7 4 k = nI (c k) ∧ w 8 4 k = nI (c k)
def sg (T : Nat) (c : Nat → Nat) (p : Nat) : Nat := if p < T then c p else 0
theorem C_signHere {w : gWd} {T p : Nat} {c : Nat → Nat} (h : TX w T c) (hp : w 7 3 3 = nI p) (hp2 : p ≤ 1000) : F_X6_signHere w = some (nI (sg T c p)) := by
  obtain ⟨t1, t2, t3, t4⟩ := h
  unfold F_X6_signHere F_X6_signHere_39 sg
  rw [hp, iL0 (by omega), t2, iLe (by omega) (by omega), show (60 : Int32) = nI 60 from rfl, iLe (by omega) (by omega)]
  by_cases e : p < T
  · rw [if_neg (by omega), if_neg (by omega), if_pos e, gB_n _ (by omega) (by omega), (t4 p e).2.2.1]
  · rw [if_pos (by omega), if_neg e]
    rfl
theorem C_hasMore {w : gWd} {T p : Nat} {c : Nat → Nat} (h : TX w T c) (hp : w 7 3 3 = nI p) (hp2 : p ≤ 1000) : F_X6_hasMore w = some (nI (if p < T then 1 else 0)) := by
  obtain ⟨t1, t2, t3, t4⟩ := h
  unfold F_X6_hasMore
  rw [hp, t2, iLe (by omega) (by omega)]
  by_cases e : p < T
  · rw [if_neg (by omega), if_pos e]; rfl
  · rw [if_pos (by omega), if_neg e]; rfl
theorem M_isAt {w : gWd} {T p a b : Nat} {c : Nat → Nat} (h : TX w T c) (hp : w 8 0 8 = nI p) (hp2 : p ≤ 1000) (ha : 1 ≤ a ∧ a < 1000) (hb : b < 1000) : F_X12_isAt w (nI a) (nI b) = some (nI (if a ≤ sg T c p ∧ sg T c p ≤ b then 1 else 0)) := by
  obtain ⟨t1, t2, t3, t4⟩ := h
  unfold F_X12_isAt F_X12_isAt_32 sg
  rw [hp, t3, iLe (by omega) (by omega)]
  by_cases e : p < T
  · obtain ⟨k1, k2, k3, k4⟩ := t4 p e
    rw [if_neg (by omega), if_pos e, gB_n _ (by omega) (by omega), k4, M_in, gP_s, iLt (by omega) (by omega), iLt (by omega) (by omega)]
    by_cases x : c p < a
    · rw [if_pos x, if_pos rfl, if_neg (by omega)]; rfl
    · rw [if_neg x]
      by_cases y : b < c p
      · rw [if_pos y, if_pos rfl, if_neg (by omega)]; rfl
      · rw [if_neg y, if_neg (by decide), if_pos (by omega)]; rfl
  · rw [if_pos (by omega), if_neg e, if_neg (by omega)]
    rfl
end
section
/-! level 2: numbers of the text -/
def dg (T : Nat) (c : Nat → Nat) (p : Nat) : Bool := decide (48 ≤ sg T c p ∧ sg T c p ≤ 57)
def num (T : Nat) (c : Nat → Nat) (p : Nat) : Nat → Nat
  | 0 => 0
  | d + 1 => 10 * num T c p d + (sg T c (p + d) - 48)
theorem C_number {w : gWd} {T p d : Nat} {c : Nat → Nat} (h : TX w T c) (hp : w 7 3 3 = nI p) (hp2 : p ≤ 500) (hd : d ≤ 3) (h1 : ∀ k, k < d → dg T c (p + k) = true) (h2 : d = 3 ∨ ¬ dg T c (p + d) = true) : ∃ w', F_X6_readNumber w = some (if d = 0 then 0 else 1, w') ∧ (∀ a b e, ¬ (a = 7 ∧ b = 3 ∧ (e = 3 ∨ e = 7)) → w' a b e = w a b e) ∧ w' 7 3 3 = nI (p + d) ∧ w' 7 3 7 = nI (num T c p d) := by
  unfold F_X6_readNumber
  rw [gS_e]
  have hTX : ∀ u : gWd, (∀ a b e, ¬ (a = 7 ∧ b = 3 ∧ (e = 3 ∨ e = 7)) → u a b e = w a b e) → TX u T c := fun u hu => by
    obtain ⟨t1, t2, t3, t4⟩ := h
    exact ⟨t1, by rw [hu 7 3 1 (by omega)]; exact t2, by rw [hu 8 0 6 (by omega)]; exact t3, fun k hk => by rw [hu 7 4 k (by omega), hu 8 4 k (by omega)]; exact t4 k hk⟩
  have hend : ∀ u : gWd, F_X6_readNumber_65 u (nI d) = some (if d = 0 then 0 else 1, u) := fun u => by
    unfold F_X6_readNumber_65
    rw [iLe0 (by omega)]
    by_cases e : d = 0
    · rw [if_pos e, if_pos e]
    · rw [if_neg e, if_neg e]
  refine loopI (F := fun fu (u : gWd) j => F_X6_readNumber_7 fu u (nI j)) d (fun j u => (∀ a b e, ¬ (a = 7 ∧ b = 3 ∧ (e = 3 ∨ e = 7)) → u a b e = w a b e) ∧ u 7 3 3 = nI (p + j) ∧ u 7 3 7 = nI (num T c p j)) (fun o => ∃ w', o = some (if d = 0 then 0 else 1, w') ∧ (∀ a b e, ¬ (a = 7 ∧ b = 3 ∧ (e = 3 ∨ e = 7)) → w' a b e = w a b e) ∧ w' 7 3 3 = nI (p + d) ∧ w' 7 3 7 = nI (num T c p d)) ?_ ?_ gFU _ 0 (by omega) (gFU_lt (by omega)) ⟨fun a b e he => up3_n (by omega), by rw [up3_n (by omega)]; exact hp, up3_s _ _ _ _ _⟩
  · intro fu u hu
    refine ⟨u, ?_, hu.1, hu.2.1, hu.2.2⟩
    show F_X6_readNumber_7 (fu + 1) u (nI d) = _
    rw [F_X6_readNumber_7_s, show (3 : Int32) = nI 3 from rfl, iLe (by omega) (by omega), C_signHere (hTX u hu.1) hu.2.1 (by omega), gP_s, gP_s, gP_s, show (48 : Int32) = nI 48 from rfl, show (57 : Int32) = nI 57 from rfl]
    have hsg : sg T c (p + d) < 1000 := by
      unfold sg
      split
      · rename_i e; have := h.2.2.2 _ e; omega
      · omega
    by_cases e : d = 3
    · rw [if_pos (by omega)]; exact hend u
    · rw [if_neg (by omega), iLt (by omega) (by omega), iLt (by omega) (by omega)]
      have hn : ¬ dg T c (p + d) = true := h2.resolve_left e
      by_cases x : sg T c (p + d) < 48
      · rw [if_pos x]; exact hend u
      · have : 57 < sg T c (p + d) := by
          rcases Nat.lt_or_ge 57 (sg T c (p + d)) with y | y
          · exact y
          · exact absurd (decide_eq_true ⟨by omega, y⟩) hn
        rw [if_neg x, if_pos this]; exact hend u
  · intro fu u j hj hu
    right
    have hdg := of_decide_eq_true (h1 j hj)
    refine ⟨up3 (up3 u 7 3 7 (nI (num T c p (j + 1)))) 7 3 3 (nI (p + (j + 1))), ⟨fun a b e he => ?_, up3_s _ _ _ _ _, by rw [up3_n (by omega), up3_s]⟩, ?_⟩
    · rw [up3_n (by omega), up3_n (by omega)]; exact hu.1 a b e he
    · show F_X6_readNumber_7 (fu + 1) u (nI j) = F_X6_readNumber_7 fu (up3 (up3 u 7 3 7 (nI (num T c p (j + 1)))) 7 3 3 (nI (p + (j + 1)))) (nI (j + 1))
      have hv : (u 7 3 7 * 10 + nI (sg T c (p + j))) - 48 = nI (num T c p (j + 1)) := by
        rw [hu.2.2, show (10 : Int32) = nI 10 from rfl, pk_mul, nI_add, show (48 : Int32) = nI 48 from rfl, pk_sub (by omega)]
        show _ = nI (10 * num T c p j + (sg T c (p + j) - 48))
        congr 1
        omega
      rw [F_X6_readNumber_7_s, show (3 : Int32) = nI 3 from rfl, iLe (by omega) (by omega), if_neg (by omega), C_signHere (hTX u hu.1) hu.2.1 (by omega), gP_s, gP_s, gP_s, if_neg (show ¬ nI (sg T c (p + j)) < 48 from nI_nlt (b := 48) hdg.1 (by omega)), if_neg (show ¬ 57 < nI (sg T c (p + j)) from nI_nlt (a := 57) hdg.2 (by omega)), gS_e, gS_e, gS_e, hv, up3_n (w := u) (by omega), hu.2.1, nI_1, nI_1]
      rfl
end
section
/-! level 2: the model reads numbers -/
theorem M_number {w : gWd} {T p d q : Nat} {c : Nat → Nat} (h : TX w T c) (hp : w 8 0 8 = nI p) (hp2 : p ≤ 500) (hq : q < 2) (hd : d ≤ 3) (h1 : ∀ k, k < d → dg T c (p + k) = true) (h2 : d = 3 ∨ ¬ dg T c (p + d) = true) : ∃ w', F_X12_numbered w (nI q) = some (if d = 0 then 0 else 1, w') ∧ (∀ a b e, ¬ (a = 8 ∧ ((b = 0 ∧ e = 8) ∨ (b = 6 ∧ e = q))) → w' a b e = w a b e) ∧ w' 8 0 8 = nI (p + d) ∧ w' 8 6 q = nI (num T c p d) := by
  unfold F_X12_numbered
  rw [gS_e, hp, gB_n _ hq (by omega), gS_e]
  have hTX : ∀ u : gWd, (∀ a b e, ¬ (a = 8 ∧ ((b = 0 ∧ e = 8) ∨ (b = 6 ∧ e = q))) → u a b e = w a b e) → TX u T c := fun u hu => by
    obtain ⟨t1, t2, t3, t4⟩ := h
    exact ⟨t1, by rw [hu 7 3 1 (by omega)]; exact t2, by rw [hu 8 0 6 (by omega)]; exact t3, fun k hk => by rw [hu 7 4 k (by omega), hu 8 4 k (by omega)]; exact t4 k hk⟩
  have hend : ∀ u : gWd, u 8 0 8 = nI (p + d) → F_X12_numbered_74 u (nI p) = some (if d = 0 then 0 else 1, u) := fun u hu => by
    unfold F_X12_numbered_74
    rw [hu, iLe (by omega) (by omega)]
    by_cases e : d = 0
    · rw [if_pos (by omega), if_pos e]
    · rw [if_neg (by omega), if_neg e]
  refine loopI (F := fun fu (u : gWd) _ => F_X12_numbered_12 fu u (nI q) (nI p)) d (fun j u => (∀ a b e, ¬ (a = 8 ∧ ((b = 0 ∧ e = 8) ∨ (b = 6 ∧ e = q))) → u a b e = w a b e) ∧ u 8 0 8 = nI (p + j) ∧ u 8 6 q = nI (num T c p j)) (fun o => ∃ w', o = some (if d = 0 then 0 else 1, w') ∧ (∀ a b e, ¬ (a = 8 ∧ ((b = 0 ∧ e = 8) ∨ (b = 6 ∧ e = q))) → w' a b e = w a b e) ∧ w' 8 0 8 = nI (p + d) ∧ w' 8 6 q = nI (num T c p d)) ?_ ?_ gFU _ 0 (by omega) (gFU_lt (by omega)) ⟨fun a b e he => up3_n (by omega), by rw [up3_n (by omega)]; exact hp, up3_s _ _ _ _ _⟩
  · intro fu u hu
    refine ⟨u, ?_, hu.1, hu.2.1, hu.2.2⟩
    show F_X12_numbered_12 (fu + 1) u (nI q) (nI p) = _
    rw [F_X12_numbered_12_s, show (48 : Int32) = nI 48 from rfl, show (57 : Int32) = nI 57 from rfl, M_isAt (hTX u hu.1) hu.2.1 (by omega) (by omega) (by omega), gP_s]
    by_cases e : 48 ≤ sg T c (p + d) ∧ sg T c (p + d) ≤ 57
    · have e3 : d = 3 := h2.resolve_right (fun z => z (decide_eq_true e))
      rw [if_pos e, iE0 (by omega), if_neg (by omega), hu.2.1, pk_sub (by omega), show (3 : Int32) = nI 3 from rfl, iLe (by omega) (by omega), if_pos (by omega)]
      exact hend u hu.2.1
    · rw [if_neg e, iE0 (by omega), if_pos rfl]
      exact hend u hu.2.1
  · intro fu u j hj hu
    right
    have hdg := of_decide_eq_true (h1 j hj)
    have hT : p + j < T := by
      rcases Nat.lt_or_ge (p + j) T with z | z
      · exact z
      · unfold sg at hdg; rw [if_neg (by omega)] at hdg; omega
    have h60 := h.1
    have hs : sg T c (p + j) = c (p + j) := if_pos hT
    have e84 : u 8 4 (p + j) = nI (c (p + j)) := by rw [hu.1 8 4 _ (by omega)]; exact (h.2.2.2 _ hT).2.2.2
    refine ⟨up3 (up3 u 8 6 q (nI (num T c p (j + 1)))) 8 0 8 (nI (p + (j + 1))), ⟨fun a b e he => ?_, up3_s _ _ _ _ _, by rw [up3_n (by omega), up3_s]⟩, ?_⟩
    · rw [up3_n (by omega), up3_n (by omega)]; exact hu.1 a b e he
    · show F_X12_numbered_12 (fu + 1) u (nI q) (nI p) = F_X12_numbered_12 fu (up3 (up3 u 8 6 q (nI (num T c p (j + 1)))) 8 0 8 (nI (p + (j + 1)))) (nI q) (nI p)
      have hv : ((10 : Int32) * u 8 6 q + u 8 4 (p + j)) - 48 = nI (num T c p (j + 1)) := by
        rw [hu.2.2, e84, show (10 : Int32) = nI 10 from rfl, pk_mul, nI_add, show (48 : Int32) = nI 48 from rfl, pk_sub (by omega)]
        show _ = nI (10 * num T c p j + (sg T c (p + j) - 48))
        congr 1
        omega
      have hat := M_isAt (a := 48) (b := 57) (hTX u hu.1) hu.2.1 (by omega) (by omega) (by omega)
      rw [if_pos hdg] at hat
      rw [F_X12_numbered_12_s, show F_X12_isAt u 48 57 = _ from hat, gP_s, if_neg (show ¬ nI 1 = 0 by decide), hu.2.1, pk_sub (by omega), show (3 : Int32) = nI 3 from rfl, iLe (by omega) (by omega), if_neg (by omega), gB_n _ hq (by omega), gB_n _ (by omega) (by omega), gB_n _ hq (by omega), gS_e, gS_e, hv, up3_n (w := u) (by omega), hu.2.1, nI_1]
      rfl
end
