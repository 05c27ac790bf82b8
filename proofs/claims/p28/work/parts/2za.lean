/-! level 2: the whole relation, a changing order -/
/-- the class's way through its history -/
def FCC (FC : gWd → Option (Int32 × gWd)) (w : gWd) : Option (Int32 × gWd) := gP (F_X3_prepare w 0) (fun w_2 => gC (FC w_2) (fun v_4 w_5 => gC (F_X3_keepUnlessError w_5 v_4) (fun v_7 w_8 => some (v_7, w_8))))
