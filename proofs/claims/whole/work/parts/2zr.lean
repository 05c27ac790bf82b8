/-! level 2: the bits of a float, as the class makes them and as the library tells them -/
theorem nI_bv {a : Nat} (h : a < 2 ^ 31) : (nI a).toBitVec.toNat = a := by
  show (BitVec.ofInt 32 (a : Int)).toNat = a
  rw [BitVec.toNat_ofInt]; omega
theorem bits_or {a t : Nat} (ha : a < 256) (ht : t < 2 ^ 23) {x : UInt32} (hx : x.toNat = a * 2 ^ 23 + t) : (nI a <<< (23 &&& 31 : Int32)) ||| nI t = x.toInt32 := by
  apply Int32.toBitVec_inj.mp
  rw [Int32.toBitVec_or]
  apply BitVec.eq_of_toNat_eq
  rw [BitVec.toNat_or, show (nI a <<< (23 &&& 31 : Int32)).toBitVec = (nI a).toBitVec <<< 23 from rfl, BitVec.toNat_shiftLeft, nI_bv (by omega), nI_bv (by omega)]
  rw [Nat.shiftLeft_eq, Nat.mod_eq_of_lt (by omega), ← Nat.shiftLeft_eq, ← Nat.shiftLeft_add_eq_or_of_lt ht, Nat.shiftLeft_eq]
  exact hx.symm
theorem C_bits26 {w : gWd} {x y : UInt32} {c J : Nat} (hy : fD y c (-23)) (hJ : J ≤ 30) (hx : x.toNat = (J + 127) * 2 ^ 23 + (c - 2 ^ 23)) : F_X0_bitsOf_26 w y (nI J) = some x.toInt32 := by
  obtain ⟨a1, a2, a3⟩ := f_frac hy
  unfold F_X0_bitsOf_26
  rw [gN_lt a1, gN_lt a2, a3, show (127 : Int32) = nI 127 from rfl, nI_add]
  have := hy.2.2.1
  have := hy.2.1
  rw [bits_or (by omega) (by omega) hx]
theorem C_bits4 {w : gWd} {x : UInt32} {c J0 : Nat} (hJ0 : J0 ≤ 20) (hx : x.toNat = (J0 + 127) * 2 ^ 23 + (c - 2 ^ 23)) : ∀ (d fu J : Nat) (y : UInt32), J + d = J0 → d < fu → fD y c ((d : Int) - 23) → F_X0_bitsOf_4 fu w y (nI J) = some x.toInt32 := by
  intro d
  induction d with
  | zero =>
    intro fu J y hJ hfu hy
    obtain ⟨fu, rfl⟩ : ∃ f, fu = f + 1 := ⟨fu - 1, by omega⟩
    have hy' : fD y c (-23) := hy
    have hlt := (f_lt2 hy' (by omega)).mpr rfl
    have : J = J0 := by omega
    subst this
    rw [F_X0_bitsOf_4_s, if_pos hlt]
    exact C_bits26 hy' (by omega) hx
  | succ d ih =>
    intro fu J y hJ hfu hy
    obtain ⟨fu, rfl⟩ : ∃ f, fu = f + 1 := ⟨fu - 1, by omega⟩
    have hlt : ¬ Op.cmpValue (FP.fcmp y FP.fconst2) .l < 0 := fun z => by
      have := (f_lt2 hy (by omega)).mp z
      omega
    have hh := f_half hy (by omega)
    rw [F_X0_bitsOf_4_s, if_neg hlt, show (30 : Int32) = nI 30 from rfl, iLe (by omega) (by omega), if_neg (by omega), gN_lt (Nat.le_of_lt (fD_lt hh)), gS_e, gS_e, nI_1]
    exact ih fu (J + 1) _ (by omega) (by omega) (by rw [show ((d : Int) - 23) = (((d + 1 : Nat) : Int) - 23) - 1 by omega]; exact hh)
theorem C_bits {w : gWd} {x : UInt32} {c : Nat} {q : Int} (h : fD x c q) (h1 : -23 ≤ q) (h2 : q ≤ -7) : F_X0_bitsOf w x = some x.toInt32 := by
  have hb := fD_bits h
  unfold F_X0_bitsOf
  exact C_bits4 (J0 := (q + 23).toNat) (c := c) (by omega) (by rw [hb]; congr 2; omega) (q + 23).toNat gFU 0 x (by omega) (by unfold gFU; omega) (by rw [show (((q + 23).toNat : Nat) : Int) - 23 = q by omega]; exact h)
theorem M_bits {w : gWd} {x : UInt32} {c : Nat} {q : Int} (h : fD x c q) : F_Jxf58ca_floatToIntBits_5c35a w x = some x.toInt32 := by
  unfold F_Jxf58ca_floatToIntBits_5c35a F_Jxf58ca_isNaN_12338
  have e : FP.fcmp x x = some .eq := by
    show FP.Core.order (FP.Core.val32 x) (FP.Core.val32 x) = _
    rw [h.1]
    show some (compare (FP.Core.signed false (FP.Core.inUnits c q (min q q))) (FP.Core.signed false (FP.Core.inUnits c q (min q q)))) = _
    rw [show compare (FP.Core.signed false (FP.Core.inUnits c q (min q q))) (FP.Core.signed false (FP.Core.inUnits c q (min q q))) = .eq from Int.compare_eq_eq.mpr rfl]
  rw [e, show Op.cmpValue (some Ordering.eq) .l = 0 from rfl, if_pos rfl, gP_s, if_pos rfl]
