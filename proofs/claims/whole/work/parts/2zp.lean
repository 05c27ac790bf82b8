/-! level 2: floats between 1 and 2^16 -/
def fD (x : UInt32) (c : Nat) (q : Int) : Prop := FP.Core.val32 x = .fin false c q ∧ 2 ^ 23 ≤ c ∧ c < 2 ^ 24 ∧ -60 ≤ q ∧ q ≤ 60
theorem b32v : FP.Core.b32.p = 24 ∧ FP.Core.b32.qmin = -149 ∧ FP.Core.b32.qmax = 104 ∧ FP.Core.b32.tails = 2 ^ 23 ∧ FP.Core.b32.exps = 256 := by decide
theorem fits_n {c : Nat} {q : Int} (h1 : 2 ^ 23 ≤ c) (h2 : c < 2 ^ 24) (h3 : -149 ≤ q) (h4 : q ≤ 104) : FP.Core.fits FP.Core.b32 (.fin false c q) := by
  obtain ⟨a, b, d, e, f⟩ := b32v
  show c < 2 ^ FP.Core.b32.p ∧ FP.Core.b32.qmin ≤ q ∧ q ≤ FP.Core.b32.qmax ∧ (q = FP.Core.b32.qmin ∨ FP.Core.b32.tails ≤ c)
  rw [a, b, d, e]
  exact ⟨h2, h3, h4, Or.inr h1⟩
theorem fD_bits {x : UInt32} {c : Nat} {q : Int} (h : fD x c q) : x.toNat = ((q + 149).toNat + 1) * 2 ^ 23 + (c - 2 ^ 23) := by
  obtain ⟨h1, h2, h3, h4, h5⟩ := h
  obtain ⟨a, b, d, e, f⟩ := b32v
  have hx : x = FP.Core.of32 (.fin false c q) := by rw [← h1, FP.Core.of32_val32 (by rw [h1]; exact fun z => FP.Core.Datum.noConfusion z)]
  rw [hx, FP.Core.toNat_of32 (fits_n h2 h3 (by omega) (by omega))]
  show (if c < FP.Core.b32.tails then FP.Core.assemble FP.Core.b32 false 0 c else FP.Core.assemble FP.Core.b32 false ((q - FP.Core.b32.qmin).toNat + 1) (c - FP.Core.b32.tails)) = _
  rw [e, if_neg (by omega), b]
  show (0 * FP.Core.b32.exps + ((q - -149).toNat + 1)) * FP.Core.b32.tails + (c - 2 ^ 23) = _
  rw [e, show q - -149 = q + 149 by omega]
  omega
theorem fD_lt {x : UInt32} {c : Nat} {q : Int} (h : fD x c q) : x.toNat < 2139095040 := by
  have := fD_bits h
  obtain ⟨h1, h2, h3, h4, h5⟩ := h
  omega
theorem gN_lt {α : Type} {v : UInt32} {x : Option α} (h : v.toNat ≤ 2139095040) : gN v x = x := by
  unfold gN
  rw [if_pos]
  rw [UInt32.le_iff_toNat_le, UInt32.toNat_and]
  exact Nat.le_trans Nat.and_le_left h
/-- rounding a sum of bits that fits -/
theorem fx_ratio {A B c : Nat} {e q : Int} (hB : 0 < B) (h1 : 2 ^ 23 ≤ c) (h2 : c < 2 ^ 24) (h3 : -149 ≤ q) (h4 : q ≤ 104) (h : A * 2 ^ (e - q).toNat = c * B * 2 ^ (q - e).toNat) : FP.Core.roundRatio FP.Core.b32 false A B e = .fin false c q := FP.Core.roundRatio_exact FP.Core.good_b32 hB (fits_n h1 h2 h3 h4) h
theorem v_two : FP.Core.val32 FP.fconst2 = .fin false (2 ^ 23) (-22) := by decide +kernel
theorem v_one : FP.Core.val32 FP.fconst1 = .fin false (2 ^ 23) (-23) := by decide +kernel
theorem v_big : FP.Core.val32 1258291200 = .fin false (2 ^ 23) 0 := by decide +kernel
theorem f_half {x : UInt32} {c : Nat} {q : Int} (h : fD x c q) (hq : -50 ≤ q) : fD (FP.fdiv x FP.fconst2) c (q - 1) := by
  obtain ⟨h1, h2, h3, h4, h5⟩ := h
  refine ⟨?_, h2, h3, by omega, by omega⟩
  rw [show FP.fdiv x FP.fconst2 = FP.Core.fdiv x FP.fconst2 from rfl, FP.Core.val32_fdiv, h1, v_two]
  show (if 2 ^ 23 = 0 then (if c = 0 then FP.Core.Datum.nan else .inf (false != false)) else FP.Core.roundRatio FP.Core.b32 (false != false) c (2 ^ 23) (q - -22)) = _
  rw [if_neg (by omega)]
  refine fx_ratio (by omega) h2 h3 (by omega) (by omega) ?_
  rw [show (q - -22 - (q - 1)).toNat = 23 by omega, show (q - 1 - (q - -22)).toNat = 0 by omega]
  omega
theorem f_lt2 {x : UInt32} {c : Nat} {q : Int} (h : fD x c q) (hq : -23 ≤ q) : Op.cmpValue (FP.fcmp x FP.fconst2) .l < 0 ↔ q = -23 := by
  obtain ⟨h1, h2, h3, h4, h5⟩ := h
  have e : FP.fcmp x FP.fconst2 = some (compare (FP.Core.signed false (FP.Core.inUnits c q (min q (-22)))) (FP.Core.signed false (FP.Core.inUnits (2 ^ 23) (-22) (min q (-22))))) := by
    show FP.Core.order (FP.Core.val32 x) (FP.Core.val32 FP.fconst2) = _
    rw [h1, v_two]
    rfl
  rw [e]
  unfold FP.Core.signed FP.Core.inUnits
  simp only [Bool.false_eq_true, if_false]
  by_cases z : q = -23
  · subst z
    have : compare ((c * 2 ^ ((-23 : Int) - min (-23) (-22)).toNat : Nat) : Int) ((2 ^ 23 * 2 ^ ((-22 : Int) - min (-23) (-22)).toNat : Nat) : Int) = .lt := by
      rw [Int.compare_eq_lt]
      have a1 : ((-23 : Int) - min (-23) (-22)).toNat = 0 := by decide
      have a2 : ((-22 : Int) - min (-23) (-22)).toNat = 1 := by decide
      rw [a1, a2]
      omega
    rw [this]
    exact ⟨fun _ => rfl, fun _ => by decide⟩
  · have hm : min q (-22) = -22 := by omega
    have hne : compare ((c * 2 ^ (q - min q (-22)).toNat : Nat) : Int) ((2 ^ 23 * 2 ^ ((-22 : Int) - min q (-22)).toNat : Nat) : Int) ≠ .lt := by
      rw [hm, Ne, Int.compare_eq_lt]
      have a2 : ((-22 : Int) - -22).toNat = 0 := by decide
      have a3 : c * 1 ≤ c * 2 ^ (q - -22).toNat := Nat.mul_le_mul_left c (Nat.two_pow_pos _)
      rw [a2]
      omega
    refine ⟨fun y => ?_, fun y => absurd y z⟩
    generalize compare ((c * 2 ^ (q - min q (-22)).toNat : Nat) : Int) ((2 ^ 23 * 2 ^ ((-22 : Int) - min q (-22)).toNat : Nat) : Int) = o at hne y
    rcases o with _ | _ | _
    · exact absurd rfl hne
    · exact absurd y (by decide)
    · exact absurd y (by decide)
