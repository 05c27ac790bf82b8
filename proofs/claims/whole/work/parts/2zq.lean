/-! level 2: floats of whole numbers, their quotients, what stands behind the point -/
theorem f_whole {n : Nat} (h1 : 1 ≤ n) (h2 : n < 2 ^ 23) : ∃ j : Nat, j ≤ 23 ∧ 2 ^ 23 ≤ n * 2 ^ j ∧ n * 2 ^ j < 2 ^ 24 := by
  have l1 : 2 ^ n.log2 ≤ n := Nat.log2_self_le (by omega)
  have l2 : n < 2 ^ (n.log2 + 1) := Nat.lt_log2_self
  have l3 : n.log2 < 23 := (Nat.pow_lt_pow_iff_right (by decide : 1 < 2)).mp (Nat.lt_of_le_of_lt l1 h2)
  generalize n.log2 = L at l1 l2 l3
  refine ⟨23 - L, by omega, ?_, ?_⟩
  · calc 2 ^ 23 = 2 ^ (L + (23 - L)) := by congr 1; omega
      _ = 2 ^ L * 2 ^ (23 - L) := Nat.pow_add ..
      _ ≤ n * 2 ^ (23 - L) := Nat.mul_le_mul_right _ l1
  · calc n * 2 ^ (23 - L) < 2 ^ (L + 1) * 2 ^ (23 - L) := Nat.mul_lt_mul_of_pos_right l2 (Nat.two_pow_pos _)
      _ = 2 ^ (L + 1 + (23 - L)) := (Nat.pow_add ..).symm
      _ = 2 ^ 24 := by congr 1; omega
theorem f_i2f {n : Nat} (h1 : 1 ≤ n) (h2 : n < 2 ^ 23) : ∃ j : Nat, j ≤ 23 ∧ fD (FP.i2f (nI n)) (n * 2 ^ j) (-(j : Int)) := by
  obtain ⟨j, j1, j2, j3⟩ := f_whole h1 h2
  refine ⟨j, j1, ?_, j2, j3, by omega, by omega⟩
  rw [show FP.i2f (nI n) = FP.Core.i2f (nI n) from rfl, FP.Core.val32_i2f, nI_toInt (by omega)]
  unfold FP.Core.ofInt
  rw [show decide ((n : Int) < 0) = false from decide_eq_false (by omega)]
  show FP.Core.roundRatio FP.Core.b32 false (n : Int).natAbs 1 0 = _
  refine fx_ratio (by omega) j2 j3 (by omega) (by omega) ?_
  rw [show (n : Int).natAbs = n by omega, show ((0 : Int) - -(j : Int)).toNat = j by omega, show (-(j : Int) - 0).toNat = 0 by omega]
  omega
theorem f_rat {s n : Nat} (h1 : 1 ≤ n) (h2 : n ≤ s) (h3 : s < 2 ^ 15) : ∃ c q, FP.Core.roundRatio FP.Core.b32 false s n 0 = .fin false c q ∧ 2 ^ 23 ≤ c ∧ c < 2 ^ 24 ∧ -23 ≤ q ∧ q ≤ -7 := by
  obtain ⟨b1, b2, b3, b4, b5⟩ := b32v
  have hs : 0 < s := by omega
  obtain ⟨s1, s2⟩ := FP.Core.leading_spec hs h1
  unfold FP.Core.roundRatio
  rw [if_neg (by omega)]
  unfold FP.Core.roundAt FP.Core.quantum
  rw [b1, b2]
  generalize FP.Core.leading s n = l at s1 s2 ⊢
  have l0 : 0 ≤ l := by
    rcases Int.lt_or_le l 0 with z | z
    · exfalso
      unfold FP.Core.Below at s2
      rw [show (l + 1).toNat = 0 by omega] at s2
      have : s * 1 ≤ s * 2 ^ (-(l + 1)).toNat := Nat.mul_le_mul_left s (Nat.two_pow_pos _)
      omega
    · exact z
  have l15 : l ≤ 15 := by
    rcases Int.lt_or_le 15 l with z | z
    · exfalso
      unfold FP.Core.Below at s1
      rw [show (-l).toNat = 0 by omega] at s1
      have p : 2 ^ 15 ≤ 2 ^ l.toNat := Nat.pow_le_pow_right (by decide) (by omega)
      have : 1 * 2 ^ l.toNat ≤ n * 2 ^ l.toNat := Nat.mul_le_mul_right _ h1
      omega
    · exact z
  obtain ⟨k, rfl⟩ : ∃ k : Nat, l = k := ⟨l.toNat, by omega⟩
  have hq : max (-149) ((k : Int) + 0 - (((24 : Nat) : Int) - 1)) = (k : Int) - 23 := by omega
  rw [hq]
  unfold FP.Core.unitsNum FP.Core.unitsDen
  rw [show ((0 : Int) - ((k : Int) - 23)).toNat = 23 - k by omega, show ((k : Int) - 23 - 0).toNat = 0 by omega]
  have t1 : n * 2 ^ k ≤ s := by
    unfold FP.Core.Below at s1
    rw [show (-(k : Int)).toNat = 0 by omega, show ((k : Int)).toNat = k by omega] at s1
    omega
  have t2 : s < n * 2 ^ (k + 1) := by
    unfold FP.Core.Below at s2
    rw [show (-((k : Int) + 1)).toNat = 0 by omega, show ((k : Int) + 1).toNat = k + 1 by omega] at s2
    omega
  have u1 : 2 ^ 23 * (n * 2 ^ 0) ≤ s * 2 ^ (23 - k) := by
    calc 2 ^ 23 * (n * 2 ^ 0) = n * 2 ^ (k + (23 - k)) := by rw [show k + (23 - k) = 23 by omega]; omega
      _ = n * 2 ^ k * 2 ^ (23 - k) := by rw [Nat.pow_add, Nat.mul_assoc]
      _ ≤ s * 2 ^ (23 - k) := Nat.mul_le_mul_right _ t1
  have u2 : s * 2 ^ (23 - k) ≤ 2 ^ 24 * (n * 2 ^ 0) := by
    calc s * 2 ^ (23 - k) ≤ n * 2 ^ (k + 1) * 2 ^ (23 - k) := Nat.mul_le_mul_right _ (by omega)
      _ = n * 2 ^ (k + 1 + (23 - k)) := by rw [Nat.mul_assoc, ← Nat.pow_add]
      _ = 2 ^ 24 * (n * 2 ^ 0) := by rw [show k + 1 + (23 - k) = 24 by omega]; omega
  have v1 := FP.Core.nearest_ge (A := s * 2 ^ (23 - k)) (B := n * 2 ^ 0) (M := 2 ^ 23) (by omega) u1
  have v2 := FP.Core.nearest_le (A := s * 2 ^ (23 - k)) (B := n * 2 ^ 0) (M := 2 ^ 24) (by omega) u2
  generalize FP.Core.nearest (s * 2 ^ (23 - k)) (n * 2 ^ 0) = c at v1 v2
  unfold FP.Core.settle FP.Core.bound
  rw [b1, b3, b4]
  by_cases e : c < 2 ^ 24
  · rw [if_pos e, if_pos (by omega)]
    exact ⟨c, _, rfl, v1, e, by omega, by omega⟩
  · rw [if_neg e, if_pos (by omega)]
    exact ⟨2 ^ 23, _, rfl, by omega, by omega, by omega, by omega⟩
theorem f_quot {s n : Nat} (h1 : 1 ≤ n) (h2 : n ≤ s) (h3 : s < 2 ^ 15) : ∃ c q, fD (FP.fdiv (FP.i2f (nI s)) (FP.i2f (nI n))) c q ∧ -23 ≤ q ∧ q ≤ -7 := by
  obtain ⟨j, j1, j2, j3, j4, j5, j6⟩ := f_i2f (n := s) (by omega) (by omega)
  obtain ⟨k, k1, k2, k3, k4, k5, k6⟩ := f_i2f (n := n) h1 (by omega)
  obtain ⟨c, q, r1, r2, r3, r4, r5⟩ := f_rat h1 h2 h3
  refine ⟨c, q, ⟨?_, r2, r3, by omega, by omega⟩, r4, r5⟩
  rw [show FP.fdiv (FP.i2f (nI s)) (FP.i2f (nI n)) = FP.Core.fdiv (FP.i2f (nI s)) (FP.i2f (nI n)) from rfl, FP.Core.val32_fdiv, j2, k2]
  show (if n * 2 ^ k = 0 then (if s * 2 ^ j = 0 then FP.Core.Datum.nan else .inf (false != false)) else FP.Core.roundRatio FP.Core.b32 (false != false) (s * 2 ^ j) (n * 2 ^ k) (-(j : Int) - -(k : Int))) = _
  rw [if_neg (by omega), ← r1]
  show FP.Core.roundRatio FP.Core.b32 false (s * 2 ^ j) (n * 2 ^ k) (-(j : Int) - -(k : Int)) = _
  refine FP.Core.roundRatio_congr (by omega) (by omega) ?_
  rw [show (-(j : Int) - -(k : Int) - 0).toNat = k - j by omega, show ((0 : Int) - (-(j : Int) - -(k : Int))).toNat = j - k by omega]
  have : 2 ^ j * 2 ^ (k - j) = 2 ^ k * 2 ^ (j - k) := by rw [← Nat.pow_add, ← Nat.pow_add]; congr 1; omega
  calc s * 2 ^ j * n * 2 ^ (k - j) = s * n * (2 ^ j * 2 ^ (k - j)) := by
        rw [Nat.mul_right_comm s (2 ^ j) n, Nat.mul_assoc]
    _ = s * n * (2 ^ k * 2 ^ (j - k)) := by rw [this]
    _ = s * (n * 2 ^ k) * 2 ^ (j - k) := by rw [Nat.mul_assoc s n, Nat.mul_assoc s, Nat.mul_assoc n]
theorem f_frac {x : UInt32} {c : Nat} (h : fD x c (-23)) : (FP.fsub x FP.fconst1).toNat ≤ 2139095040 ∧ (FP.fmul (FP.fsub x FP.fconst1) 1258291200).toNat ≤ 2139095040 ∧ FP.f2i (FP.fmul (FP.fsub x FP.fconst1) 1258291200) = nI (c - 2 ^ 23) := by
  obtain ⟨h1, h2, h3, h4, h5⟩ := h
  obtain ⟨t, rfl⟩ : ∃ t, c = t + 2 ^ 23 := ⟨c - 2 ^ 23, by omega⟩
  have hy : FP.Core.val32 (FP.fsub x FP.fconst1) = FP.Core.roundRatio FP.Core.b32 false t 1 (-23) := by
    rw [show FP.fsub x FP.fconst1 = FP.Core.fsub x FP.fconst1 from rfl, FP.Core.val32_fsub, h1, v_one]
    have hv : FP.Core.sumUnits false (t + 2 ^ 23) (-23) true (2 ^ 23) (-23) (min (-23) (-23)) = (t : Int) := by
      show (((t + 2 ^ 23) * 2 ^ ((-23 : Int) - min (-23) (-23)).toNat : Nat) : Int) + -((2 ^ 23 * 2 ^ ((-23 : Int) - min (-23) (-23)).toNat : Nat) : Int) = _
      rw [show ((-23 : Int) - min (-23) (-23)).toNat = 0 by decide]
      omega
    show FP.Core.round FP.Core.b32 (.fin (FP.Core.sumSign false true (FP.Core.sumUnits false (t + 2 ^ 23) (-23) true (2 ^ 23) (-23) (min (-23) (-23)))) (FP.Core.sumUnits false (t + 2 ^ 23) (-23) true (2 ^ 23) (-23) (min (-23) (-23))).natAbs (min (-23) (-23))) = _
    rw [hv]
    have hs : FP.Core.sumSign false true (t : Int) = false := by
      unfold FP.Core.sumSign
      split
      · rfl
      · exact decide_eq_false (by omega)
    rw [hs]
    rfl
  rw [Nat.add_sub_cancel]
  by_cases e : t = 0
  · subst e
    have hy0 : FP.Core.val32 (FP.fsub x FP.fconst1) = FP.Core.val32 0 := by rw [hy]; decide +kernel
    have hz : FP.fsub x FP.fconst1 = 0 := FP.Core.val32_inj (by rw [hy0]; decide +kernel) hy0
    rw [hz]
    decide +kernel
  · obtain ⟨j, j1, j2, j3⟩ := f_whole (n := t) (by omega) (by omega)
    have dy : fD (FP.fsub x FP.fconst1) (t * 2 ^ j) (-23 - (j : Int)) := by
      refine ⟨?_, j2, j3, by omega, by omega⟩
      rw [hy]
      refine fx_ratio (by omega) j2 j3 (by omega) (by omega) ?_
      rw [show ((-23 : Int) - (-23 - (j : Int))).toNat = j by omega, show ((-23 - (j : Int)) - -23).toNat = 0 by omega]
      omega
    have dz : fD (FP.fmul (FP.fsub x FP.fconst1) 1258291200) (t * 2 ^ j) (-(j : Int)) := by
      refine ⟨?_, j2, j3, by omega, by omega⟩
      rw [show FP.fmul (FP.fsub x FP.fconst1) 1258291200 = FP.Core.fmul (FP.fsub x FP.fconst1) 1258291200 from rfl, FP.Core.val32_fmul, dy.1, v_big]
      show FP.Core.roundRatio FP.Core.b32 (false != false) (t * 2 ^ j * 2 ^ 23) 1 (-23 - (j : Int) + 0) = _
      refine fx_ratio (by omega) j2 j3 (by omega) (by omega) ?_
      rw [show ((-23 : Int) - (j : Int) + 0 - -(j : Int)).toNat = 0 by omega, show (-(j : Int) - (-23 - (j : Int) + 0)).toNat = 23 by omega]
      omega
    refine ⟨Nat.le_of_lt (fD_lt dy), Nat.le_of_lt (fD_lt dz), ?_⟩
    show FP.Core.toI (FP.Core.val32 (FP.fmul (FP.fsub x FP.fconst1) 1258291200)) = _
    rw [dz.1]
    show Int32.ofInt (max (-2 ^ 31) (min (2 ^ 31 - 1) ((t * 2 ^ j * 2 ^ (-(j : Int)).toNat / 2 ^ (- -(j : Int)).toNat : Nat) : Int))) = _
    rw [show (-(j : Int)).toNat = 0 by omega, show (- -(j : Int)).toNat = j by omega, show t * 2 ^ j * 2 ^ 0 / 2 ^ j = t by rw [Nat.pow_zero, Nat.mul_one, Nat.mul_div_cancel _ (Nat.two_pow_pos _)]]
    have ht : t < 2 ^ 24 := by omega
    rw [show max (-2 ^ 31) (min (2 ^ 31 - 1) (t : Int)) = (t : Int) by omega]
    rfl
