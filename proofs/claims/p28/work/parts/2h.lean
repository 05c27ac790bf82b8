/-! level 2: scratch, whole -/
theorem CV.res {c : Nat → Nat → Int32} {S : Nat → Nat} (hC : CV c S) (hN : S 311 ≤ 30) {p v : Nat} (hp : p < 4) : CV c (upN S (306 + p) v) := by
  refine ⟨?_, fun q hq b hb => ?_⟩
  · simp only [upN_n (S := S) (t := 306 + p) (v := v) (show 311 ≠ 306 + p by omega), upN_n (S := S) (t := 306 + p) (v := v) (show 310 ≠ 306 + p by omega), upN_n (S := S) (t := 306 + p) (v := v) (show 312 ≠ 306 + p by omega), upN_n (S := S) (t := 306 + p) (v := v) (show 313 ≠ 306 + p by omega), upN_n (S := S) (t := 306 + p) (v := v) (show 314 ≠ 306 + p by omega), upN_n (S := S) (t := 306 + p) (v := v) (show 315 ≠ 306 + p by omega), upN_n (S := S) (t := 306 + p) (v := v) (show 316 ≠ 306 + p by omega), upN_n (S := S) (t := 306 + p) (v := v) (show 317 ≠ 306 + p by omega), upN_n (S := S) (t := 306 + p) (v := v) (show 318 ≠ 306 + p by omega), upN_n (S := S) (t := 306 + p) (v := v) (show 319 ≠ 306 + p by omega)]
    exact hC.1
  · rw [upN_n (by omega)] at hq
    rw [upN_n (by omega)]
    exact hC.2 q hq b hb
theorem Sgo2_n {S : Nat → Nat} {k t : Nat} (h : 10 * k + 7 < t ∨ t < 10 * k + 2) : Sgo2 S k t = S t := by
  unfold Sgo2 Sgo
  rw [upN_n (by omega), upN_n (by omega), upN_n (by omega)]
