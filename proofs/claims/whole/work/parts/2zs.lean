/-! level 2: mean -/
def mSum (S : Nat → Nat) (n : Nat) : Nat := fb_sm (fun k => S (10 * k + tcol S) - 1) n
theorem ctF_mSum {S : Nat → Nat} : ∀ n, ctF S 1000 n ≤ mSum S n
  | 0 => Nat.le_refl _
  | n + 1 => by
    have ih := ctF_mSum (S := S) n
    unfold ctF mSum at ih ⊢
    rw [fb_ct_succ, fb_sm_succ]
    by_cases e : 1 < S (10 * n + tcol S)
    · have : (if (decide (1 < S (10 * n + tcol S)) && decide (S (10 * n + tcol S) < 1000 + 1)) = true then 1 else 0) ≤ 1 := by split <;> omega
      omega
    · rw [if_neg (by simp [e])]
      omega
theorem mSum_le {S : Nat → Nat} (hB : WB S) {n : Nat} (hn : n ≤ 30) : mSum S n ≤ n * 1000 := fb_sm_bound (fun k hk => by have := tcol_le hB (k := k) (by omega); omega)
theorem C_mean {w : gWd} {S : Nat → Nat} (hC : CV (w 0) S) (hB : WB S) : F_X11_mean w = some (if ctF S 1000 (S 311) = 0 then -1000004 else (FP.fdiv (FP.i2f (nI (mSum S (S 311)))) (FP.i2f (nI (ctF S 1000 (S 311))))).toInt32) := by
  have hN := hB.1
  have hc : ctF S 1000 (S 311) ≤ S 311 := fb_ct_le _ _
  unfold F_X11_mean F_X0_meanBits F_X5_timesAboveZero
  rw [show (1000 : Int32) = nI 1000 from rfl, C_faster hC hB (by omega), gP_s, gP_s, iE0 (by omega)]
  by_cases e : ctF S 1000 (S 311) = 0
  · rw [if_pos e, if_pos e]; rfl
  · rw [if_neg e, if_neg e]
    have hle := ctF_mSum (S := S) (S 311)
    have hsl := mSum_le hB hN
    obtain ⟨c, q, f1, f2, f3⟩ := f_quot (s := mSum S (S 311)) (n := ctF S 1000 (S 311)) (by omega) hle (by omega)
    generalize ctF S 1000 (S 311) = n at hc hle f1 ⊢
    have key : F_X0_meanBits_16 gFU w 0 (nI n) 0 0 = some (FP.fdiv (FP.i2f (nI (mSum S (S 311)))) (FP.i2f (nI n))).toInt32 := by
      refine loopI (F := fun fu (acc : Nat) j => F_X0_meanBits_16 fu w 0 (nI n) (nI acc) (nI j)) (S 311) (fun j acc => acc = mSum S j) (fun r => r = some (FP.fdiv (FP.i2f (nI (mSum S (S 311)))) (FP.i2f (nI n))).toInt32) ?_ ?_ gFU 0 0 (by omega) (gFU_lt (by omega)) rfl
      · intro fu acc hI
        show F_X0_meanBits_16 (fu + 1) w 0 (nI n) (nI acc) (nI (S 311)) = _
        rw [F_X0_meanBits_16_s, hC.sz, iLe (by omega) (by omega), if_pos (Nat.le_refl _), hI, gN_lt (Nat.le_of_lt (fD_lt f1)), C_bits f1 f2 f3, gP_s]
      · intro fu acc j hj hI
        right
        refine ⟨_, rfl, ?_⟩
        show F_X0_meanBits_16 (fu + 1) w 0 (nI n) (nI acc) (nI j) = F_X0_meanBits_16 fu w 0 (nI n) (nI (mSum S (j + 1))) (nI (j + 1))
        have hg := tcol_le hB (k := j) (by omega)
        rw [F_X0_meanBits_16_s, hC.sz, iLe (by omega) (by omega), if_neg (by omega), gB_n _ (by omega) (by omega), C_stageTime hC hB hj, gP_s, hI]
        unfold mSum
        rw [fb_sm_succ]
        by_cases e : 1 < S (10 * j + tcol S)
        · rw [if_neg (fun q => absurd ((mLe0 (by omega)).mp q) (by omega)), mN (by omega) (by omega), nI_add]
          simp only [gS_e, nI_1]
        · rw [if_pos ((mLe0 (by omega)).mpr (by omega)), show S (10 * j + tcol S) - 1 = 0 by omega, Nat.add_zero]
          simp only [gS_e, nI_1]
    rw [key, gP_s]
theorem M_mean {w : gWd} {S : Nat → Nat} (hS : SV w S) (hB : WB S) : F_X12_mean w = some (if ctF S 1000 (S 311) = 0 then -1000004 else (FP.fdiv (FP.i2f (nI (mSum S (S 311)))) (FP.i2f (nI (ctF S 1000 (S 311))))).toInt32) := by
  have hN := hB.1
  unfold F_X12_mean
  refine loopI (F := fun fu (_ : Unit) j => F_X12_mean_6 fu w (nI (mSum S j)) (nI (ctF S 1000 j)) (nI j)) (S 311) (fun j _ => True) (fun r => r = some (if ctF S 1000 (S 311) = 0 then -1000004 else (FP.fdiv (FP.i2f (nI (mSum S (S 311)))) (FP.i2f (nI (ctF S 1000 (S 311))))).toInt32)) ?_ ?_ gFU () 0 (by omega) (gFU_lt (by omega)) trivial
  · intro fu _ _
    show F_X12_mean_6 (fu + 1) w (nI (mSum S (S 311))) (nI (ctF S 1000 (S 311))) (nI (S 311)) = _
    have hc : ctF S 1000 (S 311) ≤ S 311 := fb_ct_le _ _
    rw [F_X12_mean_6_s, hS 311 (by omega), iLe (by omega) (by omega), if_pos (Nat.le_refl _), gS_e, gS_e, iE0 (by omega)]
    by_cases e : ctF S 1000 (S 311) = 0
    · rw [if_pos e, if_pos e]
    · rw [if_neg e, if_neg e]
      have hle := ctF_mSum (S := S) (S 311)
      have hsl := mSum_le hB hN
      obtain ⟨c, q, f1, f2, f3⟩ := f_quot (s := mSum S (S 311)) (n := ctF S 1000 (S 311)) (by omega) hle (by omega)
      rw [gN_lt (Nat.le_of_lt (fD_lt f1)), M_bits f1, gP_s]
  · intro fu _ j hj _
    right
    refine ⟨(), trivial, ?_⟩
    show F_X12_mean_6 (fu + 1) w (nI (mSum S j)) (nI (ctF S 1000 j)) (nI j) = F_X12_mean_6 fu w (nI (mSum S (j + 1))) (nI (ctF S 1000 (j + 1))) (nI (j + 1))
    have hg := tcol_le hB (k := j) (by omega)
    have htc := tcol_in S
    rw [F_X12_mean_6_s, hS 311 (by omega), iLe (by omega) (by omega), if_neg (by omega), M_timeNow hS hB, gP_s, M_of hS (by omega), gP_s, gS_e]
    unfold mSum ctF
    rw [fb_sm_succ, fb_ct_succ]
    by_cases e : 1 < S (10 * j + tcol S)
    · rw [if_neg (fun q => absurd ((mLe0 (by omega)).mp q) (by omega)), mN (by omega) (by omega), if_pos (by simp [e]; omega)]
      unfold F_X12_mean_43
      rw [nI_add, gS_e, if_neg (show ¬ nI (S (10 * j + tcol S) - 1) ≤ 0 from fun q => absurd (show S (10 * j + tcol S) - 1 = 0 from by
        rw [Int32.le_iff_toInt_le, nI_toInt (by omega)] at q
        have : (0 : Int32).toInt = 0 := rfl
        omega) (by omega)), gS_e, gS_e, nI_1, nI_1]
    · rw [if_pos ((mLe0 (by omega)).mpr (by omega)), if_neg (by simp [e]), show S (10 * j + tcol S) - 1 = 0 by omega, Nat.add_zero]
      unfold F_X12_mean_43
      rw [show nI (fb_sm (fun k => S (10 * k + tcol S) - 1) j) + 0 = nI (fb_sm (fun k => S (10 * k + tcol S) - 1) j) from nI_add _ 0, gS_e, if_pos ((mLe0 (by omega)).mpr (by omega)), gS_e, gS_e, nI_1, show nI (fb_ct (fun k => decide (1 < S (10 * k + tcol S)) && decide (S (10 * k + tcol S) < 1000 + 1)) j) + 0 = nI (fb_ct (fun k => decide (1 < S (10 * k + tcol S)) && decide (S (10 * k + tcol S) < 1000 + 1)) j) from nI_add _ 0]
      rfl
theorem REL_mean {w : gWd} {EB : Nat} (hW : REL w EB) : QQ (F_X11_mean w) (F_X12_mean w) := by
  obtain ⟨S, K, ρ, R, T, hI, hC, hR, hS, h04, hK, hT⟩ := hW
  exact ⟨_, C_mean hC hI.wb, M_mean hS hI.wb⟩
