/-! level 2: swimmer, at -/
theorem M_orNone {w : gWd} {v : Nat} : F_X12_orNone w (nI v) = some (if nI v ≤ 0 then -1000004 else nI v) := by
  unfold F_X12_orNone; split <;> rfl
theorem C_above {w : gWd} {v : Nat} : F_X0_aboveZero w (nI v) = some (if nI v ≤ 0 then -1000004 else nI v) := by
  unfold F_X0_aboveZero; split <;> rfl
theorem M_less {w : gWd} {v : Nat} (h : v < 2 ^ 30) : F_X12_lessOne w (nI v) = some (if v = 0 then -1000004 else nI v - 1) := by
  unfold F_X12_lessOne
  rw [iLe0 (by omega)]
  split <;> rfl
theorem C_m1 {v : Nat} (h : v < 2 ^ 30) : (if nI v - 1 = -1 then some (-1000004) else some (nI v - 1) : Option Int32) = some (if v = 0 then -1000004 else nI v - 1) := by
  by_cases e : v = 0
  · rw [if_pos ((mEN1 h).mpr e), if_pos e]
  · rw [if_neg (fun z => e ((mEN1 h).mp z)), if_neg e]
theorem Q_swimmer {w : gWd} {S : Nat → Nat} {EB : Nat} (hI : IV EB S) (hC : CV (w 0) S) (hS : SV w S) (x y : Int32) : QQ (F_X11_swimmer w x y) (F_X12_swimmer w x y) := by
  have hB := hI.wb
  have hN := hB.1
  unfold F_X11_swimmer F_X12_swimmer
  rw [C_has hC, gP_s, M_isSw hS hB, gP_s]
  by_cases a : x < 0 ∨ nI (S 311) ≤ x
  · rw [if_pos a, if_pos rfl, if_pos rfl]
    exact ⟨_, rfl, rfl⟩
  · rw [if_neg a, if_neg (show ¬ (1 : Int32) = 0 by decide), if_neg (show ¬ (1 : Int32) = 0 by decide)]
    obtain ⟨k, hk, rfl⟩ := arg_lt (by omega) (fun z => a (Or.inl z)) (fun z => a (Or.inr z))
    have h := hB.k (k := k) (by omega)
    by_cases c : y < 0
    · rw [if_pos c, show F_X12_in w y 0 11 = F_X12_in w y 0 (nI 11) from rfl, M_in_f (by omega) (Or.inl c), gP_s, if_pos rfl]
      exact ⟨_, rfl, rfl⟩
    · by_cases d : nI 12 ≤ y
      · rw [if_neg c, show F_X12_in w y 0 11 = F_X12_in w y 0 (nI 11) from rfl, M_in_f (n := 11) (by omega) (Or.inr d), gP_s, if_pos rfl, if_neg]
        · exact ⟨_, rfl, rfl⟩
        · intro z
          rw [Int32.le_iff_toInt_le] at z d
          have k1 : (nI 12).toInt = 12 := by decide
          have k2 : (11 : Int32).toInt = 11 := by decide
          omega
      · obtain ⟨q, hq, rfl⟩ := arg_lt (n := 12) (by omega) c d
        rw [if_neg c, if_pos (show nI q ≤ 11 from (nI_leI (b := 11) (by omega) (by omega)).mpr (by omega)), show F_X12_in w (nI q) 0 11 = F_X12_in w (nI q) 0 (nI 11) from rfl, M_in_t (by omega) (by omega), gP_s, if_neg (show ¬ (1 : Int32) = 0 by decide), gB_n _ (by omega) (by omega)]
        have : q = 0 ∨ q = 1 ∨ q = 2 ∨ q = 3 ∨ q = 4 ∨ q = 5 ∨ q = 6 ∨ q = 7 ∨ q = 8 ∨ q = 9 ∨ q = 10 ∨ q = 11 := by omega
        rcases this with rfl | rfl | rfl | rfl | rfl | rfl | rfl | rfl | rfl | rfl | rfl | rfl
        · show QQ (some (w 0 (4 + k) 1)) (gP (F_X12_of w (nI k) (nI 0)) (fun v_56 => some v_56))
          rw [hC.f1 hk, M_of hS (by omega), gP_s]
          exact ⟨_, rfl, rfl⟩
        · show QQ (some (w 0 (4 + k) 2)) (gP (F_X12_of w (nI k) (nI 1)) (fun v_56 => some v_56))
          rw [hC.f2 hk, M_of hS (by omega), gP_s]
          exact ⟨_, rfl, rfl⟩
        · show QQ (gP (if (w 0 (4 + k) 3) = 0 then (gP (F_X5_rankByEntry w 0 0 k) (fun v_6 => some v_6)) else (some (-1000004))) (fun v_9 => some v_9)) (gP (F_X12_isGone w (nI k)) (fun v_9 => if v_9 = 0 then (gP (F_X12_entryRank w (nI k)) (fun v_12 => some v_12)) else (some (-1000004))))
          rw [hC.f3 hk, M_isGone hS hB (by omega), gP_s, C_erank hC hB hk, gP_s, M_erank hS hB (by omega), gP_s]
          split
          · exact ⟨_, rfl, rfl⟩
          · exact ⟨_, rfl, rfl⟩
        · show QQ (gP (if (w 0 (4 + k) 4) = (-1) then (some (-1000004)) else (some ((w 0 (4 + k) 4)))) (fun v_9 => some v_9)) (gP (F_X12_of w (nI k) 3) (fun v_15 => gP (F_X12_lessOne w v_15) (fun v_17 => some v_17)))
          rw [hC.f4 hk, C_m1 (by omega), gP_s, M_of3 hS (by omega), gP_s, M_less (by omega), gP_s]
          exact ⟨_, rfl, rfl⟩
        · show QQ (gP (gP (F_X0_aboveZero w ((w 0 (4 + k) 5))) (fun v_11 => some v_11)) (fun v_9 => some v_9)) (gP (F_X12_of w (nI k) 4) (fun v_20 => gP (F_X12_orNone w v_20) (fun v_22 => some v_22)))
          rw [hC.f5 hk, C_above, gP_s, gP_s, M_of4 hS (by omega), gP_s, M_orNone, gP_s]
          exact ⟨_, rfl, rfl⟩
        · show QQ (gP (if (w 0 (4 + k) 6) = (-1) then (some (-1000004)) else (some ((w 0 (4 + k) 6)))) (fun v_9 => some v_9)) (gP (F_X12_of w (nI k) 5) (fun v_15 => gP (F_X12_lessOne w v_15) (fun v_17 => some v_17)))
          rw [hC.f6 hk, C_m1 (by omega), gP_s, M_of5 hS (by omega), gP_s, M_less (by omega), gP_s]
          exact ⟨_, rfl, rfl⟩
        · show QQ (gP (if (w 0 (4 + k) 6) ≤ 0 then (some (-1000004)) else (gP (F_X5_rankByHeatTime w 0 0 k) (fun v_17 => some v_17))) (fun v_9 => some v_9)) (gP (F_X12_hasTime w (nI k)) (fun v_30 => if v_30 = 0 then (some (-1000004)) else (gP (F_X12_timeRank w (nI k)) (fun v_33 => some v_33))))
          rw [hC.f6 hk, C_trank hC hB hk, gP_s, M_hasT hS hB (by omega), gP_s, M_trank hS hB (by omega), gP_s]
          by_cases e : 1 < S (10 * k + 5)
          · rw [if_neg (fun z => absurd ((mLe0 (by omega)).mp z) (by omega)), if_pos e, gP_s, iE0 (by omega), if_neg (by omega)]
            exact ⟨_, rfl, rfl⟩
          · rw [if_pos ((mLe0 (by omega)).mpr (by omega)), if_neg e, gP_s, iE0 (by omega), if_pos rfl]
            exact ⟨_, rfl, rfl⟩
        · show QQ (gP (gP (F_X0_aboveZero w ((w 0 (4 + k) 7))) (fun v_11 => some v_11)) (fun v_9 => some v_9)) (gP (F_X12_of w (nI k) 6) (fun v_20 => gP (F_X12_orNone w v_20) (fun v_22 => some v_22)))
          rw [hC.f7 hk, C_above, gP_s, gP_s, M_of6 hS (by omega), gP_s, M_orNone, gP_s]
          exact ⟨_, rfl, rfl⟩
        · show QQ (gP (if (w 0 (4 + k) 8) = (-1) then (some (-1000004)) else (some ((w 0 (4 + k) 8)))) (fun v_9 => some v_9)) (gP (F_X12_of w (nI k) 7) (fun v_15 => gP (F_X12_lessOne w v_15) (fun v_17 => some v_17)))
          rw [hC.f8 hk, C_m1 (by omega), gP_s, M_of7 hS (by omega), gP_s, M_less (by omega), gP_s]
          exact ⟨_, rfl, rfl⟩
        · show QQ (gP (gP (F_X0_aboveZero w ((w 0 (4 + k) 9))) (fun v_11 => some v_11)) (fun v_9 => some v_9)) (gP (F_X12_of w (nI k) 8) (fun v_20 => gP (F_X12_orNone w v_20) (fun v_22 => some v_22)))
          rw [hC.f9 hk, C_above, gP_s, gP_s, M_of8 hS (by omega), gP_s, M_orNone, gP_s]
          exact ⟨_, rfl, rfl⟩
        · show QQ (gP (if (w 0 (4 + k) 3) = 0 then (some 0) else (some 1)) (fun v_9 => some v_9)) (gP (F_X12_of w (nI k) 2) (fun v_51 => some v_51))
          rw [hC.f3 hk, M_of2 hS (by omega), gP_s]
          have : S (10 * k + 2) = 0 ∨ S (10 * k + 2) = 1 := by omega
          rcases this with e | e <;> rw [e] <;> exact ⟨_, rfl, rfl⟩
        · show QQ (some (w 0 (4 + k) 10)) (gP (F_X12_of w (nI k) 9) (fun v_54 => some v_54))
          rw [hC.f10 hk, M_of9 hS (by omega), gP_s]
          exact ⟨_, rfl, rfl⟩
/-- who is in the heat z - 1, in the final for z = 0 -/
def hIn (S : Nat → Nat) (z k : Nat) : Bool := if z = 0 then decide (S (10 * k + 6) ≠ 0) else decide (S (10 * k + 3) = z)
theorem hX_0 : nI 0 - 1 = -1 := by decide
theorem hX_s {z : Nat} (h : z ≠ 0) (hz : z < 2 ^ 30) : nI z - 1 = nI (z - 1) := mN hz (by omega)
theorem hX_ne {z : Nat} (h : z ≠ 0) (hz : z < 2 ^ 30) : ¬ nI z - 1 = -1 := fun q => h ((mEN1 hz).mp q)
theorem C_isIn {w : gWd} {S : Nat → Nat} {i z k : Nat} (hC : CV (w i) S) (hB : WB S) (hz : z ≤ 8) (hk : k < S 311) : F_X10_isIn w i k (nI z - 1) = some (nI (if hIn S z k = true then 1 else 0)) := by
  have hN := hB.1
  have h := hB.k (k := k) (by omega)
  unfold F_X10_isIn hIn
  by_cases e : z = 0
  · subst e
    rw [if_pos hX_0, hC.f7 hk, iE0 (by omega), if_pos rfl]
    by_cases e2 : S (10 * k + 6) = 0
    · rw [if_pos e2, if_neg (by simp [e2])]; rfl
    · rw [if_neg e2, if_pos (by simp [e2])]; rfl
  · rw [if_neg (hX_ne e (by omega)), hC.f4 hk, if_neg e]
    by_cases e2 : S (10 * k + 3) = z
    · rw [if_pos ((mE (by omega) (by omega)).mpr e2), if_pos (by simp [e2])]; rfl
    · rw [if_neg (fun q => e2 ((mE (by omega) (by omega)).mp q)), if_neg (by simp [e2])]; rfl
theorem hX_pos {z : Nat} (hz : z ≤ 8) : (0 ≤ nI z - 1) ↔ z ≠ 0 := by
  rw [Int32.le_iff_toInt_le, mT (by omega), show (0 : Int32).toInt = 0 from rfl]
  omega
theorem M_isIn {w : gWd} {S : Nat → Nat} {z k : Nat} (hS : SV w S) (hB : WB S) (hz : z ≤ 8) (hk : k < 30) : F_X12_isIn w (nI k) (nI z - 1) = some (nI (if hIn S z k = true then 1 else 0)) := by
  have h := hB.k (k := k) (by omega)
  unfold F_X12_isIn hIn
  rw [M_of3 hS hk, gP_s, M_of6 hS hk, gP_s, iLe0 (by omega)]
  by_cases e : z = 0
  · rw [if_neg (fun q => (hX_pos hz).mp q e), if_pos e]
    by_cases e2 : S (10 * k + 6) = 0
    · rw [if_pos e2, if_neg (by simp [e2])]; rfl
    · rw [if_neg e2, if_pos (by simp [e2])]; rfl
  · rw [if_pos ((hX_pos hz).mpr e), if_neg e, hX_s e (by omega), nI_1, show z - 1 + 1 = z by omega, iEq (by omega) (by omega)]
    by_cases e2 : S (10 * k + 3) = z
    · rw [if_pos e2, if_pos (by simp [e2])]; rfl
    · rw [if_neg e2, if_neg (by simp [e2])]; rfl
def hZ (S : Nat → Nat) (x : Int32) : Prop := (x = -1 ∧ 2 ≤ S 310) ∨ (0 ≤ x ∧ ¬ nI (S 312) ≤ x)
theorem C_hasHeat {w : gWd} {S : Nat → Nat} {i : Nat} (hC : CV (w i) S) (hB : WB S) (x : Int32) : (hZ S x ∧ F_X5_hasHeat w i x = some 1) ∨ (¬ hZ S x ∧ F_X5_hasHeat w i x = some 0) := by
  have hst := hB.2.1
  unfold F_X5_hasHeat F_X5_hasHeat_37 hZ
  rw [hC.st, hC.ht, show (2 : Int32) = nI 2 from rfl, iLt (by omega) (by omega)]
  by_cases a : x = -1
  · subst a
    rw [if_pos rfl]
    by_cases b : S 310 < 2
    · right
      rw [if_pos b]
      exact ⟨fun z => z.elim (fun y => by omega) (fun y => absurd y.1 (by decide)), rfl⟩
    · left
      rw [if_neg b]
      exact ⟨Or.inl ⟨rfl, by omega⟩, rfl⟩
  · rw [if_neg a]
    by_cases b : x < 0
    · right
      rw [if_pos b]
      exact ⟨fun z => z.elim (fun y => a y.1) (fun y => absurd b (fun q => (fa_of_lt q).2.1 y.1)), rfl⟩
    · rw [if_neg b]
      by_cases c : nI (S 312) ≤ x
      · right
        rw [if_pos c]
        exact ⟨fun z => z.elim (fun y => a y.1) (fun y => y.2 c), rfl⟩
      · left
        rw [if_neg c]
        exact ⟨Or.inr ⟨fa_of_nlt b, c⟩, rfl⟩
theorem M_isHeat {w : gWd} {S : Nat → Nat} (hS : SV w S) (hB : WB S) (x : Int32) : (hZ S x ∧ F_X12_isHeat w x = some 1) ∨ (¬ hZ S x ∧ F_X12_isHeat w x = some 0) := by
  have hst := hB.2.1
  unfold F_X12_isHeat F_X12_isHeat_25 hZ
  rw [hS 310 (by omega), hS 312 (by omega), show (if nI (S 310) ≤ 1 then (some 0 : Option Int32) else some 1) = (if nI (S 310) ≤ nI 1 then some 0 else some 1) from rfl, iLe (a := S 310) (by omega) (by omega)]
  by_cases b : 0 ≤ x
  · rw [if_pos b]
    by_cases c : nI (S 312) ≤ x
    · right
      rw [if_pos c]
      exact ⟨fun z => z.elim (fun y => by rw [y.1] at b; exact absurd b (by decide)) (fun y => y.2 c), rfl⟩
    · left
      rw [if_neg c]
      exact ⟨Or.inr ⟨b, c⟩, rfl⟩
  · rw [if_neg b]
    by_cases a : x = -1
    · rw [if_pos a]
      by_cases d : S 310 ≤ 1
      · right
        rw [if_pos d]
        exact ⟨fun z => z.elim (fun y => by omega) (fun y => b y.1), rfl⟩
      · left
        rw [if_neg d]
        exact ⟨Or.inl ⟨a, by omega⟩, rfl⟩
    · right
      rw [if_neg a]
      exact ⟨fun z => z.elim (fun y => a y.1) (fun y => b y.1), rfl⟩
theorem hZ_z {S : Nat → Nat} (hB : WB S) {x : Int32} (h : hZ S x) : ∃ z, z ≤ 8 ∧ x = nI z - 1 := by
  have h8 := hB.2.2.1
  rcases h with ⟨rfl, _⟩ | ⟨a, b⟩
  · exact ⟨0, by omega, by decide⟩
  · obtain ⟨k, hk, rfl⟩ := arg_lt (n := S 312) (by omega) (fun z => (fa_of_lt z).2.1 a) b
    exact ⟨k + 1, by omega, by rw [mN (by omega) (by omega), Nat.add_sub_cancel]⟩
def lnZ (S : Nat → Nat) (z k : Nat) : Nat := if z = 0 then S (10 * k + 6) else S (10 * k + 4)
def atP (S : Nat → Nat) (z : Nat) (y : Int32) (k : Nat) : Prop := hIn S z k = true ∧ nI (lnZ S z k) = y
theorem C_inLane {w : gWd} {S : Nat → Nat} {i z : Nat} {y : Int32} (hC : CV (w i) S) (hB : WB S) (hz : z ≤ 8) : (∃ k, k < S 311 ∧ atP S z y k ∧ (∀ j, j < k → ¬ atP S z y j) ∧ F_X0_inLane w i (nI z - 1) y = some (nI k)) ∨ ((∀ j, j < S 311 → ¬ atP S z y j) ∧ F_X0_inLane w i (nI z - 1) y = some (-1000004)) := by
  unfold F_X0_inLane
  have hN := hB.1
  refine loopI (F := fun fu (_ : Unit) j => F_X0_inLane_2 fu w i (nI z - 1) y (nI j)) (S 311) (fun j _ => ∀ q, q < j → ¬ atP S z y q) (fun o => (∃ k, k < S 311 ∧ atP S z y k ∧ (∀ j, j < k → ¬ atP S z y j) ∧ o = some (nI k)) ∨ ((∀ j, j < S 311 → ¬ atP S z y j) ∧ o = some (-1000004))) ?_ ?_ gFU () 0 (by omega) (gFU_lt (by omega)) (fun q hq => absurd hq (Nat.not_lt_zero q))
  · intro fu _ hI
    right
    refine ⟨hI, ?_⟩
    show F_X0_inLane_2 (fu + 1) w i (nI z - 1) y (nI (S 311)) = _
    rw [F_X0_inLane_2_s, hC.sz, iLe (by omega) (by omega), if_pos (Nat.le_refl _)]
  · intro fu _ j hj hI
    have hl : F_X10_laneOf w i j (nI z - 1) = some (nI (lnZ S z j)) := by
      unfold F_X10_laneOf lnZ
      by_cases e : z = 0
      · subst e; rw [if_pos hX_0, hC.f7 hj, if_pos rfl]
      · rw [if_neg (hX_ne e (by omega)), hC.f5 hj, if_neg e]
    have e0 : F_X0_inLane_2 (fu + 1) w i (nI z - 1) y (nI j) = if hIn S z j = true then (if nI (lnZ S z j) = y then some (nI j) else F_X0_inLane_2 fu w i (nI z - 1) y (nI (j + 1))) else F_X0_inLane_2 fu w i (nI z - 1) y (nI (j + 1)) := by
      rw [F_X0_inLane_2_s, hC.sz, iLe (by omega) (by omega), if_neg (by omega), gB_n _ (by omega) (by omega), C_isIn hC hB hz hj, gP_s, hl, gP_s]
      by_cases e : hIn S z j = true
      · rw [if_pos e, iE0 (by omega), if_neg (by omega), if_pos e]
        simp only [gS_e, nI_1]
      · rw [if_neg e, iE0 (by omega), if_pos rfl, if_neg e]
        simp only [gS_e, nI_1]
    show (_ ∨ ∃ st', _ ∧ F_X0_inLane_2 (fu + 1) w i (nI z - 1) y (nI j) = F_X0_inLane_2 fu w i (nI z - 1) y (nI (j + 1)))
    by_cases e : atP S z y j
    · left
      left
      refine ⟨j, hj, e, hI, ?_⟩
      show F_X0_inLane_2 (fu + 1) w i (nI z - 1) y (nI j) = _
      rw [e0, if_pos e.1, if_pos e.2]
    · right
      refine ⟨(), fun q hq => ?_, ?_⟩
      · by_cases e2 : q = j
        · subst e2; exact e
        · exact hI q (by omega)
      · rw [e0]
        by_cases e1 : hIn S z j = true
        · rw [if_pos e1, if_neg (fun q => e ⟨e1, q⟩)]
        · rw [if_neg e1]
theorem M_at25 {w : gWd} {S : Nat → Nat} {z : Nat} {y : Int32} (hS : SV w S) (hB : WB S) (hz : z ≤ 8) : (∃ k, k < S 311 ∧ atP S z y k ∧ (∀ j, j < k → ¬ atP S z y j) ∧ F_X12_at_25 gFU w (nI z - 1) y 0 = some (nI k)) ∨ ((∀ j, j < S 311 → ¬ atP S z y j) ∧ F_X12_at_25 gFU w (nI z - 1) y 0 = some (-1000004)) := by
  have hN := hB.1
  refine loopI (F := fun fu (_ : Unit) j => F_X12_at_25 fu w (nI z - 1) y (nI j)) (S 311) (fun j _ => ∀ q, q < j → ¬ atP S z y q) (fun o => (∃ k, k < S 311 ∧ atP S z y k ∧ (∀ j, j < k → ¬ atP S z y j) ∧ o = some (nI k)) ∨ ((∀ j, j < S 311 → ¬ atP S z y j) ∧ o = some (-1000004))) ?_ ?_ gFU () 0 (by omega) (gFU_lt (by omega)) (fun q hq => absurd hq (Nat.not_lt_zero q))
  · intro fu _ hI
    right
    refine ⟨hI, ?_⟩
    show F_X12_at_25 (fu + 1) w (nI z - 1) y (nI (S 311)) = _
    rw [F_X12_at_25_s, hS 311 (by omega), iLe (by omega) (by omega), if_pos (Nat.le_refl _)]
  · intro fu _ j hj hI
    have e0 : F_X12_at_25 (fu + 1) w (nI z - 1) y (nI j) = if hIn S z j = true then (if nI (lnZ S z j) = y then some (nI j) else F_X12_at_25 fu w (nI z - 1) y (nI (j + 1))) else F_X12_at_25 fu w (nI z - 1) y (nI (j + 1)) := by
      rw [F_X12_at_25_s, hS 311 (by omega), iLe (by omega) (by omega), if_neg (by omega), M_isIn hS hB hz (by omega), gP_s]
      unfold F_X12_at_58 lnZ
      rw [M_of4 hS (by omega), gP_s, M_of6 hS (by omega), gP_s]
      by_cases e : hIn S z j = true
      · rw [if_pos e, iE0 (by omega), if_neg (by omega), if_pos e]
        by_cases e2 : z = 0
        · rw [if_neg (fun q => (hX_pos hz).mp q e2), if_pos e2]
          simp only [gS_e, nI_1]
        · rw [if_pos ((hX_pos hz).mpr e2), if_neg e2]
          simp only [gS_e, nI_1]
      · rw [if_neg e, iE0 (by omega), if_pos rfl, if_neg e]
        simp only [gS_e, nI_1]
    show (_ ∨ ∃ st', _ ∧ F_X12_at_25 (fu + 1) w (nI z - 1) y (nI j) = F_X12_at_25 fu w (nI z - 1) y (nI (j + 1)))
    by_cases e : atP S z y j
    · left
      left
      refine ⟨j, hj, e, hI, ?_⟩
      show F_X12_at_25 (fu + 1) w (nI z - 1) y (nI j) = _
      rw [e0, if_pos e.1, if_pos e.2]
    · right
      refine ⟨(), fun q hq => ?_, ?_⟩
      · by_cases e2 : q = j
        · subst e2; exact e
        · exact hI q (by omega)
      · rw [e0]
        by_cases e1 : hIn S z j = true
        · rw [if_pos e1, if_neg (fun q => e ⟨e1, q⟩)]
        · rw [if_neg e1]
theorem Q_at {w : gWd} {S : Nat → Nat} {EB : Nat} (hI : IV EB S) (hC : CV (w 0) S) (hS : SV w S) (x y : Int32) : QQ (F_X11_at w x y) (F_X12_at w x y) := by
  have hB := hI.wb
  have hN := hB.1
  have h7 := hB.2.2.2.2.2.1
  unfold F_X11_at F_X12_at
  rcases C_hasHeat hC hB x with ⟨a, b⟩ | ⟨a, b⟩
  · rcases M_isHeat hS hB x with ⟨c, d⟩ | ⟨c, d⟩
    · obtain ⟨z, hz, rfl⟩ := hZ_z hB a
      rw [b, d, gP_s, gP_s, if_neg (show ¬ (1 : Int32) = 0 by decide), if_neg (show ¬ (1 : Int32) = 0 by decide), C_lanes hC, gP_s, M_lanes hS, gP_s, M_in, gP_s]
      by_cases e : y < 1
      · rw [if_pos e, if_pos e, if_pos rfl]
        exact ⟨_, rfl, rfl⟩
      · rw [if_neg e, if_neg e]
        by_cases f : y ≤ nI (S 317)
        · rw [if_pos f, if_neg (fun q => (fa_of_lt q).2.1 f), if_neg (show ¬ (1 : Int32) = 0 by decide)]
          rcases C_inLane (y := y) hC hB hz with ⟨k, g1, g2, g3, g4⟩ | ⟨g1, g2⟩
          · rcases M_at25 (y := y) hS hB hz with ⟨k', i1, i2, i3, i4⟩ | ⟨i1, i2⟩
            · have : k = k' := by
                rcases Nat.lt_trichotomy k k' with q | q | q
                · exact absurd g2 (i3 k q)
                · exact q
                · exact absurd i2 (g3 k' q)
              subst this
              exact ⟨nI k, by rw [g4, gP_s], i4⟩
            · exact absurd g2 (i1 k g1)
          · rcases M_at25 (y := y) hS hB hz with ⟨k', i1, i2, i3, i4⟩ | ⟨i1, i2⟩
            · exact absurd i2 (g1 k' i1)
            · exact ⟨-1000004, by rw [g2, gP_s], i2⟩
        · rw [if_neg f, if_pos (fa_of_nle f), if_pos rfl]
          exact ⟨_, rfl, rfl⟩
    · exact absurd a c
  · rcases M_isHeat hS hB x with ⟨c, d⟩ | ⟨c, d⟩
    · exact absurd c a
    · rw [b, d, gP_s, gP_s, if_pos rfl, if_pos rfl]
      exact ⟨_, rfl, rfl⟩
