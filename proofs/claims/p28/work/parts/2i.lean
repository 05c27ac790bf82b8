/-! level 2: sets, who is missing, why it cannot go on -/
def bn (p : Nat → Bool) : Nat → Nat
  | 0 => 0
  | n + 1 => bn p n + if p n = true then 2 ^ n else 0
theorem bn_lt (p : Nat → Bool) : ∀ n, bn p n < 2 ^ n
  | 0 => Nat.one_pos
  | n + 1 => by
    have := bn_lt p n
    have e : 2 ^ (n + 1) = 2 ^ n + 2 ^ n := by rw [Nat.pow_succ]; omega
    show bn p n + (if p n = true then 2 ^ n else 0) < _
    split <;> omega
theorem bn_30 (p : Nat → Bool) {n : Nat} (h : n ≤ 30) : bn p n < 2 ^ 30 := Nat.lt_of_lt_of_le (bn_lt p n) (Nat.pow_le_pow_right (by omega) h)
theorem bn_cong {p q : Nat → Bool} : ∀ {n : Nat}, (∀ k, k < n → p k = q k) → bn p n = bn q n
  | 0, _ => rfl
  | n + 1, h => by
    show bn p n + _ = bn q n + _
    rw [bn_cong (fun k hk => h k (by omega)), h n (by omega)]
theorem shl_n {n : Nat} (h : n < 30) : (1 : Int32) <<< (nI n &&& 31) = nI (2 ^ n) := by
  have : ∀ m : Fin 30, (1 : Int32) <<< (nI m.1 &&& 31) = nI (2 ^ m.1) := by decide
  exact this ⟨n, h⟩
theorem bs_t {p : Nat → Bool} {n : Nat} (h : n < 30) (hp : p n = true) : nI (bn p n) ||| ((1 : Int32) <<< (nI n &&& 31)) = nI (bn p (n + 1)) := by
  have e := fa_or_sum (k := n) 1 (bn_lt p n)
  rw [Nat.mul_one] at e
  rw [shl_n h, Int32.or_comm, e]
  show _ = nI (bn p n + if p n = true then 2 ^ n else 0)
  rw [if_pos hp, Nat.add_comm]
theorem bs_f {p : Nat → Bool} {n : Nat} (hp : ¬ p n = true) : bn p (n + 1) = bn p n := by
  show bn p n + (if p n = true then 2 ^ n else 0) = _
  rw [if_neg hp, Nat.add_zero]
theorem C_finalSet {w : gWd} {S : Nat → Nat} {i : Nat} (hC : CV (w i) S) (hB : WB S) : F_X5_finalSet w i = some (nI (bn (inF S) (S 311))) := by
  unfold F_X5_finalSet
  have hN := hB.1
  refine loopI (F := fun fu (acc : Nat) j => F_X5_finalSet_4 fu w i (nI acc) (nI j)) (S 311) (fun j acc => acc = bn (inF S) j) (fun r => r = some (nI (bn (inF S) (S 311)))) ?_ ?_ gFU 0 0 (by omega) (gFU_lt (by omega)) rfl
  · intro fu acc hI
    show F_X5_finalSet_4 (fu + 1) w i (nI acc) (nI (S 311)) = _
    rw [F_X5_finalSet_4_s, hC.sz, iLe (by omega) (by omega), if_pos (Nat.le_refl _), hI]
  · intro fu acc j hj hI
    right
    refine ⟨_, rfl, ?_⟩
    show F_X5_finalSet_4 (fu + 1) w i (nI acc) (nI j) = F_X5_finalSet_4 fu w i _ (nI (j + 1))
    have hg := (hB.k (k := j) (by omega)).2.2.2.2.2.2.1
    rw [F_X5_finalSet_4_s, hC.sz, iLe (by omega) (by omega), if_neg (by omega), gB_n _ (by omega) (by omega), hC.f7 hj, iE0 (by omega), hI]
    by_cases e : S (10 * j + 6) = 0
    · rw [if_pos e, bs_f (by simp [inF, e])]
      simp only [gS_e, nI_1]
    · rw [if_neg e]
      simp only [gS_e]
      rw [bs_t (by omega) (by simp [inF, e]), nI_1]
def mis (S : Nat → Nat) (k : Nat) : Bool := askB S k && decide (S (10 * k + tcol S) = 0)
/-- he who is still to swim, before whom r are -/
theorem C_still {w : gWd} {S : Nat → Nat} {i r EB : Nat} (hI : IV EB S) (hC : CV (w i) S) (hr : r < 2 ^ 31) : (∃ k, k < S 311 ∧ mis S k = true ∧ fb_ct (mis S) k = r ∧ F_X5_stillToSwim w i (nI r) = some (nI k)) ∨ (fb_ct (mis S) (S 311) ≤ r ∧ F_X5_stillToSwim w i (nI r) = some (-1000004)) := by
  have hB := hI.wb
  have hN := hB.1
  unfold F_X5_stillToSwim
  refine loopI (F := fun fu (acc : Nat) j => F_X5_stillToSwim_4 fu w i (nI r) (nI acc) (nI j)) (S 311) (fun j acc => acc = fb_ct (mis S) j ∧ acc ≤ r ∧ acc ≤ j) (fun o => (∃ k, k < S 311 ∧ mis S k = true ∧ fb_ct (mis S) k = r ∧ o = some (nI k)) ∨ (fb_ct (mis S) (S 311) ≤ r ∧ o = some (-1000004))) ?_ ?_ gFU 0 0 (by omega) (gFU_lt (by omega)) ⟨rfl, by omega, by omega⟩
  · intro fu acc hI
    right
    refine ⟨by omega, ?_⟩
    show F_X5_stillToSwim_4 (fu + 1) w i (nI r) (nI acc) (nI (S 311)) = _
    rw [F_X5_stillToSwim_4_s, hC.sz, iLe (by omega) (by omega), if_pos (Nat.le_refl _)]
  · intro fu acc j hj hJ
    have hg := tcol_le hB (k := j) (by omega)
    have e0 : F_X5_stillToSwim_4 (fu + 1) w i (nI r) (nI acc) (nI j) = if mis S j = true then (if acc = r then some (nI j) else F_X5_stillToSwim_4 fu w i (nI r) (nI (acc + 1)) (nI (j + 1))) else F_X5_stillToSwim_4 fu w i (nI r) (nI acc) (nI (j + 1)) := by
      rw [F_X5_stillToSwim_4_s, hC.sz, iLe (by omega) (by omega), if_neg (by omega), gB_n _ (by omega) (by omega), C_swimsNow hI hC hj, gP_s, gB_n _ (by omega) (by omega), C_stageTime hC hB hj, gP_s, iEq (by omega) (by omega)]
      unfold mis
      by_cases a : askB S j = true
      · rw [if_pos a, iE0 (by omega), if_neg (by omega), a]
        by_cases t : S (10 * j + tcol S) = 0
        · rw [if_pos ((mEN1 (by omega)).mpr t), if_pos (show (true && decide (S (10 * j + tcol S) = 0)) = true by simp [t])]
          simp only [gS_e, nI_1]
        · rw [if_neg (fun q => t ((mEN1 (by omega)).mp q)), if_neg (show ¬ (true && decide (S (10 * j + tcol S) = 0)) = true by simp [t])]
          simp only [gS_e, nI_1]
      · rw [if_neg a, iE0 (by omega), if_pos rfl, if_neg (show ¬ (askB S j && decide (S (10 * j + tcol S) = 0)) = true by simp [a])]
        simp only [gS_e, nI_1]
    show (_ ∨ ∃ st', _ ∧ F_X5_stillToSwim_4 (fu + 1) w i (nI r) (nI acc) (nI j) = F_X5_stillToSwim_4 fu w i (nI r) (nI st') (nI (j + 1)))
    by_cases e : mis S j = true
    · by_cases e2 : acc = r
      · left
        left
        refine ⟨j, hj, e, by omega, ?_⟩
        show F_X5_stillToSwim_4 (fu + 1) w i (nI r) (nI acc) (nI j) = _
        rw [e0, if_pos e, if_pos e2]
      · right
        refine ⟨acc + 1, ⟨by rw [fb_ct_succ, if_pos e]; omega, by omega, by omega⟩, ?_⟩
        rw [e0, if_pos e, if_neg e2]
    · right
      refine ⟨acc, ⟨by rw [fb_ct_succ, if_neg e]; omega, by omega, by omega⟩, ?_⟩
      rw [e0, if_neg e]
def TN (S : Nat → Nat) (q : Nat) : Bool := decide (1 < S (10 * q + 5))
def whyN (S : Nat → Nat) : Nat := if S 310 = 0 then (if pres S (S 311) = 0 then 1 else 0) else if fb_ct (mis S) (S 311) = 0 then (if S 310 = 1 ∧ fb_ct (TN S) (S 311) = 0 then 1 else 0) else 2
theorem C_why {w : gWd} {S : Nat → Nat} {i EB : Nat} (hI : IV EB S) (hC : CV (w i) S) : F_X5_reasonToWait w i = some (nI (whyN S)) := by
  have hB := hI.wb
  have hN := hB.1
  have hst := hB.2.1
  have hp := pres_le S (S 311)
  unfold F_X5_reasonToWait F_X5_reasonToWait_51 whyN
  rw [hC.st, iE0 (by omega), C_pres hC hB, gP_s, iE0 (by omega)]
  by_cases e0 : S 310 = 0
  · rw [if_pos e0, if_pos e0]
    split <;> rfl
  · rw [if_neg e0, if_neg e0]
    rcases C_still (r := 0) hI hC (by omega) with ⟨k, hk, hm, hc, h⟩ | ⟨hc, h⟩
    · have hne : fb_ct (mis S) (S 311) ≠ 0 := fun z => by
        rw [fb_ct_zero] at z
        rw [z k hk] at hm
        cases hm
      rw [show F_X5_stillToSwim w i 0 = _ from h, gP_s, if_neg, if_neg hne]
      · rfl
      · intro z
        have : nI k < 0 := by rw [z]; decide
        exact nI_pos (by omega) this
    · rw [show F_X5_stillToSwim w i 0 = _ from h, gP_s, if_pos rfl, iE1 (a := S 310) (by omega), if_pos (show fb_ct (mis S) (S 311) = 0 by omega)]
      by_cases e1 : S 310 = 1
      · have hct : ctF S 1000 (S 311) = fb_ct (TN S) (S 311) := by
          unfold ctF
          refine fb_ct_cong (fun q hq => ?_)
          have hg := (hB.k (k := q) (by omega)).2.2.2.2.2.1
          have : tcol S = 5 := by unfold tcol; rw [if_pos e1]
          rw [this]
          unfold TN
          simp
          omega
        have hle := fb_ct_le (TN S) (S 311)
        unfold F_X5_timesAboveZero
        rw [if_pos e1, show (1000 : Int32) = nI 1000 from rfl, C_faster hC hB (by omega), gP_s, gP_s, hct, iE0 (by omega)]
        by_cases z : fb_ct (TN S) (S 311) = 0
        · rw [if_pos z, if_pos ⟨e1, z⟩]; rfl
        · rw [if_neg z, if_neg (fun y => z y.2)]; rfl
      · rw [if_neg e1, if_neg (fun y => e1 y.1)]; rfl
theorem mis_3 {S : Nat → Nat} (h : S 310 = 3) (n : Nat) : fb_ct (mis S) n = 0 := fb_ct_zero.mpr (fun k _ => by unfold mis askB; simp; omega)
