/-! level 2: heat -/
def tz (S : Nat → Nat) (z k : Nat) : Nat := if z = 0 then S (10 * k + 7) else S (10 * k + 5)
def cnt (S : Nat → Nat) (z y k : Nat) : Nat := if y = 0 then 1 else if y = 1 then (if tz S z k = 0 then 0 else 1) else if y = 4 then (if tz S z k ≤ 1 then 0 else tz S z k - 1) else S (10 * k + 1)
def cz (S : Nat → Nat) (z y k : Nat) : Nat := if hIn S z k = true then cnt S z y k else 0
def bt (a b : Nat) : Nat := if b = 0 then a else if a = 0 then b else if a ≤ b then a else b
def lsf (c : Nat → Nat) : Nat → Nat
  | 0 => 0
  | n + 1 => bt (lsf c n) (c n)
def mxf (c : Nat → Nat) : Nat → Nat
  | 0 => 0
  | n + 1 => if c n ≤ mxf c n then mxf c n else c n
theorem bt_le {a b m : Nat} (h1 : a ≤ m) (h2 : b ≤ m) : bt a b ≤ m := by
  unfold bt
  split
  · exact h1
  · split
    · exact h2
    · split
      · exact h1
      · exact h2
theorem lsf_le {c : Nat → Nat} {m : Nat} : ∀ {n}, (∀ k, k < n → c k ≤ m) → lsf c n ≤ m
  | 0, _ => Nat.zero_le _
  | n + 1, h => bt_le (lsf_le (fun k hk => h k (by omega))) (h n (by omega))
theorem mxf_le {c : Nat → Nat} {m : Nat} : ∀ {n}, (∀ k, k < n → c k ≤ m) → mxf c n ≤ m
  | 0, _ => Nat.zero_le _
  | n + 1, h => by
    have := mxf_le (c := c) (m := m) (n := n) (fun k hk => h k (by omega))
    have := h n (by omega)
    show (if c n ≤ mxf c n then mxf c n else c n) ≤ m
    split <;> omega
theorem tz_le {S : Nat → Nat} (hB : WB S) {z k : Nat} (hk : k < 30) : tz S z k ≤ 1000 := by
  have h := hB.k hk
  unfold tz
  split <;> omega
theorem cz_le {S : Nat → Nat} (hB : WB S) {z y k : Nat} (hk : k < 30) : cz S z y k ≤ 999 := by
  have h := (hB.k hk).2.1
  have ht := tz_le hB (z := z) hk
  unfold cz cnt
  split
  · split
    · omega
    · split
      · split <;> omega
      · split
        · split <;> omega
        · omega
  · omega
theorem M_bt {w : gWd} {a b : Nat} (ha : a ≤ 999) (hb : b ≤ 999) : F_X12_better w (nI a) (nI b) = some (nI (bt a b)) := by
  unfold F_X12_better F_X12_better_13 F_X12_better_17 bt
  rw [iLe0 (by omega), iE0 (by omega), iLe (by omega) (by omega)]
  split
  · rfl
  · split
    · rfl
    · split <;> rfl
theorem C_timeOf {w : gWd} {S : Nat → Nat} {i z k : Nat} (hC : CV (w i) S) (hz : z ≤ 8) (hk : k < S 311) : F_X10_timeOf w i k (nI z - 1) = some (nI (tz S z k) - 1) := by
  unfold F_X10_timeOf tz
  by_cases e : z = 0
  · subst e; rw [if_pos hX_0, hC.f8 hk, if_pos rfl]
  · rw [if_neg (hX_ne e (by omega)), hC.f6 hk, if_neg e]
theorem C_countIn {w : gWd} {S : Nat → Nat} {i z y : Nat} (hC : CV (w i) S) (hB : WB S) (hz : z ≤ 8) (hy : y ≤ 1) : F_X0_countIn w i (nI z - 1) (nI y) = some (nI (fb_sm (cz S z y) (S 311))) := by
  unfold F_X0_countIn
  have hN := hB.1
  refine loopI (F := fun fu (acc : Nat) j => F_X0_countIn_5 fu w i (nI z - 1) (nI y) (nI acc) (nI j)) (S 311) (fun j acc => acc = fb_sm (cz S z y) j) (fun r => r = some (nI (fb_sm (cz S z y) (S 311)))) ?_ ?_ gFU 0 0 (by omega) (gFU_lt (by omega)) rfl
  · intro fu acc hI
    show F_X0_countIn_5 (fu + 1) w i (nI z - 1) (nI y) (nI acc) (nI (S 311)) = _
    rw [F_X0_countIn_5_s, hC.sz, iLe (by omega) (by omega), if_pos (Nat.le_refl _), hI]
  · intro fu acc j hj hI
    right
    refine ⟨_, rfl, ?_⟩
    show F_X0_countIn_5 (fu + 1) w i (nI z - 1) (nI y) (nI acc) (nI j) = F_X0_countIn_5 fu w i (nI z - 1) (nI y) _ (nI (j + 1))
    have ht := tz_le hB (z := z) (k := j) (by omega)
    rw [F_X0_countIn_5_s, hC.sz, iLe (by omega) (by omega), if_neg (by omega), gB_n _ (by omega) (by omega), C_isIn hC hB hz hj, gP_s, C_timeOf hC hz hj, gP_s, iE0 (a := y) (by omega), fb_sm_succ, hI]
    unfold F_X0_countIn_46
    have hc : cz S z y j = if hIn S z j = true then cnt S z y j else 0 := rfl
    rw [hc]
    by_cases e : hIn S z j = true
    · rw [if_pos e, iE0 (by omega), if_neg (by omega), if_pos e]
      unfold cnt
      by_cases e1 : y = 0
      · rw [if_pos e1, if_pos e1]
        simp only [gS_e, nI_1]
      · rw [if_neg e1, if_neg e1, if_pos (show y = 1 by omega)]
        by_cases e2 : tz S z j = 0
        · rw [if_pos ((mEN1 (by omega)).mpr e2), if_pos e2]
          simp only [gS_e, nI_1, Nat.add_zero]
        · rw [if_neg (fun q => e2 ((mEN1 (by omega)).mp q)), if_neg e2]
          simp only [gS_e, nI_1]
    · rw [if_neg e, iE0 (by omega), if_pos rfl, if_neg e]
      simp only [gS_e, nI_1, Nat.add_zero]
theorem C_leastIn {w : gWd} {S : Nat → Nat} {i z b : Nat} (hC : CV (w i) S) (hB : WB S) (hz : z ≤ 8) (hb : b ≤ 1) : F_X0_leastIn w i (nI z - 1) (nI b) = some (if nI (lsf (cz S z (2 + 2 * b)) (S 311)) ≤ 0 then -1000004 else nI (lsf (cz S z (2 + 2 * b)) (S 311))) := by
  unfold F_X0_leastIn
  have hN := hB.1
  refine loopI (F := fun fu (acc : Nat) j => F_X0_leastIn_5 fu w i (nI z - 1) (nI b) (nI acc) (nI j)) (S 311) (fun j acc => acc = lsf (cz S z (2 + 2 * b)) j) (fun r => r = some (if nI (lsf (cz S z (2 + 2 * b)) (S 311)) ≤ 0 then -1000004 else nI (lsf (cz S z (2 + 2 * b)) (S 311)))) ?_ ?_ gFU 0 0 (by omega) (gFU_lt (by omega)) rfl
  · intro fu acc hI
    show F_X0_leastIn_5 (fu + 1) w i (nI z - 1) (nI b) (nI acc) (nI (S 311)) = _
    rw [F_X0_leastIn_5_s, hC.sz, iLe (by omega) (by omega), if_pos (Nat.le_refl _), C_above, gP_s, hI]
  · intro fu acc j hj hI
    right
    refine ⟨lsf (cz S z (2 + 2 * b)) (j + 1), rfl, ?_⟩
    show F_X0_leastIn_5 (fu + 1) w i (nI z - 1) (nI b) (nI acc) (nI j) = F_X0_leastIn_5 fu w i (nI z - 1) (nI b) (nI (lsf (cz S z (2 + 2 * b)) (j + 1))) (nI (j + 1))
    have ht := tz_le hB (z := z) (k := j) (by omega)
    have he := (hB.k (k := j) (by omega)).2.1
    have hacc : acc ≤ 999 := by rw [hI]; exact lsf_le (fun k hk => cz_le hB (by omega))
    have h41 : ∀ (X : Int32) (c : Nat), c ≤ 999 → ((X ≤ 0 ∧ c = 0) ∨ (X = nI c ∧ 0 < c)) → F_X0_leastIn_41 (F_X0_leastIn_5 fu) w i (nI z - 1) (nI b) (nI acc) (nI j) i j X = F_X0_leastIn_5 fu w i (nI z - 1) (nI b) (nI (bt acc (if hIn S z j = true then c else 0))) (nI (j + 1)) := by
      intro X c hc hX
      unfold F_X0_leastIn_41 F_X0_leastIn_67
      rw [C_isIn hC hB hz hj, gP_s]
      by_cases e : hIn S z j = true
      · rw [if_pos e, iE0 (by omega), if_neg (by omega), if_pos e]
        unfold bt
        rcases hX with ⟨h1, h2⟩ | ⟨h1, h2⟩
        · rw [if_pos h1, if_pos h2]
          simp only [gS_e, nI_1]
        · rw [h1, iLe0 (by omega), if_neg (show ¬ c = 0 by omega), if_neg (show ¬ c = 0 by omega), iE0 (by omega), iLe (by omega) (by omega)]
          by_cases e1 : acc = 0
          · rw [if_pos e1, if_pos e1]
            simp only [gS_e, nI_1]
          · rw [if_neg e1, if_neg e1]
            by_cases e2 : acc ≤ c
            · rw [if_pos e2, if_pos e2]
              simp only [gS_e, nI_1]
            · rw [if_neg e2, if_neg e2]
              simp only [gS_e, nI_1]
      · rw [if_neg e, iE0 (by omega), if_pos rfl, if_neg e]
        unfold bt
        rw [if_pos rfl]
        simp only [gS_e, nI_1]
    have hs : lsf (cz S z (2 + 2 * b)) (j + 1) = bt acc (if hIn S z j = true then cnt S z (2 + 2 * b) j else 0) := by rw [hI]; rfl
    rw [F_X0_leastIn_5_s, hC.sz, iLe (by omega) (by omega), if_neg (by omega), gB_n _ (by omega) (by omega), iE0 (by omega), hC.f2 hj, C_timeOf hC hz hj, gP_s, hs]
    by_cases e : b = 0
    · subst e
      rw [if_pos rfl]
      refine h41 _ _ ?_ ?_
      · show S (10 * j + 1) ≤ 999; exact he
      · show (_ ∧ S (10 * j + 1) = 0) ∨ (_ = nI (S (10 * j + 1)) ∧ 0 < S (10 * j + 1))
        by_cases e1 : S (10 * j + 1) = 0
        · left; exact ⟨by rw [e1]; decide, e1⟩
        · right; exact ⟨rfl, by omega⟩
    · have e' : b = 1 := by omega
      subst e'
      rw [if_neg e]
      have hcn : cnt S z (2 + 2 * 1) j = if tz S z j ≤ 1 then 0 else tz S z j - 1 := rfl
      rw [hcn]
      refine h41 _ _ ?_ ?_
      · split <;> omega
      · by_cases e1 : tz S z j ≤ 1
        · left; exact ⟨(mLe0 (by omega)).mpr e1, if_pos e1⟩
        · right; rw [if_neg e1]; exact ⟨mN (by omega) (by omega), by omega⟩
theorem C_greatest {w : gWd} {S : Nat → Nat} {i z : Nat} (hC : CV (w i) S) (hB : WB S) (hz : z ≤ 8) : F_X0_greatestEntryIn w i (nI z - 1) = some (if nI (mxf (cz S z 3) (S 311)) ≤ 0 then -1000004 else nI (mxf (cz S z 3) (S 311))) := by
  unfold F_X0_greatestEntryIn
  have hN := hB.1
  refine loopI (F := fun fu (acc : Nat) j => F_X0_greatestEntryIn_4 fu w i (nI z - 1) (nI acc) (nI j)) (S 311) (fun j acc => acc = mxf (cz S z 3) j) (fun r => r = some (if nI (mxf (cz S z 3) (S 311)) ≤ 0 then -1000004 else nI (mxf (cz S z 3) (S 311)))) ?_ ?_ gFU 0 0 (by omega) (gFU_lt (by omega)) rfl
  · intro fu acc hI
    show F_X0_greatestEntryIn_4 (fu + 1) w i (nI z - 1) (nI acc) (nI (S 311)) = _
    rw [F_X0_greatestEntryIn_4_s, hC.sz, iLe (by omega) (by omega), if_pos (Nat.le_refl _), C_above, gP_s, hI]
  · intro fu acc j hj hI
    right
    refine ⟨mxf (cz S z 3) (j + 1), rfl, ?_⟩
    show F_X0_greatestEntryIn_4 (fu + 1) w i (nI z - 1) (nI acc) (nI j) = F_X0_greatestEntryIn_4 fu w i (nI z - 1) (nI (mxf (cz S z 3) (j + 1))) (nI (j + 1))
    have he := (hB.k (k := j) (by omega)).2.1
    have hacc : acc ≤ 999 := by rw [hI]; exact mxf_le (fun k hk => cz_le hB (by omega))
    have hs : mxf (cz S z 3) (j + 1) = if cz S z 3 j ≤ acc then acc else cz S z 3 j := by rw [hI]; rfl
    have hc : cz S z 3 j = if hIn S z j = true then S (10 * j + 1) else 0 := rfl
    rw [F_X0_greatestEntryIn_4_s, hC.sz, iLe (by omega) (by omega), if_neg (by omega), gB_n _ (by omega) (by omega), C_isIn hC hB hz hj, gP_s, gB_n _ (by omega) (by omega), gB_n _ (by omega) (by omega), hC.f2 hj, iLe (by omega) (by omega), hs, hc]
    by_cases e : hIn S z j = true
    · rw [if_pos e, iE0 (by omega), if_neg (by omega), if_pos e]
      by_cases e2 : S (10 * j + 1) ≤ acc
      · rw [if_pos e2, if_pos e2]
        simp only [gS_e, nI_1]
      · rw [if_neg e2, if_neg e2]
        simp only [gS_e, nI_1]
    · rw [if_neg e, iE0 (by omega), if_pos rfl, if_neg e, if_pos (Nat.zero_le _)]
      simp only [gS_e, nI_1]
theorem M_counts {w : gWd} {S : Nat → Nat} {z y k : Nat} (hS : SV w S) (hB : WB S) (hz : z ≤ 8) (hy : y ≤ 4) (hk : k < 30) : F_X12_counts w (nI k) (nI z - 1) (nI y) = some (nI (cnt S z y k)) := by
  have h := hB.k hk
  have ht := tz_le hB (z := z) hk
  have h12 : ∀ a, 10 * k + a < 320 → tz S z k = S (10 * k + a) → F_X12_counts_12 w (nI k) (nI y) (nI a) (nI k) = some (nI (cnt S z y k)) := by
    intro a ha hta
    unfold F_X12_counts_12 cnt
    rw [M_of hS ha, gP_s, M_of1 hS hk, gP_s, ← hta, iE0 (by omega), iE1 (by omega), show (4 : Int32) = nI 4 from rfl, iEq (by omega) (by omega), iLe0 (by omega), show (if nI (tz S z k) ≤ 1 then (some 0 : Option Int32) else some (nI (tz S z k) - 1)) = (if nI (tz S z k) ≤ nI 1 then some 0 else some (nI (tz S z k) - 1)) from rfl, iLe (by omega) (by omega)]
    by_cases e0 : y = 0
    · rw [if_pos e0, if_pos e0]; rfl
    · rw [if_neg e0, if_neg e0]
      by_cases e1 : y = 1
      · rw [if_pos e1, if_pos e1]
        split <;> rfl
      · rw [if_neg e1, if_neg e1]
        by_cases e4 : y = 4
        · rw [if_pos e4, if_pos e4]
          by_cases e5 : tz S z k ≤ 1
          · rw [if_pos e5, if_pos e5]; rfl
          · rw [if_neg e5, if_neg e5, mN (by omega) (by omega)]
        · rw [if_neg e4, if_neg e4]
  unfold F_X12_counts
  by_cases e : z = 0
  · rw [if_neg (fun q => (hX_pos hz).mp q e)]
    exact h12 7 (by omega) (by unfold tz; rw [if_pos e])
  · rw [if_pos ((hX_pos hz).mpr e)]
    exact h12 5 (by omega) (by unfold tz; rw [if_neg e])
theorem M_heat31 {w : gWd} {S : Nat → Nat} {z y : Nat} (hS : SV w S) (hB : WB S) (hz : z ≤ 8) (hy : y ≤ 4) : F_X12_heat_31 gFU w (nI z - 1) (nI y) 0 0 0 0 = some (if 2 ≤ y then (if y = 3 then (if nI (mxf (cz S z y) (S 311)) ≤ 0 then -1000004 else nI (mxf (cz S z y) (S 311))) else (if nI (lsf (cz S z y) (S 311)) ≤ 0 then -1000004 else nI (lsf (cz S z y) (S 311)))) else nI (fb_sm (cz S z y) (S 311))) := by
  have hN := hB.1
  refine loopI (F := fun fu (_ : Unit) j => F_X12_heat_31 fu w (nI z - 1) (nI y) (nI (fb_sm (cz S z y) j)) (nI (lsf (cz S z y) j)) (nI (mxf (cz S z y) j)) (nI j)) (S 311) (fun _ _ => True) (fun r => r = some (if 2 ≤ y then (if y = 3 then (if nI (mxf (cz S z y) (S 311)) ≤ 0 then -1000004 else nI (mxf (cz S z y) (S 311))) else (if nI (lsf (cz S z y) (S 311)) ≤ 0 then -1000004 else nI (lsf (cz S z y) (S 311)))) else nI (fb_sm (cz S z y) (S 311)))) ?_ ?_ gFU () 0 (by omega) (gFU_lt (by omega)) trivial
  · intro fu _ _
    show F_X12_heat_31 (fu + 1) w (nI z - 1) (nI y) (nI (fb_sm (cz S z y) (S 311))) (nI (lsf (cz S z y) (S 311))) (nI (mxf (cz S z y) (S 311))) (nI (S 311)) = _
    rw [F_X12_heat_31_s]
    unfold F_X12_heat_125
    rw [hS 311 (by omega), iLe (by omega) (by omega), if_pos (Nat.le_refl _), show (2 : Int32) = nI 2 from rfl, iLe (by omega) (by omega), iE3 (by omega), M_orNone, gP_s, M_orNone, gP_s]
    split
    · split <;> rfl
    · rfl
  · intro fu _ j hj _
    right
    refine ⟨(), trivial, ?_⟩
    show F_X12_heat_31 (fu + 1) w (nI z - 1) (nI y) (nI (fb_sm (cz S z y) j)) (nI (lsf (cz S z y) j)) (nI (mxf (cz S z y) j)) (nI j) = F_X12_heat_31 fu w (nI z - 1) (nI y) (nI (fb_sm (cz S z y) j + cz S z y j)) (nI (bt (lsf (cz S z y) j) (cz S z y j))) (nI (if cz S z y j ≤ mxf (cz S z y) j then mxf (cz S z y) j else cz S z y j)) (nI (j + 1))
    have hc := cz_le hB (z := z) (y := y) (k := j) (by omega)
    have hl : lsf (cz S z y) j ≤ 999 := lsf_le (fun k hk => cz_le hB (by omega))
    have hm : mxf (cz S z y) j ≤ 999 := mxf_le (fun k hk => cz_le hB (by omega))
    have h66 : F_X12_heat_66 (F_X12_heat_31 fu) w (nI z - 1) (nI y) (nI (fb_sm (cz S z y) j)) (nI (lsf (cz S z y) j)) (nI (mxf (cz S z y) j)) (nI j) (nI (cz S z y j)) = F_X12_heat_31 fu w (nI z - 1) (nI y) (nI (fb_sm (cz S z y) j + cz S z y j)) (nI (bt (lsf (cz S z y) j) (cz S z y j))) (nI (if cz S z y j ≤ mxf (cz S z y) j then mxf (cz S z y) j else cz S z y j)) (nI (j + 1)) := by
      unfold F_X12_heat_66
      rw [gS_e, M_bt hl hc, gP_s, iLe (by omega) (by omega), nI_add]
      split <;> simp only [gS_e, nI_1]
    rw [F_X12_heat_31_s, hS 311 (by omega), iLe (by omega) (by omega), if_neg (by omega), M_isIn hS hB hz (by omega), gP_s, M_counts hS hB hz hy (by omega), gP_s, ← h66]
    have hcz : cz S z y j = if hIn S z j = true then cnt S z y j else 0 := rfl
    by_cases e : hIn S z j = true
    · rw [if_pos e, iE0 (by omega), if_neg (by omega), hcz, if_pos e]
    · rw [if_neg e, iE0 (by omega), if_pos rfl, hcz, if_neg e]
      rfl
theorem Q_heat {w : gWd} {S : Nat → Nat} {EB : Nat} (hI : IV EB S) (hC : CV (w 0) S) (hS : SV w S) (x y : Int32) : QQ (F_X11_heat w x y) (F_X12_heat w x y) := by
  have hB := hI.wb
  have hN := hB.1
  unfold F_X11_heat F_X12_heat
  rcases C_hasHeat hC hB x with ⟨a, b⟩ | ⟨a, b⟩
  · rcases M_isHeat hS hB x with ⟨c, d⟩ | ⟨c, d⟩
    · obtain ⟨z, hz, rfl⟩ := hZ_z hB a
      rw [b, d, gP_s, gP_s, if_neg (show ¬ (1 : Int32) = 0 by decide), if_neg (show ¬ (1 : Int32) = 0 by decide)]
      by_cases c1 : y < 0
      · rw [if_pos c1, show F_X12_in w y 0 4 = F_X12_in w y 0 (nI 4) from rfl, M_in_f (by omega) (Or.inl c1), gP_s, if_pos rfl]
        exact ⟨_, rfl, rfl⟩
      · by_cases d1 : nI 5 ≤ y
        · rw [if_neg c1, show F_X12_in w y 0 4 = F_X12_in w y 0 (nI 4) from rfl, M_in_f (n := 4) (by omega) (Or.inr d1), gP_s, if_pos rfl, if_neg]
          · exact ⟨_, rfl, rfl⟩
          · intro q
            rw [Int32.le_iff_toInt_le] at q d1
            have k1 : (nI 5).toInt = 5 := by decide
            have k2 : (4 : Int32).toInt = 4 := by decide
            omega
        · obtain ⟨q, hq, rfl⟩ := arg_lt (n := 5) (by omega) c1 d1
          rw [if_neg c1, if_pos (show nI q ≤ 4 from (nI_leI (b := 4) (by omega) (by omega)).mpr (by omega)), show F_X12_in w (nI q) 0 4 = F_X12_in w (nI q) 0 (nI 4) from rfl, M_in_t (by omega) (by omega), gP_s, if_neg (show ¬ (1 : Int32) = 0 by decide), M_heat31 hS hB hz (by omega)]
          have : q = 0 ∨ q = 1 ∨ q = 2 ∨ q = 3 ∨ q = 4 := by omega
          rcases this with rfl | rfl | rfl | rfl | rfl
          · show QQ (gP (gP (F_X0_countIn w 0 (nI z - 1) (nI 0)) (fun v => some v)) (fun v => some v)) _
            rw [C_countIn hC hB hz (by omega), gP_s, gP_s]
            exact ⟨_, rfl, rfl⟩
          · show QQ (gP (gP (F_X0_countIn w 0 (nI z - 1) (nI 1)) (fun v => some v)) (fun v => some v)) _
            rw [C_countIn hC hB hz (by omega), gP_s, gP_s]
            exact ⟨_, rfl, rfl⟩
          · show QQ (gP (gP (F_X0_leastIn w 0 (nI z - 1) (nI 0)) (fun v => some v)) (fun v => some v)) _
            rw [C_leastIn hC hB hz (by omega), gP_s, gP_s]
            exact ⟨_, rfl, rfl⟩
          · show QQ (gP (gP (F_X0_greatestEntryIn w 0 (nI z - 1)) (fun v => some v)) (fun v => some v)) _
            rw [C_greatest hC hB hz, gP_s, gP_s]
            exact ⟨_, rfl, rfl⟩
          · show QQ (gP (gP (F_X0_leastIn w 0 (nI z - 1) (nI 1)) (fun v => some v)) (fun v => some v)) _
            rw [C_leastIn hC hB hz (by omega), gP_s, gP_s]
            exact ⟨_, rfl, rfl⟩
    · exact absurd a c
  · rcases M_isHeat hS hB x with ⟨c, d⟩ | ⟨c, d⟩
    · exact absurd c a
    · rw [b, d, gP_s, gP_s, if_pos rfl, if_pos rfl]
      exact ⟨_, rfl, rfl⟩
