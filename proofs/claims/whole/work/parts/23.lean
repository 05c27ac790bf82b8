/-! level 2: what the model's reads answer -/
section MREADS
variable {w : gWd} {S : Nat → Nat}
theorem M_of (hS : SV w S) {k j : Nat} (h : 10 * k + j < 320) : F_X12_of w (nI k) (nI j) = some (nI (S (10 * k + j))) := by
  unfold F_X12_of
  rw [show (10 : Int32) = nI 10 from rfl, pk_mul, nI_add, gB_n _ h (by omega), hS _ h]
theorem M_of0 (hS : SV w S) {k : Nat} (h : k < 30) : F_X12_of w (nI k) 0 = some (nI (S (10 * k))) := M_of (j := 0) hS (by omega)
theorem M_of1 (hS : SV w S) {k : Nat} (h : k < 30) : F_X12_of w (nI k) 1 = some (nI (S (10 * k + 1))) := M_of (j := 1) hS (by omega)
theorem M_of2 (hS : SV w S) {k : Nat} (h : k < 30) : F_X12_of w (nI k) 2 = some (nI (S (10 * k + 2))) := M_of (j := 2) hS (by omega)
theorem M_of3 (hS : SV w S) {k : Nat} (h : k < 30) : F_X12_of w (nI k) 3 = some (nI (S (10 * k + 3))) := M_of (j := 3) hS (by omega)
theorem M_of4 (hS : SV w S) {k : Nat} (h : k < 30) : F_X12_of w (nI k) 4 = some (nI (S (10 * k + 4))) := M_of (j := 4) hS (by omega)
theorem M_of5 (hS : SV w S) {k : Nat} (h : k < 30) : F_X12_of w (nI k) 5 = some (nI (S (10 * k + 5))) := M_of (j := 5) hS (by omega)
theorem M_of6 (hS : SV w S) {k : Nat} (h : k < 30) : F_X12_of w (nI k) 6 = some (nI (S (10 * k + 6))) := M_of (j := 6) hS (by omega)
theorem M_of7 (hS : SV w S) {k : Nat} (h : k < 30) : F_X12_of w (nI k) 7 = some (nI (S (10 * k + 7))) := M_of (j := 7) hS (by omega)
theorem M_of8 (hS : SV w S) {k : Nat} (h : k < 30) : F_X12_of w (nI k) 8 = some (nI (S (10 * k + 8))) := M_of (j := 8) hS (by omega)
theorem M_of9 (hS : SV w S) {k : Nat} (h : k < 30) : F_X12_of w (nI k) 9 = some (nI (S (10 * k + 9))) := M_of (j := 9) hS (by omega)
theorem M_lay {k j : Nat} (h : 10 * k + j < 320) (v : Int32) : F_X12_lay w (nI k) (nI j) v = some (up3 w 8 1 (10 * k + j) v) := by
  unfold F_X12_lay
  rw [show (10 : Int32) = nI 10 from rfl, pk_mul, nI_add, gB_n _ h (by omega)]
  rfl
theorem M_in (x0 x1 x2 : Int32) : F_X12_in w x0 x1 x2 = some (if x0 < x1 then 0 else if x2 < x0 then 0 else 1) := by
  unfold F_X12_in F_X12_in_14
  split
  · rfl
  · split <;> rfl
theorem M_isSw (hS : SV w S) (hB : WB S) (x : Int32) : F_X12_isSwimmer w x = some (if x < 0 ∨ nI (S 311) ≤ x then 0 else 1) := by
  unfold F_X12_isSwimmer
  rw [M_in, gP_s, hS 311 (by omega)]
  have hN := hB.1
  have h1 : (nI (S 311) - 1).toInt = (S 311 : Int) - 1 := mT (by omega)
  have h2 : (nI (S 311)).toInt = (S 311 : Int) := nI_toInt (by omega)
  by_cases a : x < 0
  · rw [if_pos a, if_pos (Or.inl a)]; rfl
  · rw [if_neg a]
    by_cases b : nI (S 311) ≤ x
    · rw [if_pos (Or.inr b), if_pos]
      · rfl
      · rw [Int32.lt_iff_toInt_lt, h1]
        rw [Int32.le_iff_toInt_le, h2] at b
        omega
    · rw [if_neg, if_neg (fun q => q.elim a b)]
      · rfl
      · rw [Int32.lt_iff_toInt_lt, h1]
        rw [Int32.le_iff_toInt_le, h2] at b
        omega
theorem M_isGone (hS : SV w S) (hB : WB S) {k : Nat} (h : k < 30) : F_X12_isGone w (nI k) = some (nI (S (10 * k + 2))) := by
  unfold F_X12_isGone
  rw [M_of2 hS h, gP_s]
  have := (hB.k h).2.2.1
  have e : S (10 * k + 2) = 0 ∨ S (10 * k + 2) = 1 := by omega
  rcases e with e | e <;> rw [e] <;> rfl
theorem M_lanes (hS : SV w S) : F_X12_lanes w = some (nI (S 317)) := by
  unfold F_X12_lanes
  rw [hS 317 (by omega)]
theorem M_ek (hS : SV w S) (hB : WB S) {k : Nat} (h : k < 30) : F_X12_entryKey w (nI k) = some (nI (ek S k)) := by
  unfold F_X12_entryKey ek
  have := (hB.k h).2.1
  rw [M_of1 hS h, gP_s, iE0 (by omega)]
  split
  · rw [show ((32 : Int32) * 1000) = nI (32 * 1000) from rfl, nI_add]
  · rw [show (32 : Int32) = nI 32 from rfl, pk_mul, nI_add]
theorem M_erank (hS : SV w S) (hB : WB S) {k : Nat} (h : k < 30) : F_X12_entryRank w (nI k) = some (nI (erank S k)) := by
  unfold F_X12_entryRank
  have hN := hB.1
  refine loopI (F := fun fu (acc : Nat) j => F_X12_entryRank_4 fu w (nI k) (nI acc) (nI j)) (S 311) (fun j acc => acc = fb_ct (fun q => decide (S (10 * q + 2) = 0 ∧ ek S q < ek S k)) j) (fun r => r = some (nI (erank S k))) ?_ ?_ gFU 0 0 (by omega) (gFU_lt (by omega)) rfl
  · intro fu acc hI
    show F_X12_entryRank_4 (fu + 1) w (nI k) (nI acc) (nI (S 311)) = _
    rw [F_X12_entryRank_4_s, hS 311 (by omega), iLe (by omega) (by omega), if_pos (Nat.le_refl _), hI]
    rfl
  · intro fu acc j hj hI
    right
    refine ⟨_, rfl, ?_⟩
    show F_X12_entryRank_4 (fu + 1) w (nI k) (nI acc) (nI j) = F_X12_entryRank_4 fu w (nI k) _ (nI (j + 1))
    have hg := (hB.k (k := j) (by omega)).2.2.1
    have h1 := ek_lt hB (k := j) (by omega)
    have h2 := ek_lt hB h
    rw [F_X12_entryRank_4_s, hS 311 (by omega), iLe (by omega) (by omega), if_neg (by omega), M_isGone hS hB (by omega), gP_s, iE0 (by omega), fb_ct_succ, hI]
    by_cases e : S (10 * j + 2) = 0
    · rw [if_pos e, M_ek hS hB (by omega), gP_s, M_ek hS hB h, gP_s, iLe (by omega) (by omega)]
      by_cases e2 : ek S k ≤ ek S j
      · rw [if_pos e2, if_neg (by simp; omega)]
        unfold F_X12_entryRank_42
        simp only [gS_e, Int32.add_zero, Nat.add_zero, nI_1]
      · rw [if_neg e2, if_pos (by simp; omega)]
        simp only [gS_e, nI_1]
    · rw [if_neg e, if_neg (by simp [e])]
      unfold F_X12_entryRank_42
      simp only [gS_e, Int32.add_zero, Nat.add_zero, nI_1]
theorem M_hasT (hS : SV w S) (hB : WB S) {k : Nat} (h : k < 30) : F_X12_hasTime w (nI k) = some (nI (if 1 < S (10 * k + 5) then 1 else 0)) := by
  unfold F_X12_hasTime
  have := (hB.k h).2.2.2.2.2.1
  rw [M_of5 hS h, gP_s, show (1 : Int32) = nI 1 from rfl, iLe (by omega) (by omega)]
  by_cases e : 1 < S (10 * k + 5)
  · rw [if_neg (by omega), if_pos e]
  · rw [if_pos (by omega), if_neg e]; rfl
theorem M_fast (hS : SV w S) (hB : WB S) {a b : Nat} (ha : a < 30) (hb : b < 30) : F_X12_isFaster w (nI a) (nI b) = some (nI (if fastB S a b then 1 else 0)) := by
  unfold F_X12_isFaster F_X12_isFaster_35 F_X12_isFaster_39
  have h1 := (hB.k ha).2.2.2.2.2.1
  have h2 := (hB.k hb).2.2.2.2.2.1
  have k1 := ek_lt hB ha
  have k2 := ek_lt hB hb
  rw [M_of5 hS ha, gP_s, M_of5 hS hb, gP_s, gS_e, M_ek hS hB ha, gP_s, M_ek hS hB hb, gP_s, iLe (by omega) (by omega)]
  have hs : (nI (S (10 * a + 5)) - nI (S (10 * b + 5))).toInt = (S (10 * a + 5) : Int) - S (10 * b + 5) := pk_sub_toInt (by omega) (by omega)
  have c1 : (nI (S (10 * a + 5)) - nI (S (10 * b + 5)) < 0) ↔ S (10 * a + 5) < S (10 * b + 5) := by
    rw [Int32.lt_iff_toInt_lt, hs, show (0 : Int32).toInt = 0 from rfl]; omega
  have c2 : (nI (S (10 * a + 5)) - nI (S (10 * b + 5)) = 0) ↔ S (10 * a + 5) = S (10 * b + 5) := by
    rw [← Int32.toInt_inj, hs, show (0 : Int32).toInt = 0 from rfl]; omega
  unfold fastB
  by_cases e1 : S (10 * a + 5) < S (10 * b + 5)
  · rw [if_pos (c1.mpr e1), if_pos (by simp [e1])]; rfl
  · rw [if_neg (fun q => e1 (c1.mp q))]
    by_cases e2 : S (10 * a + 5) = S (10 * b + 5)
    · rw [if_pos (c2.mpr e2)]
      by_cases e3 : ek S b ≤ ek S a
      · rw [if_pos e3, if_neg (by simp; omega)]; rfl
      · rw [if_neg e3, if_pos (by simp; omega)]; rfl
    · rw [if_neg (fun q => e2 (c2.mp q)), if_neg (by simp; omega)]; rfl
theorem M_trank (hS : SV w S) (hB : WB S) {k : Nat} (h : k < 30) : F_X12_timeRank w (nI k) = some (nI (trank S k)) := by
  unfold F_X12_timeRank
  have hN := hB.1
  refine loopI (F := fun fu (acc : Nat) j => F_X12_timeRank_4 fu w (nI k) (nI acc) (nI j)) (S 311) (fun j acc => acc = fb_ct (fun q => decide (1 < S (10 * q + 5)) && fastB S q k) j) (fun r => r = some (nI (trank S k))) ?_ ?_ gFU 0 0 (by omega) (gFU_lt (by omega)) rfl
  · intro fu acc hI
    show F_X12_timeRank_4 (fu + 1) w (nI k) (nI acc) (nI (S 311)) = _
    rw [F_X12_timeRank_4_s, hS 311 (by omega), iLe (by omega) (by omega), if_pos (Nat.le_refl _), hI]
    rfl
  · intro fu acc j hj hI
    right
    refine ⟨_, rfl, ?_⟩
    show F_X12_timeRank_4 (fu + 1) w (nI k) (nI acc) (nI j) = F_X12_timeRank_4 fu w (nI k) _ (nI (j + 1))
    rw [F_X12_timeRank_4_s, hS 311 (by omega), iLe (by omega) (by omega), if_neg (by omega), M_hasT hS hB (by omega), gP_s, fb_ct_succ, hI]
    unfold F_X12_timeRank_38
    by_cases e : 1 < S (10 * j + 5)
    · rw [if_pos e, iE0 (by omega), if_neg (by omega), M_fast hS hB (by omega) h, gP_s]
      by_cases e2 : fastB S j k = true
      · rw [if_pos e2, iE0 (by omega), if_neg (by omega), if_pos (by simp [e, e2])]
        simp only [gS_e, nI_1]
      · rw [if_neg e2, iE0 (by omega), if_pos rfl, if_neg (by simp [e2])]
        simp only [gS_e, Int32.add_zero, Nat.add_zero, nI_1]
    · rw [if_neg e, iE0 (by omega), if_pos rfl, if_neg (by simp [e])]
      simp only [gS_e, Int32.add_zero, Nat.add_zero, nI_1]
theorem M_pres (hS : SV w S) (hB : WB S) : F_X12_present w = some (nI (pres S (S 311))) := by
  unfold F_X12_present
  have hN := hB.1
  refine loopI (F := fun fu (acc : Nat) j => F_X12_present_4 fu w (nI acc) (nI j)) (S 311) (fun j acc => acc = pres S j) (fun r => r = some (nI (pres S (S 311)))) ?_ ?_ gFU 0 0 (by omega) (gFU_lt (by omega)) rfl
  · intro fu acc hI
    show F_X12_present_4 (fu + 1) w (nI acc) (nI (S 311)) = _
    rw [F_X12_present_4_s, hS 311 (by omega), iLe (by omega) (by omega), if_pos (Nat.le_refl _), hI]
  · intro fu acc j hj hI
    right
    refine ⟨_, rfl, ?_⟩
    show F_X12_present_4 (fu + 1) w (nI acc) (nI j) = F_X12_present_4 fu w _ (nI (j + 1))
    have hg := (hB.k (k := j) (by omega)).2.2.1
    unfold pres at hI ⊢
    rw [F_X12_present_4_s, hS 311 (by omega), iLe (by omega) (by omega), if_neg (by omega), M_isGone hS hB (by omega), gP_s, iE0 (by omega), fb_ct_succ, hI]
    by_cases e : S (10 * j + 2) = 0
    · rw [if_pos e, if_pos (by simp [e])]
      simp only [gS_e, nI_1]
    · rw [if_neg e, if_neg (by simp [e])]
      simp only [gS_e, Int32.add_zero, Nat.add_zero, nI_1]
theorem M_laneOf (hS : SV w S) (hB : WB S) {r : Nat} (h : r < 1000) : F_X12_laneOf w (nI r) = some (laneI S r) := by
  unfold F_X12_laneOf laneI
  have hl := hB.2.2.2.2.2.1
  rw [M_lanes hS, gP_s, gS_e, gS_e, nI_1, nI_1, show (2 : Int32) = nI 2 from rfl, pk_rem (by omega) (by omega) (by omega), pk_div (by omega) (by omega) (by omega), pk_div (by omega) (by omega) (by omega), show (1 : Int32) = nI 1 from rfl, iEq (by omega) (by omega)]
  by_cases e : r % 2 = 1
  · rw [if_pos e, if_pos e, nI_add]
  · rw [if_neg e, if_neg e]
    have : (r + 1) / 2 = r / 2 := by omega
    rw [this]
end MREADS
