/-! level 2: the relation of the class's meet and the law's arrays; what the class answers -/
def RS (w : gWd) (EB : Nat) (S : Nat → Nat) : Prop := IV EB S ∧ HL S ∧ S 311 ≤ 20 ∧ CV (w 0) S ∧ RV (w 0) S ∧ (∃ K ρ, HC w K ρ) ∧ LV w S
section ANS
variable {w : gWd} {S : Nat → Nat} {EB k : Nat}
theorem A_sw (hC : CV (w 0) S) (hB : WB S) (hk : k < S 311) {q : Nat} (hq : q < 12) : F_X11_swimmer w (nI k) (nI q) = gP (F_X0_ofSwimmer w 0 0 k (nI q)) (fun v => some v) := by
  have hN := hB.1
  unfold F_X11_swimmer
  rw [C_hasN hC hB hk, gP_s, if_neg (show ¬ (1 : Int32) = 0 by decide), if_neg (nI_pos (by omega)), if_pos (show nI q ≤ 11 from (nI_leI (b := 11) (by omega) (by omega)).mpr (by omega)), gB_n _ (by omega) (by omega)]
theorem A_swN (hC : CV (w 0) S) : F_X11_swimmer w (nI (S 311)) 0 = some (-1000001) := by
  unfold F_X11_swimmer
  rw [C_has hC, if_pos (Or.inr (fa_le _ _ |>.mpr (Int.le_refl _))), gP_s, if_pos rfl]
theorem A_swM (hC : CV (w 0) S) : F_X11_swimmer w (-1) 0 = some (-1000001) := by
  unfold F_X11_swimmer
  rw [C_has hC, if_pos (Or.inl (by decide)), gP_s, if_pos rfl]
theorem A_sw0 (hC : CV (w 0) S) (hB : WB S) (hk : k < S 311) : F_X11_swimmer w (nI k) 0 = some (nI (S (10 * k))) := by
  rw [show (0 : Int32) = nI 0 from rfl, A_sw hC hB hk (by omega)]
  show some (w 0 (4 + k) 1) = _
  rw [hC.f1 hk]
theorem A_sw1 (hC : CV (w 0) S) (hB : WB S) (hk : k < S 311) : F_X11_swimmer w (nI k) 1 = some (nI (S (10 * k + 1))) := by
  rw [show (1 : Int32) = nI 1 from rfl, A_sw hC hB hk (by omega)]
  show some (w 0 (4 + k) 2) = _
  rw [hC.f2 hk]
theorem A_sw2 (hC : CV (w 0) S) (hB : WB S) (hk : k < S 311) : F_X11_swimmer w (nI k) 2 = some (if S (10 * k + 2) = 0 then nI (erank S k) else -1000004) := by
  have hN := hB.1
  have h := hB.k (k := k) (by omega)
  rw [show (2 : Int32) = nI 2 from rfl, A_sw hC hB hk (by omega)]
  show gP (if (w 0 (4 + k) 3) = 0 then (gP (F_X5_rankByEntry w 0 0 k) (fun v_6 => some v_6)) else (some (-1000004))) (fun v_9 => some v_9) = _
  rw [hC.f3 hk, C_erank hC hB hk, gP_s, iE0 (by omega)]
  split <;> rfl
theorem A_sw3 (hC : CV (w 0) S) (hB : WB S) (hk : k < S 311) : F_X11_swimmer w (nI k) 3 = some (if S (10 * k + 3) = 0 then -1000004 else nI (S (10 * k + 3)) - 1) := by
  have hN := hB.1
  have h := hB.k (k := k) (by omega)
  rw [show (3 : Int32) = nI 3 from rfl, A_sw hC hB hk (by omega)]
  show gP (if (w 0 (4 + k) 4) = (-1) then (some (-1000004)) else (some ((w 0 (4 + k) 4)))) (fun v_9 => some v_9) = _
  rw [hC.f4 hk, C_m1 (by omega), gP_s]
theorem A_sw4 (hC : CV (w 0) S) (hB : WB S) (hk : k < S 311) : F_X11_swimmer w (nI k) 4 = some (if nI (S (10 * k + 4)) ≤ 0 then -1000004 else nI (S (10 * k + 4))) := by
  rw [show (4 : Int32) = nI 4 from rfl, A_sw hC hB hk (by omega)]
  show gP (gP (F_X0_aboveZero w ((w 0 (4 + k) 5))) (fun v_11 => some v_11)) (fun v_9 => some v_9) = _
  rw [hC.f5 hk, C_above, gP_s, gP_s]
theorem A_sw5 (hC : CV (w 0) S) (hB : WB S) (hk : k < S 311) : F_X11_swimmer w (nI k) 5 = some (if S (10 * k + 5) = 0 then -1000004 else nI (S (10 * k + 5)) - 1) := by
  have hN := hB.1
  have h := hB.k (k := k) (by omega)
  rw [show (5 : Int32) = nI 5 from rfl, A_sw hC hB hk (by omega)]
  show gP (if (w 0 (4 + k) 6) = (-1) then (some (-1000004)) else (some ((w 0 (4 + k) 6)))) (fun v_9 => some v_9) = _
  rw [hC.f6 hk, C_m1 (by omega), gP_s]
theorem A_sw6 (hC : CV (w 0) S) (hB : WB S) (hk : k < S 311) : F_X11_swimmer w (nI k) 6 = some (if S (10 * k + 5) ≤ 1 then -1000004 else nI (trank S k)) := by
  have hN := hB.1
  have h := hB.k (k := k) (by omega)
  rw [show (6 : Int32) = nI 6 from rfl, A_sw hC hB hk (by omega)]
  show gP (if (w 0 (4 + k) 6) ≤ 0 then (some (-1000004)) else (gP (F_X5_rankByHeatTime w 0 0 k) (fun v_17 => some v_17))) (fun v_9 => some v_9) = _
  rw [hC.f6 hk, C_trank hC hB hk, gP_s]
  by_cases e : S (10 * k + 5) ≤ 1
  · rw [if_pos ((mLe0 (by omega)).mpr e), if_pos e, gP_s]
  · rw [if_neg (fun z => e ((mLe0 (by omega)).mp z)), if_neg e, gP_s]
theorem A_sw7 (hC : CV (w 0) S) (hB : WB S) (hk : k < S 311) : F_X11_swimmer w (nI k) 7 = some (if nI (S (10 * k + 6)) ≤ 0 then -1000004 else nI (S (10 * k + 6))) := by
  rw [show (7 : Int32) = nI 7 from rfl, A_sw hC hB hk (by omega)]
  show gP (gP (F_X0_aboveZero w ((w 0 (4 + k) 7))) (fun v_11 => some v_11)) (fun v_9 => some v_9) = _
  rw [hC.f7 hk, C_above, gP_s, gP_s]
theorem A_sw8 (hC : CV (w 0) S) (hB : WB S) (hk : k < S 311) : F_X11_swimmer w (nI k) 8 = some (if S (10 * k + 7) = 0 then -1000004 else nI (S (10 * k + 7)) - 1) := by
  have hN := hB.1
  have h := hB.k (k := k) (by omega)
  rw [show (8 : Int32) = nI 8 from rfl, A_sw hC hB hk (by omega)]
  show gP (if (w 0 (4 + k) 8) = (-1) then (some (-1000004)) else (some ((w 0 (4 + k) 8)))) (fun v_9 => some v_9) = _
  rw [hC.f8 hk, C_m1 (by omega), gP_s]
theorem A_sw9 (hC : CV (w 0) S) (hB : WB S) (hk : k < S 311) : F_X11_swimmer w (nI k) 9 = some (if nI (S (10 * k + 8)) ≤ 0 then -1000004 else nI (S (10 * k + 8))) := by
  rw [show (9 : Int32) = nI 9 from rfl, A_sw hC hB hk (by omega)]
  show gP (gP (F_X0_aboveZero w ((w 0 (4 + k) 9))) (fun v_11 => some v_11)) (fun v_9 => some v_9) = _
  rw [hC.f9 hk, C_above, gP_s, gP_s]
theorem A_sw10 (hC : CV (w 0) S) (hB : WB S) (hk : k < S 311) : F_X11_swimmer w (nI k) 10 = some (nI (S (10 * k + 2))) := by
  have hN := hB.1
  have h := hB.k (k := k) (by omega)
  rw [show (10 : Int32) = nI 10 from rfl, A_sw hC hB hk (by omega)]
  show gP (if (w 0 (4 + k) 3) = 0 then (some 0) else (some 1)) (fun v_9 => some v_9) = _
  rw [hC.f3 hk]
  have : S (10 * k + 2) = 0 ∨ S (10 * k + 2) = 1 := by omega
  rcases this with e | e <;> rw [e] <;> rfl
theorem A_sw11 (hC : CV (w 0) S) (hB : WB S) (hk : k < S 311) : F_X11_swimmer w (nI k) 11 = some (nI (S (10 * k + 9))) := by
  rw [show (11 : Int32) = nI 11 from rfl, A_sw hC hB hk (by omega)]
  show some (w 0 (4 + k) 10) = _
  rw [hC.f10 hk]
theorem A_c0 (hC : CV (w 0) S) : F_X11_count w 0 = some (nI (S 310)) := by
  show some (w 0 0 4) = _
  rw [hC.st]
theorem A_c1 (hC : CV (w 0) S) : F_X11_count w 1 = some (nI (S 311)) := by
  show some (w 0 0 3) = _
  rw [hC.sz]
theorem A_c2 (hC : CV (w 0) S) (hB : WB S) : F_X11_count w 2 = some (nI (bn (gn S) (S 311))) := by
  show gP (gP (F_X0_scratchedSet w 0) (fun v => some v)) (fun v => some v) = _
  rw [C_scrSet hC hB, gP_s, gP_s]
theorem A_c3 (hC : CV (w 0) S) : F_X11_count w 3 = some (nI (S 312)) := by
  show some (w 0 0 5) = _
  rw [hC.ht]
theorem A_c4 (hC : CV (w 0) S) (hB : WB S) : F_X11_count w 4 = some (nI (bn (inF S) (S 311))) := by
  show gP (gP (F_X5_finalSet w 0) (fun v => some v)) (fun v => some v) = _
  rw [C_finalSet hC hB, gP_s, gP_s]
theorem A_c5 (hC : CV (w 0) S) (hR : RV (w 0) S) (hB : WB S) : F_X11_count w 5 = some (nI (fb_ct (rsv S) 4)) := by
  show gP (gP (F_X0_freeReserves w 0) (fun v => some v)) (fun v => some v) = _
  rw [C_freeRes hC hR hB, gP_s, gP_s]
theorem A_c6 (hC : CV (w 0) S) (hB : WB S) : F_X11_count w 6 = some (nI (fb_sm (tms S) (S 311))) := by
  show gP (gP (F_X0_timesOfEvent w 0) (fun v => some v)) (fun v => some v) = _
  rw [C_timesOf hC hB, gP_s, gP_s]
theorem A_c7 (hC : CV (w 0) S) : F_X11_count w 7 = some (nI (S 313)) := by
  show some (w 0 0 8) = _
  rw [hC.ev]
theorem A_c8 (hC : CV (w 0) S) : F_X11_count w 8 = some (if nI (S 314) ≤ 0 then -1000004 else nI (S 314)) := by
  show gP (gP (F_X0_aboveZero w (w 0 0 9)) (fun v => some v)) (fun v => some v) = _
  rw [hC.rc, C_above, gP_s, gP_s]
theorem A_c9 (hC : CV (w 0) S) : F_X11_count w 9 = some (if nI (S 314) ≤ 0 then -1000004 else nI (S 315)) := by
  show gP (if (w 0 0 9) ≤ 0 then (some (-1000004)) else (some ((w 0 0 10)))) (fun v => some v) = _
  rw [hC.rc, hC.rs]
  split <;> rfl
theorem A_c10 (hC : CV (w 0) S) : F_X11_count w 10 = some (nI (S 316)) := by
  show some (w 0 0 7) = _
  rw [hC.ca]
theorem A_c11 (hI : IV EB S) (hC : CV (w 0) S) : F_X11_count w 11 = some (nI (fb_sm (fun q => S (300 + q)) 6)) := by
  show gP (gP (F_X8_ofAllClubs w 0) (fun v => some v)) (fun v => some v) = _
  rw [C_allP hC hI.wb, gP_s, gP_s, all_eq hI]
theorem A_c20 (hC : CV (w 0) S) : F_X11_count w 20 = some (nI (S 317)) := by
  show some (w 0 1 0) = _
  rw [hC.la]
theorem A_c21 (hC : CV (w 0) S) : F_X11_count w 21 = some (nI (S 318)) := by
  show some (w 0 1 1) = _
  rw [hC.fe]
theorem A_c22 (hC : CV (w 0) S) : F_X11_count w 22 = some (nI (S 319)) := by
  show some (w 0 1 2) = _
  rw [hC.re]
theorem A_why (hI : IV EB S) (hC : CV (w 0) S) : F_X11_why w = some (nI (whyN S)) := by
  unfold F_X11_why
  rw [C_why hI hC, gP_s]
theorem A_points (hI : IV EB S) (hC : CV (w 0) S) {q : Nat} (hq : q < 6) : F_X11_points w (nI q) = some (nI (S (300 + q))) := by
  unfold F_X11_points
  rw [if_neg (nI_pos (by omega)), show (6 : Int32) = nI 6 from rfl, iLt (by omega) (by omega), if_pos hq, C_ofClub hC hI.wb hq, gP_s, hI.cl hq]
theorem A_pointsE : F_X11_points w 6 = some (-1000001) := rfl
theorem A_reserve (hC : CV (w 0) S) (hR : RV (w 0) S) (hB : WB S) {p r : Nat} (hp : p < 4) (h1 : rsv S p = true) (h2 : fb_ct (rsv S) p = r) : F_X11_reserve w (nI r) = some (nI (S (306 + p) - 1)) := by
  have := fb_ct_le (rsv S) p
  unfold F_X11_reserve
  rw [if_pos (nI_pos' (by omega)), (C_free (r := r) hC hR hB (by omega)).1 p hp h1 h2, gP_s]
theorem A_reserveN (hC : CV (w 0) S) (hR : RV (w 0) S) (hB : WB S) : F_X11_reserve w (nI (fb_ct (rsv S) 4)) = some (-1000004) := by
  have := fb_ct_le (rsv S) 4
  unfold F_X11_reserve
  rw [if_pos (nI_pos' (by omega)), (C_free (r := fb_ct (rsv S) 4) hC hR hB (by omega)).2 (Nat.le_refl _), gP_s]
theorem A_reserveE : F_X11_reserve w (-1) = some (-1000001) := rfl
theorem A_missing (hI : IV EB S) (hC : CV (w 0) S) {r : Nat} (hk : k < S 311) (h1 : mis S k = true) (h2 : fb_ct (mis S) k = r) : F_X11_missing w (nI r) = some (nI k) := by
  have hN := hI.wb.1
  have := fb_ct_le (mis S) k
  unfold F_X11_missing
  rw [if_pos (nI_pos' (by omega))]
  rcases C_still (r := r) hI hC (by omega) with ⟨k', g1, g2, g3, g4⟩ | ⟨g1, g2⟩
  · have : k = k' := fb_ct_kth_one h1 g2 (by omega)
    subst this
    rw [g4, gP_s]
  · exact (kth_no hk h1 h2 g1).elim
theorem A_missingN (hI : IV EB S) (hC : CV (w 0) S) : F_X11_missing w (nI (fb_ct (mis S) (S 311))) = some (-1000004) := by
  have hN := hI.wb.1
  have := fb_ct_le (mis S) (S 311)
  unfold F_X11_missing
  rw [if_pos (nI_pos' (by omega))]
  rcases C_still (r := fb_ct (mis S) (S 311)) hI hC (by omega) with ⟨k', g1, g2, g3, g4⟩ | ⟨g1, g2⟩
  · exact (kth_no g1 g2 g3 (Nat.le_refl _)).elim
  · rw [g2, gP_s]
theorem A_missingE : F_X11_missing w (-1) = some (-1000001) := rfl
end ANS
