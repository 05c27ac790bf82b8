/-! level 2: count, whole -/
theorem Q_count {w : gWd} {S : Nat → Nat} {EB : Nat} (hI : IV EB S) (hC : CV (w 0) S) (hR : RV (w 0) S) (hS : SV w S) (hK : w 7 1 1 = w 8 0 3) (hT : w 7 3 1 = w 8 0 6) (x : Int32) : QQ (F_X11_count w x) (F_X12_count w x) := by
  have hB := hI.wb
  have hN := hB.1
  have hrc := hB.2.2.2.1
  by_cases h12 : x = 12
  · subst h12
    show QQ (some (w 7 1 1)) (some (w 8 0 3))
    exact ⟨_, rfl, by rw [hK]⟩
  by_cases h13 : x = 13
  · subst h13
    show QQ (some (w 7 3 1)) (some (w 8 0 6))
    exact ⟨_, rfl, by rw [hT]⟩
  by_cases h20 : x = 20
  · subst h20
    show QQ (some (w 0 1 0)) (some (w 8 1 317))
    exact ⟨_, rfl, by rw [hC.la, hS 317 (by omega)]⟩
  by_cases h21 : x = 21
  · subst h21
    show QQ (some (w 0 1 1)) (some (w 8 1 318))
    exact ⟨_, rfl, by rw [hC.fe, hS 318 (by omega)]⟩
  by_cases h22 : x = 22
  · subst h22
    show QQ (some (w 0 1 2)) (some (w 8 1 319))
    exact ⟨_, rfl, by rw [hC.re, hS 319 (by omega)]⟩
  have hcl : F_X11_count w x = F_X0_ofMeet w 0 x := by
    have h53 : F_X11_count_53 w x = F_X0_ofMeet w 0 x := by
      unfold F_X11_count_53
      cases F_X0_ofMeet w 0 x <;> rfl
    unfold F_X11_count
    rw [if_neg h12, if_neg h13, h53]
    by_cases a : x < 20
    · rw [if_pos a]
    · rw [if_neg a]
      by_cases b : (23 : Int32) ≤ x
      · rw [if_pos b]
      · exfalso
        have k1 : (20 : Int32).toInt = 20 := by decide
        have k2 : (21 : Int32).toInt = 21 := by decide
        have k3 : (22 : Int32).toInt = 22 := by decide
        have k4 : (23 : Int32).toInt = 23 := by decide
        rw [fa_eq, k1] at h20
        rw [fa_eq, k2] at h21
        rw [fa_eq, k3] at h22
        rw [fa_lt, k1] at a
        rw [fa_le, k4] at b
        omega
  rw [hcl]
  by_cases h0 : x = 0
  · subst h0
    show QQ (some (w 0 0 4)) (some (w 8 1 310))
    exact ⟨_, rfl, by rw [hC.st, hS 310 (by omega)]⟩
  by_cases h1 : x = 1
  · subst h1
    show QQ (some (w 0 0 3)) (some (w 8 1 311))
    exact ⟨_, rfl, by rw [hC.sz, hS 311 (by omega)]⟩
  by_cases h2 : x = 2
  · subst h2
    show QQ (gP (F_X0_scratchedSet w 0) (fun v => some v)) (gP (F_X12_goneOnes w) (fun v => some v))
    rw [C_scrSet hC hB, M_goneOnes hS hB]
    exact ⟨_, rfl, rfl⟩
  by_cases h3 : x = 3
  · subst h3
    show QQ (some (w 0 0 5)) (some (w 8 1 312))
    exact ⟨_, rfl, by rw [hC.ht, hS 312 (by omega)]⟩
  by_cases h4 : x = 4
  · subst h4
    show QQ (gP (F_X5_finalSet w 0) (fun v => some v)) (gP (F_X12_inFinal w) (fun v => some v))
    rw [C_finalSet hC hB, M_inFinal hS hB]
    exact ⟨_, rfl, rfl⟩
  by_cases h5 : x = 5
  · subst h5
    show QQ (gP (F_X0_freeReserves w 0) (fun v => some v)) (gP (F_X12_reserves w) (fun v => some v))
    rw [C_freeRes hC hR hB, M_reserves hS hB]
    exact ⟨_, rfl, rfl⟩
  by_cases h6 : x = 6
  · subst h6
    show QQ (gP (F_X0_timesOfEvent w 0) (fun v => some v)) (gP (F_X12_timesNow w) (fun v => some v))
    rw [C_timesOf hC hB, M_timesNow hS hB]
    exact ⟨_, rfl, rfl⟩
  by_cases h7 : x = 7
  · subst h7
    show QQ (some (w 0 0 8)) (some (w 8 1 313))
    exact ⟨_, rfl, by rw [hC.ev, hS 313 (by omega)]⟩
  by_cases h8 : x = 8
  · subst h8
    show QQ (gP (F_X0_aboveZero w (w 0 0 9)) (fun v => some v)) (gP (F_X12_orNone w (w 8 1 314)) (fun v => some v))
    rw [hC.rc, hS 314 (by omega), C_above, M_orNone]
    exact ⟨_, rfl, rfl⟩
  by_cases h9 : x = 9
  · subst h9
    show QQ (if (w 0 0 9) ≤ 0 then (some (-1000004)) else (some ((w 0 0 10)))) (if (w 8 1 314) ≤ 0 then (some (-1000004)) else (some ((w 8 1 315))))
    rw [hC.rc, hS 314 (by omega), hC.rs, hS 315 (by omega)]
    split <;> exact ⟨_, rfl, rfl⟩
  by_cases h10 : x = 10
  · subst h10
    show QQ (some (w 0 0 7)) (some (w 8 1 316))
    exact ⟨_, rfl, by rw [hC.ca, hS 316 (by omega)]⟩
  by_cases h11 : x = 11
  · subst h11
    show QQ (gP (F_X8_ofAllClubs w 0) (fun v => some v)) (gP (F_X12_allPoints w) (fun v => some v))
    rw [C_allP hC hB, M_allP hS, all_eq hI]
    exact ⟨_, rfl, rfl⟩
  refine ⟨-1000001, ?_, ?_⟩
  · unfold F_X0_ofMeet
    rw [if_neg h0, if_neg h1, if_neg h2, if_neg h3, if_neg h4, if_neg h5, if_neg h6, if_neg h7, if_neg h8, if_neg h9, if_neg h10, if_neg h11]
  · unfold F_X12_count
    rw [if_neg h0, if_neg h1, if_neg h2, if_neg h3, if_neg h4, if_neg h5, if_neg h6, if_neg h7, if_neg h8, if_neg h9, if_neg h10, if_neg h11, if_neg h12, if_neg h13, if_neg h20, if_neg h21, if_neg h22]
