/-! level 2: one act of the law -/
theorem gD_900 {α : Type} (x : Option α) : gD 900 x = x := gD_n (k := 900) (by omega) (by omega)
theorem gD_9 {α : Type} (x : Option α) : gD 9 x = x := gD_n (k := 9) (by omega) (by omega)
theorem gD_7 {α : Type} (x : Option α) : gD 7 x = x := gD_n (k := 7) (by omega) (by omega)
section ACT
variable {w : gWd} {EB : Nat} {S : Nat → Nat}
theorem T_370 (hR : RS w EB S) {k e : Nat} (hk : k < 2 ^ 31) (he : e = 0 ∨ (100 ≤ e ∧ e ≤ 999)) : ∃ w' EB' S', F_L_isActed_370 w (nI e) (nI k) = some (1, w') ∧ RS w' EB' S' := by
  obtain ⟨w', S', f, h, _⟩ := T_swum hR hk he
  refine ⟨w', _, S', ?_, h⟩
  unfold F_L_isActed_370
  rw [f, gC_s, gZ_1]
theorem T_504 (hR : RS w EB S) : ∃ w' EB' S', F_L_isActed_504 w = some (1, w') ∧ RS w' EB' S' := by
  obtain ⟨w', S', f, h⟩ := T_stage hR
  refine ⟨w', _, S', ?_, h⟩
  unfold F_L_isActed_504
  rw [f, gC_s, gZ_1]
theorem T_403 {z N : Nat} (hz : z < 2 ^ 30) : ∀ (d fu : Nat) (w : gWd) (EB : Nat) (S : Nat → Nat) (j : Nat), RS w EB S → S 311 = N → j + d = N → d < fu → ∃ w' EB' S', F_L_isActed_403 fu w (nI z) 1 (nI j) = some (1, w') ∧ RS w' EB' S' := by
  intro d
  induction d with
  | zero =>
    intro fu w EB S j hR hN hj hfu
    obtain ⟨fu, rfl⟩ : ∃ f, fu = f + 1 := ⟨fu - 1, by omega⟩
    have hS := hR.2.2.2.2.2.2
    have h20 := hR.2.2.1
    refine ⟨w, EB, S, ?_, hR⟩
    rw [F_L_isActed_403_s, hS.N, iLe (by omega) (by omega), if_pos (by omega), gZ_1]
  | succ d ih =>
    intro fu w EB S j hR hN hj hfu
    obtain ⟨fu, rfl⟩ : ∃ f, fu = f + 1 := ⟨fu - 1, by omega⟩
    have hR0 := hR
    obtain ⟨hI, hH, h20, hC, hRV, hHC, hS⟩ := hR
    have hB := hI.wb
    have hj2 : j < 20 := by omega
    have ht := tcol_le hB (k := j) (by omega)
    have e488 : ∀ u : gWd, F_L_isActed_488 (F_L_isActed_403 fu) u (nI z) (nI j) = F_L_isActed_403 fu u (nI z) 1 (nI (j + 1)) := by
      intro u
      unfold F_L_isActed_488
      rw [nI_1, gS_e]
    have e482 : ∀ e : Nat, (e = 0 ∨ (100 ≤ e ∧ e ≤ 999)) → ∃ w' EB' S', F_L_isActed_482 (F_L_isActed_403 fu) w (nI z) (nI j) (nI e) (nI j) = some (1, w') ∧ RS w' EB' S' := by
      intro e he
      obtain ⟨w1, S1, f1, h1, k1⟩ := T_swum hR0 (k := j) (e := e) (by omega) he
      obtain ⟨w', E', S', f2, h2⟩ := ih fu w1 _ S1 (j + 1) h1 (by omega) (by omega) (by omega)
      refine ⟨w', E', S', ?_, h2⟩
      unfold F_L_isActed_482
      rw [f1, gC_s, if_neg (by decide), e488]
      exact f2
    have e97 : nI z - nI z / 97 * 97 = nI (z % 97) := pk_rem (d := 97) (by omega) (by omega) (by omega)
    have e31 : (31 : Int32) * nI j = nI (31 * j) := pk_mul 31 j
    have e40 : nI (z % 97 + 31 * j) - nI (z % 97 + 31 * j) / 40 * 40 = nI ((z % 97 + 31 * j) % 40) := pk_rem (d := 40) (by omega) (by omega) (by omega)
    have e7 : nI (z + j) - nI (z + j) / 7 * 7 = nI ((z + j) % 7) := pk_rem (d := 7) (by omega) (by omega) (by omega)
    have e100 : (100 : Int32) + nI ((z % 97 + 31 * j) % 40) = nI (100 + (z % 97 + 31 * j) % 40) := nI_add 100 _
    rw [F_L_isActed_403_s, hS.N, iLe (by omega) (by omega), if_neg (by omega), if_neg (by decide), L_isAsked hS hB hj2, gP_s, e488, L_time hS hB hj2, gP_s, i0Lt (by omega), nI_add, e7, iE0 (a := (z + j) % 7) (by omega), e97, e31, nI_add, e40, e100]
    by_cases a : askB S j = true
    · rw [if_pos a, if_neg (by decide)]
      by_cases c : 0 < S (10 * j + tcol S)
      · rw [if_pos c]
        exact ih fu w EB S (j + 1) hR0 hN (by omega) (by omega)
      · rw [if_neg c]
        by_cases c7 : (z + j) % 7 = 0
        · rw [if_pos c7]
          exact e482 0 (Or.inl rfl)
        · rw [if_neg c7]
          exact e482 _ (Or.inr ⟨by omega, by omega⟩)
    · rw [if_neg a, if_pos (by rfl)]
      exact ih fu w EB S (j + 1) hR0 hN (by omega) (by omega)
theorem T_129 (hR : RS w EB S) {a y k z : Nat} (ha : a < 17) (hy : y < 2 ^ 31) (hk : k < 20) (hz : z < 2 ^ 30) : ∃ w' EB' S', F_L_isActed_129 w (nI a) (nI y) (nI k) (nI z) = some (1, w') ∧ RS w' EB' S' := by
  have hS := hR.2.2.2.2.2.2
  have hst := hR.1.wb.2.1
  have m3 : nI y - nI y / 3 * 3 = nI (y % 3) := pk_rem (d := 3) hy (by omega) (by omega)
  have z4 : nI z - nI z / 4 * 4 = nI (z % 4) := pk_rem (d := 4) (by omega) (by omega) (by omega)
  have z3 : nI z - nI z / 3 * 3 = nI (z % 3) := pk_rem (d := 3) (by omega) (by omega) (by omega)
  have z5 : nI z - nI z / 5 * 5 = nI (z % 5) := pk_rem (d := 5) (by omega) (by omega) (by omega)
  have z6 : nI z - nI z / 6 * 6 = nI (z % 6) := pk_rem (d := 6) (by omega) (by omega) (by omega)
  have z2 : nI z - nI z / 2 * 2 = nI (z % 2) := pk_rem (d := 2) (by omega) (by omega) (by omega)
  have z900 : nI z - nI z / 900 * 900 = nI (z % 900) := pk_rem (d := 900) (by omega) (by omega) (by omega)
  have z7 : nI z - nI z / 7 * 7 = nI (z % 7) := pk_rem (d := 7) (by omega) (by omega) (by omega)
  have a4 : (4 : Int32) + nI (z % 4) = nI (4 + z % 4) := nI_add 4 _
  have a1 : (1 : Int32) + nI (z % 3) = nI (1 + z % 3) := nI_add 1 _
  have a900 : (100 : Int32) + nI (z % 900) = nI (100 + z % 900) := nI_add 100 _
  have a7 : (100 : Int32) + nI (z % 7) = nI (100 + z % 7) := nI_add 100 _
  have h5 : ∀ (x y : Option (Int32 × gWd)), (if nI a = 5 then x else y) = if a = 5 then x else y := fun x y => iEq (b := 5) (by omega) (by omega)
  have h7 : ∀ (x y : Option (Int32 × gWd)), (if nI a = 7 then x else y) = if a = 7 then x else y := fun x y => iEq (b := 7) (by omega) (by omega)
  unfold F_L_isActed_129
  rw [h5]
  by_cases c5 : a = 5
  · rw [if_pos c5]
    obtain ⟨w', S', f, h⟩ := T_scratch hR (k := k) (by omega)
    exact ⟨w', _, S', f, h⟩
  · rw [if_neg c5, h7]
    by_cases c7 : a = 7
    · rw [if_pos c7, m3, gS_e, iE0 (by omega), iE1 (by omega), z4, z3, z5, a4, a1]
      by_cases k0 : y % 3 = 0
      · rw [if_pos k0]
        obtain ⟨w', S', f, h⟩ := T_set hR (k := y % 3) (v := 4 + z % 4) (by omega) (by unfold stLo; rw [if_pos k0]; omega) (by unfold stHi; rw [if_pos k0]; omega)
        exact ⟨w', _, S', f, h⟩
      · rw [if_neg k0]
        by_cases k1 : y % 3 = 1
        · rw [if_pos k1]
          obtain ⟨w', S', f, h⟩ := T_set hR (k := y % 3) (v := 1 + z % 3) (by omega) (by unfold stLo; rw [if_neg k0, if_pos k1]; omega) (by unfold stHi; rw [if_neg k0, if_pos k1]; omega)
          exact ⟨w', _, S', f, h⟩
        · rw [if_neg k1]
          obtain ⟨w', S', f, h⟩ := T_set hR (k := y % 3) (v := z % 5) (by omega) (by unfold stLo; rw [if_neg k0, if_neg k1]; omega) (by unfold stHi; rw [if_neg k0, if_neg k1]; omega)
          exact ⟨w', _, S', f, h⟩
    · rw [if_neg c7, show (10 : Int32) = nI 10 from rfl, iLe (by omega) (by omega)]
      by_cases c10 : 10 ≤ a
      · rw [if_pos c10, show (13 : Int32) = nI 13 from rfl, iLe (by omega) (by omega), hS.st, iE1 (by omega), iE2 (by omega)]
        have hloop := T_403 (z := z) (N := S 311) hz (S 311) gFU w EB S 0 hR rfl (by omega) (by have := hR.2.2.1; unfold gFU; omega)
        by_cases c13 : 13 ≤ a
        · rw [if_pos c13]
          exact T_504 hR
        · rw [if_neg c13]
          by_cases s1 : S 310 = 1
          · rw [if_pos s1]
            exact hloop
          · rw [if_neg s1]
            by_cases s2 : S 310 = 2
            · rw [if_pos s2]
              exact hloop
            · rw [if_neg s2]
              exact T_504 hR
      · rw [if_neg c10, z6, iE0 (by omega), z2, iE0 (by omega)]
        unfold F_L_isActed_368
        rw [gD_900, gD_7, z900, z7, a900, a7]
        by_cases k6 : z % 6 = 0
        · rw [if_pos k6]
          exact T_370 hR (by omega) (e := 0) (Or.inl rfl)
        · rw [if_neg k6]
          by_cases k2 : z % 2 = 0
          · rw [if_pos k2]
            exact T_370 hR (by omega) (Or.inr ⟨by omega, by omega⟩)
          · rw [if_neg k2]
            exact T_370 hR (by omega) (Or.inr ⟨by omega, by omega⟩)
theorem T_acted (hR : RS w EB S) {a y : Nat} (ha : a < 17) (hy : y < 2 ^ 31) : ∃ w' EB' S', F_L_isActed w (nI a) (nI y) = some (1, w') ∧ RS w' EB' S' := by
  have hS := hR.2.2.2.2.2.2
  have hst := hR.1.wb.2.1
  have hN := hR.2.2.1
  have y20 : nI y - nI y / 20 * 20 = nI (y % 20) := pk_rem (d := 20) hy (by omega) (by omega)
  have d20 : nI y / 20 = nI (y / 20) := pk_div (d := 20) hy (by omega) (by omega)
  have hz : y / 20 < 2 ^ 30 := by omega
  obtain ⟨z, ez⟩ : ∃ z, z = y / 20 := ⟨_, rfl⟩
  rw [← ez] at d20 hz
  have h129 := T_129 hR (a := a) (y := y) (k := y % 20) (z := z) ha hy (Nat.mod_lt _ (by omega)) hz
  have z5 : nI z - nI z / 5 * 5 = nI (z % 5) := pk_rem (d := 5) (by omega) (by omega) (by omega)
  have z2 : nI z - nI z / 2 * 2 = nI (z % 2) := pk_rem (d := 2) (by omega) (by omega) (by omega)
  have z900 : nI z - nI z / 900 * 900 = nI (z % 900) := pk_rem (d := 900) (by omega) (by omega) (by omega)
  have z9 : nI z - nI z / 9 * 9 = nI (z % 9) := pk_rem (d := 9) (by omega) (by omega) (by omega)
  have a900 : (100 : Int32) + nI (z % 900) = nI (100 + z % 900) := nI_add 100 _
  have a9 : (100 : Int32) + nI (z % 9) = nI (100 + z % 9) := nI_add 100 _
  unfold F_L_isActed
  rw [y20, gS_e, d20, gS_e, show (5 : Int32) = nI 5 from rfl, iLe (by omega) (by omega)]
  by_cases c5 : 5 ≤ a
  · rw [if_pos c5]
    exact h129
  · rw [if_neg c5, hS.st, iE0 (by omega)]
    by_cases c0 : S 310 = 0
    · rw [if_pos c0, hS.N, show (20 : Int32) = nI 20 from rfl, iLe (by omega) (by omega)]
      by_cases c20 : 20 ≤ S 311
      · rw [if_pos c20]
        exact h129
      · rw [if_neg c20, show nI 5 = (5 : Int32) from rfl, z5, iE0 (by omega), z2, iE0 (by omega)]
        unfold F_L_isActed_66
        rw [gD_900, gD_9, z900, z9, a900, a9]
        by_cases k5 : z % 5 = 0
        · rw [if_pos k5]
          obtain ⟨w', S', f, h⟩ := T_enter hR c0 (by omega) hy (e := 0) (Or.inl rfl)
          exact ⟨w', _, S', f, h⟩
        · rw [if_neg k5]
          by_cases k2 : z % 2 = 0
          · rw [if_pos k2]
            obtain ⟨w', S', f, h⟩ := T_enter hR c0 (by omega) hy (e := 100 + z % 900) (Or.inr ⟨by omega, by omega⟩)
            exact ⟨w', _, S', f, h⟩
          · rw [if_neg k2]
            obtain ⟨w', S', f, h⟩ := T_enter hR c0 (by omega) hy (e := 100 + z % 9) (Or.inr ⟨by omega, by omega⟩)
            exact ⟨w', _, S', f, h⟩
    · rw [if_neg c0]
      exact h129
end ACT
