/-! level 2: the law's sixty acts -/
theorem L_cell_ex {L : Nat} {xs : Nat → Int32} (hL : L ≤ 260) (w : gWd) {e : Nat} (he : e < 60) : ∃ v, F_L_cell L xs w (nI e) = some v := by
  unfold F_L_cell
  rw [iLe (by omega) (by omega)]
  by_cases c : L ≤ e
  · rw [if_pos c]; exact ⟨_, rfl⟩
  · rw [if_neg c, gB_n _ (by omega) (by omega)]; exact ⟨_, rfl⟩
theorem LAW {L : Nat} {xs : Nat → Int32} (hL : L ≤ 260) : ∀ (d fu e : Nat) (w : gWd) (EB : Nat) (S : Nat → Nat), e + d = 60 → d < fu → RS w EB S → ∃ w', F_L_law_75 L xs fu w (nI e) = some (1, w') := by
  intro d
  induction d with
  | zero =>
    intro fu e w EB S h hfu hR
    obtain ⟨fu, rfl⟩ : ∃ f, fu = f + 1 := ⟨fu - 1, by omega⟩
    obtain rfl : e = 60 := by omega
    refine ⟨w, ?_⟩
    rw [F_L_law_75_s, if_pos (by decide)]
  | succ d ih =>
    intro fu e w EB S h hfu hR
    obtain ⟨fu, rfl⟩ : ∃ f, fu = f + 1 := ⟨fu - 1, by omega⟩
    obtain ⟨v, hv⟩ := L_cell_ex (xs := xs) hL w (e := e) (by omega)
    obtain ⟨j, hj, ej⟩ := pk_andE v (m := 2147483647) 31 (by decide)
    have hj : j < 2 ^ 31 := hj
    have m17 : nI j - nI j / 17 * 17 = nI (j % 17) := pk_rem (d := 17) hj (by omega) (by omega)
    have m8 : nI j - nI j / 8 * 8 = nI (j % 8) := pk_rem (d := 8) hj (by omega) (by omega)
    have d17 : nI j / 17 = nI (j / 17) := pk_div (d := 17) hj (by omega) (by omega)
    have h60 : ¬ (60 : Int32) ≤ nI e := fun z => absurd ((nI_leI (a := 60) (b := e) (by omega) (by omega)).mp z) (by omega)
    have hone : ∀ a : Nat, a < 17 → ∃ w', F_L_law_128 L xs (F_L_law_75 L xs fu) w (nI e) (nI j) (nI a) = some (1, w') := by
      intro a ha
      obtain ⟨w1, E1, S1, f1, r1⟩ := T_acted hR (a := a) (y := j / 17) ha (by omega)
      obtain ⟨w', f2⟩ := ih fu (e + 1) w1 E1 S1 (by omega) (by omega) r1
      refine ⟨w', ?_⟩
      unfold F_L_law_128
      rw [d17, f1, gC_s, if_neg (by decide), S_all r1, gP_s, if_neg (by decide), R_all r1, gP_s, if_neg (by decide), nI_1, gS_e]
      exact f2
    rw [F_L_law_75_s, if_neg h60, hv, gP_s, ej, gS_e, m17, m8]
    by_cases c : (9 : Int32) ≤ nI e
    · rw [if_pos c]
      exact hone _ (Nat.mod_lt _ (by omega))
    · rw [if_neg c]
      exact hone _ (by omega)
