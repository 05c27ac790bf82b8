/-! level 2: all the calls of a script -/
theorem lw_gb {α : Type} {L j d : Nat} (h : 3 * j + d < L) (hL : L ≤ 1536) (f : Nat → Option α) : gB (nI (3 * j) + nI d) L f = f (3 * j + d) := by
  rw [nI_add, gB_n _ h (by omega)]
theorem LAW {L : Nat} {xs : Nat → Int32} (hL : L ≤ 1536) : ∀ (d fu j EB : Nat) (w : gWd), L ≤ 3 * j + 3 * d → d < fu → EB + 60 * d ≤ 100000 → j + d ≤ 1000 → REL w EB → ∃ w', F_L_law_18 L xs fu w (nI (3 * j)) = some (1, w') := by
  intro d
  induction d with
  | zero =>
    intro fu j EB w h hfu hE hj hW
    obtain ⟨fu, rfl⟩ : ∃ f, fu = f + 1 := ⟨fu - 1, by omega⟩
    refine ⟨w, ?_⟩
    rw [F_L_law_18_s, if_pos]
    rw [Int32.lt_iff_toInt_lt, show (3 : Int32) = nI 3 from rfl, pk_sub_toInt (by omega) (by omega), nI_toInt (by omega)]
    omega
  | succ d ih =>
    intro fu j EB w h hfu hE hj hW
    obtain ⟨fu, rfl⟩ : ∃ f, fu = f + 1 := ⟨fu - 1, by omega⟩
    by_cases hT : L < 3 * j + 3
    · refine ⟨w, ?_⟩
      rw [F_L_law_18_s, if_pos]
      rw [Int32.lt_iff_toInt_lt, show (3 : Int32) = nI 3 from rfl, pk_sub_toInt (by omega) (by omega), nI_toInt (by omega)]
      omega
    have hrec : ∀ (w1 : gWd) (E1 : Nat), E1 ≤ EB + 60 → REL w1 E1 → ∃ w', F_L_law_18 L xs fu w1 (nI (3 * j) + 3) = some (1, w') := fun w1 E1 h1 h2 => by
      rw [show (3 : Int32) = nI 3 from rfl, nI_add, show 3 * j + 3 = 3 * (j + 1) by omega]
      exact ih fu (j + 1) (EB + 60) w1 (by omega) (by omega) (by omega) (by omega) (h2.mono h1)
    have g1 : ∀ f : Nat → Option (Int32 × gWd), gB (nI (3 * j) + 1) L f = f (3 * j + 1) := lw_gb (d := 1) (by omega) hL
    have g2 : ∀ f : Nat → Option (Int32 × gWd), gB (nI (3 * j) + 2) L f = f (3 * j + 2) := lw_gb (d := 2) (by omega) hL
    have hge : ¬ (nI L - 3 < nI (3 * j)) := by
      rw [Int32.lt_iff_toInt_lt, show (3 : Int32) = nI 3 from rfl, pk_sub_toInt (by omega) (by omega), nI_toInt (by omega)]
      omega
    rw [F_L_law_18_s, if_neg hge, gB_n _ (by omega) (by omega)]
    by_cases h0 : (xs (3 * j) &&& 31) = 0
    · obtain ⟨r, w1, w2, a, b, k⟩ := REL_enter hW (xs (3 * j + 1)) (xs (3 * j + 2))
      obtain ⟨w', hw⟩ := hrec w2 (EB + 1) (by omega) k
      exact ⟨w', by rw [if_pos h0, g1, g2, a, gC_s, g1, g2, b, gC_s, if_pos rfl, gS_e]; exact hw⟩
    rw [if_neg h0]
    by_cases h1 : (xs (3 * j) &&& 31) = 1
    · obtain ⟨r, w1, w2, a, b, k⟩ := REL_scratch hW (xs (3 * j + 1))
      obtain ⟨w', hw⟩ := hrec w2 (EB + 1) (by omega) k
      exact ⟨w', by rw [if_pos h1, g1, a, gC_s, g1, b, gC_s, if_pos rfl, gS_e]; exact hw⟩
    rw [if_neg h1]
    by_cases h2 : (xs (3 * j) &&& 31) = 2
    · obtain ⟨r, w1, w2, a, b, k⟩ := REL_set hW (xs (3 * j + 1)) (xs (3 * j + 2))
      obtain ⟨w', hw⟩ := hrec w2 (EB + 1) (by omega) k
      exact ⟨w', by rw [if_pos h2, g1, g2, a, gC_s, g1, g2, b, gC_s, if_pos rfl, gS_e]; exact hw⟩
    rw [if_neg h2]
    by_cases h3 : (xs (3 * j) &&& 31) = 3
    · obtain ⟨r, w1, w2, a, b, k⟩ := REL_draw hW
      obtain ⟨w', hw⟩ := hrec w2 (EB + 1) (by omega) k
      exact ⟨w', by rw [if_pos h3, a, gC_s, b, gC_s, if_pos rfl, gS_e]; exact hw⟩
    rw [if_neg h3]
    by_cases h4 : (xs (3 * j) &&& 31) = 4
    · obtain ⟨r, w1, w2, a, b, k⟩ := REL_swim hW (xs (3 * j + 1)) (xs (3 * j + 2))
      obtain ⟨w', hw⟩ := hrec w2 (EB + 1) (by omega) k
      exact ⟨w', by rw [if_pos h4, g1, g2, a, gC_s, g1, g2, b, gC_s, if_pos rfl, gS_e]; exact hw⟩
    rw [if_neg h4]
    by_cases h5 : (xs (3 * j) &&& 31) = 5
    · obtain ⟨r, w1, w2, a, b, k⟩ := REL_finals hW
      obtain ⟨w', hw⟩ := hrec w2 (EB + 1) (by omega) k
      exact ⟨w', by rw [if_pos h5, a, gC_s, b, gC_s, if_pos rfl, gS_e]; exact hw⟩
    rw [if_neg h5]
    by_cases h6 : (xs (3 * j) &&& 31) = 6
    · obtain ⟨r, w1, w2, a, b, k⟩ := REL_end hW
      obtain ⟨w', hw⟩ := hrec w2 (EB + 1) (by omega) k
      exact ⟨w', by rw [if_pos h6, a, gC_s, b, gC_s, if_pos rfl, gS_e]; exact hw⟩
    rw [if_neg h6]
    by_cases h7 : (xs (3 * j) &&& 31) = 7
    · obtain ⟨r, w1, w2, a, b, k⟩ := REL_next hW
      obtain ⟨w', hw⟩ := hrec w2 (EB + 1) (by omega) k
      exact ⟨w', by rw [if_pos h7, a, gC_s, b, gC_s, if_pos rfl, gS_e]; exact hw⟩
    rw [if_neg h7]
    by_cases h8 : (xs (3 * j) &&& 31) = 8
    · obtain ⟨r, a, b⟩ := REL_swimmer hW (xs (3 * j + 1)) (xs (3 * j + 2))
      obtain ⟨w', hw⟩ := hrec w EB (by omega) hW
      exact ⟨w', by rw [if_pos h8, g1, g2, a, gP_s, g1, g2, b, gP_s, if_pos rfl, gS_e]; exact hw⟩
    rw [if_neg h8]
    by_cases h9 : (xs (3 * j) &&& 31) = 9
    · obtain ⟨r, a, b⟩ := REL_at hW (xs (3 * j + 1)) (xs (3 * j + 2))
      obtain ⟨w', hw⟩ := hrec w EB (by omega) hW
      exact ⟨w', by rw [if_pos h9, g1, g2, a, gP_s, g1, g2, b, gP_s, if_pos rfl, gS_e]; exact hw⟩
    rw [if_neg h9]
    by_cases h10 : (xs (3 * j) &&& 31) = 10
    · obtain ⟨r, a, b⟩ := REL_heat hW (xs (3 * j + 1)) (xs (3 * j + 2))
      obtain ⟨w', hw⟩ := hrec w EB (by omega) hW
      exact ⟨w', by rw [if_pos h10, g1, g2, a, gP_s, g1, g2, b, gP_s, if_pos rfl, gS_e]; exact hw⟩
    rw [if_neg h10]
    by_cases h11 : (xs (3 * j) &&& 31) = 11
    · obtain ⟨r, a, b⟩ := REL_reserve hW (xs (3 * j + 1))
      obtain ⟨w', hw⟩ := hrec w EB (by omega) hW
      exact ⟨w', by rw [if_pos h11, g1, a, gP_s, g1, b, gP_s, if_pos rfl, gS_e]; exact hw⟩
    rw [if_neg h11]
    by_cases h12 : (xs (3 * j) &&& 31) = 12
    · obtain ⟨r, a, b⟩ := REL_points hW (xs (3 * j + 1))
      obtain ⟨w', hw⟩ := hrec w EB (by omega) hW
      exact ⟨w', by rw [if_pos h12, g1, a, gP_s, g1, b, gP_s, if_pos rfl, gS_e]; exact hw⟩
    rw [if_neg h12]
    by_cases h13 : (xs (3 * j) &&& 31) = 13
    · obtain ⟨r, w1, w2, a, b, k⟩ := REL_ifDrawn hW (xs (3 * j + 1)) (xs (3 * j + 2))
      obtain ⟨w', hw⟩ := hrec w2 EB (by omega) k
      exact ⟨w', by rw [if_pos h13, g1, g2, a, gC_s, g1, g2, b, gC_s, if_pos rfl, gS_e]; exact hw⟩
    rw [if_neg h13]
    by_cases h14 : (xs (3 * j) &&& 31) = 14
    · obtain ⟨r, a, b⟩ := REL_lane hW (xs (3 * j + 1)) (xs (3 * j + 2))
      obtain ⟨w', hw⟩ := hrec w EB (by omega) hW
      exact ⟨w', by rw [if_pos h14, g1, g2, a, gP_s, g1, g2, b, gP_s, if_pos rfl, gS_e]; exact hw⟩
    rw [if_neg h14]
    by_cases h15 : (xs (3 * j) &&& 31) = 15
    · obtain ⟨r, a, b⟩ := REL_why hW
      obtain ⟨w', hw⟩ := hrec w EB (by omega) hW
      exact ⟨w', by rw [if_pos h15, a, gP_s, b, gP_s, if_pos rfl, gS_e]; exact hw⟩
    rw [if_neg h15]
    by_cases h16 : (xs (3 * j) &&& 31) = 16
    · obtain ⟨r, a, b⟩ := REL_missing hW (xs (3 * j + 1))
      obtain ⟨w', hw⟩ := hrec w EB (by omega) hW
      exact ⟨w', by rw [if_pos h16, g1, a, gP_s, g1, b, gP_s, if_pos rfl, gS_e]; exact hw⟩
    rw [if_neg h16]
    by_cases h17 : (xs (3 * j) &&& 31) = 17
    · obtain ⟨r, a, b⟩ := REL_leader (by omega) hW (xs (3 * j + 1))
      obtain ⟨w', hw⟩ := hrec w EB (by omega) hW
      exact ⟨w', by rw [if_pos h17, g1, a, gP_s, g1, b, gP_s, if_pos rfl, gS_e]; exact hw⟩
    rw [if_neg h17]
    by_cases h18 : (xs (3 * j) &&& 31) = 18
    · obtain ⟨r, a, b⟩ := REL_mean hW
      obtain ⟨w', hw⟩ := hrec w EB (by omega) hW
      exact ⟨w', by rw [if_pos h18, a, gP_s, b, gP_s, if_pos rfl, gS_e]; exact hw⟩
    rw [if_neg h18]
    by_cases h19 : (xs (3 * j) &&& 31) = 19
    · obtain ⟨r, a, b⟩ := REL_count hW (xs (3 * j + 1))
      obtain ⟨w', hw⟩ := hrec w EB (by omega) hW
      exact ⟨w', by rw [if_pos h19, g1, a, gP_s, g1, b, gP_s, if_pos rfl, gS_e]; exact hw⟩
    rw [if_neg h19]
    by_cases h20 : (xs (3 * j) &&& 31) = 20
    · obtain ⟨r, w1, w2, a, b, k⟩ := REL_undo hW
      obtain ⟨w', hw⟩ := hrec w2 EB (by omega) k
      exact ⟨w', by rw [if_pos h20, a, gC_s, b, gC_s, if_pos rfl, gS_e]; exact hw⟩
    rw [if_neg h20]
    by_cases h21 : (xs (3 * j) &&& 31) = 21
    · obtain ⟨r, w1, w2, a, b, k⟩ := REL_type hW (xs (3 * j + 1))
      obtain ⟨w', hw⟩ := hrec w2 EB (by omega) k
      exact ⟨w', by rw [if_pos h21, g1, a, gC_s, g1, b, gC_s, if_pos rfl, gS_e]; exact hw⟩
    rw [if_neg h21]
    by_cases h22 : (xs (3 * j) &&& 31) = 22
    · obtain ⟨r, w1, w2, a, b, k⟩ := REL_clear hW
      obtain ⟨w', hw⟩ := hrec w2 EB (by omega) k
      exact ⟨w', by rw [if_pos h22, a, gC_s, b, gC_s, if_pos rfl, gS_e]; exact hw⟩
    rw [if_neg h22]
    by_cases h23 : (xs (3 * j) &&& 31) = 23
    · obtain ⟨r, w1, w2, a, b, k⟩ := REL_fault hW (xs (3 * j + 1))
      obtain ⟨w', hw⟩ := hrec w2 EB (by omega) k
      exact ⟨w', by rw [if_pos h23, g1, a, gC_s, g1, b, gC_s, if_pos rfl, gS_e]; exact hw⟩
    rw [if_neg h23]
    by_cases h24 : (xs (3 * j) &&& 31) = 24
    · obtain ⟨r, w1, w2, a, b, k⟩ := REL_play hW
      obtain ⟨w', hw⟩ := hrec w2 (EB + 60) (by omega) k
      exact ⟨w', by rw [if_pos h24, a, gC_s, b, gC_s, if_pos rfl, gS_e]; exact hw⟩
    rw [if_neg h24]
    rw [gS_e]
    exact hrec w EB (by omega) hW
