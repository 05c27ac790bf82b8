/-! level 2: the text that is typed -/
def TV (w : gWd) (T : Nat) : Prop := T ≤ 60 ∧ w 7 3 1 = nI T ∧ w 8 0 6 = nI T ∧ ∀ k, k < T → ∃ c, 32 ≤ c ∧ c ≤ 126 ∧ w 7 4 k = nI c ∧ w 8 4 k = nI c
/-- only the text has changed -/
def agT (w w' : gWd) : Prop := ∀ a b c, ¬ ((a = 7 ∧ b = 3 ∧ c = 1) ∨ (a = 7 ∧ b = 4) ∨ (a = 8 ∧ b = 0 ∧ c = 6) ∨ (a = 8 ∧ b = 4)) → w' a b c = w a b c
theorem agT.rf (w : gWd) : agT w w := fun _ _ _ _ => rfl
theorem agT.tr {w w1 w2 : gWd} (h1 : agT w w1) (h2 : agT w1 w2) : agT w w2 := fun a b c h => (h2 a b c h).trans (h1 a b c h)
theorem agT.up {w : gWd} {i r j : Nat} {v : Int32} (hs : (i = 7 ∧ r = 3 ∧ j = 1) ∨ (i = 7 ∧ r = 4) ∨ (i = 8 ∧ r = 0 ∧ j = 6) ∨ (i = 8 ∧ r = 4)) : agT w (up3 w i r j v) := fun a b c h => up3_n (fun z => by obtain ⟨rfl, rfl, rfl⟩ := z; exact h hs)
theorem OK_type {w : gWd} {T : Nat} (hT : TV w T) (x : Int32) : ∃ r w' w'' T', F_X11_type w x = some (r, w') ∧ F_X12_type w' x = some (r, w'') ∧ agT w w' ∧ agT w w'' ∧ TV w'' T' := by
  obtain ⟨t1, t2, t3, t4⟩ := hT
  by_cases a : x < 32
  · refine ⟨-1000001, w, w, T, ?_, ?_, agT.rf _, agT.rf _, t1, t2, t3, t4⟩
    · unfold F_X11_type
      rw [if_pos a]
    · unfold F_X12_type
      rw [M_in, if_pos a, gP_s, if_pos rfl]
  by_cases b : (126 : Int32) < x
  · refine ⟨-1000001, w, w, T, ?_, ?_, agT.rf _, agT.rf _, t1, t2, t3, t4⟩
    · unfold F_X11_type
      rw [if_neg a, if_neg (fun z => (fa_of_lt b).2.1 z)]
    · unfold F_X12_type
      rw [M_in, if_neg a, if_pos b, gP_s, if_pos rfl]
  have k1 : (32 : Int32).toInt = 32 := by decide
  have k2 : (126 : Int32).toInt = 126 := by decide
  have k3 : (nI 127).toInt = 127 := by decide
  obtain ⟨c, hc, rfl⟩ := arg_lt (x := x) (n := 127) (by omega) (fun z => a (by rw [fa_lt, show (0 : Int32).toInt = 0 from rfl] at z; rw [fa_lt, k1]; omega)) (fun z => b (by rw [fa_le, k3] at z; rw [fa_lt, k2]; omega))
  have hc2 : 32 ≤ c := by
    rw [fa_lt, k1, nI_toInt (by omega)] at a
    omega
  have cC : F_X11_type w (nI c) = if T < 60 then some (nI (T + 1), up3 (up3 w 7 4 T (nI c)) 7 3 1 (nI (T + 1))) else some (-1000003, w) := by
    unfold F_X11_type F_X6_append
    rw [if_neg a, if_pos (fa_of_nlt b), t2, show (60 : Int32) = nI 60 from rfl, iLt (by omega) (by omega)]
    by_cases e : T < 60
    · rw [if_pos e, if_pos e, gB_n _ (by omega) (by omega), gS_e, gS_e, gC_s, up3_s]
      rw [up3_n (by omega), t2, nI_1]
    · rw [if_neg e, if_neg e, gC_s]
  have cM : ∀ u : gWd, u 8 0 6 = nI T → F_X12_type u (nI c) = if T < 60 then some (nI (T + 1), up3 (up3 u 8 4 T (nI c)) 8 0 6 (nI (T + 1))) else some (-1000003, u) := by
    intro u hu
    unfold F_X12_type
    rw [M_in, if_neg a, if_neg b, gP_s, if_neg (show ¬ (1 : Int32) = 0 by decide), hu, show (60 : Int32) = nI 60 from rfl, iEq (by omega) (by omega)]
    by_cases e : T = 60
    · rw [if_pos e, if_neg (by omega)]
    · rw [if_neg e, if_pos (by omega), gB_n _ (by omega) (by omega), gS_e, gS_e, up3_s]
      rw [up3_n (by omega), hu, nI_1]
  by_cases e : T < 60
  · refine ⟨nI (T + 1), up3 (up3 w 7 4 T (nI c)) 7 3 1 (nI (T + 1)), up3 (up3 (up3 (up3 w 7 4 T (nI c)) 7 3 1 (nI (T + 1))) 8 4 T (nI c)) 8 0 6 (nI (T + 1)), T + 1, ?_, ?_, (agT.up (by omega)).tr (agT.up (by omega)), ((agT.up (by omega)).tr (agT.up (by omega))).tr ((agT.up (by omega)).tr (agT.up (by omega))), by omega, ?_, by rw [up3_s], fun k hk => ?_⟩
    · rw [cC, if_pos e]
    · rw [cM _ (by rw [up3_n (by omega), up3_n (by omega)]; exact t3), if_pos e]
    · rw [up3_n (by omega), up3_n (by omega), up3_s]
    · by_cases ek : k = T
      · subst ek
        refine ⟨c, hc2, by omega, ?_, ?_⟩
        · rw [up3_n (by omega), up3_n (by omega), up3_n (by omega), up3_s]
        · rw [up3_n (by omega), up3_s]
      · obtain ⟨c', g1, g2, g3, g4⟩ := t4 k (by omega)
        refine ⟨c', g1, g2, ?_, ?_⟩
        · rw [up3_n (by omega), up3_n (by omega), up3_n (by omega), up3_n (by omega)]; exact g3
        · rw [up3_n (by omega), up3_n (by omega), up3_n (by omega), up3_n (by omega)]; exact g4
  · exact ⟨-1000003, w, w, T, by rw [cC, if_neg e], by rw [cM w t3, if_neg e], agT.rf _, agT.rf _, t1, t2, t3, t4⟩
theorem OK_clear {w : gWd} {T : Nat} (hT : TV w T) : ∃ r w' w'' T', F_X11_clearText w = some (r, w') ∧ F_X12_clearText w' = some (r, w'') ∧ agT w w' ∧ agT w w'' ∧ TV w'' T' := by
  obtain ⟨t1, t2, t3, t4⟩ := hT
  refine ⟨nI T, up3 w 7 3 1 (nI 0), up3 (up3 w 7 3 1 (nI 0)) 8 0 6 (nI 0), 0, ?_, ?_, agT.up (by omega), (agT.up (by omega)).tr (agT.up (by omega)), by omega, ?_, by rw [up3_s], fun k hk => absurd hk (Nat.not_lt_zero k)⟩
  · unfold F_X11_clearText F_X6_empty
    rw [gS_e, gS_e, gC_s, t2]
    rfl
  · unfold F_X12_clearText
    rw [gS_e, gS_e, up3_n (by omega), t3]
    rfl
  · rw [up3_n (by omega), up3_s]
