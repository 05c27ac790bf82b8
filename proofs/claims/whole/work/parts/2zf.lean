/-! level 2: numbers of the text -/
def dg (T : Nat) (c : Nat → Nat) (p : Nat) : Bool := decide (48 ≤ sg T c p ∧ sg T c p ≤ 57)
def num (T : Nat) (c : Nat → Nat) (p : Nat) : Nat → Nat
  | 0 => 0
  | d + 1 => 10 * num T c p d + (sg T c (p + d) - 48)
theorem C_number {w : gWd} {T p d : Nat} {c : Nat → Nat} (h : TX w T c) (hp : w 7 3 3 = nI p) (hp2 : p ≤ 500) (hd : d ≤ 3) (h1 : ∀ k, k < d → dg T c (p + k) = true) (h2 : d = 3 ∨ ¬ dg T c (p + d) = true) : ∃ w', F_X6_readNumber w = some (if d = 0 then 0 else 1, w') ∧ (∀ a b e, ¬ (a = 7 ∧ b = 3 ∧ (e = 3 ∨ e = 7)) → w' a b e = w a b e) ∧ w' 7 3 3 = nI (p + d) ∧ w' 7 3 7 = nI (num T c p d) := by
  unfold F_X6_readNumber
  rw [gS_e]
  have hTX : ∀ u : gWd, (∀ a b e, ¬ (a = 7 ∧ b = 3 ∧ (e = 3 ∨ e = 7)) → u a b e = w a b e) → TX u T c := fun u hu => by
    obtain ⟨t1, t2, t3, t4⟩ := h
    exact ⟨t1, by rw [hu 7 3 1 (by omega)]; exact t2, by rw [hu 8 0 6 (by omega)]; exact t3, fun k hk => by rw [hu 7 4 k (by omega), hu 8 4 k (by omega)]; exact t4 k hk⟩
  have hend : ∀ u : gWd, F_X6_readNumber_65 u (nI d) = some (if d = 0 then 0 else 1, u) := fun u => by
    unfold F_X6_readNumber_65
    rw [iLe0 (by omega)]
    by_cases e : d = 0
    · rw [if_pos e, if_pos e]
    · rw [if_neg e, if_neg e]
  refine loopI (F := fun fu (u : gWd) j => F_X6_readNumber_7 fu u (nI j)) d (fun j u => (∀ a b e, ¬ (a = 7 ∧ b = 3 ∧ (e = 3 ∨ e = 7)) → u a b e = w a b e) ∧ u 7 3 3 = nI (p + j) ∧ u 7 3 7 = nI (num T c p j)) (fun o => ∃ w', o = some (if d = 0 then 0 else 1, w') ∧ (∀ a b e, ¬ (a = 7 ∧ b = 3 ∧ (e = 3 ∨ e = 7)) → w' a b e = w a b e) ∧ w' 7 3 3 = nI (p + d) ∧ w' 7 3 7 = nI (num T c p d)) ?_ ?_ gFU _ 0 (by omega) (gFU_lt (by omega)) ⟨fun a b e he => up3_n (by omega), by rw [up3_n (by omega)]; exact hp, up3_s _ _ _ _ _⟩
  · intro fu u hu
    refine ⟨u, ?_, hu.1, hu.2.1, hu.2.2⟩
    show F_X6_readNumber_7 (fu + 1) u (nI d) = _
    rw [F_X6_readNumber_7_s, show (3 : Int32) = nI 3 from rfl, iLe (by omega) (by omega), C_signHere (hTX u hu.1) hu.2.1 (by omega), gP_s, gP_s, gP_s, show (48 : Int32) = nI 48 from rfl, show (57 : Int32) = nI 57 from rfl]
    have hsg : sg T c (p + d) < 1000 := by
      unfold sg
      split
      · rename_i e; have := h.2.2.2 _ e; omega
      · omega
    by_cases e : d = 3
    · rw [if_pos (by omega)]; exact hend u
    · rw [if_neg (by omega), iLt (by omega) (by omega), iLt (by omega) (by omega)]
      have hn : ¬ dg T c (p + d) = true := h2.resolve_left e
      by_cases x : sg T c (p + d) < 48
      · rw [if_pos x]; exact hend u
      · have : 57 < sg T c (p + d) := by
          rcases Nat.lt_or_ge 57 (sg T c (p + d)) with y | y
          · exact y
          · exact absurd (decide_eq_true ⟨by omega, y⟩) hn
        rw [if_neg x, if_pos this]; exact hend u
  · intro fu u j hj hu
    right
    have hdg := of_decide_eq_true (h1 j hj)
    refine ⟨up3 (up3 u 7 3 7 (nI (num T c p (j + 1)))) 7 3 3 (nI (p + (j + 1))), ⟨fun a b e he => ?_, up3_s _ _ _ _ _, by rw [up3_n (by omega), up3_s]⟩, ?_⟩
    · rw [up3_n (by omega), up3_n (by omega)]; exact hu.1 a b e he
    · show F_X6_readNumber_7 (fu + 1) u (nI j) = F_X6_readNumber_7 fu (up3 (up3 u 7 3 7 (nI (num T c p (j + 1)))) 7 3 3 (nI (p + (j + 1)))) (nI (j + 1))
      have hv : (u 7 3 7 * 10 + nI (sg T c (p + j))) - 48 = nI (num T c p (j + 1)) := by
        rw [hu.2.2, show (10 : Int32) = nI 10 from rfl, pk_mul, nI_add, show (48 : Int32) = nI 48 from rfl, pk_sub (by omega)]
        show _ = nI (10 * num T c p j + (sg T c (p + j) - 48))
        congr 1
        omega
      rw [F_X6_readNumber_7_s, show (3 : Int32) = nI 3 from rfl, iLe (by omega) (by omega), if_neg (by omega), C_signHere (hTX u hu.1) hu.2.1 (by omega), gP_s, gP_s, gP_s, if_neg (show ¬ nI (sg T c (p + j)) < 48 from nI_nlt (b := 48) hdg.1 (by omega)), if_neg (show ¬ 57 < nI (sg T c (p + j)) from nI_nlt (a := 57) hdg.2 (by omega)), gS_e, gS_e, gS_e, hv, up3_n (w := u) (by omega), hu.2.1, nI_1, nI_1]
      rfl
