/-! level 2: the signs of the text -/
def TX (w : gWd) (T : Nat) (c : Nat → Nat) : Prop := T ≤ 60 ∧ w 7 3 1 = nI T ∧ w 8 0 6 = nI T ∧ ∀ k, k < T → 32 ≤ c k ∧ c k ≤ 126 ∧ w 7 4 k = nI (c k) ∧ w 8 4 k = nI (c k)
def sg (T : Nat) (c : Nat → Nat) (p : Nat) : Nat := if p < T then c p else 0
theorem C_signHere {w : gWd} {T p : Nat} {c : Nat → Nat} (h : TX w T c) (hp : w 7 3 3 = nI p) (hp2 : p ≤ 1000) : F_X6_signHere w = some (nI (sg T c p)) := by
  obtain ⟨t1, t2, t3, t4⟩ := h
  unfold F_X6_signHere F_X6_signHere_39 sg
  rw [hp, iL0 (by omega), t2, iLe (by omega) (by omega), show (60 : Int32) = nI 60 from rfl, iLe (by omega) (by omega)]
  by_cases e : p < T
  · rw [if_neg (by omega), if_neg (by omega), if_pos e, gB_n _ (by omega) (by omega), (t4 p e).2.2.1]
  · rw [if_pos (by omega), if_neg e]
    rfl
theorem C_hasMore {w : gWd} {T p : Nat} {c : Nat → Nat} (h : TX w T c) (hp : w 7 3 3 = nI p) (hp2 : p ≤ 1000) : F_X6_hasMore w = some (nI (if p < T then 1 else 0)) := by
  obtain ⟨t1, t2, t3, t4⟩ := h
  unfold F_X6_hasMore
  rw [hp, t2, iLe (by omega) (by omega)]
  by_cases e : p < T
  · rw [if_neg (by omega), if_pos e]; rfl
  · rw [if_pos (by omega), if_neg e]; rfl
theorem M_isAt {w : gWd} {T p a b : Nat} {c : Nat → Nat} (h : TX w T c) (hp : w 8 0 8 = nI p) (hp2 : p ≤ 1000) (ha : 1 ≤ a ∧ a < 1000) (hb : b < 1000) : F_X12_isAt w (nI a) (nI b) = some (nI (if a ≤ sg T c p ∧ sg T c p ≤ b then 1 else 0)) := by
  obtain ⟨t1, t2, t3, t4⟩ := h
  unfold F_X12_isAt F_X12_isAt_32 sg
  rw [hp, t3, iLe (by omega) (by omega)]
  by_cases e : p < T
  · obtain ⟨k1, k2, k3, k4⟩ := t4 p e
    rw [if_neg (by omega), if_pos e, gB_n _ (by omega) (by omega), k4, M_in, gP_s, iLt (by omega) (by omega), iLt (by omega) (by omega)]
    by_cases x : c p < a
    · rw [if_pos x, if_pos rfl, if_neg (by omega)]; rfl
    · rw [if_neg x]
      by_cases y : b < c p
      · rw [if_pos y, if_pos rfl, if_neg (by omega)]; rfl
      · rw [if_neg y, if_neg (by decide), if_pos (by omega)]; rfl
  · rw [if_pos (by omega), if_neg e, if_neg (by omega)]
    rfl
