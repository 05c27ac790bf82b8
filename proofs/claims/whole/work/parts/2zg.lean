/-! level 2: the model reads numbers -/
theorem M_number {w : gWd} {T p d q : Nat} {c : Nat → Nat} (h : TX w T c) (hp : w 8 0 8 = nI p) (hp2 : p ≤ 500) (hq : q < 2) (hd : d ≤ 3) (h1 : ∀ k, k < d → dg T c (p + k) = true) (h2 : d = 3 ∨ ¬ dg T c (p + d) = true) : ∃ w', F_X12_numbered w (nI q) = some (if d = 0 then 0 else 1, w') ∧ (∀ a b e, ¬ (a = 8 ∧ ((b = 0 ∧ e = 8) ∨ (b = 6 ∧ e = q))) → w' a b e = w a b e) ∧ w' 8 0 8 = nI (p + d) ∧ w' 8 6 q = nI (num T c p d) := by
  unfold F_X12_numbered
  rw [gS_e, hp, gB_n _ hq (by omega), gS_e]
  have hTX : ∀ u : gWd, (∀ a b e, ¬ (a = 8 ∧ ((b = 0 ∧ e = 8) ∨ (b = 6 ∧ e = q))) → u a b e = w a b e) → TX u T c := fun u hu => by
    obtain ⟨t1, t2, t3, t4⟩ := h
    exact ⟨t1, by rw [hu 7 3 1 (by omega)]; exact t2, by rw [hu 8 0 6 (by omega)]; exact t3, fun k hk => by rw [hu 7 4 k (by omega), hu 8 4 k (by omega)]; exact t4 k hk⟩
  have hend : ∀ u : gWd, u 8 0 8 = nI (p + d) → F_X12_numbered_74 u (nI p) = some (if d = 0 then 0 else 1, u) := fun u hu => by
    unfold F_X12_numbered_74
    rw [hu, iLe (by omega) (by omega)]
    by_cases e : d = 0
    · rw [if_pos (by omega), if_pos e]
    · rw [if_neg (by omega), if_neg e]
  refine loopI (F := fun fu (u : gWd) _ => F_X12_numbered_12 fu u (nI q) (nI p)) d (fun j u => (∀ a b e, ¬ (a = 8 ∧ ((b = 0 ∧ e = 8) ∨ (b = 6 ∧ e = q))) → u a b e = w a b e) ∧ u 8 0 8 = nI (p + j) ∧ u 8 6 q = nI (num T c p j)) (fun o => ∃ w', o = some (if d = 0 then 0 else 1, w') ∧ (∀ a b e, ¬ (a = 8 ∧ ((b = 0 ∧ e = 8) ∨ (b = 6 ∧ e = q))) → w' a b e = w a b e) ∧ w' 8 0 8 = nI (p + d) ∧ w' 8 6 q = nI (num T c p d)) ?_ ?_ gFU _ 0 (by omega) (gFU_lt (by omega)) ⟨fun a b e he => up3_n (by omega), by rw [up3_n (by omega)]; exact hp, up3_s _ _ _ _ _⟩
  · intro fu u hu
    refine ⟨u, ?_, hu.1, hu.2.1, hu.2.2⟩
    show F_X12_numbered_12 (fu + 1) u (nI q) (nI p) = _
    rw [F_X12_numbered_12_s, show (48 : Int32) = nI 48 from rfl, show (57 : Int32) = nI 57 from rfl, M_isAt (hTX u hu.1) hu.2.1 (by omega) (by omega) (by omega), gP_s]
    by_cases e : 48 ≤ sg T c (p + d) ∧ sg T c (p + d) ≤ 57
    · have e3 : d = 3 := h2.resolve_right (fun z => z (decide_eq_true e))
      rw [if_pos e, iE0 (by omega), if_neg (by omega), hu.2.1, pk_sub (by omega), show (3 : Int32) = nI 3 from rfl, iLe (by omega) (by omega), if_pos (by omega)]
      exact hend u hu.2.1
    · rw [if_neg e, iE0 (by omega), if_pos rfl]
      exact hend u hu.2.1
  · intro fu u j hj hu
    right
    have hdg := of_decide_eq_true (h1 j hj)
    have hT : p + j < T := by
      rcases Nat.lt_or_ge (p + j) T with z | z
      · exact z
      · unfold sg at hdg; rw [if_neg (by omega)] at hdg; omega
    have h60 := h.1
    have hs : sg T c (p + j) = c (p + j) := if_pos hT
    have e84 : u 8 4 (p + j) = nI (c (p + j)) := by rw [hu.1 8 4 _ (by omega)]; exact (h.2.2.2 _ hT).2.2.2
    refine ⟨up3 (up3 u 8 6 q (nI (num T c p (j + 1)))) 8 0 8 (nI (p + (j + 1))), ⟨fun a b e he => ?_, up3_s _ _ _ _ _, by rw [up3_n (by omega), up3_s]⟩, ?_⟩
    · rw [up3_n (by omega), up3_n (by omega)]; exact hu.1 a b e he
    · show F_X12_numbered_12 (fu + 1) u (nI q) (nI p) = F_X12_numbered_12 fu (up3 (up3 u 8 6 q (nI (num T c p (j + 1)))) 8 0 8 (nI (p + (j + 1)))) (nI q) (nI p)
      have hv : ((10 : Int32) * u 8 6 q + u 8 4 (p + j)) - 48 = nI (num T c p (j + 1)) := by
        rw [hu.2.2, e84, show (10 : Int32) = nI 10 from rfl, pk_mul, nI_add, show (48 : Int32) = nI 48 from rfl, pk_sub (by omega)]
        show _ = nI (10 * num T c p j + (sg T c (p + j) - 48))
        congr 1
        omega
      have hat := M_isAt (a := 48) (b := 57) (hTX u hu.1) hu.2.1 (by omega) (by omega) (by omega)
      rw [if_pos hdg] at hat
      rw [F_X12_numbered_12_s, show F_X12_isAt u 48 57 = _ from hat, gP_s, if_neg (show ¬ nI 1 = 0 by decide), hu.2.1, pk_sub (by omega), show (3 : Int32) = nI 3 from rfl, iLe (by omega) (by omega), if_neg (by omega), gB_n _ hq (by omega), gB_n _ (by omega) (by omega), gB_n _ hq (by omega), gS_e, gS_e, hv, up3_n (w := u) (by omega), hu.2.1, nI_1]
      rfl
