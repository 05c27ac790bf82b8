/-! level 2: the class's history -/
def HC (w : gWd) (K : Nat) (ρ : Nat → Nat) : Prop := K ≤ 4 ∧ w 7 1 1 = nI K ∧ (∀ j, j < 5 → w 7 2 j = nI (ρ j) ∧ 2 ≤ ρ j ∧ ρ j ≤ 6) ∧ ∀ j j', j < 5 → j' < 5 → ρ j = ρ j' → j = j'
/-- only the class's list of kept meets has changed -/
def agK (w w' : gWd) : Prop := ∀ a b c, ¬ (a = 7 ∧ ((b = 1 ∧ c = 1) ∨ b = 2)) → w' a b c = w a b c
def rot (ρ : Nat → Nat) (j : Nat) : Nat := if j < 4 then ρ (j + 1) else ρ 0
theorem rot_inj {ρ : Nat → Nat} (h : ∀ j j', j < 5 → j' < 5 → ρ j = ρ j' → j = j') : ∀ j j', j < 5 → j' < 5 → rot ρ j = rot ρ j' → j = j' := by
  intro j j' hj hj' e
  unfold rot at e
  by_cases a : j < 4
  · rw [if_pos a] at e
    by_cases b : j' < 4
    · rw [if_pos b] at e
      have := h _ _ (by omega) (by omega) e
      omega
    · rw [if_neg b] at e
      have := h _ _ (by omega) (by omega) e
      omega
  · rw [if_neg a] at e
    by_cases b : j' < 4
    · rw [if_pos b] at e
      have := h _ _ (by omega) (by omega) e
      omega
    · omega
theorem C_prepare {w : gWd} {S : Nat → Nat} {K : Nat} {ρ : Nat → Nat} (hH : HC w K ρ) (hC : CV (w 0) S) (hR : RV (w 0) S) (hB : WB S) : ∃ w', F_X3_prepare w 0 = some w' ∧ agB (ρ K) w w' ∧ CV (w' (ρ K)) S ∧ RV (w' (ρ K)) S := by
  obtain ⟨h1, h2, h3, h4⟩ := hH
  obtain ⟨g1, g2, g3⟩ := h3 K (by omega)
  obtain ⟨w', f1, f2, f3, f4⟩ := C_copy (w := w) (i0 := ρ K) (i1 := 0) (by omega) hC hR hB
  refine ⟨w', ?_, f2, f3, f4⟩
  unfold F_X3_prepare
  rw [h2, iL0 (by omega), show (4 : Int32) = nI 4 from rfl, iLt (by omega) (by omega), if_neg (by omega), gB_n _ (by omega) (by omega), g1, nI_clamp (by omega), gM_t (by omega), f1, gP_s]
theorem C_drop {w : gWd} {ρ : Nat → Nat} (h3 : ∀ j, j < 5 → w 7 2 j = nI (ρ j) ∧ 2 ≤ ρ j ∧ ρ j ≤ 6) : ∃ w', F_X3_dropOldest w = some w' ∧ agK w w' ∧ w' 7 1 1 = nI 4 ∧ ∀ j, j < 5 → w' 7 2 j = nI (rot ρ j) := by
  obtain ⟨g1, g2, g3⟩ := h3 0 (by omega)
  unfold F_X3_dropOldest
  rw [g1, nI_clamp (by omega), gM_t (by omega)]
  refine loopI (F := fun fu (u : gWd) j => F_X3_dropOldest_9 fu u (ρ 0) (nI j)) 4 (fun j u => agK w u ∧ (∀ q, q < j → u 7 2 q = nI (ρ (q + 1))) ∧ ∀ q, j ≤ q → u 7 2 q = w 7 2 q) (fun o => ∃ w', o = some w' ∧ agK w w' ∧ w' 7 1 1 = nI 4 ∧ ∀ j, j < 5 → w' 7 2 j = nI (rot ρ j)) ?_ ?_ gFU w 0 (by omega) (gFU_lt (by omega)) ⟨fun _ _ _ _ => rfl, fun t ht => absurd ht (Nat.not_lt_zero t), fun _ _ => rfl⟩
  · intro fu u hu
    refine ⟨up3 (up3 u 7 2 4 (nI (ρ 0))) 7 1 1 4, ?_, fun a b c h => ?_, up3_s _ _ _ _ _, fun j hj => ?_⟩
    · show F_X3_dropOldest_9 (fu + 1) u (ρ 0) (nI 4) = _
      rw [F_X3_dropOldest_9_s, if_pos (by decide)]
      rfl
    · rw [up3_n (by omega), up3_n (by omega)]; exact hu.1 a b c h
    · unfold rot
      by_cases e : j < 4
      · rw [if_pos e, up3_n (by omega), up3_n (by omega)]; exact hu.2.1 j e
      · rw [if_neg e, show j = 4 by omega, up3_n (by omega), up3_s]
  · intro fu u j hj hu
    right
    obtain ⟨k1, k2, k3⟩ := h3 (j + 1) (by omega)
    have e1 : u 7 2 (j + 1) = nI (ρ (j + 1)) := by rw [hu.2.2 _ (by omega)]; exact k1
    refine ⟨up3 u 7 2 j (nI (ρ (j + 1))), ⟨fun a b c h => ?_, fun q hq => ?_, fun q hq => ?_⟩, ?_⟩
    · rw [up3_n (by omega)]; exact hu.1 a b c h
    · by_cases e : q = j
      · subst e; rw [up3_s]
      · rw [up3_n (by omega)]; exact hu.2.1 q (by omega)
    · rw [up3_n (by omega)]; exact hu.2.2 q (by omega)
    · show F_X3_dropOldest_9 (fu + 1) u (ρ 0) (nI j) = F_X3_dropOldest_9 fu (up3 u 7 2 j (nI (ρ (j + 1)))) (ρ 0) (nI (j + 1))
      rw [F_X3_dropOldest_9_s, show (4 : Int32) = nI 4 from rfl, iLe (by omega) (by omega), if_neg (by omega), nI_1, gB_n _ (by omega) (by omega), e1, nI_clamp (by omega), gM_t (by omega), gB_n _ (by omega) (by omega), gS_e, gS_e]
theorem C_keepE {w : gWd} {v : Int32} (hv : v < 0) : F_X3_keepUnlessError w v = some (v, w) := by
  unfold F_X3_keepUnlessError
  rw [if_pos hv]
theorem C_keep {w : gWd} {K : Nat} {ρ : Nat → Nat} {v : Int32} (hH : HC w K ρ) (hv : 0 ≤ v) : ∃ w', F_X3_keepUnlessError w v = some (v, w') ∧ agK w w' ∧ HC w' (if K = 4 then 4 else K + 1) (if K = 4 then rot ρ else ρ) := by
  obtain ⟨h1, h2, h3, h4⟩ := hH
  have e0 : F_X3_keepUnlessError w v = if K + 1 ≤ 4 then some (v, up3 w 7 1 1 (nI (K + 1))) else gP (F_X3_dropOldest (up3 w 7 1 1 (nI (K + 1)))) (fun w_5 => some (v, w_5)) := by
    unfold F_X3_keepUnlessError
    rw [if_neg (fun z => (fa_of_lt z).2.1 hv), gS_e, h2, nI_1, up3_s, show (4 : Int32) = nI 4 from rfl, iLe (by omega) (by omega)]
  by_cases e : K = 4
  · obtain ⟨w', f1, f2, f3, f4⟩ := C_drop (w := up3 w 7 1 1 (nI (K + 1))) (ρ := ρ) (fun j hj => by rw [up3_n (by omega)]; exact h3 j hj)
    refine ⟨w', ?_, fun a b c h => ?_, ?_⟩
    · rw [e0, if_neg (by omega), f1, gP_s]
    · rw [f2 a b c h, up3_n (by omega)]
    · rw [if_pos e, if_pos e]
      refine ⟨by omega, f3, fun j hj => ⟨f4 j hj, ?_⟩, rot_inj h4⟩
      unfold rot
      by_cases a : j < 4
      · rw [if_pos a]; exact (h3 _ (by omega)).2
      · rw [if_neg a]; exact (h3 _ (by omega)).2
  · refine ⟨up3 w 7 1 1 (nI (K + 1)), ?_, fun a b c h => up3_n (by omega), ?_⟩
    · rw [e0, if_pos (by omega)]
    · rw [if_neg e, if_neg e]
      exact ⟨by omega, up3_s _ _ _ _ _, fun j hj => by rw [up3_n (by omega)]; exact h3 j hj, h4⟩
