/-! level 2: the model's copies -/
theorem M_copies {w : gWd} {r0 r1 : Nat} (h : r0 ≠ r1) : ∃ w', F_X12_copies w r0 r1 = some w' ∧ (∀ a b, ¬ (a = 8 ∧ b = r1) → w' a b = w a b) ∧ ∀ t, t < 320 → w' 8 r1 t = w 8 r0 t := by
  unfold F_X12_copies
  refine loopI (F := fun fu (u : gWd) j => F_X12_copies_2 fu u r0 r1 (nI j)) 320 (fun j u => (∀ a b, ¬ (a = 8 ∧ b = r1) → u a b = w a b) ∧ ∀ t, t < j → u 8 r1 t = w 8 r0 t) (fun o => ∃ w', o = some w' ∧ (∀ a b, ¬ (a = 8 ∧ b = r1) → w' a b = w a b) ∧ ∀ t, t < 320 → w' 8 r1 t = w 8 r0 t) ?_ ?_ gFU w 0 (by omega) (gFU_lt (by omega)) ⟨fun _ _ _ => rfl, fun t ht => absurd ht (Nat.not_lt_zero t)⟩
  · intro fu u hu
    refine ⟨u, ?_, hu.1, hu.2⟩
    show F_X12_copies_2 (fu + 1) u r0 r1 (nI 320) = _
    rw [F_X12_copies_2_s, if_pos (by decide)]
  · intro fu u j hj hu
    right
    have e1 : u 8 r0 = w 8 r0 := hu.1 8 r0 (fun z => h z.2)
    refine ⟨up3 u 8 r1 j (u 8 r0 j), ⟨fun a b hab => ?_, fun t ht => ?_⟩, ?_⟩
    · rw [up3_r hab]; exact hu.1 a b hab
    · by_cases e : t = j
      · subst e; rw [up3_s, e1]
      · rw [up3_n (by omega)]; exact hu.2 t (by omega)
    · show F_X12_copies_2 (fu + 1) u r0 r1 (nI j) = F_X12_copies_2 fu (up3 u 8 r1 j (u 8 r0 j)) r0 r1 (nI (j + 1))
      rw [F_X12_copies_2_s, show (320 : Int32) = nI 320 from rfl, iLe (by omega) (by omega), if_neg (by omega), gB_n _ (by omega) (by omega), gB_n _ (by omega) (by omega), gS_e, gS_e, nI_1]
