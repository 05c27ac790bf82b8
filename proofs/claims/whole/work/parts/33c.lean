/-! the first world stands in the relation -/
def gS0 (t : Nat) : Nat := if t = 317 then 8 else if t = 318 then 3 else if t = 319 then 2 else 0
theorem gS0_z {t : Nat} (h : t ≤ 316) : gS0 t = 0 := by unfold gS0; rw [if_neg (by omega), if_neg (by omega), if_neg (by omega)]
theorem REL_0 : REL gW0 0 := by
  have z : ∀ {a b c : Nat}, b ≠ 1 → b ≠ 2 → gW0 a b c = 0 := fun h h2 => gW0_z h h2
  have hN : gS0 311 = 0 := rfl
  have hB : WB gS0 := by
    refine ⟨by decide, by decide, by decide, by decide, by decide, by decide, by decide, by decide, fun p hp => ?_, fun k hk a ha => ?_⟩
    · rw [gS0_z (by omega)]; omega
    · rw [gS0_z (by omega)]; unfold okv; omega
  refine ⟨gS0, 0, fun j => 2 + j, fun _ => gS0, 0, ⟨hB, fun k h1 h2 a h3 h4 => gS0_z (by omega), fun _ => ⟨rfl, fun k hk => absurd hk (Nat.not_lt_zero k)⟩, fun h => absurd h (by decide), fun h => absurd h (by decide), fun q hq => ?_, fun k hk => absurd hk (Nat.not_lt_zero k), Nat.le_refl _, IW.no (by decide)⟩, ?_, ?_, fun t ht => ?_, z (by omega) (by omega), ⟨⟨by omega, ?_, fun j hj => ⟨?_, by show 2 ≤ 2 + j; omega, by show 2 + j ≤ 6; omega⟩, fun j j' _ _ h => by
    have h : 2 + j = 2 + j' := h
    omega⟩, z (by omega) (by omega), fun j hj => absurd hj (Nat.not_lt_zero j)⟩, ⟨by omega, z (by omega) (by omega), z (by omega) (by omega), fun k hk => absurd hk (Nat.not_lt_zero k)⟩⟩
  · rw [gS0_z (by omega)]; rfl
  · refine ⟨⟨z (by omega) (by omega), z (by omega) (by omega), z (by omega) (by omega), z (by omega) (by omega), z (by omega) (by omega), z (by omega) (by omega), z (by omega) (by omega), rfl, rfl, rfl⟩, fun k hk => absurd hk (Nat.not_lt_zero k)⟩
  · exact ⟨0, fun _ => 0, by omega, z (by omega) (by omega), fun p hp => absurd hp (Nat.not_lt_zero p), fun p _ hp => gS0_z (by omega), fun p p' hp => absurd hp (Nat.not_lt_zero p), fun _ => rfl⟩
  · unfold gW0 gS0
    rw [if_neg (by omega), if_neg (by omega), if_pos ⟨rfl, rfl⟩]
    repeat' split
    all_goals rfl
  · unfold gW0; rw [if_neg (by omega), if_neg (by omega), if_neg (by omega)]; rfl
  · unfold gW0; rw [if_neg (by omega), if_pos ⟨rfl, rfl⟩]
