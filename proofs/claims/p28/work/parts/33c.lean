/-! the first world stands in the relation -/
def gS0 (t : Nat) : Nat := if t = 317 then 8 else if t = 318 then 3 else if t = 319 then 2 else 0
theorem gS0_z {t : Nat} (h : t ≤ 316) : gS0 t = 0 := by unfold gS0; rw [if_neg (by omega), if_neg (by omega), if_neg (by omega)]
/-- the first world, when the law has laid the three settings too -/
def gWs : gWd := up3 (up3 (up3 gW0 8 5 7 8) 8 5 8 3) 8 5 9 2
theorem gWs_n {a : Nat} (h : a ≠ 8) : gWs a = gW0 a := by
  unfold gWs
  rw [up3_b h, up3_b h, up3_b h]
theorem RS_0 : RS gWs 0 gS0 := by
  have z : ∀ {a b c : Nat}, b ≠ 1 → b ≠ 2 → gW0 a b c = 0 := fun h h2 => gW0_z h h2
  have z8 : ∀ {b c : Nat}, gW0 8 b c = 0 := by
    intro b c
    unfold gW0
    rw [if_neg (by omega), if_neg (by omega)]
  have hN : gS0 311 = 0 := rfl
  have hB : WB gS0 := by
    refine ⟨by decide, by decide, by decide, by decide, by decide, by decide, by decide, by decide, fun p hp => ?_, fun k hk a ha => ?_⟩
    · rw [gS0_z (by omega)]; omega
    · rw [gS0_z (by omega)]; unfold okv; omega
  have e0 : gWs 0 = gW0 0 := gWs_n (by omega)
  have e7 : gWs 7 = gW0 7 := gWs_n (by omega)
  refine ⟨⟨hB, fun k h1 h2 a h3 h4 => gS0_z (by omega), fun _ => ⟨rfl, fun k hk => absurd hk (Nat.not_lt_zero k)⟩, fun h => absurd h (by decide), fun h => absurd h (by decide), fun q hq => ?_, fun k hk => absurd hk (Nat.not_lt_zero k), Nat.le_refl _, IW.no (by decide)⟩, fun k hk => absurd hk (Nat.not_lt_zero k), by decide, ?_, ?_, ⟨0, fun j => 2 + j, by omega, ?_, fun j hj => ⟨?_, by show 2 ≤ 2 + j; omega, by show 2 + j ≤ 6; omega⟩, fun j j' _ _ h => ?_⟩, ?_⟩
  · rw [gS0_z (by omega)]; rfl
  · rw [e0]
    refine ⟨⟨z (by omega) (by omega), z (by omega) (by omega), z (by omega) (by omega), z (by omega) (by omega), z (by omega) (by omega), z (by omega) (by omega), z (by omega) (by omega), rfl, rfl, rfl⟩, fun k hk => absurd hk (Nat.not_lt_zero k)⟩
  · rw [e0]
    exact ⟨0, fun _ => 0, by omega, z (by omega) (by omega), fun p hp => absurd hp (Nat.not_lt_zero p), fun p _ hp => gS0_z (by omega), fun p p' hp => absurd hp (Nat.not_lt_zero p), fun _ => rfl⟩
  · rw [e7]; unfold gW0; rw [if_neg (by omega), if_neg (by omega)]; rfl
  · rw [e7]; unfold gW0; rw [if_neg (by omega), if_pos ⟨rfl, rfl⟩]
  · have h : 2 + j = 2 + j' := h
    omega
  · have l0 : LV gW0 (fun _ => 0) := fun t ht => z8
    have l1 := ((l0.ut (j := 7) (by omega) 8).ut (j := 8) (by omega) 3).ut (j := 9) (by omega) 2
    refine l1.cg (fun t ht => ?_)
    unfold gS0 upN
    by_cases c1 : t = 319
    · subst c1; rfl
    · by_cases c2 : t = 318
      · subst c2; rfl
      · by_cases c3 : t = 317
        · subst c3; rfl
        · rw [if_neg c3, if_neg c2, if_neg c1, if_neg c1, if_neg c2, if_neg c3]
