/-! level 2: swimmer, at -/
theorem C_above {w : gWd} {v : Nat} : F_X0_aboveZero w (nI v) = some (if nI v ≤ 0 then -1000004 else nI v) := by
  unfold F_X0_aboveZero; split <;> rfl
theorem C_m1 {v : Nat} (h : v < 2 ^ 30) : (if nI v - 1 = -1 then some (-1000004) else some (nI v - 1) : Option Int32) = some (if v = 0 then -1000004 else nI v - 1) := by
  by_cases e : v = 0
  · rw [if_pos ((mEN1 h).mpr e), if_pos e]
  · rw [if_neg (fun z => e ((mEN1 h).mp z)), if_neg e]
/-- who is in the heat z - 1, in the final for z = 0 -/
def hIn (S : Nat → Nat) (z k : Nat) : Bool := if z = 0 then decide (S (10 * k + 6) ≠ 0) else decide (S (10 * k + 3) = z)
theorem hX_0 : nI 0 - 1 = -1 := by decide
theorem hX_s {z : Nat} (h : z ≠ 0) (hz : z < 2 ^ 30) : nI z - 1 = nI (z - 1) := mN hz (by omega)
theorem hX_ne {z : Nat} (h : z ≠ 0) (hz : z < 2 ^ 30) : ¬ nI z - 1 = -1 := fun q => h ((mEN1 hz).mp q)
theorem hX_pos {z : Nat} (hz : z ≤ 8) : (0 ≤ nI z - 1) ↔ z ≠ 0 := by
  rw [Int32.le_iff_toInt_le, mT (by omega), show (0 : Int32).toInt = 0 from rfl]
  omega
def hZ (S : Nat → Nat) (x : Int32) : Prop := (x = -1 ∧ 2 ≤ S 310) ∨ (0 ≤ x ∧ ¬ nI (S 312) ≤ x)
theorem hZ_z {S : Nat → Nat} (hB : WB S) {x : Int32} (h : hZ S x) : ∃ z, z ≤ 8 ∧ x = nI z - 1 := by
  have h8 := hB.2.2.1
  rcases h with ⟨rfl, _⟩ | ⟨a, b⟩
  · exact ⟨0, by omega, by decide⟩
  · obtain ⟨k, hk, rfl⟩ := arg_lt (n := S 312) (by omega) (fun z => (fa_of_lt z).2.1 a) b
    exact ⟨k + 1, by omega, by rw [mN (by omega) (by omega), Nat.add_sub_cancel]⟩
def lnZ (S : Nat → Nat) (z k : Nat) : Nat := if z = 0 then S (10 * k + 6) else S (10 * k + 4)
def atP (S : Nat → Nat) (z : Nat) (y : Int32) (k : Nat) : Prop := hIn S z k = true ∧ nI (lnZ S z k) = y
