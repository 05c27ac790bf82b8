/-! level 2: reading an order, pure; both sides read signs -/
def nm (s : Nat) : Nat := if s = 100 then 0 else if s = 101 then 2 else if s = 102 then 0 else if s = 110 then 0 else if s = 111 then 0 else if s = 115 then 2 else if s = 120 then 1 else 3
def dl (T : Nat) (c : Nat → Nat) (p : Nat) : Nat := if dg T c p = true then (if dg T c (p + 1) = true then (if dg T c (p + 2) = true then 3 else 2) else 1) else 0
theorem dl_le (T : Nat) (c : Nat → Nat) (p : Nat) : dl T c p ≤ 3 := by
  unfold dl; repeat' split
  all_goals omega
theorem dl_1 (T : Nat) (c : Nat → Nat) (p : Nat) : ∀ k, k < dl T c p → dg T c (p + k) = true := by
  intro k hk
  unfold dl at hk
  by_cases a : dg T c p = true
  · rw [if_pos a] at hk
    by_cases b : dg T c (p + 1) = true
    · rw [if_pos b] at hk
      by_cases d : dg T c (p + 2) = true
      · rw [if_pos d] at hk
        rcases k with _ | _ | _ | k
        · exact a
        · exact b
        · exact d
        · omega
      · rw [if_neg d] at hk
        rcases k with _ | _ | k
        · exact a
        · exact b
        · omega
    · rw [if_neg b] at hk
      rcases k with _ | k
      · exact a
      · omega
  · rw [if_neg a] at hk; omega
theorem dl_2 (T : Nat) (c : Nat → Nat) (p : Nat) : dl T c p = 3 ∨ ¬ dg T c (p + dl T c p) = true := by
  by_cases a : dg T c p = true
  · by_cases b : dg T c (p + 1) = true
    · by_cases d : dg T c (p + 2) = true
      · left; unfold dl; rw [if_pos a, if_pos b, if_pos d]
      · right; have : dl T c p = 2 := by unfold dl; rw [if_pos a, if_pos b, if_neg d]
        rw [this]; exact d
    · right; have : dl T c p = 1 := by unfold dl; rw [if_pos a, if_neg b]
      rw [this]; exact b
  · right; have : dl T c p = 0 := by unfold dl; rw [if_neg a]
    rw [this]; exact a
def tl (T : Nat) (c : Nat → Nat) (e : Nat) : Nat × Nat := if sg T c e = 59 then (1, e + 1) else (0, e)
def e1 (T : Nat) (c : Nat → Nat) (p : Nat) : Nat := p + 1 + dl T c (p + 1)
def rd2 (T : Nat) (c : Nat → Nat) (p : Nat) : Nat × Nat := if sg T c (e1 T c p) = 44 then (if dl T c (e1 T c p + 1) = 0 then (0, e1 T c p + 1) else tl T c (e1 T c p + 1 + dl T c (e1 T c p + 1))) else (0, e1 T c p)
def rd (T : Nat) (c : Nat → Nat) (p : Nat) : Nat × Nat := if nm (sg T c p) = 3 then (0, p) else if nm (sg T c p) = 0 then tl T c (p + 1) else if dl T c (p + 1) = 0 then (0, p + 1) else if nm (sg T c p) = 1 then tl T c (e1 T c p) else rd2 T c p
theorem tl_in (T : Nat) (c : Nat → Nat) (e : Nat) : (tl T c e).1 ≤ 1 ∧ e ≤ (tl T c e).2 ∧ (tl T c e).2 ≤ e + 1 := by
  unfold tl; split
  · exact ⟨Nat.le_refl _, by show e ≤ e + 1; omega, Nat.le_refl _⟩
  · exact ⟨by show 0 ≤ 1; omega, Nat.le_refl _, by show e ≤ e + 1; omega⟩
theorem rd_in (T : Nat) (c : Nat → Nat) (p : Nat) : (rd T c p).1 ≤ 1 ∧ p ≤ (rd T c p).2 ∧ (rd T c p).2 ≤ p + 10 ∧ ((rd T c p).1 = 1 → p + 1 ≤ (rd T c p).2 ∧ nm (sg T c p) ≠ 3) := by
  have h1 := dl_le T c (p + 1)
  have h2 := dl_le T c (e1 T c p + 1)
  unfold rd
  by_cases a : nm (sg T c p) = 3
  · rw [if_pos a]; exact ⟨by show 0 ≤ 1; omega, Nat.le_refl _, by show p ≤ p + 10; omega, fun z => absurd z (by show ¬ 0 = 1; omega)⟩
  · rw [if_neg a]
    by_cases b : nm (sg T c p) = 0
    · rw [if_pos b]
      obtain ⟨t1, t2, t3⟩ := tl_in T c (p + 1)
      exact ⟨t1, by omega, by omega, fun _ => ⟨t2, a⟩⟩
    · rw [if_neg b]
      by_cases d : dl T c (p + 1) = 0
      · rw [if_pos d]; exact ⟨by show 0 ≤ 1; omega, by show p ≤ p + 1; omega, by show p + 1 ≤ p + 10; omega, fun z => absurd z (by show ¬ 0 = 1; omega)⟩
      · rw [if_neg d]
        have he : e1 T c p = p + 1 + dl T c (p + 1) := rfl
        by_cases f : nm (sg T c p) = 1
        · rw [if_pos f]
          obtain ⟨t1, t2, t3⟩ := tl_in T c (e1 T c p)
          exact ⟨t1, by omega, by omega, fun _ => ⟨by omega, a⟩⟩
        · rw [if_neg f]
          unfold rd2
          by_cases g : sg T c (e1 T c p) = 44
          · rw [if_pos g]
            by_cases h : dl T c (e1 T c p + 1) = 0
            · rw [if_pos h]; exact ⟨by show 0 ≤ 1; omega, by show p ≤ e1 T c p + 1; omega, by show e1 T c p + 1 ≤ p + 10; omega, fun z => absurd z (by show ¬ 0 = 1; omega)⟩
            · rw [if_neg h]
              obtain ⟨t1, t2, t3⟩ := tl_in T c (e1 T c p + 1 + dl T c (e1 T c p + 1))
              exact ⟨t1, by omega, by omega, fun _ => ⟨by omega, a⟩⟩
          · rw [if_neg g]; exact ⟨by show 0 ≤ 1; omega, by show p ≤ e1 T c p; omega, by show e1 T c p ≤ p + 10; omega, fun z => absurd z (by show ¬ 0 = 1; omega)⟩
theorem sg_lt {w : gWd} {T p : Nat} {c : Nat → Nat} (h : TX w T c) : sg T c p < 1000 := by
  unfold sg
  split
  · rename_i e; have := h.2.2.2 _ e; omega
  · omega
/-- only the text's reader has changed -/
def ag7 (w w' : gWd) : Prop := ∀ a b e, ¬ (a = 7 ∧ b = 3 ∧ 2 ≤ e) → w' a b e = w a b e
theorem ag7.rf (w : gWd) : ag7 w w := fun _ _ _ _ => rfl
theorem ag7.tr {w w1 w2 : gWd} (h1 : ag7 w w1) (h2 : ag7 w1 w2) : ag7 w w2 := fun a b c h => (h2 a b c h).trans (h1 a b c h)
theorem ag7.up {w : gWd} {j : Nat} {v : Int32} (h : 2 ≤ j) : ag7 w (up3 w 7 3 j v) := fun a b c h' => up3_n (fun z => h' (by omega))
theorem ag7.tx {w w' : gWd} {T : Nat} {c : Nat → Nat} (h : ag7 w w') (hT : TX w T c) : TX w' T c := by
  obtain ⟨t1, t2, t3, t4⟩ := hT
  exact ⟨t1, by rw [h 7 3 1 (by omega)]; exact t2, by rw [h 8 0 6 (by omega)]; exact t3, fun k hk => by rw [h 7 4 k (by omega), h 8 4 k (by omega)]; exact t4 k hk⟩
/-- only the model's reader has changed -/
def ag8 (w w' : gWd) : Prop := ∀ a b e, ¬ (a = 8 ∧ ((b = 0 ∧ 8 ≤ e) ∨ b = 6)) → w' a b e = w a b e
theorem ag8.rf (w : gWd) : ag8 w w := fun _ _ _ _ => rfl
theorem ag8.tr {w w1 w2 : gWd} (h1 : ag8 w w1) (h2 : ag8 w1 w2) : ag8 w w2 := fun a b c h => (h2 a b c h).trans (h1 a b c h)
theorem ag8.up {w : gWd} {j : Nat} {v : Int32} (h : 8 ≤ j) : ag8 w (up3 w 8 0 j v) := fun a b c h' => up3_n (fun z => h' (by omega))
theorem ag8.tx {w w' : gWd} {T : Nat} {c : Nat → Nat} (h : ag8 w w') (hT : TX w T c) : TX w' T c := by
  obtain ⟨t1, t2, t3, t4⟩ := hT
  exact ⟨t1, by rw [h 7 3 1 (by omega)]; exact t2, by rw [h 8 0 6 (by omega)]; exact t3, fun k hk => by rw [h 7 4 k (by omega), h 8 4 k (by omega)]; exact t4 k hk⟩
section RDR
variable {w : gWd} {T p x : Nat} {c : Nat → Nat}
theorem C_readSign (h : TX w T c) (hp : w 7 3 3 = nI p) (hp2 : p ≤ 500) (hx : x < 1000) : ∃ w', F_X6_readSign w (nI x) = some (nI (if sg T c p = x then 1 else 0), w') ∧ (∀ a b e, ¬ (a = 7 ∧ b = 3 ∧ e = 3) → w' a b e = w a b e) ∧ w' 7 3 3 = nI (if sg T c p = x then p + 1 else p) := by
  have hs := sg_lt (p := p) h
  unfold F_X6_readSign
  rw [C_signHere h hp (by omega), gP_s, iEq (by omega) (by omega)]
  by_cases e : sg T c p = x
  · rw [if_pos e, if_pos e, if_pos e, gS_e, hp, nI_1]
    exact ⟨_, rfl, fun a b e' h' => up3_n h', up3_s _ _ _ _ _⟩
  · rw [if_neg e, if_neg e, if_neg e]
    exact ⟨w, rfl, fun _ _ _ _ => rfl, hp⟩
theorem M_sign (h : TX w T c) (hp : w 8 0 8 = nI p) (hp2 : p ≤ 500) (hx : 1 ≤ x ∧ x < 1000) : F_X12_sign w (nI x) = some (nI (if sg T c p = x then 1 else 0), up3 w 8 0 8 (nI (if sg T c p = x then p + 1 else p))) := by
  unfold F_X12_sign F_X12_sign_21
  rw [M_isAt h hp (by omega) hx hx.2, gP_s]
  by_cases e : sg T c p = x
  · rw [if_pos (show x ≤ sg T c p ∧ sg T c p ≤ x by omega), if_pos e, if_pos e, if_neg (show ¬ nI 1 = 0 by decide), gS_e, hp, nI_1, gZ_n (by omega)]
  · rw [if_neg (show ¬ (x ≤ sg T c p ∧ sg T c p ≤ x) by omega), if_neg e, if_neg e, if_pos (show nI 0 = 0 from rfl), gS_e, hp, gZ_n (by omega), show nI p + 0 = nI p from nI_add p 0]
end RDR
