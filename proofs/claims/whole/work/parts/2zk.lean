/-! level 2: one order is obeyed -/
theorem gC_id (x : Option (Int32 × gWd)) : gC x (fun v u => some (v, u)) = x := by
  rcases x with _ | ⟨a, b⟩ <;> rfl
def cOb (i k : Nat) (x y : Int32) (w : gWd) : Option (Int32 × gWd) := if k = 100 then F_X1_drawHeats w i else if k = 101 then F_X1_addSwimmer w i x y else if k = 102 then F_X1_drawFinal w i else if k = 110 then F_X1_beginNextEvent w i else if k = 111 then F_X1_endEvent w i else if k = 115 then F_X1_giveTime w i x y else F_X1_withdraw w i x
def mOb (k : Nat) (x y : Int32) (w : gWd) : Option (Int32 × gWd) := if k = 100 then F_X12_draw w else if k = 101 then F_X12_enter w x y else if k = 102 then F_X12_finals w else if k = 111 then F_X12_end w else if k = 115 then F_X12_swim w x y else if k = 120 then F_X12_scratch w x else F_X12_next w
theorem nm_k {k : Nat} (h : nm k ≠ 3) : (k = 100 ∧ nm k = 0) ∨ (k = 101 ∧ nm k = 2) ∨ (k = 102 ∧ nm k = 0) ∨ (k = 110 ∧ nm k = 0) ∨ (k = 111 ∧ nm k = 0) ∨ (k = 115 ∧ nm k = 2) ∨ (k = 120 ∧ nm k = 1) := by
  unfold nm at h ⊢
  repeat' split at h
  all_goals first | exact absurd rfl h | (subst_vars; simp)
theorem obey_eq {w : gWd} {i k a b : Nat} (hk : w 7 3 4 = nI k) (hn : nm k ≠ 3) (ha : 1 ≤ nm k → w 7 3 5 = nI a) (hb : 2 ≤ nm k → w 7 3 6 = nI b) : F_X7_obey w i = cOb i k (nI a) (nI b) w := by
  unfold F_X7_obey cOb
  simp only [gC_id]
  rcases nm_k hn with ⟨rfl, e⟩ | ⟨rfl, e⟩ | ⟨rfl, e⟩ | ⟨rfl, e⟩ | ⟨rfl, e⟩ | ⟨rfl, e⟩ | ⟨rfl, e⟩
  · rw [hk, if_pos (by decide), if_pos rfl]
  · rw [hk, ha (by omega), hb (by omega), if_neg (by decide), if_pos (by decide), if_neg (by decide), if_pos rfl]
  · rw [hk, if_neg (by decide), if_neg (by decide), if_pos (by decide), if_neg (by decide), if_neg (by decide), if_pos rfl]
  · rw [hk, if_neg (by decide), if_neg (by decide), if_neg (by decide), if_pos (by decide), if_neg (by decide), if_neg (by decide), if_neg (by decide), if_pos rfl]
  · rw [hk, if_neg (by decide), if_neg (by decide), if_neg (by decide), if_neg (by decide), if_pos (by decide), if_neg (by decide), if_neg (by decide), if_neg (by decide), if_neg (by decide), if_pos rfl]
  · rw [hk, ha (by omega), hb (by omega), if_neg (by decide), if_neg (by decide), if_neg (by decide), if_neg (by decide), if_neg (by decide), if_pos (by decide), if_neg (by decide), if_neg (by decide), if_neg (by decide), if_neg (by decide), if_neg (by decide), if_pos rfl]
  · rw [hk, ha (by omega), if_neg (by decide), if_neg (by decide), if_neg (by decide), if_neg (by decide), if_neg (by decide), if_neg (by decide), if_pos (by decide), if_neg (by decide), if_neg (by decide), if_neg (by decide), if_neg (by decide), if_neg (by decide), if_neg (by decide)]
theorem does_eq {w : gWd} {k a b : Nat} (hk : w 8 0 13 = nI k) (hn : nm k ≠ 3) (ha : 1 ≤ nm k → w 8 6 0 = nI a) (hb : 2 ≤ nm k → w 8 6 1 = nI b) : F_X12_does w = mOb k (nI a) (nI b) w := by
  unfold F_X12_does mOb
  simp only [gC_id]
  rcases nm_k hn with ⟨rfl, e⟩ | ⟨rfl, e⟩ | ⟨rfl, e⟩ | ⟨rfl, e⟩ | ⟨rfl, e⟩ | ⟨rfl, e⟩ | ⟨rfl, e⟩
  · rw [hk, if_pos (by decide), if_pos rfl]
  · rw [hk, ha (by omega), hb (by omega), if_neg (by decide), if_pos (by decide), if_neg (by decide), if_pos rfl]
  · rw [hk, if_neg (by decide), if_neg (by decide), if_pos (by decide), if_neg (by decide), if_neg (by decide), if_pos rfl]
  · rw [hk, if_neg (by decide), if_neg (by decide), if_neg (by decide), if_neg (by decide), if_neg (by decide), if_neg (by decide), if_neg (by decide), if_neg (by decide), if_neg (by decide), if_neg (by decide), if_neg (by decide), if_neg (by decide)]
  · rw [hk, if_neg (by decide), if_neg (by decide), if_neg (by decide), if_pos (by decide), if_neg (by decide), if_neg (by decide), if_neg (by decide), if_pos rfl]
  · rw [hk, ha (by omega), hb (by omega), if_neg (by decide), if_neg (by decide), if_neg (by decide), if_neg (by decide), if_pos (by decide), if_neg (by decide), if_neg (by decide), if_neg (by decide), if_neg (by decide), if_pos rfl]
  · rw [hk, ha (by omega), if_neg (by decide), if_neg (by decide), if_neg (by decide), if_neg (by decide), if_neg (by decide), if_pos (by decide), if_neg (by decide), if_neg (by decide), if_neg (by decide), if_neg (by decide), if_neg (by decide), if_pos rfl]
theorem OK_one {i EB k : Nat} {S : Nat → Nat} (hn : nm k ≠ 3) (hI : IV EB S) (hR0 : ∃ c : Nat → Nat → Int32, RV c S) (x y : Int32) : OK2 i (cOb i k x y) (mOb k x y) EB S := by
  rcases nm_k hn with ⟨rfl, e⟩ | ⟨rfl, e⟩ | ⟨rfl, e⟩ | ⟨rfl, e⟩ | ⟨rfl, e⟩ | ⟨rfl, e⟩ | ⟨rfl, e⟩
  · exact OK_draw hI
  · exact OK_enter hI x y
  · exact OK_finals hI
  · exact OK_next hI
  · exact OK_end hI
  · exact OK_swim hI x y
  · exact OK_scratch hI hR0 x
