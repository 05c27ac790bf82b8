/-! level 2: the model's history -/
/-- only the model's past has changed -/
def agP (w w' : gWd) : Prop := ∀ a b, ¬ (a = 8 ∧ b = 2) → w' a b = w a b
theorem agP.rf (w : gWd) : agP w w := fun _ _ _ => rfl
theorem agP.tr {w w1 w2 : gWd} (h1 : agP w w1) (h2 : agP w1 w2) : agP w w2 := fun a b h => (h2 a b h).trans (h1 a b h)
theorem agP.up {w : gWd} (j : Nat) (v : Int32) : agP w (up3 w 8 2 j v) := fun a b h => up3_r (fun q => h ⟨q.1, q.2⟩)
/-- only the model's history has changed -/
def agH2 (w w' : gWd) : Prop := ∀ a b c, ¬ (a = 8 ∧ ((b = 0 ∧ c = 3) ∨ b = 2)) → w' a b c = w a b c
theorem agH2.agH {w w' : gWd} (h : agH2 w w') : agH w w' := fun a b hab => funext fun c => h a b c (fun z => hab (by omega))
theorem M_ch59 {w : gWd} {K : Nat} (hK : K ≤ 3) (hp : w 8 0 3 = nI K) : ∃ wc, F_X12_changes_59 gFU w 0 = some wc ∧ agH2 w wc ∧ wc 8 0 3 = nI (K + 1) ∧ (∀ t, t < 320 → wc 8 2 (320 * K + t) = w 8 1 t) ∧ ∀ q, q < 320 * K → wc 8 2 q = w 8 2 q := by
  refine loopI (F := fun fu (u : gWd) j => F_X12_changes_59 fu u (nI j)) 320 (fun j u => agP w u ∧ (∀ t, t < j → u 8 2 (320 * K + t) = w 8 1 t) ∧ ∀ q, q < 320 * K → u 8 2 q = w 8 2 q) (fun o => ∃ wc, o = some wc ∧ agH2 w wc ∧ wc 8 0 3 = nI (K + 1) ∧ (∀ t, t < 320 → wc 8 2 (320 * K + t) = w 8 1 t) ∧ ∀ q, q < 320 * K → wc 8 2 q = w 8 2 q) ?_ ?_ gFU w 0 (by omega) (gFU_lt (by omega)) ⟨agP.rf _, fun t ht => absurd ht (Nat.not_lt_zero t), fun _ _ => rfl⟩
  · intro fu u hu
    have e3 : u 8 0 3 = nI K := by rw [hu.1 8 0 (by omega)]; exact hp
    refine ⟨up3 u 8 0 3 (nI (K + 1)), ?_, fun a b c h => ?_, up3_s _ _ _ _ _, fun t ht => ?_, fun q hq => ?_⟩
    · show F_X12_changes_59 (fu + 1) u (nI 320) = _
      rw [F_X12_changes_59_s, if_pos (by decide), gS_e, e3, nI_1]
    · rw [up3_n (by omega), hu.1 a b (by omega)]
    · rw [up3_n (by omega)]; exact hu.2.1 t ht
    · rw [up3_n (by omega)]; exact hu.2.2 q hq
  · intro fu u j hj hu
    right
    have e3 : u 8 0 3 = nI K := by rw [hu.1 8 0 (by omega)]; exact hp
    have e1 : u 8 1 = w 8 1 := hu.1 8 1 (by omega)
    refine ⟨up3 u 8 2 (320 * K + j) (u 8 1 j), ⟨hu.1.tr (agP.up _ _), fun t ht => ?_, fun q hq => ?_⟩, ?_⟩
    · by_cases e : t = j
      · subst e; rw [up3_s, e1]
      · rw [up3_n (by omega)]; exact hu.2.1 t (by omega)
    · rw [up3_n (by omega)]; exact hu.2.2 q hq
    · show F_X12_changes_59 (fu + 1) u (nI j) = F_X12_changes_59 fu (up3 u 8 2 (320 * K + j) (u 8 1 j)) (nI (j + 1))
      rw [F_X12_changes_59_s, show (320 : Int32) = nI 320 from rfl, iLe (by omega) (by omega), if_neg (by omega), gB_n _ (by omega) (by omega), e3, pk_mul, nI_add, gB_n _ (by omega) (by omega), gS_e, gS_e, nI_1]
theorem M_ch18 {w : gWd} (hp : w 8 0 3 = nI 4) : ∃ wc, F_X12_changes_18 gFU w 0 = some wc ∧ agH2 w wc ∧ wc 8 0 3 = nI 4 ∧ (∀ t, t < 320 → wc 8 2 (320 * 3 + t) = w 8 1 t) ∧ ∀ q, q < 960 → wc 8 2 q = w 8 2 (q + 320) := by
  refine loopI (F := fun fu (u : gWd) j => F_X12_changes_18 fu u (nI j)) 960 (fun j u => agP w u ∧ (∀ q, q < j → u 8 2 q = w 8 2 (q + 320)) ∧ ∀ q, j ≤ q → u 8 2 q = w 8 2 q) (fun o => ∃ wc, o = some wc ∧ agH2 w wc ∧ wc 8 0 3 = nI 4 ∧ (∀ t, t < 320 → wc 8 2 (320 * 3 + t) = w 8 1 t) ∧ ∀ q, q < 960 → wc 8 2 q = w 8 2 (q + 320)) ?_ ?_ gFU w 0 (by omega) (gFU_lt (by omega)) ⟨agP.rf _, fun t ht => absurd ht (Nat.not_lt_zero t), fun _ _ => rfl⟩
  · intro fu u hu
    have e3 : u 8 0 3 = nI 4 := by rw [hu.1 8 0 (by omega)]; exact hp
    obtain ⟨wc, f1, f2, f3, f4, f5⟩ := M_ch59 (w := up3 u 8 0 3 (nI 3)) (K := 3) (by omega) (up3_s _ _ _ _ _)
    refine ⟨wc, ?_, fun a b c h => ?_, f3, fun t ht => ?_, fun q hq => ?_⟩
    · show F_X12_changes_18 (fu + 1) u (nI 960) = _
      rw [F_X12_changes_18_s, if_pos (by decide), gS_e, e3]
      exact f1
    · rw [f2 a b c h, up3_n (by omega), hu.1 a b (by omega)]
    · rw [f4 t ht, up3_n (by omega), hu.1 8 1 (by omega)]
    · rw [f5 q (by omega), up3_n (by omega)]; exact hu.2.1 q hq
  · intro fu u j hj hu
    right
    refine ⟨up3 u 8 2 j (u 8 2 (j + 320)), ⟨hu.1.tr (agP.up _ _), fun q hq => ?_, fun q hq => ?_⟩, ?_⟩
    · by_cases e : q = j
      · subst e; rw [up3_s]; exact hu.2.2 _ (by omega)
      · rw [up3_n (by omega)]; exact hu.2.1 q (by omega)
    · rw [up3_n (by omega)]; exact hu.2.2 q (by omega)
    · show F_X12_changes_18 (fu + 1) u (nI j) = F_X12_changes_18 fu (up3 u 8 2 j (u 8 2 (j + 320))) (nI (j + 1))
      rw [F_X12_changes_18_s, show (960 : Int32) = nI 960 from rfl, iLe (by omega) (by omega), if_neg (by omega), show (320 : Int32) = nI 320 from rfl, nI_add, gB_n _ (by omega) (by omega), gB_n _ (by omega) (by omega), gS_e, gS_e, nI_1]
theorem M_undo {w : gWd} {K : Nat} (hK : K < 4) (hp : w 8 0 3 = nI (K + 1)) : ∃ w', F_X12_undo w = some (nI K, w') ∧ w' 8 0 3 = nI K ∧ (∀ a b c, ¬ (a = 8 ∧ ((b = 0 ∧ c = 3) ∨ b = 1)) → w' a b c = w a b c) ∧ ∀ t, t < 320 → w' 8 1 t = w 8 2 (320 * K + t) := by
  have e0 : F_X12_undo w = F_X12_undo_22 gFU (up3 w 8 0 3 (nI K)) 0 := by
    unfold F_X12_undo
    rw [hp, iE0 (by omega), if_neg (by omega), gS_e, mN (by omega) (by omega), Nat.add_sub_cancel]
  rw [e0]
  refine loopI (F := fun fu (u : gWd) j => F_X12_undo_22 fu u (nI j)) 320 (fun j u => u 8 0 3 = nI K ∧ (∀ a b c, ¬ (a = 8 ∧ ((b = 0 ∧ c = 3) ∨ b = 1)) → u a b c = w a b c) ∧ ∀ t, t < j → u 8 1 t = w 8 2 (320 * K + t)) (fun o => ∃ w', o = some (nI K, w') ∧ w' 8 0 3 = nI K ∧ (∀ a b c, ¬ (a = 8 ∧ ((b = 0 ∧ c = 3) ∨ b = 1)) → w' a b c = w a b c) ∧ ∀ t, t < 320 → w' 8 1 t = w 8 2 (320 * K + t)) ?_ ?_ gFU _ 0 (by omega) (gFU_lt (by omega)) ⟨up3_s _ _ _ _ _, fun a b c h => up3_n (by omega), fun t ht => absurd ht (Nat.not_lt_zero t)⟩
  · intro fu u hu
    refine ⟨u, ?_, hu.1, hu.2.1, hu.2.2⟩
    show F_X12_undo_22 (fu + 1) u (nI 320) = _
    rw [F_X12_undo_22_s, if_pos (by decide), hu.1]
  · intro fu u j hj hu
    right
    have e2 : ∀ q, u 8 2 q = w 8 2 q := fun q => hu.2.1 8 2 q (by omega)
    refine ⟨up3 u 8 1 j (u 8 2 (320 * K + j)), ⟨by rw [up3_n (by omega)]; exact hu.1, fun a b c h => by rw [up3_n (by omega)]; exact hu.2.1 a b c h, fun t ht => ?_⟩, ?_⟩
    · by_cases e : t = j
      · subst e; rw [up3_s, e2]
      · rw [up3_n (by omega)]; exact hu.2.2 t (by omega)
    · show F_X12_undo_22 (fu + 1) u (nI j) = F_X12_undo_22 fu (up3 u 8 1 j (u 8 2 (320 * K + j))) (nI (j + 1))
      rw [F_X12_undo_22_s, show (320 : Int32) = nI 320 from rfl, iLe (by omega) (by omega), if_neg (by omega), hu.1, pk_mul, nI_add, gB_n _ (by omega) (by omega), gB_n _ (by omega) (by omega), gS_e, gS_e, nI_1]
theorem M_undo0 {w : gWd} (hp : w 8 0 3 = 0) : F_X12_undo w = some (-1000002, w) := by
  unfold F_X12_undo
  rw [if_pos hp]
