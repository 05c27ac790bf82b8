/-! level 2: the orders of the text, one after the other -/
def agQ (w w' : gWd) : Prop := ∀ a b e, ¬ (a = 1 ∨ (a = 7 ∧ ((b = 3 ∧ 2 ≤ e) ∨ b = 5))) → w' a b e = w a b e
def agN (w w' : gWd) : Prop := ∀ a b e, ¬ (a = 8 ∧ ((b = 0 ∧ (e = 4 ∨ 8 ≤ e)) ∨ b = 1 ∨ b = 5 ∨ b = 6)) → w' a b e = w a b e
theorem agQ.rf (w : gWd) : agQ w w := fun _ _ _ _ => rfl
theorem agQ.tr {w w1 w2 : gWd} (h1 : agQ w w1) (h2 : agQ w1 w2) : agQ w w2 := fun a b c h => (h2 a b c h).trans (h1 a b c h)
theorem agN.rf (w : gWd) : agN w w := fun _ _ _ _ => rfl
theorem agN.tr {w w1 w2 : gWd} (h1 : agN w w1) (h2 : agN w1 w2) : agN w w2 := fun a b c h => (h2 a b c h).trans (h1 a b c h)
theorem agQ.up {w : gWd} {j : Nat} {v : Int32} : agQ w (up3 w 7 5 j v) := fun a b c h' => up3_n (fun z => h' (by omega))
theorem agN.up {w : gWd} {j : Nat} {v : Int32} (h : j = 4 ∨ 8 ≤ j) : agN w (up3 w 8 0 j v) := fun a b c h' => up3_n (fun z => h' (by omega))
theorem agQ.tx {w w' : gWd} {T : Nat} {c : Nat → Nat} (h : agQ w w') (hT : TX w T c) : TX w' T c := by
  obtain ⟨t1, t2, t3, t4⟩ := hT
  exact ⟨t1, by rw [h 7 3 1 (by omega)]; exact t2, by rw [h 8 0 6 (by omega)]; exact t3, fun k hk => by rw [h 7 4 k (by omega), h 8 4 k (by omega)]; exact t4 k hk⟩
theorem agN.tx {w w' : gWd} {T : Nat} {c : Nat → Nat} (h : agN w w') (hT : TX w T c) : TX w' T c := by
  obtain ⟨t1, t2, t3, t4⟩ := hT
  exact ⟨t1, by rw [h 7 3 1 (by omega)]; exact t2, by rw [h 8 0 6 (by omega)]; exact t3, fun k hk => by rw [h 7 4 k (by omega), h 8 4 k (by omega)]; exact t4 k hk⟩
theorem C_stop {w : gWd} {fu : Nat} {x : Int32} (h : ¬ w 7 5 2 = 0) : F_X7_tryOrders_22 (fu + 1) w 1 x = some w := by
  rw [F_X7_tryOrders_22_s, if_neg h]
  split <;> rfl
theorem M_stop {w : gWd} {fu : Nat} : F_X12_plays_22 (fu + 1) w 0 = some (0, up3 w 8 0 4 0) := by
  rw [F_X12_plays_22_s, if_pos rfl]
  unfold F_X12_plays_124
  rw [gS_e, gZ_0]
  split <;> rfl
/-- how the orders end: fl 0 all were obeyed, 1 one could not be read, 2 one was refused -/
def PCS (T : Nat) (c : Nat → Nat) (p j d : Nat) (S : Nat → Nat) (fl pos : Nat) (cause : Int32) (n : Nat) (S' : Nat → Nat) : Prop := ∀ (w : gWd) (fu : Nat), TX w T c → w 7 3 3 = nI p → w 7 5 2 = 0 → w 7 5 0 = nI j → CV (w 1) S → RV (w 1) S → d + 1 < fu → ∃ w', F_X7_tryOrders_22 fu w 1 (nI j) = some w' ∧ agQ w w' ∧ CV (w' 1) S' ∧ RV (w' 1) S' ∧ w' 7 5 2 = nI fl ∧ (fl ≠ 0 → w' 7 5 1 = nI pos ∧ w' 7 5 3 = cause) ∧ (fl = 0 → w' 7 5 0 = nI n)
def PMS (T : Nat) (c : Nat → Nat) (p j d : Nat) (S : Nat → Nat) (fl pos : Nat) (cause : Int32) (n : Nat) (S' : Nat → Nat) : Prop := ∀ (w : gWd) (fu : Nat), TX w T c → w 8 0 8 = nI p → w 8 0 4 = 1 → w 8 0 12 = nI j → SV w S → d + 1 < fu → ∃ w', F_X12_plays_22 fu w 1 = some (if fl = 0 then 1 else 0, w') ∧ agN w w' ∧ SV w' S' ∧ w' 8 0 4 = 0 ∧ (fl ≠ 0 → w' 8 0 9 = nI pos ∧ w' 8 0 10 = nI fl ∧ w' 8 0 11 = cause) ∧ (fl = 0 → w' 8 0 12 = nI n)
section PLY
variable {T : Nat} {c : Nat → Nat}
theorem PCS_end {p j d : Nat} {S : Nat → Nat} (hT : T ≤ p) (hp : p ≤ 200) (hj : j ≤ 200) (pos : Nat) (cause : Int32) : PCS T c p j d S 0 pos cause j S := by
  intro w fu hX h33 h52 h50 hC hR hfu
  obtain ⟨fu, rfl⟩ : ∃ f, fu = f + 1 := ⟨fu - 1, by omega⟩
  refine ⟨w, ?_, agQ.rf w, hC, hR, h52, fun z => absurd rfl z, fun _ => h50⟩
  rw [F_X7_tryOrders_22_s, h52, if_pos rfl, C_hasMore hX h33 (by omega), gP_s, if_neg (show ¬ p < T by omega), if_pos (show nI 0 = 0 from rfl)]
  split <;> rfl
theorem PMS_end {p j d : Nat} {S : Nat → Nat} (hT : T ≤ p) (hp : p ≤ 200) (pos : Nat) (cause : Int32) : PMS T c p j d S 0 pos cause j S := by
  intro w fu hX h8 h4 h12 hS hfu
  obtain ⟨fu, rfl⟩ : ∃ f, fu = f + 1 := ⟨fu - 1, by omega⟩
  have h60 := hX.1
  refine ⟨up3 w 8 0 4 0, ?_, agN.up (by omega), hS.of (up3_r (by omega)), up3_s _ _ _ _ _, fun z => absurd rfl z, fun _ => by rw [up3_n (by omega)]; exact h12⟩
  rw [F_X12_plays_22_s, hX.2.2.1, h8, iLe (by omega) (by omega), if_pos hT]
  unfold F_X12_plays_124
  rw [gS_e, gZ_1]
  rfl
theorem C_fail {w : gWd} {fu p : Nat} {x4 xs : Int32} {ok : Nat} (h2 : w 7 3 2 = nI p) (hok : ok ≤ 1) : ∃ w', F_X7_tryOrders_97 (F_X7_tryOrders_22 (fu + 1)) w 1 x4 (nI ok) xs = some w' ∧ (∀ a b e, ¬ (a = 7 ∧ b = 5) → w' a b e = w a b e) ∧ w' 7 5 2 = nI (ok + 1) ∧ w' 7 5 1 = nI p ∧ w' 7 5 3 = xs := by
  unfold F_X7_tryOrders_97 F_X7_tryOrders_116
  have key : ∀ v : Int32, ¬ v = 0 → gS (up3 w 7 5 1 (w 7 3 2)) (fun w_17 => gS (up3 w_17 7 5 2 v) (fun w_19 => gS (up3 w_19 7 5 3 xs) (fun w_20 => gS (x4 + 1) (fun x4_21 => F_X7_tryOrders_22 (fu + 1) w_20 1 x4_21)))) = some (up3 (up3 (up3 w 7 5 1 (w 7 3 2)) 7 5 2 v) 7 5 3 xs) := fun v hv => by
    rw [gS_e, gS_e, gS_e, gS_e, C_stop]
    rw [up3_n (by omega), up3_s]
    exact hv
  have fr : ∀ (v : Int32) a b e, ¬ (a = 7 ∧ b = 5) → up3 (up3 (up3 w 7 5 1 (w 7 3 2)) 7 5 2 v) 7 5 3 xs a b e = w a b e := fun v a b e h => by rw [up3_n (by omega), up3_n (by omega), up3_n (by omega)]
  rcases (show ok = 0 ∨ ok = 1 by omega) with rfl | rfl
  · refine ⟨_, ?_, fr 1, ?_, ?_, up3_s _ _ _ _ _⟩
    · simp only [if_pos (show nI 0 = 0 from rfl)]
      exact key 1 (by decide)
    · rw [up3_n (by omega), up3_s]; rfl
    · rw [up3_n (by omega), up3_n (by omega), up3_s, h2]
  · refine ⟨_, ?_, fr 2, ?_, ?_, up3_s _ _ _ _ _⟩
    · simp only [if_neg (show ¬ nI 1 = 0 by decide)]
      exact key 2 (by decide)
    · rw [up3_n (by omega), up3_s]; rfl
    · rw [up3_n (by omega), up3_n (by omega), up3_s, h2]
theorem M_fail {w : gWd} {fu p ok fl : Nat} {xs : Int32} {x3 : Int32} (h9 : w 8 0 9 = nI p) (hok : ok ≤ 1) (hfl : fl = ok + 1) (hxs : xs = if ok = 0 then w 8 0 8 - w 8 0 9 else x3) : ∃ w', F_X12_plays_75 (F_X12_plays_22 (fu + 1)) w (nI ok) x3 = some (0, w') ∧ (∀ a b e, ¬ (a = 8 ∧ b = 0 ∧ (e = 4 ∨ 8 ≤ e)) → w' a b e = w a b e) ∧ w' 8 0 4 = 0 ∧ w' 8 0 9 = nI p ∧ w' 8 0 10 = nI fl ∧ w' 8 0 11 = xs := by
  unfold F_X12_plays_75 F_X12_plays_76 F_X12_plays_87 F_X12_plays_108
  have key : ∀ v x : Int32, ∃ w', gS (up3 (up3 w 8 0 10 v) 8 0 11 x) (fun w_16 => gS (up3 w_16 8 0 12 (((w_16 8 0 12) + 1))) (fun w_17 => F_X12_plays_22 (fu + 1) w_17 0)) = some (0, w') ∧ (∀ a b e, ¬ (a = 8 ∧ b = 0 ∧ (e = 4 ∨ 8 ≤ e)) → w' a b e = w a b e) ∧ w' 8 0 4 = 0 ∧ w' 8 0 9 = nI p ∧ w' 8 0 10 = v ∧ w' 8 0 11 = x := fun v x => by
    refine ⟨_, by rw [gS_e, gS_e, M_stop], fun a b e he => ?_, up3_s _ _ _ _ _, ?_, ?_, ?_⟩
    · rw [up3_n (by omega), up3_n (by omega), up3_n (by omega), up3_n (by omega)]
    · rw [up3_n (by omega), up3_n (by omega), up3_n (by omega), up3_n (by omega)]; exact h9
    · rw [up3_n (by omega), up3_n (by omega), up3_n (by omega), up3_s]
    · rw [up3_n (by omega), up3_n (by omega), up3_s]
  subst hfl
  rcases (show ok = 0 ∨ ok = 1 by omega) with rfl | rfl
  · simp only [if_pos (show nI 0 = 0 from rfl)]
    rw [if_pos rfl] at hxs
    obtain ⟨w', f1, f2, f3, f4, f5, f6⟩ := key 1 ((up3 w 8 0 10 1) 8 0 8 - (up3 w 8 0 10 1) 8 0 9)
    refine ⟨w', f1, f2, f3, f4, f5, ?_⟩
    rw [f6, hxs, up3_n (by omega), up3_n (by omega)]
  · simp only [if_neg (show ¬ nI 1 = 0 by decide)]
    rw [if_neg (by omega)] at hxs
    obtain ⟨w', f1, f2, f3, f4, f5, f6⟩ := key 2 x3
    exact ⟨w', f1, f2, f3, f4, f5, by rw [f6, hxs]⟩
end PLY
