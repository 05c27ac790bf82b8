/-! level 2: count -/
def gn (S : Nat → Nat) (k : Nat) : Bool := decide (S (10 * k + 2) ≠ 0)
theorem C_scrSet {w : gWd} {S : Nat → Nat} {i : Nat} (hC : CV (w i) S) (hB : WB S) : F_X0_scratchedSet w i = some (nI (bn (gn S) (S 311))) := by
  unfold F_X0_scratchedSet
  have hN := hB.1
  refine loopI (F := fun fu (acc : Nat) j => F_X0_scratchedSet_4 fu w i (nI acc) (nI j)) (S 311) (fun j acc => acc = bn (gn S) j) (fun r => r = some (nI (bn (gn S) (S 311)))) ?_ ?_ gFU 0 0 (by omega) (gFU_lt (by omega)) rfl
  · intro fu acc hI
    show F_X0_scratchedSet_4 (fu + 1) w i (nI acc) (nI (S 311)) = _
    rw [F_X0_scratchedSet_4_s, hC.sz, iLe (by omega) (by omega), if_pos (Nat.le_refl _), hI]
  · intro fu acc j hj hI
    right
    refine ⟨_, rfl, ?_⟩
    show F_X0_scratchedSet_4 (fu + 1) w i (nI acc) (nI j) = F_X0_scratchedSet_4 fu w i _ (nI (j + 1))
    have hg := (hB.k (k := j) (by omega)).2.2.1
    rw [F_X0_scratchedSet_4_s, hC.sz, iLe (by omega) (by omega), if_neg (by omega), gB_n _ (by omega) (by omega), hC.f3 hj, iE0 (by omega), hI]
    by_cases e : S (10 * j + 2) = 0
    · rw [if_pos e, bs_f (by simp [gn, e])]
      simp only [gS_e, nI_1]
    · rw [if_neg e]
      simp only [gS_e]
      rw [bs_t (by omega) (by simp [gn, e]), nI_1]
theorem C_freeRes {w : gWd} {S : Nat → Nat} {i : Nat} (hC : CV (w i) S) (hR : RV (w i) S) (hB : WB S) : F_X0_freeReserves w i = some (nI (fb_ct (rsv S) 4)) := by
  unfold F_X0_freeReserves
  have h4 := fb_ct_le (rsv S) 4
  refine loopI (F := fun fu (_ : Unit) j => F_X0_freeReserves_2 fu w i (nI j)) (fb_ct (rsv S) 4) (fun _ _ => True) (fun r => r = some (nI (fb_ct (rsv S) 4))) ?_ ?_ gFU () 0 (by omega) (gFU_lt (by omega)) trivial
  · intro fu _ _
    show F_X0_freeReserves_2 (fu + 1) w i (nI (fb_ct (rsv S) 4)) = _
    rw [F_X0_freeReserves_2_s, (C_free hC hR hB (r := fb_ct (rsv S) 4) (by omega)).2 (Nat.le_refl _), gP_s, if_pos rfl]
    split <;> rfl
  · intro fu _ j hj _
    right
    refine ⟨(), trivial, ?_⟩
    show F_X0_freeReserves_2 (fu + 1) w i (nI j) = F_X0_freeReserves_2 fu w i (nI (j + 1))
    obtain ⟨p, h1, h2, h3⟩ := fb_ct_kth hj
    have hb := hB.r h1
    rw [F_X0_freeReserves_2_s, show (4 : Int32) = nI 4 from rfl, iLe (by omega) (by omega), if_neg (by omega), (C_free hC hR hB (r := j) (by omega)).1 p h1 h2 h3, gP_s, if_neg, gS_e, nI_1]
    intro z
    have : nI (S (306 + p) - 1) < 0 := by rw [z]; decide
    exact nI_pos (by omega) this
def tms (S : Nat → Nat) (k : Nat) : Nat := (if S (10 * k + 5) = 0 then 0 else 1) + if S (10 * k + 7) = 0 then 0 else 1
theorem C_timesOf {w : gWd} {S : Nat → Nat} {i : Nat} (hC : CV (w i) S) (hB : WB S) : F_X0_timesOfEvent w i = some (nI (fb_sm (tms S) (S 311))) := by
  unfold F_X0_timesOfEvent
  have hN := hB.1
  refine loopI (F := fun fu (acc : Nat) j => F_X0_timesOfEvent_4 fu w i (nI acc) (nI j)) (S 311) (fun j acc => acc = fb_sm (tms S) j) (fun r => r = some (nI (fb_sm (tms S) (S 311)))) ?_ ?_ gFU 0 0 (by omega) (gFU_lt (by omega)) rfl
  · intro fu acc hI
    show F_X0_timesOfEvent_4 (fu + 1) w i (nI acc) (nI (S 311)) = _
    rw [F_X0_timesOfEvent_4_s, hC.sz, iLe (by omega) (by omega), if_pos (Nat.le_refl _), hI]
  · intro fu acc j hj hI
    right
    refine ⟨_, rfl, ?_⟩
    show F_X0_timesOfEvent_4 (fu + 1) w i (nI acc) (nI j) = F_X0_timesOfEvent_4 fu w i _ (nI (j + 1))
    have h := hB.k (k := j) (by omega)
    have h28 : ∀ x : Nat, F_X0_timesOfEvent_28 (F_X0_timesOfEvent_4 fu) w i (nI x) (nI j) = F_X0_timesOfEvent_4 fu w i (nI (x + if S (10 * j + 7) = 0 then 0 else 1)) (nI (j + 1)) := by
      intro x
      unfold F_X0_timesOfEvent_28
      rw [gB_n _ (by omega) (by omega), hC.f8 hj]
      by_cases e : S (10 * j + 7) = 0
      · rw [if_pos ((mEN1 (by omega)).mpr e), if_pos e]
        simp only [gS_e, nI_1, Nat.add_zero]
      · rw [if_neg (fun q => e ((mEN1 (by omega)).mp q)), if_neg e]
        simp only [gS_e, nI_1]
    rw [F_X0_timesOfEvent_4_s, hC.sz, iLe (by omega) (by omega), if_neg (by omega), gB_n _ (by omega) (by omega), hC.f6 hj, fb_sm_succ, hI]
    unfold tms
    by_cases e : S (10 * j + 5) = 0
    · rw [if_pos ((mEN1 (by omega)).mpr e), if_pos e, h28, Nat.zero_add]
    · rw [if_neg (fun q => e ((mEN1 (by omega)).mp q)), if_neg e, gS_e, nI_1, h28, Nat.add_assoc]
theorem C_allP {w : gWd} {S : Nat → Nat} {i : Nat} (hC : CV (w i) S) (hB : WB S) : F_X8_ofAllClubs w i = some (nI (fb_sm (fun k => S (10 * k + 9)) (S 311))) := by
  unfold F_X8_ofAllClubs
  have hN := hB.1
  refine loopI (F := fun fu (acc : Nat) j => F_X8_ofAllClubs_4 fu w i (nI acc) (nI j)) (S 311) (fun j acc => acc = fb_sm (fun k => S (10 * k + 9)) j) (fun r => r = some (nI (fb_sm (fun k => S (10 * k + 9)) (S 311)))) ?_ ?_ gFU 0 0 (by omega) (gFU_lt (by omega)) rfl
  · intro fu acc hI
    show F_X8_ofAllClubs_4 (fu + 1) w i (nI acc) (nI (S 311)) = _
    rw [F_X8_ofAllClubs_4_s, hC.sz, iLe (by omega) (by omega), if_pos (Nat.le_refl _), hI]
  · intro fu acc j hj hI
    right
    refine ⟨_, rfl, ?_⟩
    show F_X8_ofAllClubs_4 (fu + 1) w i (nI acc) (nI j) = F_X8_ofAllClubs_4 fu w i _ (nI (j + 1))
    rw [F_X8_ofAllClubs_4_s, hC.sz, iLe (by omega) (by omega), if_neg (by omega), gB_n _ (by omega) (by omega), hC.f10 hj, fb_sm_succ, hI]
    simp only [gS_e, nI_1, nI_add]
theorem sum6 (f : Nat → Nat) : fb_sm f 6 = f 0 + f 1 + f 2 + f 3 + f 4 + f 5 := by
  simp only [fb_sm]
  omega
theorem clubs_all {S : Nat → Nat} : ∀ {n}, (∀ k, k < n → S (10 * k) ≤ 5) → fb_sm (fun q => clubSum S q n) 6 = fb_sm (fun k => S (10 * k + 9)) n
  | 0, _ => by rw [sum6]; rfl
  | n + 1, h => by
    have ih := clubs_all (S := S) (n := n) (fun k hk => h k (by omega))
    have h5 := h n (by omega)
    rw [sum6] at ih ⊢
    have hs : ∀ q, clubSum S q (n + 1) = clubSum S q n + if S (10 * n) = q then S (10 * n + 9) else 0 := fun q => rfl
    rw [hs, hs, hs, hs, hs, hs, fb_sm_succ, ← ih]
    have : S (10 * n) = 0 ∨ S (10 * n) = 1 ∨ S (10 * n) = 2 ∨ S (10 * n) = 3 ∨ S (10 * n) = 4 ∨ S (10 * n) = 5 := by omega
    rcases this with e | e | e | e | e | e <;> simp [e] <;> omega
theorem all_eq {S : Nat → Nat} {EB : Nat} (hI : IV EB S) : fb_sm (fun q => S (300 + q)) 6 = fb_sm (fun k => S (10 * k + 9)) (S 311) := by
  have hN := hI.wb.1
  rw [fb_sm_cong (g := fun q => clubSum S q (S 311)) (fun q hq => hI.cl hq)]
  exact clubs_all (fun k hk => (hI.wb.k (by omega)).1)
