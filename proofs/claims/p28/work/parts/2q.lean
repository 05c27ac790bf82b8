/-! level 2: questions -/
theorem arg_pos {x : Int32} (h : 0 ≤ x) : ∃ r, r < 2 ^ 31 ∧ x = nI r := by
  have h1 := fb_rng x
  rw [Int32.le_iff_toInt_le, show (0 : Int32).toInt = 0 from rfl] at h
  refine ⟨x.toInt.toNat, by omega, ?_⟩
  apply Int32.toInt_inj.mp
  rw [nI_toInt (by omega)]
  omega
theorem C_ofClub {w : gWd} {S : Nat → Nat} {i q : Nat} (hC : CV (w i) S) (hB : WB S) (hq : q < 6) : F_X8_ofClub w i (nI q) = some (nI (clubSum S q (S 311))) := by
  unfold F_X8_ofClub
  have hN := hB.1
  refine loopI (F := fun fu (acc : Nat) j => F_X8_ofClub_4 fu w i (nI q) (nI acc) (nI j)) (S 311) (fun j acc => acc = clubSum S q j) (fun r => r = some (nI (clubSum S q (S 311)))) ?_ ?_ gFU 0 0 (by omega) (gFU_lt (by omega)) rfl
  · intro fu acc hI
    show F_X8_ofClub_4 (fu + 1) w i (nI q) (nI acc) (nI (S 311)) = _
    rw [F_X8_ofClub_4_s, hC.sz, iLe (by omega) (by omega), if_pos (Nat.le_refl _), hI]
  · intro fu acc j hj hI
    right
    refine ⟨_, rfl, ?_⟩
    show F_X8_ofClub_4 (fu + 1) w i (nI q) (nI acc) (nI j) = F_X8_ofClub_4 fu w i (nI q) _ (nI (j + 1))
    have hc := (hB.k (k := j) (by omega)).1
    unfold clubSum at hI ⊢
    rw [F_X8_ofClub_4_s, hC.sz, iLe (by omega) (by omega), if_neg (by omega), gB_n _ (by omega) (by omega), hC.f1 hj, iEq (by omega) (by omega), gB_n _ (by omega) (by omega), hC.f10 hj, fb_sm_succ, hI]
    by_cases e : S (10 * j) = q
    · rw [if_pos e, if_pos e]
      simp only [gS_e, nI_1, nI_add]
    · rw [if_neg e, if_neg e]
      simp only [gS_e, nI_1, Nat.add_zero]
theorem kth_no {p : Nat → Bool} {n k r : Nat} (hk : k < n) (hp : p k = true) (hc : fb_ct p k = r) (h : fb_ct p n ≤ r) : False := by
  have := fb_ct_mono p (m := k + 1) (n := n) (by omega)
  rw [fb_ct_succ, if_pos hp] at this
  omega
