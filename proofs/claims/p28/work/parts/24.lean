/-! level 2: the class's meet beside the model's memory, and what its reads answer -/
/-- how a number of a swimmer stands in the class: heats and times are one less -/
def enc (a v : Nat) : Int32 := if a = 3 ∨ a = 5 ∨ a = 7 then nI v - 1 else nI v
def CVk (c : Nat → Nat → Int32) (S : Nat → Nat) (k : Nat) : Prop := ∀ a, a < 10 → c (4 + k) (a + 1) = enc a (S (10 * k + a))
def CV (c : Nat → Nat → Int32) (S : Nat → Nat) : Prop :=
  (c 0 3 = nI (S 311) ∧ c 0 4 = nI (S 310) ∧ c 0 5 = nI (S 312) ∧ c 0 7 = nI (S 316) ∧ c 0 8 = nI (S 313) ∧ c 0 9 = nI (S 314) ∧ c 0 10 = nI (S 315) ∧ c 1 0 = nI (S 317) ∧ c 1 1 = nI (S 318) ∧ c 1 2 = nI (S 319)) ∧
  ∀ k, k < S 311 → CVk c S k
section CVP
variable {c : Nat → Nat → Int32} {S : Nat → Nat} {k : Nat}
theorem CV.sz (h : CV c S) : c 0 3 = nI (S 311) := h.1.1
theorem CV.st (h : CV c S) : c 0 4 = nI (S 310) := h.1.2.1
theorem CV.ht (h : CV c S) : c 0 5 = nI (S 312) := h.1.2.2.1
theorem CV.ca (h : CV c S) : c 0 7 = nI (S 316) := h.1.2.2.2.1
theorem CV.ev (h : CV c S) : c 0 8 = nI (S 313) := h.1.2.2.2.2.1
theorem CV.rc (h : CV c S) : c 0 9 = nI (S 314) := h.1.2.2.2.2.2.1
theorem CV.rs (h : CV c S) : c 0 10 = nI (S 315) := h.1.2.2.2.2.2.2.1
theorem CV.la (h : CV c S) : c 1 0 = nI (S 317) := h.1.2.2.2.2.2.2.2.1
theorem CV.fe (h : CV c S) : c 1 1 = nI (S 318) := h.1.2.2.2.2.2.2.2.2.1
theorem CV.re (h : CV c S) : c 1 2 = nI (S 319) := h.1.2.2.2.2.2.2.2.2.2
theorem CV.f1 (h : CV c S) (hk : k < S 311) : c (4 + k) 1 = nI (S (10 * k)) := h.2 k hk 0 (by omega)
theorem CV.f2 (h : CV c S) (hk : k < S 311) : c (4 + k) 2 = nI (S (10 * k + 1)) := h.2 k hk 1 (by omega)
theorem CV.f3 (h : CV c S) (hk : k < S 311) : c (4 + k) 3 = nI (S (10 * k + 2)) := h.2 k hk 2 (by omega)
theorem CV.f4 (h : CV c S) (hk : k < S 311) : c (4 + k) 4 = nI (S (10 * k + 3)) - 1 := h.2 k hk 3 (by omega)
theorem CV.f5 (h : CV c S) (hk : k < S 311) : c (4 + k) 5 = nI (S (10 * k + 4)) := h.2 k hk 4 (by omega)
theorem CV.f6 (h : CV c S) (hk : k < S 311) : c (4 + k) 6 = nI (S (10 * k + 5)) - 1 := h.2 k hk 5 (by omega)
theorem CV.f7 (h : CV c S) (hk : k < S 311) : c (4 + k) 7 = nI (S (10 * k + 6)) := h.2 k hk 6 (by omega)
theorem CV.f8 (h : CV c S) (hk : k < S 311) : c (4 + k) 8 = nI (S (10 * k + 7)) - 1 := h.2 k hk 7 (by omega)
theorem CV.f9 (h : CV c S) (hk : k < S 311) : c (4 + k) 9 = nI (S (10 * k + 8)) := h.2 k hk 8 (by omega)
theorem CV.f10 (h : CV c S) (hk : k < S 311) : c (4 + k) 10 = nI (S (10 * k + 9)) := h.2 k hk 9 (by omega)
end CVP
section CREADS
variable {w : gWd} {S : Nat → Nat} {i : Nat}
theorem C_time0 (x : Int32) : F_X1_isTimeOrZero w x = some (if x = 0 then 1 else if x < 100 then 0 else if 999 < x then 0 else 1) := by
  unfold F_X1_isTimeOrZero F_X1_isTimeOrZero_17 F_X1_isTimeOrZero_21
  repeat' split
  all_goals rfl
theorem C_has (hC : CV (w i) S) (x : Int32) : F_X5_has w i x = some (if x < 0 ∨ nI (S 311) ≤ x then 0 else 1) := by
  unfold F_X5_has F_X5_has_16
  rw [hC.sz]
  by_cases a : x < 0
  · rw [if_pos a, if_pos (Or.inl a)]
  · rw [if_neg a]
    by_cases b : nI (S 311) ≤ x
    · rw [if_pos b, if_pos (Or.inr b)]
    · rw [if_neg b, if_neg (fun q => q.elim a b)]
theorem C_hasN (hC : CV (w i) S) (hB : WB S) {k : Nat} (h : k < S 311) : F_X5_has w i (nI k) = some 1 := by
  have := hB.1
  rw [C_has hC, if_neg]
  intro q
  rcases q with q | q
  · exact nI_pos (by omega) q
  · exact absurd ((nI_leI (by omega) (by omega)).mp q) (by omega)
theorem C_lanes (hC : CV (w i) S) : F_X5_lanes w i = some (nI (S 317)) := by
  unfold F_X5_lanes
  rw [hC.la]
theorem C_aE (hC : CV (w i) S) (hB : WB S) {a b : Nat} (ha : a < S 311) (hb : b < S 311) : F_X10_aheadByEntry w i a i b = some (nI (if ek S a < ek S b then 1 else 0)) := by
  have hN := hB.1
  have h1 := (hB.k (k := a) (by omega)).2.1
  have h2 := (hB.k (k := b) (by omega)).2.1
  unfold F_X10_aheadByEntry F_X10_aheadByEntry_36 F_X10_aheadByEntry_40
  rw [hC.f2 ha, hC.f2 hb, iEq (by omega) (by omega), iLe (by omega) (by omega), iE0 (by omega), iE0 (by omega), iLe (by omega) (by omega)]
  unfold ek
  by_cases e1 : S (10 * a + 1) = S (10 * b + 1)
  · rw [if_pos e1, e1]
    by_cases e2 : b ≤ a
    · rw [if_pos e2, if_neg (by omega)]; rfl
    · rw [if_neg e2, if_pos (by omega)]; rfl
  · rw [if_neg e1]
    by_cases e2 : S (10 * b + 1) = 0
    · rw [if_pos e2, if_neg (show ¬ S (10 * a + 1) = 0 by omega), if_pos e2, if_pos (by omega)]; rfl
    · rw [if_neg e2, if_neg e2]
      by_cases e3 : S (10 * a + 1) = 0
      · rw [if_pos e3, if_pos e3, if_neg (by omega)]; rfl
      · rw [if_neg e3, if_neg e3]
        by_cases e4 : S (10 * b + 1) ≤ S (10 * a + 1)
        · rw [if_pos e4, if_neg (by omega)]; rfl
        · rw [if_neg e4, if_pos (by omega)]; rfl
theorem C_aT (hC : CV (w i) S) (hB : WB S) {a b : Nat} (ha : a < S 311) (hb : b < S 311) : F_X10_aheadByHeatTime w i a i b = some (nI (if fastB S a b then 1 else 0)) := by
  have hN := hB.1
  have h1 := (hB.k (k := a) (by omega)).2.2.2.2.2.1
  have h2 := (hB.k (k := b) (by omega)).2.2.2.2.2.1
  unfold F_X10_aheadByHeatTime
  rw [hC.f6 ha, hC.f6 hb, C_aE hC hB ha hb, gP_s]
  unfold fastB
  by_cases e1 : S (10 * a + 5) = S (10 * b + 5)
  · rw [if_pos ((mE (by omega) (by omega)).mpr e1)]
    by_cases e2 : ek S a < ek S b
    · rw [if_pos e2, if_pos (by simp [e1, e2]), gZ_n (by omega)]
    · rw [if_neg e2, if_neg (by simp; omega), gZ_n (by omega)]
  · rw [if_neg (fun q => e1 ((mE (by omega) (by omega)).mp q))]
    by_cases e2 : S (10 * a + 5) < S (10 * b + 5)
    · rw [if_neg (fun q => by rw [← Int32.not_lt] at q; exact q ((mLt (by omega) (by omega)).mpr e2)), if_pos (by simp [e2])]; rfl
    · rw [if_pos (by rw [← Int32.not_lt]; exact fun q => e2 ((mLt (by omega) (by omega)).mp q)), if_neg (by simp; omega)]; rfl
theorem C_erank (hC : CV (w i) S) (hB : WB S) {k : Nat} (h : k < S 311) : F_X5_rankByEntry w i i k = some (nI (erank S k)) := by
  unfold F_X5_rankByEntry
  have hN := hB.1
  refine loopI (F := fun fu (acc : Nat) j => F_X5_rankByEntry_4 fu w i i k (nI acc) (nI j)) (S 311) (fun j acc => acc = fb_ct (fun q => decide (S (10 * q + 2) = 0 ∧ ek S q < ek S k)) j) (fun r => r = some (nI (erank S k))) ?_ ?_ gFU 0 0 (by omega) (gFU_lt (by omega)) rfl
  · intro fu acc hI
    show F_X5_rankByEntry_4 (fu + 1) w i i k (nI acc) (nI (S 311)) = _
    rw [F_X5_rankByEntry_4_s, hC.sz, iLe (by omega) (by omega), if_pos (Nat.le_refl _), hI]
    rfl
  · intro fu acc j hj hI
    right
    refine ⟨_, rfl, ?_⟩
    show F_X5_rankByEntry_4 (fu + 1) w i i k (nI acc) (nI j) = F_X5_rankByEntry_4 fu w i i k _ (nI (j + 1))
    have hg := (hB.k (k := j) (by omega)).2.2.1
    rw [F_X5_rankByEntry_4_s, hC.sz, iLe (by omega) (by omega), if_neg (by omega), gB_n _ (by omega) (by omega), gB_n _ (by omega) (by omega), hC.f3 hj, iE0 (by omega), fb_ct_succ, hI, C_aE hC hB hj h, gP_s]
    by_cases e : S (10 * j + 2) = 0
    · rw [if_pos e]
      by_cases e2 : ek S j < ek S k
      · rw [if_pos e2, iE0 (by omega), if_neg (by omega), if_pos (by simp [e, e2])]
        simp only [gS_e, nI_1]
      · rw [if_neg e2, iE0 (by omega), if_pos rfl, if_neg (by simp; omega)]
        simp only [gS_e, Nat.add_zero, nI_1]
    · rw [if_neg e, if_neg (by simp [e])]
      simp only [gS_e, Nat.add_zero, nI_1]
theorem C_trank (hC : CV (w i) S) (hB : WB S) {k : Nat} (h : k < S 311) : F_X5_rankByHeatTime w i i k = some (nI (trank S k)) := by
  unfold F_X5_rankByHeatTime
  have hN := hB.1
  refine loopI (F := fun fu (acc : Nat) j => F_X5_rankByHeatTime_4 fu w i i k (nI acc) (nI j)) (S 311) (fun j acc => acc = fb_ct (fun q => decide (1 < S (10 * q + 5)) && fastB S q k) j) (fun r => r = some (nI (trank S k))) ?_ ?_ gFU 0 0 (by omega) (gFU_lt (by omega)) rfl
  · intro fu acc hI
    show F_X5_rankByHeatTime_4 (fu + 1) w i i k (nI acc) (nI (S 311)) = _
    rw [F_X5_rankByHeatTime_4_s, hC.sz, iLe (by omega) (by omega), if_pos (Nat.le_refl _), hI]
    rfl
  · intro fu acc j hj hI
    right
    refine ⟨_, rfl, ?_⟩
    show F_X5_rankByHeatTime_4 (fu + 1) w i i k (nI acc) (nI j) = F_X5_rankByHeatTime_4 fu w i i k _ (nI (j + 1))
    have hg := (hB.k (k := j) (by omega)).2.2.2.2.2.1
    rw [F_X5_rankByHeatTime_4_s, hC.sz, iLe (by omega) (by omega), if_neg (by omega), gB_n _ (by omega) (by omega), gB_n _ (by omega) (by omega), hC.f6 hj, fb_ct_succ, hI, C_aT hC hB hj h, gP_s]
    by_cases e : 1 < S (10 * j + 5)
    · rw [if_neg (fun q => absurd ((mLe0 (by omega)).mp q) (by omega))]
      by_cases e2 : fastB S j k = true
      · rw [if_pos e2, iE0 (by omega), if_neg (by omega), if_pos (by simp [e, e2])]
        simp only [gS_e, nI_1]
      · rw [if_neg e2, iE0 (by omega), if_pos rfl, if_neg (by simp [e2])]
        simp only [gS_e, Nat.add_zero, nI_1]
    · rw [if_pos ((mLe0 (by omega)).mpr (by omega)), if_neg (by simp [e])]
      simp only [gS_e, Nat.add_zero, nI_1]
theorem C_pres (hC : CV (w i) S) (hB : WB S) : F_X5_notScratched w i = some (nI (pres S (S 311))) := by
  unfold F_X5_notScratched
  have hN := hB.1
  refine loopI (F := fun fu (acc : Nat) j => F_X5_notScratched_4 fu w i (nI acc) (nI j)) (S 311) (fun j acc => acc = pres S j) (fun r => r = some (nI (pres S (S 311)))) ?_ ?_ gFU 0 0 (by omega) (gFU_lt (by omega)) rfl
  · intro fu acc hI
    show F_X5_notScratched_4 (fu + 1) w i (nI acc) (nI (S 311)) = _
    rw [F_X5_notScratched_4_s, hC.sz, iLe (by omega) (by omega), if_pos (Nat.le_refl _), hI]
  · intro fu acc j hj hI
    right
    refine ⟨_, rfl, ?_⟩
    show F_X5_notScratched_4 (fu + 1) w i (nI acc) (nI j) = F_X5_notScratched_4 fu w i _ (nI (j + 1))
    have hg := (hB.k (k := j) (by omega)).2.2.1
    unfold pres at hI ⊢
    rw [F_X5_notScratched_4_s, hC.sz, iLe (by omega) (by omega), if_neg (by omega), gB_n _ (by omega) (by omega), hC.f3 hj, iE0 (by omega), fb_ct_succ, hI]
    by_cases e : S (10 * j + 2) = 0
    · rw [if_pos e, if_pos (by simp [e])]
      simp only [gS_e, nI_1]
    · rw [if_neg e, if_neg (by simp [e])]
      simp only [gS_e, Nat.add_zero, nI_1]
theorem C_ofRank (hB : WB S) {r : Nat} (h : r < 1000) : F_X4_ofRank w (nI r) (nI (S 317)) = some (laneI S r) := by
  have hl := hB.2.2.2.2.2.1
  unfold F_X4_ofRank laneI
  rw [gS_e, nI_1, nI_1, show (2 : Int32) = nI 2 from rfl, pk_rem (by omega) (by omega) (by omega), pk_div (by omega) (by omega) (by omega), pk_div (by omega) (by omega) (by omega), pk_div (by omega) (by omega) (by omega), show (1 : Int32) = nI 1 from rfl, iEq (by omega) (by omega), nI_add]
  split <;> rfl
end CREADS
