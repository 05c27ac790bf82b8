/-! level 2: who swims, times, swim -/
def askB (S : Nat → Nat) (k : Nat) : Bool := decide (S (10 * k + 2) = 0 ∧ ((S 310 = 1 ∧ 0 < S (10 * k + 3)) ∨ (S 310 = 2 ∧ 0 < S (10 * k + 6))))
def tcol (S : Nat → Nat) : Nat := if S 310 = 1 then 5 else 7
theorem tcol_in (S : Nat → Nat) : tcol S = 5 ∨ tcol S = 7 := by unfold tcol; split <;> omega
theorem tcol_le {S : Nat → Nat} (hB : WB S) {k : Nat} (hk : k < 30) : S (10 * k + tcol S) ≤ 1000 := by
  have := hB.k hk
  rcases tcol_in S with e | e <;> rw [e] <;> omega
theorem C_swimsNow {w : gWd} {S : Nat → Nat} {i EB : Nat} (hI : IV EB S) (hC : CV (w i) S) {k : Nat} (hk : k < S 311) : F_X5_swimsNow w i i k = some (nI (if askB S k = true then 1 else 0)) := by
  have hB := hI.wb
  have hN := hB.1
  have h := hB.k (k := k) (by omega)
  have hst := hB.2.1
  unfold F_X5_swimsNow F_X5_swimsNow_41 askB
  rw [hC.st, iE1 (by omega), iE2 (by omega), hC.f4 hk, hC.f7 hk, iE0 (by omega)]
  by_cases e1 : S 310 = 1
  · rw [if_pos e1]
    by_cases e3 : S (10 * k + 3) = 0
    · rw [if_pos ((mEN1 (by omega)).mpr e3), if_neg (by simp [e1, e3])]; rfl
    · have hg : S (10 * k + 2) = 0 := by
        have := (hI.s1 e1 k hk).1
        by_cases z : S (10 * k + 2) = 1
        · have := (this z).1; omega
        · omega
      rw [if_neg (fun q => e3 ((mEN1 (by omega)).mp q)), if_pos (by simp [e1, hg]; omega)]; rfl
  · rw [if_neg e1]
    by_cases e2 : S 310 = 2
    · rw [if_pos e2]
      by_cases e6 : S (10 * k + 6) = 0
      · rw [if_pos e6, if_neg (by simp [e2, e6])]; rfl
      · have hg := (hI.s2 e2 k hk).1 e6
        rw [if_neg e6, if_pos (by simp [e2, hg]; omega)]; rfl
    · rw [if_neg e2, if_neg (by simp [e1, e2])]; rfl
theorem C_stageTime {w : gWd} {S : Nat → Nat} {i : Nat} (hC : CV (w i) S) (hB : WB S) {k : Nat} (hk : k < S 311) : F_X5_stageTime w i i k = some (nI (S (10 * k + tcol S)) - 1) := by
  have hst := hB.2.1
  unfold F_X5_stageTime tcol
  rw [hC.st, iE1 (by omega)]
  by_cases e : S 310 = 1
  · rw [if_pos e, if_pos e, hC.f6 hk]
  · rw [if_neg e, if_neg e, hC.f8 hk]
def ctF (S : Nat → Nat) (t : Nat) (n : Nat) : Nat := fb_ct (fun k => decide (1 < S (10 * k + tcol S)) && decide (S (10 * k + tcol S) < t + 1)) n
theorem C_faster {w : gWd} {S : Nat → Nat} {i t : Nat} (hC : CV (w i) S) (hB : WB S) (ht : t ≤ 2000) : F_X5_fasterThan w i (nI t) = some (nI (ctF S t (S 311))) := by
  unfold F_X5_fasterThan
  have hN := hB.1
  refine loopI (F := fun fu (acc : Nat) j => F_X5_fasterThan_4 fu w i (nI t) (nI acc) (nI j)) (S 311) (fun j acc => acc = ctF S t j) (fun r => r = some (nI (ctF S t (S 311)))) ?_ ?_ gFU 0 0 (by omega) (gFU_lt (by omega)) rfl
  · intro fu acc hI
    show F_X5_fasterThan_4 (fu + 1) w i (nI t) (nI acc) (nI (S 311)) = _
    rw [F_X5_fasterThan_4_s, hC.sz, iLe (by omega) (by omega), if_pos (Nat.le_refl _), hI]
  · intro fu acc j hj hI
    right
    refine ⟨_, rfl, ?_⟩
    show F_X5_fasterThan_4 (fu + 1) w i (nI t) (nI acc) (nI j) = F_X5_fasterThan_4 fu w i (nI t) _ (nI (j + 1))
    have hg := tcol_le hB (k := j) (by omega)
    unfold ctF at hI ⊢
    rw [F_X5_fasterThan_4_s, hC.sz, iLe (by omega) (by omega), if_neg (by omega), gB_n _ (by omega) (by omega), C_stageTime hC hB hj, gP_s, fb_ct_succ, hI]
    by_cases e : 1 < S (10 * j + tcol S)
    · rw [if_neg (fun q => absurd ((mLe0 (by omega)).mp q) (by omega))]
      by_cases e2 : S (10 * j + tcol S) < t + 1
      · rw [if_neg (fun q => absurd ((mnLe (by omega) (by omega)).mp q) (by omega)), if_pos (by simp [e, e2])]
        simp only [gS_e, nI_1]
      · rw [if_pos ((mnLe (by omega) (by omega)).mpr (by omega)), if_neg (by simp; omega)]
        simp only [gS_e, Nat.add_zero, nI_1]
    · rw [if_pos ((mLe0 (by omega)).mpr (by omega)), if_neg (by simp [e])]
      simp only [gS_e, Nat.add_zero, nI_1]
theorem IV_hi {EB : Nat} {S : Nat → Nat} (hI : IV EB S) {t v : Nat} (h : (t = 314 ∧ v ≤ 999) ∨ (t = 315 ∧ v ≤ 30) ∨ t = 316) : IV EB (upN S t v) := by
  have hN := hI.wb.1
  have hi : ∀ q, q < 314 → upN S t v q = S q := fun q hq => upN_n (by omega)
  have hj : ∀ q, 317 ≤ q → upN S t v q = S q := fun q hq => upN_n (by omega)
  have h8 := hi 311 (by omega)
  obtain ⟨⟨b1, b2, b3, b4, b5, b6, b7, b8, b9, b10⟩, c2, c3, c4, c5, c6, c7, c8, c9⟩ := hI
  refine ⟨⟨by rw [h8]; exact b1, by rw [hi 310 (by omega)]; exact b2, by rw [hi 312 (by omega)]; exact b3, ?_, ?_, by rw [hj 317 (by omega)]; exact b6, by rw [hj 318 (by omega)]; exact b7, by rw [hj 319 (by omega)]; exact b8, fun p hp => by rw [hi (306 + p) (by omega)]; exact b9 p hp, fun q hq a ha => by rw [hi _ (by omega)]; exact b10 q hq a ha⟩, ?_, ?_, ?_, ?_, ?_, ?_, ?_⟩
  · rcases h with ⟨rfl, h⟩ | ⟨rfl, h⟩ | rfl
    · rw [upN_s]; exact h
    · rw [upN_n (by omega)]; exact b4
    · rw [upN_n (by omega)]; exact b4
  · rcases h with ⟨rfl, h⟩ | ⟨rfl, h⟩ | rfl
    · rw [upN_n (by omega)]; exact b5
    · rw [upN_s]; exact h
    · rw [upN_n (by omega)]; exact b5
  · intro q a1 a2 a a3 a4; rw [h8] at a1; rw [hi _ (by omega)]; exact c2 q a1 a2 a a3 a4
  · intro h; rw [hi 310 (by omega)] at h; rw [hi 312 (by omega), h8]; exact ⟨(c3 h).1, fun q hq a a3 a4 => by rw [hi _ (by omega)]; exact (c3 h).2 q hq a a3 a4⟩
  · intro h q hq; rw [hi 310 (by omega)] at h; rw [h8] at hq; simp only [hi (10 * q + 2) (by omega), hi (10 * q + 3) (by omega), hi (10 * q + 5) (by omega), hi (10 * q + 6) (by omega), hi (10 * q + 7) (by omega), hi (10 * q + 8) (by omega)]; exact c4 h q hq
  · intro h q hq; rw [hi 310 (by omega)] at h; rw [h8] at hq; simp only [hi (10 * q + 2) (by omega), hi (10 * q + 6) (by omega), hi (10 * q + 8) (by omega)]; exact c5 h q hq
  · intro q hq; rw [hi _ (by omega), h8, c6 q hq]; unfold clubSum; exact fb_sm_cong (fun z hz => by rw [hi (10 * z) (by omega), hi (10 * z + 9) (by omega)])
  · intro q hq; rw [h8] at hq; rw [hi _ (by omega), hi 313 (by omega)]; exact c7 q hq
  · rw [hi 313 (by omega)]; exact ⟨c8, c9.cg (hi 310 (by omega)) h8 (hj 317 (by omega)) (fun q hq => hi _ (by omega)) (fun q hq => hi _ (by omega))⟩
theorem IV_time {EB : Nat} {S : Nat → Nat} (hI : IV EB S) {k v : Nat} (hk : k < S 311) (ha : askB S k = true) (hv : v ≤ 1000) : IV EB (upN S (10 * k + tcol S) v) := by
  have hN := hI.wb.1
  have hask := of_decide_eq_true ha
  have htc := tcol_in S
  have hi : ∀ q, 300 ≤ q → upN S (10 * k + tcol S) v q = S q := fun q hq => upN_n (by omega)
  have hne : ∀ q a, a < 10 → a ≠ tcol S → upN S (10 * k + tcol S) v (10 * q + a) = S (10 * q + a) := fun q a h1 h2 => upN_n (by omega)
  have hB' : WB (upN S (10 * k + tcol S) v) := hI.wb.upk (by omega) (by omega) (by
    refine ⟨fun h => ?_, fun h => ?_, fun h => ?_, fun h => ?_, fun h => ?_, fun h => ?_, fun h => ?_, fun h => ?_⟩ <;> omega)
  have hne0 : ∀ q, upN S (10 * k + tcol S) v (10 * q) = S (10 * q) := fun q => hne q 0 (by omega) (by omega)
  refine ⟨hB', ?_, ?_, ?_, ?_, ?_, ?_, ?_⟩
  · intro q a1 a2 a a3 a4
    rw [hi 311 (by omega)] at a1
    rw [upN_n (by omega)]
    exact hI.out a1 a2 a3 a4
  · intro h
    rw [hi 310 (by omega)] at h
    omega
  · intro h q hq
    rw [hi 310 (by omega)] at h
    rw [hi 311 (by omega)] at hq
    have htc5 : tcol S = 5 := by unfold tcol; rw [if_pos h]
    have h1 := hI.s1 h q hq
    rw [hne q 2 (by omega) (by omega), hne q 3 (by omega) (by omega), hne q 6 (by omega) (by omega), hne q 7 (by omega) (by omega), hne q 8 (by omega) (by omega)]
    refine ⟨fun hg => ⟨(h1.1 hg).1, ?_⟩, h1.2⟩
    rw [htc5]
    by_cases e : q = k
    · subst e; omega
    · rw [upN_n (by omega)]; exact (h1.1 hg).2
  · intro h q hq
    rw [hi 310 (by omega)] at h
    rw [hi 311 (by omega)] at hq
    rw [hne q 2 (by omega) (by omega), hne q 6 (by omega) (by omega), hne q 8 (by omega) (by omega)]
    exact hI.s2 h q hq
  · intro q hq
    rw [hi (300 + q) (by omega), hI.cl hq, hi 311 (by omega)]
    unfold clubSum
    exact fb_sm_cong (fun z hz => by rw [hne0 z, hne z 9 (by omega) (by omega)])
  · intro q hq
    rw [hi 311 (by omega)] at hq
    rw [hne q 9 (by omega) (by omega), hi 313 (by omega)]
    exact hI.pt hq
  · rw [hi 313 (by omega)]
    refine ⟨hI.eb, fun h => ?_⟩
    rw [hi 310 (by omega)] at h
    obtain ⟨x, y⟩ := hI.iw h
    have htc7 : tcol S = 7 := by unfold tcol; rw [if_neg (by omega)]
    rw [hi 311 (by omega), hi 317 (by omega)]
    refine ⟨?_, fun q hq z => ?_⟩
    · rw [fb_ct_cong (q := inF S) (fun q hq => by unfold inF; rw [hne q 6 (by omega) (by omega)])]; exact x
    · rw [hne q 6 (by omega) (by omega)]
      by_cases e : q = k
      · subst e; omega
      · rw [upN_n (by omega)] at z; exact y q hq z
/-- what swimming a time makes of the memory -/
def Sswim (S : Nat → Nat) (k e : Nat) : Nat → Nat := if 0 < e ∧ (S 314 = 0 ∨ e < S 314) then upN (upN (upN S (10 * k + tcol S) (e + 1)) 314 e) 315 k else upN S (10 * k + tcol S) (e + 1)
theorem Sswim_310 {S : Nat → Nat} {k e : Nat} (hk : k < 30) : Sswim S k e 310 = S 310 := by
  have := tcol_in S
  unfold Sswim
  split
  · rw [upN_n (by omega), upN_n (by omega), upN_n (by omega)]
  · rw [upN_n (by omega)]
theorem Sswim_low {S : Nat → Nat} {k e q : Nat} (hq : q < 314) : Sswim S k e q = upN S (10 * k + tcol S) (e + 1) q := by
  unfold Sswim
  split
  · rw [upN_n (by omega), upN_n (by omega)]
  · rfl
theorem Sswim_IV {EB : Nat} {S : Nat → Nat} (hI : IV EB S) {k e : Nat} (hk : k < S 311) (ha : askB S k = true) (he : e ≤ 999) : IV EB (Sswim S k e) := by
  have hN := hI.wb.1
  have h1 := IV_time hI hk ha (v := e + 1) (by omega)
  unfold Sswim
  split
  · exact IV_hi (IV_hi h1 (by omega)) (by omega)
  · exact h1
