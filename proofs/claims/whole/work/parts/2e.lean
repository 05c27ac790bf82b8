/-! level 2: who swims, times, swim -/
def askB (S : Nat → Nat) (k : Nat) : Bool := decide (S (10 * k + 2) = 0 ∧ ((S 310 = 1 ∧ 0 < S (10 * k + 3)) ∨ (S 310 = 2 ∧ 0 < S (10 * k + 6))))
def tcol (S : Nat → Nat) : Nat := if S 310 = 1 then 5 else 7
theorem tcol_in (S : Nat → Nat) : tcol S = 5 ∨ tcol S = 7 := by unfold tcol; split <;> omega
theorem tcol_le {S : Nat → Nat} (hB : WB S) {k : Nat} (hk : k < 30) : S (10 * k + tcol S) ≤ 1000 := by
  have := hB.k hk
  rcases tcol_in S with e | e <;> rw [e] <;> omega
theorem M_isAsked {w : gWd} {S : Nat → Nat} (hS : SV w S) (hB : WB S) {k : Nat} (hk : k < 30) : F_X12_isAsked w (nI k) = some (nI (if askB S k = true then 1 else 0)) := by
  have h := hB.k hk
  have hst := hB.2.1
  unfold F_X12_isAsked F_X12_isAsked_29 F_X12_isAsked_51 F_X12_isAsked_55 askB
  rw [M_isGone hS hB hk, gP_s, iE0 (by omega), hS 310 (by omega), M_of3 hS hk, gP_s, M_of6 hS hk, gP_s, iE1 (by omega), iE2 (by omega), i0Lt (by omega), iLe0 (by omega)]
  by_cases e0 : S (10 * k + 2) = 0
  · rw [if_pos e0]
    by_cases e1 : S 310 = 1
    · rw [if_pos e1]
      by_cases e3 : 0 < S (10 * k + 3)
      · rw [if_pos e3, if_pos (by simp [e0, e1, e3])]; rfl
      · rw [if_neg e3, if_neg (by omega), if_neg (by simp [e1]; omega)]; rfl
    · rw [if_neg e1]
      by_cases e2 : S 310 = 2
      · rw [if_pos e2]
        by_cases e6 : S (10 * k + 6) = 0
        · rw [if_pos e6, if_neg (by simp [e2, e6])]; rfl
        · rw [if_neg e6, if_pos (by simp [e0, e2]; omega)]; rfl
      · rw [if_neg e2, if_neg (by simp [e1, e2])]; rfl
  · rw [if_neg e0, if_neg (by simp [e0])]; rfl
theorem C_swimsNow {w : gWd} {S : Nat → Nat} {i EB : Nat} (hI : IV EB S) (hC : CV (w i) S) {k : Nat} (hk : k < S 311) : F_X5_swimsNow w i i k = some (nI (if askB S k = true then 1 else 0)) := by
  have hB := hI.wb
  have hN := hB.1
  have h := hB.k (k := k) (by omega)
  have hst := hB.2.1
  unfold F_X5_swimsNow F_X5_swimsNow_41 askB
  rw [hC.st, iE1 (by omega), iE2 (by omega), hC.f4 hk, hC.f7 hk, iE0 (by omega)]
  by_cases e1 : S 310 = 1
  · rw [if_pos e1]
    by_cases e3 : S (10 * k + 3) = 0
    · rw [if_pos ((mEN1 (by omega)).mpr e3), if_neg (by simp [e1, e3])]; rfl
    · have hg : S (10 * k + 2) = 0 := by
        have := (hI.s1 e1 k hk).1
        by_cases z : S (10 * k + 2) = 1
        · have := (this z).1; omega
        · omega
      rw [if_neg (fun q => e3 ((mEN1 (by omega)).mp q)), if_pos (by simp [e1, hg]; omega)]; rfl
  · rw [if_neg e1]
    by_cases e2 : S 310 = 2
    · rw [if_pos e2]
      by_cases e6 : S (10 * k + 6) = 0
      · rw [if_pos e6, if_neg (by simp [e2, e6])]; rfl
      · have hg := (hI.s2 e2 k hk).1 e6
        rw [if_neg e6, if_pos (by simp [e2, hg]; omega)]; rfl
    · rw [if_neg e2, if_neg (by simp [e1, e2])]; rfl
theorem M_timeNow {w : gWd} {S : Nat → Nat} (hS : SV w S) (hB : WB S) : F_X12_timeNow w = some (nI (tcol S)) := by
  have hst := hB.2.1
  unfold F_X12_timeNow tcol
  rw [hS 310 (by omega), iE1 (by omega)]
  split <;> rfl
theorem C_stageTime {w : gWd} {S : Nat → Nat} {i : Nat} (hC : CV (w i) S) (hB : WB S) {k : Nat} (hk : k < S 311) : F_X5_stageTime w i i k = some (nI (S (10 * k + tcol S)) - 1) := by
  have hst := hB.2.1
  unfold F_X5_stageTime tcol
  rw [hC.st, iE1 (by omega)]
  by_cases e : S 310 = 1
  · rw [if_pos e, if_pos e, hC.f6 hk]
  · rw [if_neg e, if_neg e, hC.f8 hk]
def ctF (S : Nat → Nat) (t : Nat) (n : Nat) : Nat := fb_ct (fun k => decide (1 < S (10 * k + tcol S)) && decide (S (10 * k + tcol S) < t + 1)) n
theorem C_faster {w : gWd} {S : Nat → Nat} {i t : Nat} (hC : CV (w i) S) (hB : WB S) (ht : t ≤ 2000) : F_X5_fasterThan w i (nI t) = some (nI (ctF S t (S 311))) := by
  unfold F_X5_fasterThan
  have hN := hB.1
  refine loopI (F := fun fu (acc : Nat) j => F_X5_fasterThan_4 fu w i (nI t) (nI acc) (nI j)) (S 311) (fun j acc => acc = ctF S t j) (fun r => r = some (nI (ctF S t (S 311)))) ?_ ?_ gFU 0 0 (by omega) (gFU_lt (by omega)) rfl
  · intro fu acc hI
    show F_X5_fasterThan_4 (fu + 1) w i (nI t) (nI acc) (nI (S 311)) = _
    rw [F_X5_fasterThan_4_s, hC.sz, iLe (by omega) (by omega), if_pos (Nat.le_refl _), hI]
  · intro fu acc j hj hI
    right
    refine ⟨_, rfl, ?_⟩
    show F_X5_fasterThan_4 (fu + 1) w i (nI t) (nI acc) (nI j) = F_X5_fasterThan_4 fu w i (nI t) _ (nI (j + 1))
    have hg := tcol_le hB (k := j) (by omega)
    unfold ctF at hI ⊢
    rw [F_X5_fasterThan_4_s, hC.sz, iLe (by omega) (by omega), if_neg (by omega), gB_n _ (by omega) (by omega), C_stageTime hC hB hj, gP_s, fb_ct_succ, hI]
    by_cases e : 1 < S (10 * j + tcol S)
    · rw [if_neg (fun q => absurd ((mLe0 (by omega)).mp q) (by omega))]
      by_cases e2 : S (10 * j + tcol S) < t + 1
      · rw [if_neg (fun q => absurd ((mnLe (by omega) (by omega)).mp q) (by omega)), if_pos (by simp [e, e2])]
        simp only [gS_e, nI_1]
      · rw [if_pos ((mnLe (by omega) (by omega)).mpr (by omega)), if_neg (by simp; omega)]
        simp only [gS_e, Nat.add_zero, nI_1]
    · rw [if_pos ((mLe0 (by omega)).mpr (by omega)), if_neg (by simp [e])]
      simp only [gS_e, Nat.add_zero, nI_1]
theorem IV_hi {EB : Nat} {S : Nat → Nat} (hI : IV EB S) {t v : Nat} (h : (t = 314 ∧ v ≤ 999) ∨ (t = 315 ∧ v ≤ 30) ∨ t = 316) : IV EB (upN S t v) := by
  have hN := hI.wb.1
  have hi : ∀ q, q < 314 → upN S t v q = S q := fun q hq => upN_n (by omega)
  have hj : ∀ q, 317 ≤ q → upN S t v q = S q := fun q hq => upN_n (by omega)
  have h8 := hi 311 (by omega)
  obtain ⟨⟨b1, b2, b3, b4, b5, b6, b7, b8, b9, b10⟩, c2, c3, c4, c5, c6, c7, c8, c9⟩ := hI
  refine ⟨⟨by rw [h8]; exact b1, by rw [hi 310 (by omega)]; exact b2, by rw [hi 312 (by omega)]; exact b3, ?_, ?_, by rw [hj 317 (by omega)]; exact b6, by rw [hj 318 (by omega)]; exact b7, by rw [hj 319 (by omega)]; exact b8, fun p hp => by rw [hi (306 + p) (by omega)]; exact b9 p hp, fun q hq a ha => by rw [hi _ (by omega)]; exact b10 q hq a ha⟩, ?_, ?_, ?_, ?_, ?_, ?_, ?_⟩
  · rcases h with ⟨rfl, h⟩ | ⟨rfl, h⟩ | rfl
    · rw [upN_s]; exact h
    · rw [upN_n (by omega)]; exact b4
    · rw [upN_n (by omega)]; exact b4
  · rcases h with ⟨rfl, h⟩ | ⟨rfl, h⟩ | rfl
    · rw [upN_n (by omega)]; exact b5
    · rw [upN_s]; exact h
    · rw [upN_n (by omega)]; exact b5
  · intro q a1 a2 a a3 a4; rw [h8] at a1; rw [hi _ (by omega)]; exact c2 q a1 a2 a a3 a4
  · intro h; rw [hi 310 (by omega)] at h; rw [hi 312 (by omega), h8]; exact ⟨(c3 h).1, fun q hq a a3 a4 => by rw [hi _ (by omega)]; exact (c3 h).2 q hq a a3 a4⟩
  · intro h q hq; rw [hi 310 (by omega)] at h; rw [h8] at hq; simp only [hi (10 * q + 2) (by omega), hi (10 * q + 3) (by omega), hi (10 * q + 5) (by omega), hi (10 * q + 6) (by omega), hi (10 * q + 7) (by omega), hi (10 * q + 8) (by omega)]; exact c4 h q hq
  · intro h q hq; rw [hi 310 (by omega)] at h; rw [h8] at hq; simp only [hi (10 * q + 2) (by omega), hi (10 * q + 6) (by omega), hi (10 * q + 8) (by omega)]; exact c5 h q hq
  · intro q hq; rw [hi _ (by omega), h8, c6 q hq]; unfold clubSum; exact fb_sm_cong (fun z hz => by rw [hi (10 * z) (by omega), hi (10 * z + 9) (by omega)])
  · intro q hq; rw [h8] at hq; rw [hi _ (by omega), hi 313 (by omega)]; exact c7 q hq
  · rw [hi 313 (by omega)]; exact ⟨c8, c9.cg (hi 310 (by omega)) h8 (hj 317 (by omega)) (fun q hq => hi _ (by omega)) (fun q hq => hi _ (by omega))⟩
theorem IV_time {EB : Nat} {S : Nat → Nat} (hI : IV EB S) {k v : Nat} (hk : k < S 311) (ha : askB S k = true) (hv : v ≤ 1000) : IV EB (upN S (10 * k + tcol S) v) := by
  have hN := hI.wb.1
  have hask := of_decide_eq_true ha
  have htc := tcol_in S
  have hi : ∀ q, 300 ≤ q → upN S (10 * k + tcol S) v q = S q := fun q hq => upN_n (by omega)
  have hne : ∀ q a, a < 10 → a ≠ tcol S → upN S (10 * k + tcol S) v (10 * q + a) = S (10 * q + a) := fun q a h1 h2 => upN_n (by omega)
  have hB' : WB (upN S (10 * k + tcol S) v) := hI.wb.upk (by omega) (by omega) (by
    refine ⟨fun h => ?_, fun h => ?_, fun h => ?_, fun h => ?_, fun h => ?_, fun h => ?_, fun h => ?_, fun h => ?_⟩ <;> omega)
  have hne0 : ∀ q, upN S (10 * k + tcol S) v (10 * q) = S (10 * q) := fun q => hne q 0 (by omega) (by omega)
  refine ⟨hB', ?_, ?_, ?_, ?_, ?_, ?_, ?_⟩
  · intro q a1 a2 a a3 a4
    rw [hi 311 (by omega)] at a1
    rw [upN_n (by omega)]
    exact hI.out a1 a2 a3 a4
  · intro h
    rw [hi 310 (by omega)] at h
    omega
  · intro h q hq
    rw [hi 310 (by omega)] at h
    rw [hi 311 (by omega)] at hq
    have htc5 : tcol S = 5 := by unfold tcol; rw [if_pos h]
    have h1 := hI.s1 h q hq
    rw [hne q 2 (by omega) (by omega), hne q 3 (by omega) (by omega), hne q 6 (by omega) (by omega), hne q 7 (by omega) (by omega), hne q 8 (by omega) (by omega)]
    refine ⟨fun hg => ⟨(h1.1 hg).1, ?_⟩, h1.2⟩
    rw [htc5]
    by_cases e : q = k
    · subst e; omega
    · rw [upN_n (by omega)]; exact (h1.1 hg).2
  · intro h q hq
    rw [hi 310 (by omega)] at h
    rw [hi 311 (by omega)] at hq
    rw [hne q 2 (by omega) (by omega), hne q 6 (by omega) (by omega), hne q 8 (by omega) (by omega)]
    exact hI.s2 h q hq
  · intro q hq
    rw [hi (300 + q) (by omega), hI.cl hq, hi 311 (by omega)]
    unfold clubSum
    exact fb_sm_cong (fun z hz => by rw [hne0 z, hne z 9 (by omega) (by omega)])
  · intro q hq
    rw [hi 311 (by omega)] at hq
    rw [hne q 9 (by omega) (by omega), hi 313 (by omega)]
    exact hI.pt hq
  · rw [hi 313 (by omega)]
    refine ⟨hI.eb, fun h => ?_⟩
    rw [hi 310 (by omega)] at h
    obtain ⟨x, y⟩ := hI.iw h
    have htc7 : tcol S = 7 := by unfold tcol; rw [if_neg (by omega)]
    rw [hi 311 (by omega), hi 317 (by omega)]
    refine ⟨?_, fun q hq z => ?_⟩
    · rw [fb_ct_cong (q := inF S) (fun q hq => by unfold inF; rw [hne q 6 (by omega) (by omega)])]; exact x
    · rw [hne q 6 (by omega) (by omega)]
      by_cases e : q = k
      · subst e; omega
      · rw [upN_n (by omega)] at z; exact y q hq z
/-- what swimming a time makes of the memory -/
def Sswim (S : Nat → Nat) (k e : Nat) : Nat → Nat := if 0 < e ∧ (S 314 = 0 ∨ e < S 314) then upN (upN (upN S (10 * k + tcol S) (e + 1)) 314 e) 315 k else upN S (10 * k + tcol S) (e + 1)
theorem Sswim_310 {S : Nat → Nat} {k e : Nat} (hk : k < 30) : Sswim S k e 310 = S 310 := by
  have := tcol_in S
  unfold Sswim
  split
  · rw [upN_n (by omega), upN_n (by omega), upN_n (by omega)]
  · rw [upN_n (by omega)]
theorem Sswim_low {S : Nat → Nat} {k e q : Nat} (hq : q < 314) : Sswim S k e q = upN S (10 * k + tcol S) (e + 1) q := by
  unfold Sswim
  split
  · rw [upN_n (by omega), upN_n (by omega)]
  · rfl
theorem Sswim_IV {EB : Nat} {S : Nat → Nat} (hI : IV EB S) {k e : Nat} (hk : k < S 311) (ha : askB S k = true) (he : e ≤ 999) : IV EB (Sswim S k e) := by
  have hN := hI.wb.1
  have h1 := IV_time hI hk ha (v := e + 1) (by omega)
  unfold Sswim
  split
  · exact IV_hi (IV_hi h1 (by omega)) (by omega)
  · exact h1
theorem M_swim104 {w : gWd} {S : Nat → Nat} (hS : SV w S) (hB : WB S) {e : Nat} (he : e ≤ 999) : F_X12_swim_104 gFU w (nI e) 0 0 = some (if e = 0 then 100 else nI (ctF S e (S 311)), w) := by
  have hN := hB.1
  refine loopI (F := fun fu (acc : Nat) j => F_X12_swim_104 fu w (nI e) (nI acc) (nI j)) (S 311) (fun j acc => acc = ctF S e j) (fun r => r = some (if e = 0 then 100 else nI (ctF S e (S 311)), w)) ?_ ?_ gFU 0 0 (by omega) (gFU_lt (by omega)) rfl
  · intro fu acc hI
    show F_X12_swim_104 (fu + 1) w (nI e) (nI acc) (nI (S 311)) = _
    rw [F_X12_swim_104_s, hS 311 (by omega), iLe (by omega) (by omega), if_pos (Nat.le_refl _), iE0 (by omega), hI]
    split <;> rfl
  · intro fu acc j hj hI
    right
    refine ⟨_, rfl, ?_⟩
    show F_X12_swim_104 (fu + 1) w (nI e) (nI acc) (nI j) = F_X12_swim_104 fu w (nI e) _ (nI (j + 1))
    have hg := tcol_le hB (k := j) (by omega)
    have htc := tcol_in S
    unfold ctF at hI ⊢
    rw [F_X12_swim_104_s, hS 311 (by omega), iLe (by omega) (by omega), if_neg (by omega), M_timeNow hS hB, gP_s, M_of hS (by omega), gP_s, gS_e, fb_ct_succ, hI]
    unfold F_X12_swim_147
    by_cases e1 : 1 < S (10 * j + tcol S)
    · rw [if_neg (fun q => absurd ((mLe0 (by omega)).mp q) (by omega))]
      by_cases e2 : S (10 * j + tcol S) < e + 1
      · rw [if_neg (fun q => absurd ((mnLe (by omega) (by omega)).mp q) (by omega)), if_pos (by simp [e1, e2])]
        simp only [gS_e, nI_1]
      · rw [if_pos ((mnLe (by omega) (by omega)).mpr (by omega)), if_neg (by simp; omega)]
        simp only [gS_e, Int32.add_zero, Nat.add_zero, nI_1]
    · rw [if_pos ((mLe0 (by omega)).mpr (by omega)), if_neg (by simp [e1])]
      simp only [gS_e, Int32.add_zero, Nat.add_zero, nI_1]
theorem OK_swim {i EB : Nat} {S : Nat → Nat} (hI : IV EB S) (x1 x2 : Int32) : OK2 i (fun w => F_X1_giveTime w i x1 x2) (fun w => F_X12_swim w x1 x2) EB S := by
  have hB := hI.wb
  have hN := hB.1
  have hst := hB.2.1
  have hrc := hB.2.2.2.1
  have hm1 : (-1000001 : Int32) < 0 := by decide
  have hm2 : (-1000002 : Int32) < 0 := by decide
  by_cases a1 : x1 < 0 ∨ nI (S 311) ≤ x1
  · refine ⟨-1000001, Or.inl ⟨hm1, fun w hC _ => ?_, fun w hS => ?_⟩⟩
    · show F_X1_giveTime w i x1 x2 = _
      unfold F_X1_giveTime
      rw [C_has hC, if_pos a1, gP_s, if_pos rfl]
    · show F_X12_swim w x1 x2 = _
      unfold F_X12_swim
      rw [M_isSw hS hB, if_pos a1, gP_s, if_pos rfl]
  obtain ⟨k, hk, rfl⟩ := arg_lt (by omega) (fun z => a1 (Or.inl z)) (fun z => a1 (Or.inr z))
  rcases time_cases x2 with ⟨e, he, rfl⟩ | hx2
  · have he9 : e ≤ 999 := by omega
    have hM : ∀ w, SV w S → F_X12_swim w (nI k) (nI e) = F_X12_swim_27 w (nI k) (nI e) := by
      intro w hS
      unfold F_X12_swim
      rw [M_isSw hS hB, if_neg a1, gP_s, if_neg (by decide), iE0 (by omega)]
      by_cases h0 : e = 0
      · rw [if_pos h0]
      · rw [if_neg h0, M_time_t (by omega), gP_s, if_neg (by decide)]
    have hgk := (hB.k (k := k) (by omega)).2.2.1
    by_cases ha : askB S k = true
    · have hask := of_decide_eq_true ha
      have htc := tcol_in S
      -- the answer
      refine ⟨if e = 0 then 100 else nI (ctF (Sswim S k e) e (S 311)), Or.inr ⟨?_, Sswim S k e, (Sswim_IV hI hk ha he9).mono (by omega), fun w hC hR => ?_, fun w wc hS hch hag => ?_⟩⟩
      · split
        · decide
        · have := fb_ct_le (fun q => decide (1 < Sswim S k e (10 * q + tcol (Sswim S k e))) && decide (Sswim S k e (10 * q + tcol (Sswim S k e)) < e + 1)) (S 311)
          exact nI_pos' (by unfold ctF; omega)
      · show ∃ w', F_X1_giveTime w i (nI k) (nI e) = _ ∧ _
        have hIV := Sswim_IV hI hk ha he9
        have hCt : CV (up3 w i (4 + k) (tcol S + 1) (nI e) i) (upN S (10 * k + tcol S) (e + 1)) := hC.upk (by omega) (by omega) (by
          have : enc (tcol S) (e + 1) = nI (e + 1) - 1 := by unfold enc; rw [if_pos (by omega)]
          rw [this, nI_pred])
        have h1 : F_X1_giveTime w i (nI k) (nI e) = F_X1_giveTime_64 (up3 w i (4 + k) (tcol S + 1) (nI e)) i (nI k) (nI e) := by
          unfold F_X1_giveTime
          rw [C_hasN hC hB hk, gP_s, if_neg (by decide), C_time_t he, gP_s, if_neg (by decide), gB_n _ (by omega) (by omega), hC.f3 hk, iE0 (by omega), if_pos hask.1, C_swimsNow hI hC hk, if_pos ha, gP_s, iE0 (by omega), if_neg (by omega), hC.st, iE1 (by omega)]
          unfold tcol
          by_cases z : S 310 = 1
          · rw [if_pos z, if_pos z, gS_e]
          · rw [if_neg z, if_neg z, gS_e]
        rw [h1]
        unfold F_X1_giveTime_64
        rw [iE0 (by omega)]
        have hRt : ∀ S', (∀ q, q < 314 → S' q = upN S (10 * k + tcol S) (e + 1) q) → ∀ u : gWd, u i 0 6 = w i 0 6 → u i 3 = w i 3 → RV (u i) S' := by
          intro S' hS' u h6 h3
          exact hR.cg h6 h3 (by rw [hS' 311 (by omega), upN_n (by omega)]; exact Nat.le_refl _) (fun p hp => by rw [hS' _ (by omega), upN_n (by omega)]) (fun q hq => ⟨by rw [hS' _ (by omega), upN_n (by omega)], by rw [hS' _ (by omega), upN_n (by omega)]⟩) (fun h => by rw [hS' 310 (by omega), upN_n (by omega)] at h; exact h)
        by_cases e0 : e = 0
        · rw [if_pos e0, if_pos e0]
          have hs : Sswim S k e = upN S (10 * k + tcol S) (e + 1) := by unfold Sswim; rw [if_neg (by omega)]
          exact ⟨_, rfl, agB.up _ _ _, by rw [hs]; exact hCt, hRt _ (fun q hq => by rw [hs]) _ (up3_n (by omega)) (up3_r (by omega))⟩
        · rw [if_neg e0, if_neg e0]
          unfold F_X1_noteRecord F_X1_noteRecord_15
          have hr9 : up3 w i (4 + k) (tcol S + 1) (nI e) i 0 9 = nI (S 314) := by rw [up3_n (by omega)]; exact hC.rc
          rw [hr9, iE0 (by omega), iLe (by omega) (by omega)]
          by_cases er : S 314 = 0 ∨ e < S 314
          · have hs : Sswim S k e = upN (upN (upN S (10 * k + tcol S) (e + 1)) 314 e) 315 k := by unfold Sswim; rw [if_pos ⟨by omega, er⟩]
            have hC2 : CV (up3 (up3 (up3 w i (4 + k) (tcol S + 1) (nI e)) i 0 9 (nI e)) i 0 10 (nI k) i) (Sswim S k e) := by
              rw [hs]
              exact (hCt.up0 (j := 9) (t := 314) (by rw [upN_n (by omega)]; exact hN) (by omega)).up0 (j := 10) (t := 315) (by rw [upN_n (by omega), upN_n (by omega)]; exact hN) (by omega)
            have hif : ∀ {α : Type} (a b : α), (if S 314 = 0 then a else if S 314 ≤ e then b else a) = a := by
              intro α a b
              by_cases z : S 314 = 0
              · rw [if_pos z]
              · rw [if_neg z, if_neg (by omega)]
            rw [hif, gS_e, gS_e, gP_s, C_faster hC2 hIV.wb (by omega), gP_s, Sswim_low (by omega), upN_n (by omega)]
            exact ⟨_, rfl, (agB.up _ _ _).tr ((agB.up _ _ _).tr (agB.up _ _ _)), hC2, hRt _ (fun q hq => Sswim_low hq) _ (by rw [up3_n (by omega), up3_n (by omega), up3_n (by omega)]) (by rw [up3_r (by omega), up3_r (by omega), up3_r (by omega)])⟩
          · have hs : Sswim S k e = upN S (10 * k + tcol S) (e + 1) := by unfold Sswim; rw [if_neg (fun z => er z.2)]
            rw [if_neg (by omega), if_pos (by omega), gP_s]
            rw [← hs] at hCt
            rw [C_faster hCt hIV.wb (by omega), gP_s, Sswim_low (by omega), upN_n (by omega)]
            exact ⟨_, rfl, agB.up _ _ _, hCt, hRt _ (fun q hq => Sswim_low hq) _ (up3_n (by omega)) (up3_r (by omega))⟩
      · show ∃ w', F_X12_swim w (nI k) (nI e) = _ ∧ _
        have hSc := hag.sv hS
        have hIV := Sswim_IV hI hk ha he9
        rw [hM w hS]
        unfold F_X12_swim_27 F_X12_swim_81
        have hS1 := hSc.up (10 * k + tcol S) (e + 1)
        have h14 : up3 wc 8 1 (10 * k + tcol S) (nI (e + 1)) 8 1 314 = nI (S 314) := by rw [hS1 314 (by omega), upN_n (by omega)]
        rw [M_isAsked hS hB (by omega), if_pos ha, gP_s, iE0 (by omega), if_neg (by omega), hch, gP_s, M_timeNow hSc hB, gP_s, M_lay (by omega), gP_s, nI_1, iLe0 (by omega), h14, iE0 (by omega), iLe (by omega) (by omega), gS_e, gS_e]
        by_cases er : 0 < e ∧ (S 314 = 0 ∨ e < S 314)
        · have hs : Sswim S k e = upN (upN (upN S (10 * k + tcol S) (e + 1)) 314 e) 315 k := by unfold Sswim; rw [if_pos er]
          have hS3 : SV (up3 (up3 (up3 wc 8 1 (10 * k + tcol S) (nI (e + 1))) 8 1 314 (nI e)) 8 1 315 (nI k)) (Sswim S k e) := by rw [hs]; exact (hS1.up 314 e).up 315 k
          have hif : ∀ {α : Type} (a b : α), (if e = 0 then a else if S 314 = 0 then b else if S 314 ≤ e then a else b) = b := by
            intro α a b
            rw [if_neg (by omega)]
            by_cases z : S 314 = 0
            · rw [if_pos z]
            · rw [if_neg z, if_neg (by omega)]
          rw [hif, M_swim104 hS3 hIV.wb he9, Sswim_low (by omega), upN_n (by omega)]
          exact ⟨_, rfl, (ag1.up _ _).tr ((ag1.up _ _).tr (ag1.up _ _)), hS3⟩
        · have hs : Sswim S k e = upN S (10 * k + tcol S) (e + 1) := by unfold Sswim; rw [if_neg er]
          rw [← hs] at hS1
          have hif : ∀ {α : Type} (a b : α), (if e = 0 then a else if S 314 = 0 then b else if S 314 ≤ e then a else b) = a := by
            intro α a b
            by_cases z : e = 0
            · rw [if_pos z]
            · rw [if_neg z, if_neg (by omega), if_pos (by omega)]
          rw [hif, M_swim104 hS1 hIV.wb he9, Sswim_low (by omega), upN_n (by omega)]
          exact ⟨_, rfl, ag1.up _ _, hS1⟩
    · refine ⟨-1000002, Or.inl ⟨hm2, fun w hC _ => ?_, fun w hS => ?_⟩⟩
      · show F_X1_giveTime w i (nI k) (nI e) = _
        unfold F_X1_giveTime
        rw [C_hasN hC hB hk, gP_s, if_neg (by decide), C_time_t he, gP_s, if_neg (by decide), gB_n _ (by omega) (by omega), hC.f3 hk, iE0 (by omega), C_swimsNow hI hC hk, if_neg ha, gP_s]
        by_cases z : S (10 * k + 2) = 0
        · rw [if_pos z, if_pos (by rfl)]
        · rw [if_neg z]
      · show F_X12_swim w (nI k) (nI e) = _
        rw [hM w hS]
        unfold F_X12_swim_27
        rw [M_isAsked hS hB (by omega), if_neg ha, gP_s, if_pos (by rfl)]
  · refine ⟨-1000001, Or.inl ⟨hm1, fun w hC _ => ?_, fun w hS => ?_⟩⟩
    · show F_X1_giveTime w i _ x2 = _
      unfold F_X1_giveTime
      rw [C_hasN hC hB hk, gP_s, if_neg (by decide), C_time_f hx2, gP_s, if_pos rfl]
    · show F_X12_swim w _ x2 = _
      unfold F_X12_swim
      rw [M_isSw hS hB, if_neg a1, gP_s, if_neg (by decide), if_neg hx2.1, M_time_f hx2.2, gP_s, if_pos rfl]
