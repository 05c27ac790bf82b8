/-! level 2: enter and set -/
theorem okv0 {a : Nat} : okv a 0 := by
  refine ⟨fun h => ?_, fun h => ?_, fun h => ?_, fun h => ?_, fun h => ?_, fun h => ?_, fun h => ?_, fun h => ?_⟩ <;> omega
theorem fb_sm_zero' {f : Nat → Nat} {n : Nat} (h : ∀ k, k < n → f k = 0) : fb_sm f n = 0 := by
  rw [fb_sm_cong h]
  have := fb_sm_const 0 n
  simpa using this
/-- what entering makes of the memory -/
def Sent (S : Nat → Nat) (cl e : Nat) : Nat → Nat := upN (upN (upN S (10 * S 311) cl) (10 * S 311 + 1) e) 311 (S 311 + 1)
section ENT
variable {S : Nat → Nat} {cl e : Nat}
theorem Sent_hi {t : Nat} (hN : S 311 < 30) (h : 300 ≤ t) (h2 : t ≠ 311) : Sent S cl e t = S t := by
  unfold Sent
  rw [upN_n h2, upN_n (by omega), upN_n (by omega)]
theorem Sent_N : Sent S cl e 311 = S 311 + 1 := upN_s _ _ _
theorem Sent_k {k a : Nat} (hN : S 311 < 30) (hk : k < 30) (ha : a < 10) : Sent S cl e (10 * k + a) = if k = S 311 ∧ a = 0 then cl else if k = S 311 ∧ a = 1 then e else S (10 * k + a) := by
  unfold Sent
  rw [upN_n (by omega)]
  by_cases h1 : k = S 311 ∧ a = 1
  · obtain ⟨rfl, rfl⟩ := h1
    rw [upN_s, if_neg (by omega), if_pos ⟨rfl, rfl⟩]
  · rw [upN_n (by omega)]
    by_cases h0 : k = S 311 ∧ a = 0
    · obtain ⟨rfl, rfl⟩ := h0
      rw [if_pos ⟨rfl, rfl⟩]
      exact upN_s _ _ _
    · rw [upN_n (by omega), if_neg h0, if_neg h1]
theorem Sent_o {k a : Nat} (hN : S 311 < 30) (hk : k < S 311) (ha : a < 10) : Sent S cl e (10 * k + a) = S (10 * k + a) := by
  rw [Sent_k hN (by omega) ha, if_neg (by omega), if_neg (by omega)]
theorem Sent_IV {EB : Nat} (hI : IV EB S) (hN : S 311 < 30) (h0 : S 310 = 0) (hcl : cl ≤ 5) (he : e ≤ 999) : IV EB (Sent S cl e) := by
  have hB := hI.wb
  obtain ⟨b1, b2, b3, b4, b5, b6, b7, b8, b9, b10⟩ := hB
  have hi : ∀ t, 300 ≤ t → t ≠ 311 → Sent S cl e t = S t := fun t => Sent_hi hN
  have h300 := hi 300 (by omega) (by omega)
  refine ⟨⟨by rw [Sent_N]; omega, by rw [hi 310 (by omega) (by omega)]; exact b2, by rw [hi 312 (by omega) (by omega)]; exact b3, by rw [hi 314 (by omega) (by omega)]; exact b4, by rw [hi 315 (by omega) (by omega)]; exact b5, by rw [hi 317 (by omega) (by omega)]; exact b6, by rw [hi 318 (by omega) (by omega)]; exact b7, by rw [hi 319 (by omega) (by omega)]; exact b8, fun p hp => by rw [hi (306 + p) (by omega) (by omega)]; exact b9 p hp, fun k hk a ha => ?_⟩, ?_, ?_, ?_, ?_, ?_, ?_, ?_⟩
  · rw [Sent_k hN hk ha]
    by_cases c0 : k = S 311 ∧ a = 0
    · rw [if_pos c0, c0.2]
      refine ⟨fun h => ?_, fun h => ?_, fun h => ?_, fun h => ?_, fun h => ?_, fun h => ?_, fun h => ?_, fun h => ?_⟩ <;> omega
    · rw [if_neg c0]
      by_cases c1 : k = S 311 ∧ a = 1
      · rw [if_pos c1, c1.2]
        refine ⟨fun h => ?_, fun h => ?_, fun h => ?_, fun h => ?_, fun h => ?_, fun h => ?_, fun h => ?_, fun h => ?_⟩ <;> omega
      · rw [if_neg c1]; exact b10 k hk a ha
  · intro k h1 h2 a h3 h4
    rw [Sent_N] at h1
    rw [Sent_k hN h2 h4, if_neg (by omega), if_neg (by omega)]
    exact hI.out (by omega) h2 h3 h4
  · intro _
    rw [hi 312 (by omega) (by omega)]
    refine ⟨(hI.s0 h0).1, fun k hk a h3 h4 => ?_⟩
    rw [Sent_N] at hk
    rw [Sent_k hN (by omega) (by omega), if_neg (by omega), if_neg (by omega)]
    by_cases c : k = S 311
    · exact hI.out (by omega) (by omega) (by omega) (by omega)
    · exact (hI.s0 h0).2 k (by omega) a h3 h4
  · intro h; rw [hi 310 (by omega) (by omega), h0] at h; omega
  · intro h; rw [hi 310 (by omega) (by omega), h0] at h; omega
  · intro q hq
    rw [hi (300 + q) (by omega) (by omega), hI.cl hq, Sent_N]
    unfold clubSum
    rw [fb_sm_succ]
    have h9 : Sent S cl e (10 * S 311 + 9) = 0 := by
      rw [Sent_k hN (by omega) (by omega), if_neg (by omega), if_neg (by omega)]
      exact hI.out (Nat.le_refl _) (by omega) (by omega) (by omega)
    rw [h9, ite_self, Nat.add_zero]
    refine fb_sm_cong (fun k hk => ?_)
    rw [Sent_o (a := 9) hN hk (by omega), show Sent S cl e (10 * k) = S (10 * k) from Sent_o (a := 0) hN hk (by omega)]
  · intro k hk
    rw [Sent_N] at hk
    rw [hi 313 (by omega) (by omega), Sent_k hN (by omega) (by omega), if_neg (by omega), if_neg (by omega)]
    by_cases c : k = S 311
    · have := hI.out (k := k) (a := 9) (by omega) (by omega) (by omega) (by omega)
      omega
    · exact hI.pt (by omega)
  · rw [hi 313 (by omega) (by omega)]; exact ⟨hI.eb, IW.no (by rw [hi 310 (by omega) (by omega)]; omega)⟩
end ENT
theorem C_join (w : gWd) (i n : Nat) (x1 x2 : Int32) : ∃ w', F_X10_join w i n x1 x2 = some w' ∧ (∀ a r, ¬ (a = i ∧ r = 4 + n) → w' a r = w a r) ∧ w' i (4 + n) 1 = x1 ∧ w' i (4 + n) 2 = x2 ∧ w' i (4 + n) 3 = 0 ∧ w' i (4 + n) 4 = -1 ∧ w' i (4 + n) 5 = 0 ∧ w' i (4 + n) 6 = -1 ∧ w' i (4 + n) 7 = 0 ∧ w' i (4 + n) 8 = -1 ∧ w' i (4 + n) 9 = 0 ∧ w' i (4 + n) 10 = 0 := by
  unfold F_X10_join F_X10_forgetEvent F_X10_leaveHeat F_X10_leaveFinal
  simp only [gS_e, gP_s]
  refine ⟨_, rfl, fun a r h => ?_, ?_⟩
  · repeat rw [up3_r h]
  · simp [up3]
