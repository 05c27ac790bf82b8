/-! level 2: set, draw -/
def stLo (k : Nat) : Nat := if k = 0 then 4 else if k = 1 then 1 else 0
def stHi (k : Nat) : Nat := if k = 0 then 10 else if k = 1 then 3 else 4
theorem C_allow {w : gWd} {k : Nat} (hk : k < 3) (x : Int32) : F_X9_allow w (nI k) x = some (if x < nI (stLo k) then 0 else if nI (stHi k) < x then 0 else 1) := by
  have hg : gLeast k = nI (stLo k) ∧ gGreat k = nI (stHi k) := by
    have : k = 0 ∨ k = 1 ∨ k = 2 := by omega
    rcases this with rfl | rfl | rfl <;> exact ⟨rfl, rfl⟩
  unfold F_X9_allow F_X9_allow_31
  rw [if_neg (nI_pos (by omega)), show (3 : Int32) = nI 3 from rfl, iLe (by omega) (by omega), if_neg (by omega), gB_n _ hk (by omega), gB_n _ hk (by omega), hg.1, hg.2]
  split
  · rfl
  · split <;> rfl
theorem rng {x : Int32} {lo hi : Nat} (hl : lo < 2 ^ 20) (hh : hi < 2 ^ 20) (h1 : ¬ x < nI lo) (h2 : ¬ nI hi < x) : ∃ v, lo ≤ v ∧ v ≤ hi ∧ x = nI v := by
  rw [Int32.lt_iff_toInt_lt, nI_toInt (by omega)] at h1 h2
  rcases pk_ix x (n := hi + 1) (by omega) with h | h | ⟨j, hj, e⟩
  · rw [Int32.lt_iff_toInt_lt] at h
    have a : (0 : Int32).toInt = 0 := rfl
    omega
  · rw [Int32.le_iff_toInt_le, nI_toInt (by omega)] at h
    omega
  · subst e
    rw [nI_toInt (by omega)] at h1
    exact ⟨j, by omega, by omega, rfl⟩
theorem Sset_IV {EB : Nat} {S : Nat → Nat} (hI : IV EB S) (h0 : S 310 = 0) {k v : Nat} (hk : k < 3) (h1 : stLo k ≤ v) (h2 : v ≤ stHi k) : IV EB (upN S (317 + k) v) := by
  have hi : ∀ t, t < 317 → upN S (317 + k) v t = S t := fun t ht => upN_n (by omega)
  have h8 := hi 311 (by omega)
  obtain ⟨⟨b1, b2, b3, b4, b5, b6, b7, b8, b9, b10⟩, c2, c3, c4, c5, c6, c7, c8, c9⟩ := hI
  unfold stLo at h1
  unfold stHi at h2
  refine ⟨⟨by rw [h8]; exact b1, by rw [hi 310 (by omega)]; exact b2, by rw [hi 312 (by omega)]; exact b3, by rw [hi 314 (by omega)]; exact b4, by rw [hi 315 (by omega)]; exact b5, ?_, ?_, ?_, fun p hp => by rw [hi (306 + p) (by omega)]; exact b9 p hp, fun q hq a ha => by rw [hi _ (by omega)]; exact b10 q hq a ha⟩, ?_, ?_, ?_, ?_, ?_, ?_, ?_⟩
  · by_cases e : k = 0
    · subst e; rw [show upN S (317 + 0) v 317 = v from upN_s _ _ _]; rw [if_pos rfl] at h1 h2; exact ⟨h1, h2⟩
    · rw [upN_n (by omega)]; exact b6
  · by_cases e : k = 1
    · subst e; rw [show upN S (317 + 1) v 318 = v from upN_s _ _ _]; rw [if_neg (by omega), if_pos rfl] at h1 h2; exact ⟨h1, h2⟩
    · rw [upN_n (by omega)]; exact b7
  · by_cases e : k = 2
    · subst e; rw [show upN S (317 + 2) v 319 = v from upN_s _ _ _]; rw [if_neg (by omega), if_neg (by omega)] at h2; exact h2
    · rw [upN_n (by omega)]; exact b8
  · intro q a1 a2 a a3 a4; rw [h8] at a1; rw [hi _ (by omega)]; exact c2 q a1 a2 a a3 a4
  · intro h; rw [hi 310 (by omega)] at h; rw [hi 312 (by omega), h8]; exact ⟨(c3 h).1, fun q hq a a3 a4 => by rw [hi _ (by omega)]; exact (c3 h).2 q hq a a3 a4⟩
  · intro h q hq; rw [hi 310 (by omega)] at h; rw [h8] at hq; simp only [hi (10 * q + 2) (by omega), hi (10 * q + 3) (by omega), hi (10 * q + 5) (by omega), hi (10 * q + 6) (by omega), hi (10 * q + 7) (by omega), hi (10 * q + 8) (by omega)]; exact c4 h q hq
  · intro h q hq; rw [hi 310 (by omega)] at h; rw [h8] at hq; simp only [hi (10 * q + 2) (by omega), hi (10 * q + 6) (by omega), hi (10 * q + 8) (by omega)]; exact c5 h q hq
  · intro q hq; rw [hi _ (by omega), h8, c6 q hq]; unfold clubSum; exact fb_sm_cong (fun z hz => by rw [hi (10 * z) (by omega), hi (10 * z + 9) (by omega)])
  · intro q hq; rw [h8] at hq; rw [hi _ (by omega), hi 313 (by omega)]; exact c7 q hq
  · rw [hi 313 (by omega)]; exact ⟨c8, IW.no (by rw [hi 310 (by omega)]; omega)⟩
