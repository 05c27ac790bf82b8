/-! level 2: set, draw -/
def stLo (k : Nat) : Nat := if k = 0 then 4 else if k = 1 then 1 else 0
def stHi (k : Nat) : Nat := if k = 0 then 10 else if k = 1 then 3 else 4
theorem C_allow {w : gWd} {k : Nat} (hk : k < 3) (x : Int32) : F_X9_allow w (nI k) x = some (if x < nI (stLo k) then 0 else if nI (stHi k) < x then 0 else 1) := by
  have hg : gLeast k = nI (stLo k) ∧ gGreat k = nI (stHi k) := by
    have : k = 0 ∨ k = 1 ∨ k = 2 := by omega
    rcases this with rfl | rfl | rfl <;> exact ⟨rfl, rfl⟩
  unfold F_X9_allow F_X9_allow_31
  rw [if_neg (nI_pos (by omega)), show (3 : Int32) = nI 3 from rfl, iLe (by omega) (by omega), if_neg (by omega), gB_n _ hk (by omega), gB_n _ hk (by omega), hg.1, hg.2]
  split
  · rfl
  · split <;> rfl
theorem rng {x : Int32} {lo hi : Nat} (hl : lo < 2 ^ 20) (hh : hi < 2 ^ 20) (h1 : ¬ x < nI lo) (h2 : ¬ nI hi < x) : ∃ v, lo ≤ v ∧ v ≤ hi ∧ x = nI v := by
  rw [Int32.lt_iff_toInt_lt, nI_toInt (by omega)] at h1 h2
  rcases pk_ix x (n := hi + 1) (by omega) with h | h | ⟨j, hj, e⟩
  · rw [Int32.lt_iff_toInt_lt] at h
    have a : (0 : Int32).toInt = 0 := rfl
    omega
  · rw [Int32.le_iff_toInt_le, nI_toInt (by omega)] at h
    omega
  · subst e
    rw [nI_toInt (by omega)] at h1
    exact ⟨j, by omega, by omega, rfl⟩
theorem M_set_t {w : gWd} {k : Nat} (hk : k < 3) (x : Int32) : F_X12_set w (nI k) x = F_X12_set_47 w (nI k) x (nI (stHi k)) (nI (stLo k)) x := by
  have hin : F_X12_in w (nI k) 0 2 = some 1 := M_in_t (n := 2) (by omega) (by omega)
  have : k = 0 ∨ k = 1 ∨ k = 2 := by omega
  unfold F_X12_set F_X12_set_28
  rw [hin, gP_s, if_neg (by decide)]
  rcases this with rfl | rfl | rfl <;> rfl
theorem Sset_IV {EB : Nat} {S : Nat → Nat} (hI : IV EB S) (h0 : S 310 = 0) {k v : Nat} (hk : k < 3) (h1 : stLo k ≤ v) (h2 : v ≤ stHi k) : IV EB (upN S (317 + k) v) := by
  have hi : ∀ t, t < 317 → upN S (317 + k) v t = S t := fun t ht => upN_n (by omega)
  have h8 := hi 311 (by omega)
  obtain ⟨⟨b1, b2, b3, b4, b5, b6, b7, b8, b9, b10⟩, c2, c3, c4, c5, c6, c7, c8, c9⟩ := hI
  unfold stLo at h1
  unfold stHi at h2
  refine ⟨⟨by rw [h8]; exact b1, by rw [hi 310 (by omega)]; exact b2, by rw [hi 312 (by omega)]; exact b3, by rw [hi 314 (by omega)]; exact b4, by rw [hi 315 (by omega)]; exact b5, ?_, ?_, ?_, fun p hp => by rw [hi (306 + p) (by omega)]; exact b9 p hp, fun q hq a ha => by rw [hi _ (by omega)]; exact b10 q hq a ha⟩, ?_, ?_, ?_, ?_, ?_, ?_, ?_⟩
  · by_cases e : k = 0
    · subst e; rw [show upN S (317 + 0) v 317 = v from upN_s _ _ _]; rw [if_pos rfl] at h1 h2; exact ⟨h1, h2⟩
    · rw [upN_n (by omega)]; exact b6
  · by_cases e : k = 1
    · subst e; rw [show upN S (317 + 1) v 318 = v from upN_s _ _ _]; rw [if_neg (by omega), if_pos rfl] at h1 h2; exact ⟨h1, h2⟩
    · rw [upN_n (by omega)]; exact b7
  · by_cases e : k = 2
    · subst e; rw [show upN S (317 + 2) v 319 = v from upN_s _ _ _]; rw [if_neg (by omega), if_neg (by omega)] at h2; exact h2
    · rw [upN_n (by omega)]; exact b8
  · intro q a1 a2 a a3 a4; rw [h8] at a1; rw [hi _ (by omega)]; exact c2 q a1 a2 a a3 a4
  · intro h; rw [hi 310 (by omega)] at h; rw [hi 312 (by omega), h8]; exact ⟨(c3 h).1, fun q hq a a3 a4 => by rw [hi _ (by omega)]; exact (c3 h).2 q hq a a3 a4⟩
  · intro h q hq; rw [hi 310 (by omega)] at h; rw [h8] at hq; simp only [hi (10 * q + 2) (by omega), hi (10 * q + 3) (by omega), hi (10 * q + 5) (by omega), hi (10 * q + 6) (by omega), hi (10 * q + 7) (by omega), hi (10 * q + 8) (by omega)]; exact c4 h q hq
  · intro h q hq; rw [hi 310 (by omega)] at h; rw [h8] at hq; simp only [hi (10 * q + 2) (by omega), hi (10 * q + 6) (by omega), hi (10 * q + 8) (by omega)]; exact c5 h q hq
  · intro q hq; rw [hi _ (by omega), h8, c6 q hq]; unfold clubSum; exact fb_sm_cong (fun z hz => by rw [hi (10 * z) (by omega), hi (10 * z + 9) (by omega)])
  · intro q hq; rw [h8] at hq; rw [hi _ (by omega), hi 313 (by omega)]; exact c7 q hq
  · rw [hi 313 (by omega)]; exact ⟨c8, IW.no (by rw [hi 310 (by omega)]; omega)⟩
theorem OK_set {i EB : Nat} {S : Nat → Nat} (hI : IV EB S) (x1 x2 : Int32) : OK2 i (fun w => F_X1_changeSetting w i x1 x2) (fun w => F_X12_set w x1 x2) EB S := by
  have hB := hI.wb
  have hst := hB.2.1
  have hm1 : (-1000001 : Int32) < 0 := by decide
  have hm2 : (-1000002 : Int32) < 0 := by decide
  have herr : (x1 < 0 ∨ (3 : Int32) ≤ x1) → OK2 i (fun w => F_X1_changeSetting w i x1 x2) (fun w => F_X12_set w x1 x2) EB S := by
    intro h
    refine ⟨-1000001, Or.inl ⟨hm1, fun w hC _ => ?_, fun w hS => ?_⟩⟩
    · show F_X1_changeSetting w i x1 x2 = _
      unfold F_X1_changeSetting F_X9_allow F_X9_allow_31
      by_cases h1 : x1 < 0
      · rw [if_pos h1]; rfl
      · rw [if_neg h1, if_pos (h.resolve_left h1)]; rfl
    · show F_X12_set w x1 x2 = _
      unfold F_X12_set
      rw [show (2 : Int32) = nI 2 from rfl, M_in_f (by omega) h, gP_s, if_pos rfl]
  by_cases a1 : x1 < 0
  · exact herr (Or.inl a1)
  by_cases a2 : (3 : Int32) ≤ x1
  · exact herr (Or.inr a2)
  obtain ⟨k, hk, rfl⟩ := arg_lt (n := 3) (by omega) a1 a2
  have hlo : stLo k < 2 ^ 20 := by unfold stLo; split <;> (try split) <;> omega
  have hhi : stHi k < 2 ^ 20 := by unfold stHi; split <;> (try split) <;> omega
  by_cases a3 : x2 < nI (stLo k) ∨ nI (stHi k) < x2
  · refine ⟨-1000001, Or.inl ⟨hm1, fun w hC _ => ?_, fun w hS => ?_⟩⟩
    · show F_X1_changeSetting w i _ x2 = _
      unfold F_X1_changeSetting
      rw [C_allow hk, gP_s, if_pos]
      by_cases h1 : x2 < nI (stLo k)
      · rw [if_pos h1]
      · rw [if_neg h1, if_pos (a3.resolve_left h1)]
    · show F_X12_set w _ x2 = _
      rw [M_set_t hk]
      unfold F_X12_set_47
      rw [M_in, gP_s, if_pos]
      by_cases h1 : x2 < nI (stLo k)
      · rw [if_pos h1]
      · rw [if_neg h1, if_pos (a3.resolve_left h1)]
  obtain ⟨v, hv1, hv2, rfl⟩ := rng hlo hhi (fun z => a3 (Or.inl z)) (fun z => a3 (Or.inr z))
  have hCa : ∀ w, F_X1_changeSetting w i (nI k) (nI v) = (if (w i 0 4) = 0 then some (w i 1 k, up3 w i 1 k (nI v)) else (some ((-1000002), w))) := by
    intro w
    unfold F_X1_changeSetting
    rw [C_allow hk, gP_s, if_neg (fun z => a3 (Or.inl z)), if_neg (fun z => a3 (Or.inr z)), if_neg (by decide), gB_n _ hk (by omega), gS_e, gB_n _ hk (by omega), gS_e]
  have hMa : ∀ w, F_X12_set w (nI k) (nI v) = (if (w 8 1 310) = 0 then (gP (F_X12_changes w) (fun w_8 => some (w_8 8 1 (317 + k), up3 w_8 8 1 (317 + k) (nI v)))) else (some ((-1000002), w))) := by
    intro w
    rw [M_set_t hk]
    unfold F_X12_set_47
    have e : (317 : Int32) + nI k = nI (317 + k) := nI_add 317 k
    rw [M_in, gP_s, if_neg (fun z => a3 (Or.inl z)), if_neg (fun z => a3 (Or.inr z)), if_neg (by decide), e]
    congr 1
    congr 1
    funext u
    rw [gB_n _ (by omega) (by omega), gS_e, gB_n _ (by omega) (by omega), gS_e]
  by_cases a4 : S 310 = 0
  · have hset : S (317 + k) ≤ 10 := by
      have h6 := hB.2.2.2.2.2.1
      have h7 := hB.2.2.2.2.2.2.1
      have h8 := hB.2.2.2.2.2.2.2.1
      have : k = 0 ∨ k = 1 ∨ k = 2 := by omega
      rcases this with rfl | rfl | rfl
      · exact h6.2
      · show S 318 ≤ 10; omega
      · show S 319 ≤ 10; omega
    refine ⟨nI (S (317 + k)), Or.inr ⟨nI_pos' (by omega), upN S (317 + k) v, (Sset_IV hI a4 hk hv1 hv2).mono (by omega), fun w hC hR => ?_, fun w wc hS hch hag => ?_⟩⟩
    · show ∃ w', F_X1_changeSetting w i _ _ = _ ∧ _
      have hold : w i 1 k = nI (S (317 + k)) := by
        have : k = 0 ∨ k = 1 ∨ k = 2 := by omega
        rcases this with rfl | rfl | rfl
        · exact hC.la
        · exact hC.fe
        · exact hC.re
      rw [hCa, hC.st, iE0 (by omega), if_pos a4, hold]
      refine ⟨_, rfl, agB.up 1 k _, ?_, ?_⟩
      · have h0 : ∀ j, up3 w i 1 k (nI v) i 0 j = w i 0 j := fun j => up3_n (by omega)
        have h4 : ∀ r j, 4 ≤ r → up3 w i 1 k (nI v) i r j = w i r j := fun r j hr => up3_n (by omega)
        have hi : ∀ t, t < 317 → upN S (317 + k) v t = S t := fun t ht => upN_n (by omega)
        have hs : ∀ j, j < 3 → w i 1 j = nI (S (317 + j)) → up3 w i 1 k (nI v) i 1 j = nI (upN S (317 + k) v (317 + j)) := by
          intro j hj h
          by_cases e : j = k
          · subst e; rw [up3_s, upN_s]
          · rw [up3_n (by omega), upN_n (by omega)]; exact h
        refine ⟨⟨by rw [h0, hi 311 (by omega)]; exact hC.sz, by rw [h0, hi 310 (by omega)]; exact hC.st, by rw [h0, hi 312 (by omega)]; exact hC.ht, by rw [h0, hi 316 (by omega)]; exact hC.ca, by rw [h0, hi 313 (by omega)]; exact hC.ev, by rw [h0, hi 314 (by omega)]; exact hC.rc, by rw [h0, hi 315 (by omega)]; exact hC.rs, hs 0 (by omega) hC.la, hs 1 (by omega) hC.fe, hs 2 (by omega) hC.re⟩, fun q hq a ha => ?_⟩
        rw [hi 311 (by omega)] at hq
        have := hB.1
        rw [h4 _ _ (by omega), hi _ (by omega)]
        exact hC.2 q hq a ha
      · have := hB.1
        exact hR.cg (up3_n (by omega)) (up3_r (by omega)) (by rw [upN_n (by omega)]; exact Nat.le_refl _) (fun p hp => upN_n (by omega)) (fun q hq => ⟨upN_n (by omega), upN_n (by omega)⟩) (fun h => by rw [upN_n (by omega)] at h; exact h)
    · show ∃ w', F_X12_set w _ _ = _ ∧ _
      have hSc := hag.sv hS
      rw [hMa, hS 310 (by omega), iE0 (by omega), if_pos a4, hch, gP_s, hSc (317 + k) (by omega)]
      exact ⟨_, rfl, ag1.up _ _, hSc.up _ _⟩
  · refine ⟨-1000002, Or.inl ⟨hm2, fun w hC _ => ?_, fun w hS => ?_⟩⟩
    · show F_X1_changeSetting w i _ _ = _
      rw [hCa, hC.st, iE0 (by omega), if_neg a4]
    · show F_X12_set w _ _ = _
      rw [hMa, hS 310 (by omega), iE0 (by omega), if_neg a4]
