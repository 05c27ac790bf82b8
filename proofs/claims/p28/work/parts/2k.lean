/-! level 2: finals, whole -/
def Sfin (S : Nat → Nat) : Nat → Nat := upN (Sf S (S 311)) 310 2
theorem C_seat {w : gWd} {S : Nat → Nat} {i j : Nat} (hB : WB S) (hj : j < S 311) (hC : CV (w i) (Sf S j)) (ht : TN S j = true) : F_X1_seatByTime w i i j = some (if finP S j = true then up3 w i (4 + j) 7 (nI (laneN S (trank S j))) else if rsvP S j = true then up3 (up3 w i 3 (trank S j - S 317) (nI j)) i 0 6 (w i 0 6 + 1) else w) := by
  have hN := hB.1
  have h9 := hB.2.2.2.2.2.2.2.1
  have h7 := hB.2.2.2.2.2.1
  have hT := Sf_WB hB (j := j) (by omega)
  have e311 : Sf S j 311 = S 311 := Sf_n hB (by omega) (by omega)
  have e317 : Sf S j 317 = S 317 := Sf_n hB (by omega) (by omega)
  have e319 : Sf S j 319 = S 319 := Sf_n hB (by omega) (by omega)
  have hr := trank_n hB hj ht
  have hr2 := fb_ct_le (TN S) (S 311)
  unfold F_X1_seatByTime
  rw [C_trank hC hT (by rw [e311]; exact hj), gP_s, C_lanes hC, gP_s, gP_s, gP_s, Sf_trank hB (by omega) (by omega), e317, iLe (by omega) (by omega)]
  by_cases e : S 317 ≤ trank S j
  · have hnf : ¬ finP S j = true := fun z => by have := finP_t.mp z; omega
    rw [if_pos e, gS_e, pk_sub e, hC.re, e319, if_neg hnf, iLe (by omega) (by omega), show (4 : Int32) = nI 4 from rfl, iLe (by omega) (by omega)]
    by_cases e2 : S 319 ≤ trank S j - S 317
    · rw [if_pos e2, if_neg (fun z => by have := rsvP_t.mp z; omega)]
    · rw [if_neg e2, if_neg (by omega), gB_n _ (by omega) (by omega), if_pos (rsvP_t.mpr ⟨ht, by omega, by omega⟩), gS_e, gS_e, up3_n (by omega)]
  · have hf : finP S j = true := finP_t.mpr ⟨ht, by omega⟩
    have hl := laneN_in hB (r := trank S j) (by omega)
    have e3 := C_ofRank (w := w) hT (r := trank S j) (by omega)
    rw [e317, laneI_cg e317, laneI_N hl.2.2] at e3
    rw [if_neg e, e3, gP_s, if_pos hf]
    rfl
theorem C_fin20 {S : Nat → Nat} {i : Nat} (hB : WB S) (h1 : S 310 = 1) : ∀ (d fu : Nat) (w : gWd) (j : Nat), j + d = S 311 → d < fu → CV (w i) (Sf S j) → w i 0 6 = nI (fb_ct (rsvP S) j) → (∀ q, q < j → rsvP S q = true → w i 3 (trank S q - S 317) = nI q) →
    ∃ w', F_X1_drawFinal_20 fu w i (nI j) = some (nI (bn (inF (Sfin S)) (S 311)), w') ∧ agB i w w' ∧ CV (w' i) (Sfin S) ∧ w' i 0 6 = nI (fb_ct (rsvP S) (S 311)) ∧ (∀ q, q < S 311 → rsvP S q = true → w' i 3 (trank S q - S 317) = nI q) := by
  have hN := hB.1
  have h9 := hB.2.2.2.2.2.2.2.1
  intro d
  induction d with
  | zero =>
    intro fu w j hjd hfu hC h6 h3
    obtain ⟨fu, rfl⟩ : ∃ f, fu = f + 1 := ⟨fu - 1, by omega⟩
    have ej : j = S 311 := by omega
    subst ej
    have e311 : Sf S (S 311) 311 = S 311 := Sf_n hB (by omega) (by omega)
    have hT := Sf_WB hB (j := S 311) (by omega)
    have hC2 : CV (up3 w i 0 4 (nI 2) i) (Sfin S) := hC.up0 (by rw [e311]; exact hN) (by omega)
    have hB2 : WB (Sfin S) := by
      obtain ⟨b1, b2, b3, b4, b5, b6, b7, b8, b9, b10⟩ := hT
      unfold Sfin
      exact ⟨by rw [upN_n (by omega)]; exact b1, by rw [upN_s]; omega, by rw [upN_n (by omega)]; exact b3, by rw [upN_n (by omega)]; exact b4, by rw [upN_n (by omega)]; exact b5, by rw [upN_n (by omega)]; exact b6, by rw [upN_n (by omega)]; exact b7, by rw [upN_n (by omega)]; exact b8, fun p hp => by rw [upN_n (by omega)]; exact b9 p hp, fun k hk a ha => by rw [upN_n (by omega)]; exact b10 k hk a ha⟩
    have e2 : Sfin S 311 = S 311 := by unfold Sfin; rw [upN_n (by omega), e311]
    have hfs := C_finalSet hC2 hB2
    rw [e2] at hfs
    refine ⟨up3 w i 0 4 (nI 2), ?_, agB.up _ _ _, hC2, by rw [up3_n (by omega)]; exact h6, fun q hq hr => by rw [up3_n (by omega)]; exact h3 q hq hr⟩
    rw [F_X1_drawFinal_20_s, hC.sz, e311, iLe (by omega) (by omega), if_pos (Nat.le_refl _), gS_e]
    show gP (F_X5_finalSet (up3 w i 0 4 (nI 2)) i) _ = _
    rw [hfs, gP_s]
    rfl
  | succ d ih =>
    intro fu w j hjd hfu hC h6 h3
    obtain ⟨fu, rfl⟩ : ∃ f, fu = f + 1 := ⟨fu - 1, by omega⟩
    have hj : j < S 311 := by omega
    have e311 : Sf S j 311 = S 311 := Sf_n hB (by omega) (by omega)
    have e5 : Sf S j (10 * j + 5) = S (10 * j + 5) := Sf_n hB (by omega) (by omega)
    have hg := (hB.k (k := j) (by omega)).2.2.2.2.2.1
    have hstep : F_X1_drawFinal_20 (fu + 1) w i (nI j) = if TN S j = true then gP (F_X1_seatByTime w i i j) (fun w_12 => F_X1_drawFinal_20 fu w_12 i (nI (j + 1))) else F_X1_drawFinal_20 fu w i (nI (j + 1)) := by
      rw [F_X1_drawFinal_20_s, hC.sz, e311, iLe (by omega) (by omega), if_neg (by omega), gB_n _ (by omega) (by omega), hC.f6 (by rw [e311]; exact hj), e5, gB_n _ (by omega) (by omega)]
      by_cases e : 1 < S (10 * j + 5)
      · rw [if_neg (fun q => absurd ((mLe0 (by omega)).mp q) (by omega)), if_pos (by simp [TN, e])]
        simp only [gS_e, nI_1]
      · rw [if_pos ((mLe0 (by omega)).mpr (by omega)), if_neg (by simp [TN, e])]
        simp only [gS_e, nI_1]
    rw [hstep]
    have hsk : ¬ finP S j = true → ¬ rsvP S j = true → CV (w i) (Sf S (j + 1)) ∧ w i 0 6 = nI (fb_ct (rsvP S) (j + 1)) ∧ (∀ q, q < j + 1 → rsvP S q = true → w i 3 (trank S q - S 317) = nI q) := by
      intro a b
      refine ⟨?_, ?_, fun q hq hr => ?_⟩
      · show CV (w i) (seat S (Sf S j) j)
        unfold seat
        rw [if_neg a, if_neg b]; exact hC
      · rw [fb_ct_succ, if_neg b, Nat.add_zero]; exact h6
      · by_cases e : q = j
        · subst e; exact absurd hr b
        · exact h3 q (by omega) hr
    by_cases ht : TN S j = true
    · rw [if_pos ht, C_seat hB hj hC ht, gP_s]
      by_cases a : finP S j = true
      · have hlt := (finP_t.mp a).2
        have hb : ¬ rsvP S j = true := fun z => by have := rsvP_t.mp z; omega
        rw [if_pos a]
        have hC1 : CV (up3 w i (4 + j) 7 (nI (laneN S (trank S j))) i) (Sf S (j + 1)) := by
          show CV _ (seat S (Sf S j) j)
          unfold seat
          rw [if_pos a]
          exact hC.upk (k := j) (a := 6) (by omega) (by omega) rfl
        obtain ⟨w', f1, f2, f3, f4, f5⟩ := ih fu _ (j + 1) (by omega) (by omega) hC1 (by rw [up3_n (by omega), fb_ct_succ, if_neg hb, Nat.add_zero]; exact h6) (fun q hq hr => by
          rw [up3_n (by omega)]
          by_cases e : q = j
          · subst e; exact absurd hr hb
          · exact h3 q (by omega) hr)
        exact ⟨w', f1, (agB.up _ _ _).tr f2, f3, f4, f5⟩
      · rw [if_neg a]
        by_cases b : rsvP S j = true
        · have hb := rsvP_t.mp b
          rw [if_pos b]
          have hC1 : CV (up3 (up3 w i 3 (trank S j - S 317) (nI j)) i 0 6 (w i 0 6 + 1) i) (Sf S (j + 1)) := by
            show CV _ (seat S (Sf S j) j)
            unfold seat
            rw [if_neg a, if_pos b]
            exact (hC.cg (fun r c hr hc => by rw [up3_n (by omega), up3_n (by omega)])).res (by rw [e311]; exact hN) (by omega)
          obtain ⟨w', f1, f2, f3, f4, f5⟩ := ih fu _ (j + 1) (by omega) (by omega) hC1 (by rw [up3_s, fb_ct_succ, if_pos b, h6, nI_1]) (fun q hq hr => by
            rw [up3_n (by omega)]
            by_cases e : q = j
            · subst e; rw [up3_s]
            · have h2 := rsvP_t.mp hr
              have hne : trank S q ≠ trank S j := fun z => e (trank_inj hB (by omega) (by omega) h2.1 ht z)
              rw [up3_n (by omega)]
              exact h3 q (by omega) hr)
          exact ⟨w', f1, ((agB.up _ _ _).tr (agB.up _ _ _)).tr f2, f3, f4, f5⟩
        · rw [if_neg b]
          obtain ⟨g1, g2, g3⟩ := hsk a b
          exact ih fu _ (j + 1) (by omega) (by omega) g1 g2 g3
    · rw [if_neg ht]
      obtain ⟨g1, g2, g3⟩ := hsk (fun z => ht (finP_t.mp z).1) (fun z => ht (rsvP_t.mp z).1)
      exact ih fu _ (j + 1) (by omega) (by omega) g1 g2 g3
