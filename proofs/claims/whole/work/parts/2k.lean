/-! level 2: finals, whole -/
def Sfin (S : Nat → Nat) : Nat → Nat := upN (Sf S (S 311)) 310 2
theorem C_seat {w : gWd} {S : Nat → Nat} {i j : Nat} (hB : WB S) (hj : j < S 311) (hC : CV (w i) (Sf S j)) (ht : TN S j = true) : F_X1_seatByTime w i i j = some (if finP S j = true then up3 w i (4 + j) 7 (nI (laneN S (trank S j))) else if rsvP S j = true then up3 (up3 w i 3 (trank S j - S 317) (nI j)) i 0 6 (w i 0 6 + 1) else w) := by
  have hN := hB.1
  have h9 := hB.2.2.2.2.2.2.2.1
  have h7 := hB.2.2.2.2.2.1
  have hT := Sf_WB hB (j := j) (by omega)
  have e311 : Sf S j 311 = S 311 := Sf_n hB (by omega) (by omega)
  have e317 : Sf S j 317 = S 317 := Sf_n hB (by omega) (by omega)
  have e319 : Sf S j 319 = S 319 := Sf_n hB (by omega) (by omega)
  have hr := trank_n hB hj ht
  have hr2 := fb_ct_le (TN S) (S 311)
  unfold F_X1_seatByTime
  rw [C_trank hC hT (by rw [e311]; exact hj), gP_s, C_lanes hC, gP_s, gP_s, gP_s, Sf_trank hB (by omega) (by omega), e317, iLe (by omega) (by omega)]
  by_cases e : S 317 ≤ trank S j
  · have hnf : ¬ finP S j = true := fun z => by have := finP_t.mp z; omega
    rw [if_pos e, gS_e, pk_sub e, hC.re, e319, if_neg hnf, iLe (by omega) (by omega), show (4 : Int32) = nI 4 from rfl, iLe (by omega) (by omega)]
    by_cases e2 : S 319 ≤ trank S j - S 317
    · rw [if_pos e2, if_neg (fun z => by have := rsvP_t.mp z; omega)]
    · rw [if_neg e2, if_neg (by omega), gB_n _ (by omega) (by omega), if_pos (rsvP_t.mpr ⟨ht, by omega, by omega⟩), gS_e, gS_e, up3_n (by omega)]
  · have hf : finP S j = true := finP_t.mpr ⟨ht, by omega⟩
    have hl := laneN_in hB (r := trank S j) (by omega)
    have e3 := C_ofRank (w := w) hT (r := trank S j) (by omega)
    rw [e317, laneI_cg e317, laneI_N hl.2.2] at e3
    rw [if_neg e, e3, gP_s, if_pos hf]
    rfl
theorem C_fin20 {S : Nat → Nat} {i : Nat} (hB : WB S) (h1 : S 310 = 1) : ∀ (d fu : Nat) (w : gWd) (j : Nat), j + d = S 311 → d < fu → CV (w i) (Sf S j) → w i 0 6 = nI (fb_ct (rsvP S) j) → (∀ q, q < j → rsvP S q = true → w i 3 (trank S q - S 317) = nI q) →
    ∃ w', F_X1_drawFinal_20 fu w i (nI j) = some (nI (bn (inF (Sfin S)) (S 311)), w') ∧ agB i w w' ∧ CV (w' i) (Sfin S) ∧ w' i 0 6 = nI (fb_ct (rsvP S) (S 311)) ∧ (∀ q, q < S 311 → rsvP S q = true → w' i 3 (trank S q - S 317) = nI q) := by
  have hN := hB.1
  have h9 := hB.2.2.2.2.2.2.2.1
  intro d
  induction d with
  | zero =>
    intro fu w j hjd hfu hC h6 h3
    obtain ⟨fu, rfl⟩ : ∃ f, fu = f + 1 := ⟨fu - 1, by omega⟩
    have ej : j = S 311 := by omega
    subst ej
    have e311 : Sf S (S 311) 311 = S 311 := Sf_n hB (by omega) (by omega)
    have hT := Sf_WB hB (j := S 311) (by omega)
    have hC2 : CV (up3 w i 0 4 (nI 2) i) (Sfin S) := hC.up0 (by rw [e311]; exact hN) (by omega)
    have hB2 : WB (Sfin S) := by
      obtain ⟨b1, b2, b3, b4, b5, b6, b7, b8, b9, b10⟩ := hT
      unfold Sfin
      exact ⟨by rw [upN_n (by omega)]; exact b1, by rw [upN_s]; omega, by rw [upN_n (by omega)]; exact b3, by rw [upN_n (by omega)]; exact b4, by rw [upN_n (by omega)]; exact b5, by rw [upN_n (by omega)]; exact b6, by rw [upN_n (by omega)]; exact b7, by rw [upN_n (by omega)]; exact b8, fun p hp => by rw [upN_n (by omega)]; exact b9 p hp, fun k hk a ha => by rw [upN_n (by omega)]; exact b10 k hk a ha⟩
    have e2 : Sfin S 311 = S 311 := by unfold Sfin; rw [upN_n (by omega), e311]
    have hfs := C_finalSet hC2 hB2
    rw [e2] at hfs
    refine ⟨up3 w i 0 4 (nI 2), ?_, agB.up _ _ _, hC2, by rw [up3_n (by omega)]; exact h6, fun q hq hr => by rw [up3_n (by omega)]; exact h3 q hq hr⟩
    rw [F_X1_drawFinal_20_s, hC.sz, e311, iLe (by omega) (by omega), if_pos (Nat.le_refl _), gS_e]
    show gP (F_X5_finalSet (up3 w i 0 4 (nI 2)) i) _ = _
    rw [hfs, gP_s]
    rfl
  | succ d ih =>
    intro fu w j hjd hfu hC h6 h3
    obtain ⟨fu, rfl⟩ : ∃ f, fu = f + 1 := ⟨fu - 1, by omega⟩
    have hj : j < S 311 := by omega
    have e311 : Sf S j 311 = S 311 := Sf_n hB (by omega) (by omega)
    have e5 : Sf S j (10 * j + 5) = S (10 * j + 5) := Sf_n hB (by omega) (by omega)
    have hg := (hB.k (k := j) (by omega)).2.2.2.2.2.1
    have hstep : F_X1_drawFinal_20 (fu + 1) w i (nI j) = if TN S j = true then gP (F_X1_seatByTime w i i j) (fun w_12 => F_X1_drawFinal_20 fu w_12 i (nI (j + 1))) else F_X1_drawFinal_20 fu w i (nI (j + 1)) := by
      rw [F_X1_drawFinal_20_s, hC.sz, e311, iLe (by omega) (by omega), if_neg (by omega), gB_n _ (by omega) (by omega), hC.f6 (by rw [e311]; exact hj), e5, gB_n _ (by omega) (by omega)]
      by_cases e : 1 < S (10 * j + 5)
      · rw [if_neg (fun q => absurd ((mLe0 (by omega)).mp q) (by omega)), if_pos (by simp [TN, e])]
        simp only [gS_e, nI_1]
      · rw [if_pos ((mLe0 (by omega)).mpr (by omega)), if_neg (by simp [TN, e])]
        simp only [gS_e, nI_1]
    rw [hstep]
    have hsk : ¬ finP S j = true → ¬ rsvP S j = true → CV (w i) (Sf S (j + 1)) ∧ w i 0 6 = nI (fb_ct (rsvP S) (j + 1)) ∧ (∀ q, q < j + 1 → rsvP S q = true → w i 3 (trank S q - S 317) = nI q) := by
      intro a b
      refine ⟨?_, ?_, fun q hq hr => ?_⟩
      · show CV (w i) (seat S (Sf S j) j)
        unfold seat
        rw [if_neg a, if_neg b]; exact hC
      · rw [fb_ct_succ, if_neg b, Nat.add_zero]; exact h6
      · by_cases e : q = j
        · subst e; exact absurd hr b
        · exact h3 q (by omega) hr
    by_cases ht : TN S j = true
    · rw [if_pos ht, C_seat hB hj hC ht, gP_s]
      by_cases a : finP S j = true
      · have hlt := (finP_t.mp a).2
        have hb : ¬ rsvP S j = true := fun z => by have := rsvP_t.mp z; omega
        rw [if_pos a]
        have hC1 : CV (up3 w i (4 + j) 7 (nI (laneN S (trank S j))) i) (Sf S (j + 1)) := by
          show CV _ (seat S (Sf S j) j)
          unfold seat
          rw [if_pos a]
          exact hC.upk (k := j) (a := 6) (by omega) (by omega) rfl
        obtain ⟨w', f1, f2, f3, f4, f5⟩ := ih fu _ (j + 1) (by omega) (by omega) hC1 (by rw [up3_n (by omega), fb_ct_succ, if_neg hb, Nat.add_zero]; exact h6) (fun q hq hr => by
          rw [up3_n (by omega)]
          by_cases e : q = j
          · subst e; exact absurd hr hb
          · exact h3 q (by omega) hr)
        exact ⟨w', f1, (agB.up _ _ _).tr f2, f3, f4, f5⟩
      · rw [if_neg a]
        by_cases b : rsvP S j = true
        · have hb := rsvP_t.mp b
          rw [if_pos b]
          have hC1 : CV (up3 (up3 w i 3 (trank S j - S 317) (nI j)) i 0 6 (w i 0 6 + 1) i) (Sf S (j + 1)) := by
            show CV _ (seat S (Sf S j) j)
            unfold seat
            rw [if_neg a, if_pos b]
            exact (hC.cg (fun r c hr hc => by rw [up3_n (by omega), up3_n (by omega)])).res (by rw [e311]; exact hN) (by omega)
          obtain ⟨w', f1, f2, f3, f4, f5⟩ := ih fu _ (j + 1) (by omega) (by omega) hC1 (by rw [up3_s, fb_ct_succ, if_pos b, h6, nI_1]) (fun q hq hr => by
            rw [up3_n (by omega)]
            by_cases e : q = j
            · subst e; rw [up3_s]
            · have h2 := rsvP_t.mp hr
              have hne : trank S q ≠ trank S j := fun z => e (trank_inj hB (by omega) (by omega) h2.1 ht z)
              rw [up3_n (by omega)]
              exact h3 q (by omega) hr)
          exact ⟨w', f1, ((agB.up _ _ _).tr (agB.up _ _ _)).tr f2, f3, f4, f5⟩
        · rw [if_neg b]
          obtain ⟨g1, g2, g3⟩ := hsk a b
          exact ih fu _ (j + 1) (by omega) (by omega) g1 g2 g3
    · rw [if_neg ht]
      obtain ⟨g1, g2, g3⟩ := hsk (fun z => ht (finP_t.mp z).1) (fun z => ht (rsvP_t.mp z).1)
      exact ih fu _ (j + 1) (by omega) (by omega) g1 g2 g3
theorem M_fin28 {S : Nat → Nat} (hB : WB S) : ∀ (d fu : Nat) (w : gWd) (j : Nat), j + d = S 311 → d < fu → SV w (Sf S j) →
    ∃ w', F_X12_finals_28 fu w (nI j) = some (nI (bn (inF (Sfin S)) (S 311)), w') ∧ ag1 w w' ∧ SV w' (Sfin S) := by
  have hN := hB.1
  have h9 := hB.2.2.2.2.2.2.2.1
  have h7 := hB.2.2.2.2.2.1
  intro d
  induction d with
  | zero =>
    intro fu w j hjd hfu hS
    obtain ⟨fu, rfl⟩ : ∃ f, fu = f + 1 := ⟨fu - 1, by omega⟩
    have ej : j = S 311 := by omega
    subst ej
    have e311 : Sf S (S 311) 311 = S 311 := Sf_n hB (by omega) (by omega)
    have hT := Sf_WB hB (j := S 311) (by omega)
    have hS2 : SV (up3 w 8 1 310 (nI 2)) (Sfin S) := hS.up 310 2
    have hB2 : WB (Sfin S) := by
      obtain ⟨b1, b2, b3, b4, b5, b6, b7, b8, b9, b10⟩ := hT
      unfold Sfin
      exact ⟨by rw [upN_n (by omega)]; exact b1, by rw [upN_s]; omega, by rw [upN_n (by omega)]; exact b3, by rw [upN_n (by omega)]; exact b4, by rw [upN_n (by omega)]; exact b5, by rw [upN_n (by omega)]; exact b6, by rw [upN_n (by omega)]; exact b7, by rw [upN_n (by omega)]; exact b8, fun p hp => by rw [upN_n (by omega)]; exact b9 p hp, fun k hk a ha => by rw [upN_n (by omega)]; exact b10 k hk a ha⟩
    have e2 : Sfin S 311 = S 311 := by unfold Sfin; rw [upN_n (by omega), e311]
    have hfs := M_inFinal hS2 hB2
    rw [e2] at hfs
    refine ⟨up3 w 8 1 310 (nI 2), ?_, ag1.up _ _, hS2⟩
    rw [F_X12_finals_28_s, hS 311 (by omega), e311, iLe (by omega) (by omega), if_pos (Nat.le_refl _), gS_e]
    show gP (F_X12_inFinal (up3 w 8 1 310 (nI 2))) _ = _
    rw [hfs, gP_s]
    rfl
  | succ d ih =>
    intro fu w j hjd hfu hS
    obtain ⟨fu, rfl⟩ : ∃ f, fu = f + 1 := ⟨fu - 1, by omega⟩
    have hj : j < S 311 := by omega
    have hT := Sf_WB hB (j := j) (by omega)
    have e311 : Sf S j 311 = S 311 := Sf_n hB (by omega) (by omega)
    have e317 : Sf S j 317 = S 317 := Sf_n hB (by omega) (by omega)
    have e319 : Sf S j 319 = S 319 := Sf_n hB (by omega) (by omega)
    have e5 : Sf S j (10 * j + 5) = S (10 * j + 5) := Sf_n hB (by omega) (by omega)
    have hg := (hB.k (k := j) (by omega)).2.2.2.2.2.1
    have h58 : ∀ r, r ≤ 30 → F_X12_finals_58 (F_X12_finals_28 fu) w (nI j) (nI r) = if r < S 317 then F_X12_finals_28 fu (up3 w 8 1 (10 * j + 6) (nI (laneN S r))) (nI (j + 1)) else if r < S 317 + S 319 then F_X12_finals_28 fu (up3 w 8 1 (306 + (r - S 317)) (nI (j + 1))) (nI (j + 1)) else F_X12_finals_28 fu w (nI (j + 1)) := by
      intro r hr
      unfold F_X12_finals_58
      rw [M_lanes hS, gP_s, gP_s, gP_s, hS 319 (by omega), e317, e319, nI_add, iLe (by omega) (by omega), iLe (by omega) (by omega), show (30 : Int32) = nI 30 from rfl, iLe (by omega) (by omega)]
      by_cases e : S 317 ≤ r
      · rw [if_pos e, if_neg (show ¬ r < S 317 by omega)]
        by_cases e2 : S 317 + S 319 ≤ r
        · rw [if_pos e2, if_neg (show ¬ r < S 317 + S 319 by omega)]
          simp only [gS_e, nI_1]
        · rw [if_neg e2, if_neg (by omega), if_pos (show r < S 317 + S 319 by omega), show (306 : Int32) = nI 306 from rfl, nI_add, pk_sub (by omega), show 306 + r - S 317 = 306 + (r - S 317) by omega, gB_n _ (by omega) (by omega)]
          simp only [gS_e, nI_1]
      · have hl := laneN_in hB (r := r) (by omega)
        rw [if_neg e, if_pos (show r < S 317 by omega), M_laneOf hS hT (by omega), gP_s, laneI_cg e317, laneI_N hl.2.2, show (6 : Int32) = nI 6 from rfl, M_lay (by omega), gP_s]
        simp only [gS_e, nI_1]
    have hstep : F_X12_finals_28 (fu + 1) w (nI j) = F_X12_finals_28 fu (if finP S j = true then up3 w 8 1 (10 * j + 6) (nI (laneN S (trank S j))) else if rsvP S j = true then up3 w 8 1 (306 + (trank S j - S 317)) (nI (j + 1)) else w) (nI (j + 1)) := by
      rw [F_X12_finals_28_s, hS 311 (by omega), e311, iLe (by omega) (by omega), if_neg (by omega), M_hasT hS hT (by omega), gP_s, e5]
      by_cases e : 1 < S (10 * j + 5)
      · have ht : TN S j = true := by simp [TN, e]
        have hr := trank_n hB hj ht
        have hr2 := fb_ct_le (TN S) (S 311)
        rw [if_pos e, iE0 (by omega), if_neg (by omega), M_trank hS hT (by omega), gP_s, Sf_trank hB (by omega) (by omega), h58 _ (by omega)]
        by_cases a : trank S j < S 317
        · rw [if_pos a, if_pos (finP_t.mpr ⟨ht, a⟩)]
        · rw [if_neg a, if_neg (fun z => a (finP_t.mp z).2)]
          by_cases b : trank S j < S 317 + S 319
          · rw [if_pos b, if_pos (rsvP_t.mpr ⟨ht, by omega, b⟩)]
          · rw [if_neg b, if_neg (fun z => b (rsvP_t.mp z).2.2)]
      · have ht : ¬ TN S j = true := by simp [TN, e]
        rw [if_neg e, iE0 (by omega), if_pos rfl, show (30 : Int32) = nI 30 from rfl, h58 _ (by omega), if_neg (by omega), if_neg (by omega), if_neg (fun z => ht (finP_t.mp z).1), if_neg (fun z => ht (rsvP_t.mp z).1)]
    rw [hstep]
    have hS1 : SV (if finP S j = true then up3 w 8 1 (10 * j + 6) (nI (laneN S (trank S j))) else if rsvP S j = true then up3 w 8 1 (306 + (trank S j - S 317)) (nI (j + 1)) else w) (Sf S (j + 1)) := by
      show SV _ (seat S (Sf S j) j)
      unfold seat
      by_cases a : finP S j = true
      · rw [if_pos a, if_pos a]; exact hS.up _ _
      · rw [if_neg a, if_neg a]
        by_cases b : rsvP S j = true
        · rw [if_pos b, if_pos b]; exact hS.up _ _
        · rw [if_neg b, if_neg b]; exact hS
    obtain ⟨w', f1, f2, f3⟩ := ih fu _ (j + 1) (by omega) (by omega) hS1
    refine ⟨w', f1, ag1.tr ?_ f2, f3⟩
    split
    · exact ag1.up _ _
    · split
      · exact ag1.up _ _
      · exact ag1.rf _
