/-! level 2: what the law does to its own arrays: the final, the event's end, the next event -/
section LFIN
variable {S : Nat → Nat}
theorem L_fin88 {rec6 : gWd → Int32 → Int32 → Option (Int32 × gWd)} {w : gWd} {T : Nat → Nat} {j r x b : Nat} (hB : WB S) (hS : LV w T) (h17 : T 317 = S 317) (h19 : T 319 = S 319) (hr : r ≤ 30) (hj : j < 20) : ∀ xs0 xs1 : Int32, xs1 ||| xs0 = nI b → ∃ w', F_L_finals_88 rec6 w (nI j) (nI r) xs0 xs1 = rec6 w' (nI b) (nI (j + 1)) ∧ agL w w' ∧ LV w' (if S 317 ≤ r ∧ r < S 317 + S 319 then upN T (306 + (r - S 317)) (j + 1) else T) := by
  intro xs0 xs1 hb
  have hl := hB.2.2.2.2.2.1
  have hre := hB.2.2.2.2.2.2.2.1
  unfold F_L_finals_88
  rw [hb, gS_e, hS.la, hS.re, h17, h19, nI_add, iLt (by omega) (by omega), iLe (by omega) (by omega), nI_1, gS_e]
  by_cases c1 : r < S 317
  · rw [if_pos c1, if_neg (by omega)]
    exact ⟨w, rfl, agL.rf w, hS⟩
  · rw [if_neg c1]
    by_cases c2 : S 317 + S 319 ≤ r
    · rw [if_pos c2, if_neg (by omega)]
      exact ⟨w, rfl, agL.rf w, hS⟩
    · rw [if_neg c2, if_pos ⟨by omega, by omega⟩, pk_sub (by omega), gB4 (by omega), gS_e, gS_e]
      exact ⟨_, rfl, agL.up _ _ _, hS.uv (by omega) (j + 1)⟩
theorem L_fin6 (hB : WB S) (hN : S 311 ≤ 20) (hz : ∀ k, k < S 311 → S (10 * k + 6) = 0) : ∀ (d fu : Nat) (w : gWd) (j : Nat), j + d = S 311 → d < fu → LV w (Sf S j) → ∃ w', F_L_finals_6 fu w (nI (bn (finP S) j)) (nI j) = some (nI (bn (finP S) (S 311)), w') ∧ agL w w' ∧ LV w' (Sfin S) := by
  intro d
  have hl := hB.2.2.2.2.2.1
  induction d with
  | zero =>
    intro fu w j hj hfu hS
    obtain ⟨fu, rfl⟩ : ∃ f, fu = f + 1 := ⟨fu - 1, by omega⟩
    obtain rfl : j = S 311 := by omega
    have e11 : Sf S (S 311) 311 = S 311 := Sf_n hB (by omega) (by omega)
    refine ⟨up3 w 8 5 0 (nI 2), ?_, agL.up _ _ _, hS.ut (j := 0) (by omega) 2⟩
    rw [F_L_finals_6_s, hS.N, e11, iLe (by omega) (by omega), if_pos (Nat.le_refl _), gS_e]
    rfl
  | succ d ih =>
    intro fu w j hj hfu hS
    obtain ⟨fu, rfl⟩ : ∃ f, fu = f + 1 := ⟨fu - 1, by omega⟩
    have hj2 : j < 20 := by omega
    have e11 : Sf S j 311 = S 311 := Sf_n hB (by omega) (by omega)
    have e17 : Sf S j 317 = S 317 := Sf_n hB (by omega) (by omega)
    have e19 : Sf S j 319 = S 319 := Sf_n hB (by omega) (by omega)
    have e5 : Sf S j (10 * j + 5) = S (10 * j + 5) := Sf_n hB (by omega) (by omega)
    have e6 : Sf S j (10 * j + 6) = 0 := by rw [Sf_6 hB (by omega) (by omega), if_neg (by omega)]; exact hz j (by omega)
    have h5 := (hB.k (k := j) (by omega)).2.2.2.2.2.1
    have hWj := Sf_WB hB (j := j) (by omega)
    have hF : F_L_finals_6 (fu + 1) w (nI (bn (finP S) j)) (nI j) = if S (10 * j + 5) ≤ 1 then F_L_finals_6 fu w (nI (bn (finP S) j)) (nI (j + 1)) else if S 317 ≤ trank S j then F_L_finals_67 (F_L_finals_6 fu) w (nI (bn (finP S) j)) (nI j) (nI (trank S j)) 0 (3 * nI j) else gP (F_L_lane w (nI (S 317)) (nI (trank S j))) (fun v => F_L_finals_67 (F_L_finals_6 fu) w (nI (bn (finP S) j)) (nI j) (nI (trank S j)) v (3 * nI j)) := by
      have ht := fb_ct_le (fun q => decide (1 < S (10 * q + 5)) && fastB S q j) (S 311)
      have htr : trank S j ≤ S 311 := ht
      rw [F_L_finals_6_s, hS.N, e11, iLe (by omega) (by omega), if_neg (by omega), g32 hj2, hS.g5 hj2, e5, iLe1 (by omega), nI_1, gS_e, L_timeRank hS hWj (by rw [e11]; exact hN) hj2, gP_s, Sf_trank hB (by omega) (by omega), hS.la, e17, iLe (by omega) (by omega)]
    have htr : trank S j ≤ S 311 := fb_ct_le _ _
    rw [hF]
    by_cases c : S (10 * j + 5) ≤ 1
    · have ht : TN S j = false := by simp [TN]; omega
      have hf : finP S j = false := by unfold finP; rw [ht]; rfl
      have hr : rsvP S j = false := by unfold rsvP; rw [ht]; rfl
      rw [if_pos c, ← bs_f (p := finP S) (n := j) (by rw [hf]; decide)]
      refine ih fu w (j + 1) (by omega) (by omega) ?_
      show LV w (seat S (Sf S j) j)
      unfold seat
      rw [if_neg (by rw [hf]; decide), if_neg (by rw [hr]; decide)]
      exact hS
    · have ht : TN S j = true := by simp [TN]; omega
      rw [if_neg c]
      by_cases c1 : S 317 ≤ trank S j
      · have hf : finP S j = false := by unfold finP; rw [ht]; simp; omega
        rw [if_pos c1]
        unfold F_L_finals_67
        have hS1 := hS.u6 hj2 0
        rw [upN_id e6] at hS1
        rw [g30 hj2, gS_e, up3_n (by omega), hS.la, e17, iLe (by omega) (by omega), if_pos c1]
        obtain ⟨w', f1, a1, l1⟩ := L_fin88 (rec6 := F_L_finals_6 fu) (j := j) (r := trank S j) (x := 0) (b := bn (finP S) (j + 1)) hB hS1 e17 e19 (by omega) hj2 0 (nI (bn (finP S) j)) (by rw [Int32.or_zero, bs_f (p := finP S) (n := j) (by rw [hf]; decide)])
        have e : (if S 317 ≤ trank S j ∧ trank S j < S 317 + S 319 then upN (Sf S j) (306 + (trank S j - S 317)) (j + 1) else Sf S j) = Sf S (j + 1) := by
          have hfn : ¬ finP S j = true := by rw [hf]; decide
          by_cases c2 : S 317 ≤ trank S j ∧ trank S j < S 317 + S 319
          · rw [if_pos c2]
            show _ = seat S (Sf S j) j
            unfold seat
            rw [if_neg hfn, if_pos (rsvP_t.mpr ⟨ht, c2⟩)]
          · rw [if_neg c2]
            show _ = seat S (Sf S j) j
            unfold seat
            rw [if_neg hfn, if_neg (fun z => c2 (rsvP_t.mp z).2)]
        rw [e] at l1
        obtain ⟨w2, f2, a2, l2⟩ := ih fu w' (j + 1) (by omega) (by omega) l1
        exact ⟨w2, f1.trans f2, (agL.up _ _ _).tr (a1.tr a2), l2⟩
      · have hf : finP S j = true := finP_t.mpr ⟨ht, by omega⟩
        have hln := laneN_in hB (r := trank S j) (by omega)
        rw [if_neg c1, L_lane (w := w) (S := S) (by omega) (by omega), gP_s, laneI_N hln.2.2]
        unfold F_L_finals_67
        have hS1 := hS.u6 hj2 (laneN S (trank S j))
        rw [g30 hj2, gS_e, up3_n (by omega), hS.la, e17, iLe (by omega) (by omega), if_neg c1]
        obtain ⟨w', f1, a1, l1⟩ := L_fin88 (rec6 := F_L_finals_6 fu) (j := j) (r := trank S j) (x := 0) (b := bn (finP S) (j + 1)) hB hS1 (by rw [upN_n (by omega)]; exact e17) (by rw [upN_n (by omega)]; exact e19) (by omega) hj2 (1 <<< (nI j &&& 31)) (nI (bn (finP S) j)) (bs_t (by omega) hf)
        rw [if_neg (by omega)] at l1
        have e : upN (Sf S j) (10 * j + 6) (laneN S (trank S j)) = Sf S (j + 1) := by
          show _ = seat S (Sf S j) j
          unfold seat
          rw [if_pos hf]
        rw [e] at l1
        obtain ⟨w2, f2, a2, l2⟩ := ih fu w' (j + 1) (by omega) (by omega) l1
        exact ⟨w2, f1.trans f2, (agL.up _ _ _).tr (a1.tr a2), l2⟩
theorem L_finals {w : gWd} {EB : Nat} (hI : IV EB S) (hS : LV w S) (hN : S 311 ≤ 20) (h1 : S 310 = 1) : ∃ w', F_L_finals w = some (nI (bn (inF (Sfin S)) (S 311)), w') ∧ agL w w' ∧ LV w' (Sfin S) := by
  have hB := hI.wb
  have hz : ∀ k, k < S 311 → S (10 * k + 6) = 0 := fun k hk => (hI.s1 h1 k hk).2.1
  obtain ⟨w', f, a, l⟩ := L_fin6 hB hN hz (S 311) gFU w 0 (by omega) (by unfold gFU; omega) hS
  refine ⟨w', ?_, a, l⟩
  have e : bn (inF (Sfin S)) (S 311) = bn (finP S) (S 311) := bn_cong (fun k hk => by
    unfold inF
    rw [Sfin_6 hB (by omega)]
    by_cases c : finP S k = true
    · have := laneN_in hB (r := trank S k) (finP_t.mp c).2
      rw [if_pos ⟨hk, c⟩, c]
      exact decide_eq_true (by omega)
    · rw [if_neg (fun z => c z.2), hz k hk]
      cases h : finP S k with
      | true => exact absurd h c
      | false => rfl)
  rw [e]
  exact f
end LFIN
section LEND
variable {S : Nat → Nat}
theorem L_end23 {rec6 : gWd → Int32 → Int32 → Option (Int32 × gWd)} {w : gWd} {j : Nat} {x5 : Int32} (hN : S 311 ≤ 20) (hj : j < S 311) (h1 : w 8 5 1 = nI (S 311)) (h7 : ∀ q, q < 20 → w 8 2 (3 * q + 1) = nI (S (10 * q + 7)) ∧ S (10 * q + 7) ≤ 1000) : F_L_end_23 rec6 gFU w x5 (nI j) 1 0 0 = if S (10 * j + 7) ≤ 1 then rec6 w x5 (nI (j + 1)) else F_L_end_135 rec6 gFU w x5 (nI j) (nI (pl S j)) (nI (sh S j)) (nI (if pl S j = 1 then 1 else 0)) 0 := by
  refine loopI (F := fun fu (st : Nat × Nat) q => F_L_end_23 rec6 fu w x5 (nI j) (nI (st.1 + 1)) (nI st.2) (nI q)) (S 311) (fun q st => st = (fb_ct (fun q => tm S q && decide (S (10 * q + 7) < S (10 * j + 7))) q, fb_ct (fun q => decide (S (10 * q + 7) = S (10 * j + 7))) q)) (fun r => r = if S (10 * j + 7) ≤ 1 then rec6 w x5 (nI (j + 1)) else F_L_end_135 rec6 gFU w x5 (nI j) (nI (pl S j)) (nI (sh S j)) (nI (if pl S j = 1 then 1 else 0)) 0) ?_ ?_ gFU (0, 0) 0 (by omega) (gFU_lt (by omega)) rfl
  · intro fu st hI
    subst hI
    show F_L_end_23 rec6 (fu + 1) w x5 (nI j) (nI (pl S j)) (nI (sh S j)) (nI (S 311)) = _
    have hp : pl S j ≤ S 311 + 1 := by have := fb_ct_le (fun q => tm S q && decide (S (10 * q + 7) < S (10 * j + 7))) (S 311); unfold pl; omega
    obtain ⟨a1, a2⟩ := h7 j (by omega)
    rw [F_L_end_23_s, h1, iLe (by omega) (by omega), if_pos (Nat.le_refl _), g31 (by omega), a1, iLe1 (by omega), nI_1, gS_e, iE1 (by omega)]
    by_cases c : S (10 * j + 7) ≤ 1
    · rw [if_pos c, if_pos c]
    · rw [if_neg c, if_neg c]
      by_cases c2 : pl S j = 1
      · rw [if_pos c2, if_pos c2]; rfl
      · rw [if_neg c2, if_neg c2]; rfl
  · intro fu st q hq hI
    right
    subst hI
    refine ⟨_, rfl, ?_⟩
    show F_L_end_23 rec6 (fu + 1) w x5 (nI j) (nI (fb_ct (fun q => tm S q && decide (S (10 * q + 7) < S (10 * j + 7))) q + 1)) (nI (fb_ct (fun q => decide (S (10 * q + 7) = S (10 * j + 7))) q)) (nI q) = F_L_end_23 rec6 fu w x5 (nI j) (nI (fb_ct (fun q => tm S q && decide (S (10 * q + 7) < S (10 * j + 7))) (q + 1) + 1)) (nI (fb_ct (fun q => decide (S (10 * q + 7) = S (10 * j + 7))) (q + 1))) (nI (q + 1))
    obtain ⟨a1, a2⟩ := h7 j (by omega)
    obtain ⟨b1, b2⟩ := h7 q (by omega)
    obtain ⟨s1, hs1⟩ : ∃ s1, s1 = fb_ct (fun q => tm S q && decide (S (10 * q + 7) < S (10 * j + 7))) q := ⟨_, rfl⟩
    rw [← hs1]
    have e69 : ∀ s2 b : Nat, F_L_end_69 rec6 (F_L_end_23 rec6 fu) w x5 (nI j) (nI s2) (nI q) (nI b) (nI (s1 + 1)) = F_L_end_23 rec6 fu w x5 (nI j) (nI (s1 + 1 + b)) (nI (s2 + if S (10 * q + 7) = S (10 * j + 7) then 1 else 0)) (nI (q + 1)) := by
      intro s2 b
      unfold F_L_end_69
      rw [nI_add, gS_e, g31 (by omega), g31 (by omega), a1, b1, iEq (by omega) (by omega)]
      by_cases c : S (10 * q + 7) = S (10 * j + 7)
      · rw [if_pos c, if_pos c, nI_1, gS_e, nI_1, gS_e]
      · rw [if_neg c, if_neg c, Int32.add_zero, gS_e, nI_1, gS_e]; rfl
    have e68 : ∀ s2 : Nat, F_L_end_68 rec6 (F_L_end_23 rec6 fu) w x5 (nI j) (nI s2) (nI q) (nI (s1 + 1)) = F_L_end_23 rec6 fu w x5 (nI j) (nI (s1 + 1)) (nI (s2 + if S (10 * q + 7) = S (10 * j + 7) then 1 else 0)) (nI (q + 1)) := fun s2 => e69 s2 0
    rw [F_L_end_23_s, h1, iLe (by omega) (by omega), if_neg (by omega), g31 (by omega), b1, iLe1 (by omega), g31 (by omega), b1, g31 (by omega), a1, iLe (by omega) (by omega), e68, fb_ct_succ, fb_ct_succ, ← hs1]
    have hx := e69 (fb_ct (fun q => decide (S (10 * q + 7) = S (10 * j + 7))) q) 1
    have hd : (if decide (S (10 * q + 7) = S (10 * j + 7)) = true then 1 else 0) = if S (10 * q + 7) = S (10 * j + 7) then 1 else 0 := by
      by_cases c : S (10 * q + 7) = S (10 * j + 7)
      · rw [if_pos c, if_pos (decide_eq_true c)]
      · rw [if_neg c, if_neg (by simp [c])]
    rw [hd]
    generalize fb_ct (fun q => decide (S (10 * q + 7) = S (10 * j + 7))) q + (if S (10 * q + 7) = S (10 * j + 7) then 1 else 0) = z2 at hx ⊢
    unfold tm
    by_cases c1 : S (10 * q + 7) ≤ 1
    · rw [if_pos c1, if_neg (by simp; omega), Nat.add_zero]
    · rw [if_neg c1]
      by_cases c2 : S (10 * j + 7) ≤ S (10 * q + 7)
      · rw [if_pos c2, if_neg (by simp; omega), Nat.add_zero]
      · rw [if_neg c2, if_pos (by simp; omega)]
        exact hx
theorem sum_from {L a : Nat} (ha : 1 ≤ a) : ∀ q, a + q ≤ L → (if a = 1 then 1 else 0) + fb_sm (fun i => L + 1 - a - i) (q + 1) = sumw L a (q + 1)
  | 0, h => by
    unfold sumw
    rw [fb_sm_succ, fb_sm_succ]
    show _ + (0 + (L + 1 - a - 0)) = 0 + wo L (a + 0)
    unfold wo
    split <;> split <;> omega
  | q + 1, h => by
    have ih := sum_from (L := L) (a := a) ha q (by omega)
    unfold sumw at ih ⊢
    rw [fb_sm_succ, fb_sm_succ _ (q + 1), ← ih]
    show _ + (_ + (L + 1 - a - (q + 1))) = _ + wo L (a + (q + 1))
    unfold wo
    rw [if_neg (show ¬ a + (q + 1) = 1 by omega)]
    omega
theorem L_end135 {rec6 : gWd → Int32 → Int32 → Option (Int32 × gWd)} {w : gWd} {T : Nat → Nat} {j a n : Nat} {x5 : Int32} (hS : LV w T) (hB : WB T) (hj : j < 20) (ha : 1 ≤ a) (hn : 1 ≤ n) (h : a + n ≤ T 317 + 1) : ∃ w', F_L_end_135 rec6 gFU w x5 (nI j) (nI a) (nI n) (nI (if a = 1 then 1 else 0)) 0 = rec6 w' (if a = 1 then x5 ||| (1 <<< (nI j &&& 31)) else x5) (nI (j + 1)) ∧ agL w w' ∧ LV w' (upN (upN (upN T (10 * j + 8) a) (10 * j + 9) (T (10 * j + 9) + 2 * sumw (T 317) a n / n)) (300 + T (10 * j)) (T (300 + T (10 * j)) + 2 * sumw (T 317) a n / n)) := by
  have hl := hB.2.2.2.2.2.1
  have h0 := (hB.k (k := j) (by omega)).1
  refine loopI (F := fun fu (acc : Nat) q => F_L_end_135 rec6 fu w x5 (nI j) (nI a) (nI n) (nI acc) (nI q)) n (fun q acc => acc = (if a = 1 then 1 else 0) + fb_sm (fun i => T 317 + 1 - a - i) q) (fun r => ∃ w', r = rec6 w' (if a = 1 then x5 ||| (1 <<< (nI j &&& 31)) else x5) (nI (j + 1)) ∧ agL w w' ∧ LV w' (upN (upN (upN T (10 * j + 8) a) (10 * j + 9) (T (10 * j + 9) + 2 * sumw (T 317) a n / n)) (300 + T (10 * j)) (T (300 + T (10 * j)) + 2 * sumw (T 317) a n / n))) ?_ ?_ gFU (if a = 1 then 1 else 0) 0 (by omega) (gFU_lt (by omega)) (by rfl)
  · intro fu acc hI
    have hs : acc = sumw (T 317) a n := by
      obtain ⟨m, rfl⟩ : ∃ m, n = m + 1 := ⟨n - 1, by omega⟩
      rw [hI, sum_from ha m (by omega)]
    have hsl := sumw_le ha h
    have hnl : n * (T 317 + 1) ≤ 10 * 11 := Nat.mul_le_mul (by omega) (by omega)
    refine ⟨up3 (up3 (up3 w 8 2 (3 * j + 2) (nI a)) 8 3 j (nI (T (10 * j + 9) + 2 * sumw (T 317) a n / n))) 8 6 (T (10 * j)) (nI (T (300 + T (10 * j)) + 2 * sumw (T 317) a n / n)), ?_, (agL.up _ _ _).tr ((agL.up _ _ _).tr (agL.up _ _ _)), ?_⟩
    · show F_L_end_135 rec6 (fu + 1) w x5 (nI j) (nI a) (nI n) (nI acc) (nI n) = _
      have hdv : nI acc * 2 / nI n = nI (2 * sumw (T 317) a n / n) := by
        rw [hs, show (2 : Int32) = nI 2 from rfl, pk_mul, pk_div (by omega) (by omega) (by omega), Nat.mul_comm]
      have r1 : up3 w 8 2 (3 * j + 2) (nI a) 8 3 j = nI (T (10 * j + 9)) := by rw [up3_n (by omega)]; exact hS.g9 hj
      have r2 : ∀ v, up3 (up3 w 8 2 (3 * j + 2) (nI a)) 8 3 j v 8 0 (3 * j) = nI (T (10 * j)) := fun v => by rw [up3_n (by omega), up3_n (by omega)]; exact hS.g0 hj
      have r3 : ∀ v, up3 (up3 w 8 2 (3 * j + 2) (nI a)) 8 3 j v 8 6 (T (10 * j)) = nI (T (300 + T (10 * j))) := fun v => by rw [up3_n (by omega), up3_n (by omega)]; exact hS.gq (by omega)
      rw [F_L_end_135_s, iLe (by omega) (by omega), if_pos (Nat.le_refl _), g32 hj, gS_e, gB_n _ hj (by omega), gD_n (by omega) (by omega), gB_n _ hj (by omega), r1, hdv, nI_add, gS_e, g30 hj, r2, gB_n _ (show T (10 * j) < 6 by omega) (by omega), gD_n (by omega) (by omega), gB_n _ (show T (10 * j) < 6 by omega) (by omega), r3, nI_add, gS_e, iE1 (by omega)]
      unfold F_L_end_224
      by_cases c : a = 1
      · rw [if_pos c, if_pos c, gS_e, nI_1, gS_e]
      · rw [if_neg c, if_neg c, gS_e, nI_1, gS_e, Int32.or_zero]
    · exact ((hS.u8 hj a).u9 hj _).uq (by omega) _
  · intro fu acc q hq hI
    right
    refine ⟨_, rfl, ?_⟩
    show F_L_end_135 rec6 (fu + 1) w x5 (nI j) (nI a) (nI n) (nI acc) (nI q) = F_L_end_135 rec6 fu w x5 (nI j) (nI a) (nI n) (nI ((if a = 1 then 1 else 0) + fb_sm (fun i => T 317 + 1 - a - i) (q + 1))) (nI (q + 1))
    rw [F_L_end_135_s, iLe (by omega) (by omega), if_neg (by omega), hS.la, nI_1, pk_sub (by omega), pk_sub (by omega), nI_add, gS_e, nI_1, gS_e, hI, fb_sm_succ, Nat.add_assoc]
theorem L_end6 (hB : WB S) (h2 : S 310 = 2) (hN : S 311 ≤ 20) (hc : fb_ct (tm S) (S 311) ≤ S 317) : ∀ (d fu : Nat) (w : gWd) (j : Nat), j + d = S 311 → d < fu → LV w (Se S j) → ∃ w', F_L_end_6 fu w (nI (bn (fstP S) j)) (nI j) = some (nI (bn (fstP S) (S 311)), w') ∧ agL w w' ∧ LV w' (Send S) := by
  intro d
  have hl := hB.2.2.2.2.2.1
  induction d with
  | zero =>
    intro fu w j hj hfu hS
    obtain ⟨fu, rfl⟩ : ∃ f, fu = f + 1 := ⟨fu - 1, by omega⟩
    obtain rfl : j = S 311 := by omega
    have e11 : Se S (S 311) 311 = S 311 := Se_n hB (by omega) (by omega)
    have e13 : Se S (S 311) 313 = S 313 := Se_n hB (by omega) (by omega)
    refine ⟨up3 (up3 w 8 5 0 (nI 3)) 8 5 3 (nI (S 313 + 1)), ?_, (agL.up _ _ _).tr (agL.up _ _ _), (hS.ut (j := 0) (by omega) 3).ut (j := 3) (by omega) (S 313 + 1)⟩
    have r3 : ∀ v, up3 w 8 5 0 v 8 5 3 = nI (S 313) := fun v => by rw [up3_n (by omega), hS.ev, e13]
    rw [F_L_end_6_s, hS.N, e11, iLe (by omega) (by omega), if_pos (Nat.le_refl _), gS_e, r3, nI_1, gS_e]
    rfl
  | succ d ih =>
    intro fu w j hj hfu hS
    obtain ⟨fu, rfl⟩ : ∃ f, fu = f + 1 := ⟨fu - 1, by omega⟩
    have hj2 : j < 20 := by omega
    have e11 : Se S j 311 = S 311 := Se_n hB (by omega) (by omega)
    have e17 : Se S j 317 = S 317 := Se_n hB (by omega) (by omega)
    have e0 : Se S j (10 * j) = S (10 * j) := Se_n hB (by omega) (by omega)
    have e9 : Se S j (10 * j + 9) = S (10 * j + 9) := by rw [Se_9 hB (by omega) (by omega), if_neg (by omega)]
    have h7 : ∀ q, q < 20 → w 8 2 (3 * q + 1) = nI (S (10 * q + 7)) ∧ S (10 * q + 7) ≤ 1000 := fun q hq => ⟨by rw [hS.g7 hq, Se_n hB (by omega) (by omega)], (hB.k (k := q) (by omega)).2.2.2.2.2.2.2.1⟩
    have hF : F_L_end_6 (fu + 1) w (nI (bn (fstP S) j)) (nI j) = F_L_end_23 (F_L_end_6 fu) gFU w (nI (bn (fstP S) j)) (nI j) 1 0 0 := by
      rw [F_L_end_6_s, hS.N, e11, iLe (by omega) (by omega), if_neg (by omega)]
    rw [hF, L_end23 hN (by omega) (by rw [hS.N, e11]) h7]
    by_cases c : S (10 * j + 7) ≤ 1
    · have ht : ¬ tm S j = true := fun z => absurd (tm_t.mp z) (by omega)
      rw [if_pos c, ← bs_f (p := fstP S) (n := j) (by unfold fstP; simp only [Bool.and_eq_true]; exact fun z => ht z.1)]
      refine ih fu w (j + 1) (by omega) (by omega) ?_
      show LV w (if tm S j = true then _ else Se S j)
      rw [if_neg ht]
      exact hS
    · have ht : tm S j = true := tm_t.mpr (by omega)
      have hps := pl_sh ht
      have hsp := sh_pos (S := S) (j := j) (by omega)
      have hpl := pl_le (S := S) (j := j) (by omega) ht
      rw [if_neg c]
      obtain ⟨w', f1, a1, l1⟩ := L_end135 (rec6 := F_L_end_6 fu) (x5 := nI (bn (fstP S) j)) (a := pl S j) (n := sh S j) hS (Se_WB hB (by omega)) hj2 hpl.1 hsp (by rw [e17]; omega)
      rw [e17, e0, e9] at l1
      have eS : upN (upN (upN (Se S j) (10 * j + 8) (pl S j)) (10 * j + 9) (S (10 * j + 9) + 2 * sumw (S 317) (pl S j) (sh S j) / sh S j)) (300 + S (10 * j)) (Se S j (300 + S (10 * j)) + 2 * sumw (S 317) (pl S j) (sh S j) / sh S j) = Se S (j + 1) := by
        show _ = if tm S j = true then _ else Se S j
        rw [if_pos ht]
        rfl
      rw [eS] at l1
      have eb : (if pl S j = 1 then nI (bn (fstP S) j) ||| (1 <<< (nI j &&& 31)) else nI (bn (fstP S) j)) = nI (bn (fstP S) (j + 1)) := by
        by_cases c1 : pl S j = 1
        · rw [if_pos c1, bs_t (by omega) (by unfold fstP; rw [ht, decide_eq_true c1]; rfl)]
        · rw [if_neg c1, bs_f (p := fstP S) (n := j) (by unfold fstP; simp only [Bool.and_eq_true]; exact fun z => c1 (of_decide_eq_true z.2))]
      rw [eb] at f1
      obtain ⟨w2, f2, a2, l2⟩ := ih fu w' (j + 1) (by omega) (by omega) l1
      exact ⟨w2, f1.trans f2, a1.tr a2, l2⟩
theorem L_end {w : gWd} {EB : Nat} (hI : IV EB S) (hS : LV w S) (hN : S 311 ≤ 20) (h2 : S 310 = 2) : ∃ w', F_L_end w = some (nI (bn (fstP S) (S 311)), w') ∧ agL w w' ∧ LV w' (Send S) :=
  L_end6 hI.wb h2 hN (tm_room hI h2) (S 311) gFU w 0 (by omega) (by unfold gFU; omega) hS
end LEND
