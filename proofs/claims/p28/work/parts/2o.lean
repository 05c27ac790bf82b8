/-! level 2: end, whole -/
def Send (S : Nat → Nat) : Nat → Nat := upN (upN (Se S (S 311)) 310 3) 313 (S 313 + 1)
def fstP (S : Nat → Nat) (q : Nat) : Bool := tm S q && decide (pl S q = 1)
section ENDW
variable {S : Nat → Nat} {EB : Nat}
theorem Send_IV (hI : IV EB S) (hc : fb_ct (tm S) (S 311) ≤ S 317) : IV (EB + 1) (Send S) := by
  have hB := hI.wb
  have hN := hB.1
  have h7 := hB.2.2.2.2.2.1
  have hT := Se_WB hB (j := S 311) (Nat.le_refl _)
  have hlo : ∀ q, q < 310 → Send S q = Se S (S 311) q := fun q hq => by unfold Send; rw [upN_n (by omega), upN_n (by omega)]
  have hn : ∀ t, (t < 300 ∧ t % 10 < 8) ∨ (306 ≤ t ∧ t ≠ 310 ∧ t ≠ 313) → Send S t = S t := fun t ht => by unfold Send; rw [upN_n (by omega), upN_n (by omega)]; exact Se_n hB (by omega) (by omega)
  have e310 : Send S 310 = 3 := by unfold Send; rw [upN_n (by omega), upN_s]
  have e313 : Send S 313 = S 313 + 1 := upN_s _ _ _
  have e311 := hn 311 (by omega)
  refine ⟨?_, ?_, ?_, ?_, ?_, ?_, ?_, ?_, ?_⟩
  · obtain ⟨b1, b2, b3, b4, b5, b6, b7, b8, b9, b10⟩ := hT
    refine ⟨by omega, by omega, ?_, ?_, ?_, ?_, ?_, ?_, fun p hp => ?_, fun k hk a ha => ?_⟩
    · rw [hn 312 (by omega)]; exact hB.2.2.1
    · rw [hn 314 (by omega)]; exact hB.2.2.2.1
    · rw [hn 315 (by omega)]; exact hB.2.2.2.2.1
    · rw [hn 317 (by omega)]; exact h7
    · rw [hn 318 (by omega)]; exact hB.2.2.2.2.2.2.1
    · rw [hn 319 (by omega)]; exact hB.2.2.2.2.2.2.2.1
    · rw [hlo _ (by omega)]; exact b9 p hp
    · rw [hlo _ (by omega)]; exact b10 k hk a ha
  · intro k h1 h2 a h3 h4
    rw [e311] at h1
    rw [hlo _ (by omega)]
    have ho := hI.out h1 h2 h3 h4
    by_cases e8 : a = 8
    · subst e8; rw [Se_8 hB h2 (by omega), if_neg (fun z => by omega)]; exact ho
    · by_cases e9 : a = 9
      · subst e9; rw [Se_9 hB h2 (by omega), if_neg (fun z => by omega)]; exact ho
      · rw [Se_n hB (by omega) (by omega)]; exact ho
  · intro h; omega
  · intro h; omega
  · intro h; omega
  · intro q hq
    rw [hlo _ (by omega), Se_cl hB (fun q hq => hI.cl hq) hq (Nat.le_refl _), e311]
    unfold clubSum
    exact fb_sm_cong (fun z hz => by rw [hlo (10 * z) (by omega), hlo (10 * z + 9) (by omega)])
  · intro k hk
    rw [e311] at hk
    have hp := hI.pt hk
    rw [hlo _ (by omega), Se_9 hB (by omega) (by omega), e313]
    by_cases e : k < S 311 ∧ tm S k = true
    · have := ptS_le hk e.2 hc
      rw [if_pos e]; omega
    · rw [if_neg e]; omega
  · have := hI.eb
    omega
  · exact IW.no (by omega)
theorem C_end22 {i : Nat} (hI : IV EB S) (h2 : S 310 = 2) (hc : fb_ct (tm S) (S 311) ≤ S 317) : ∀ (d fu : Nat) (w : gWd) (j : Nat), j + d = S 311 → d < fu → CV (w i) (Se S j) → RV (w i) S →
    ∃ w', F_X1_endEvent_22 fu w i (nI (bn (fstP S) j)) (nI j) = some (nI (bn (fstP S) (S 311)), w') ∧ agB i w w' ∧ CV (w' i) (Send S) ∧ RV (w' i) (Send S) := by
  have hB := hI.wb
  have hN := hB.1
  intro d
  induction d with
  | zero =>
    intro fu w j hjd hfu hC hR
    obtain ⟨fu, rfl⟩ : ∃ f, fu = f + 1 := ⟨fu - 1, by omega⟩
    have ej : j = S 311 := by omega
    subst ej
    have e311 : Se S (S 311) 311 = S 311 := Se_n hB (by omega) (by omega)
    have e313 : Se S (S 311) 313 = S 313 := Se_n hB (by omega) (by omega)
    have hC1 : CV (up3 w i 0 4 (nI 3) i) (upN (Se S (S 311)) 310 3) := hC.up0 (by rw [e311]; exact hN) (by omega)
    have hC2 : CV (up3 (up3 w i 0 4 (nI 3)) i 0 8 (nI (S 313 + 1)) i) (Send S) := hC1.up0 (by rw [upN_n (by omega), e311]; exact hN) (by omega)
    have e8 : up3 w i 0 4 (nI 3) i 0 8 = nI (S 313) := by rw [up3_n (by omega), hC.ev, e313]
    have hn : ∀ t, (t < 300 ∧ t % 10 < 8) ∨ (306 ≤ t ∧ t ≠ 310 ∧ t ≠ 313) → Send S t = S t := fun t ht => by unfold Send; rw [upN_n (by omega), upN_n (by omega)]; exact Se_n hB (by omega) (by omega)
    refine ⟨_, ?_, (agB.up _ _ _).tr (agB.up _ _ _), hC2, ?_⟩
    · rw [F_X1_endEvent_22_s, hC.sz, e311, iLe (by omega) (by omega), if_pos (Nat.le_refl _), gS_e, gS_e]
      show some (_, up3 (up3 w i 0 4 (nI 3)) i 0 8 (up3 w i 0 4 (nI 3) i 0 8 + 1)) = _
      rw [e8, nI_1]
    · refine hR.cg (by rw [up3_n (by omega), up3_n (by omega)]) (by rw [up3_r (by omega), up3_r (by omega)]) (by rw [hn 311 (by omega)]; exact Nat.le_refl _) (fun p hp => hn _ (by omega)) (fun k hk => ⟨hn _ (by omega), hn _ (by omega)⟩) (fun z => ?_)
      have e310 : Send S 310 = 3 := by unfold Send; rw [upN_n (by omega), upN_s]
      omega
  | succ d ih =>
    intro fu w j hjd hfu hC hR
    obtain ⟨fu, rfl⟩ : ∃ f, fu = f + 1 := ⟨fu - 1, by omega⟩
    have hj : j < S 311 := by omega
    have e311 : Se S j 311 = S 311 := Se_n hB (by omega) (by omega)
    have h8 : S (10 * j + 8) = 0 := (hI.s2 h2 j hj).2
    have hC1 : CV ((if tm S j = true then up3 (up3 w i (4 + j) 9 (nI (pl S j))) i (4 + j) 10 (nI (S (10 * j + 9) + ptS S j)) else w) i) (Se S (j + 1)) := by
      show CV _ (if tm S j = true then _ else _)
      have hcl := (hB.k (k := j) (by omega)).1
      by_cases e : tm S j = true
      · rw [if_pos e, if_pos e]
        exact ((hC.upk (k := j) (a := 8) (by omega) (by omega) rfl).upk (k := j) (a := 9) (by omega) (by omega) rfl).hi (by rw [upN_n (by omega), upN_n (by omega), e311]; exact hN) (by omega)
      · rw [if_neg e, if_neg e]; exact hC
    have hR1 : RV ((if tm S j = true then up3 (up3 w i (4 + j) 9 (nI (pl S j))) i (4 + j) 10 (nI (S (10 * j + 9) + ptS S j)) else w) i) S := by
      refine hR.cg ?_ ?_ (Nat.le_refl _) (fun _ _ => rfl) (fun _ _ => ⟨rfl, rfl⟩) (fun z => z)
      · split
        · rw [up3_n (by omega), up3_n (by omega)]
        · rfl
      · split
        · rw [up3_r (by omega), up3_r (by omega)]
        · rfl
    have hA : agB i w (if tm S j = true then up3 (up3 w i (4 + j) 9 (nI (pl S j))) i (4 + j) 10 (nI (S (10 * j + 9) + ptS S j)) else w) := by
      split
      · exact (agB.up _ _ _).tr (agB.up _ _ _)
      · exact agB.rf _ _
    have e9 : (if tm S j = true then up3 (up3 w i (4 + j) 9 (nI (pl S j))) i (4 + j) 10 (nI (S (10 * j + 9) + ptS S j)) else w) i (4 + j) 9 = nI (if tm S j = true then pl S j else 0) := by
      by_cases e : tm S j = true
      · rw [if_pos e, if_pos e, up3_n (by omega), up3_s]
      · rw [if_neg e, if_neg e, hC.f9 (by rw [e311]; exact hj), Se_8 hB (by omega) (by omega), if_neg (fun z => by omega), h8]
    have hpl : (if tm S j = true then pl S j else 0) ≤ 30 := by
      split
      · rename_i e
        have := pl_le hj e
        omega
      · omega
    obtain ⟨w', f1, f2, f3, f4⟩ := ih fu _ (j + 1) (by omega) (by omega) hC1 hR1
    refine ⟨w', ?_, hA.tr f2, f3, f4⟩
    rw [F_X1_endEvent_22_s, hC.sz, e311, iLe (by omega) (by omega), if_neg (by omega), gB_n _ (by omega) (by omega), C_place hB h2 hj hc hC, gP_s, gB_n _ (by omega) (by omega), e9, iE1 (by omega)]
    have hb : (if tm S j = true then pl S j else 0) = 1 ↔ fstP S j = true := by
      unfold fstP
      by_cases e : tm S j = true
      · rw [if_pos e, e]; simp
      · rw [if_neg e]; simp [e]
    by_cases e : fstP S j = true
    · rw [if_pos (hb.mpr e)]
      simp only [gS_e]
      rw [bs_t (by omega) e, nI_1]
      exact f1
    · rw [if_neg (fun z => e (hb.mp z))]
      simp only [gS_e]
      rw [nI_1]
      rw [bs_f e] at f1
      exact f1
end ENDW
