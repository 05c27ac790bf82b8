/-! level 2: end, whole -/
def Send (S : Nat → Nat) : Nat → Nat := upN (upN (Se S (S 311)) 310 3) 313 (S 313 + 1)
def fstP (S : Nat → Nat) (q : Nat) : Bool := tm S q && decide (pl S q = 1)
section ENDW
variable {S : Nat → Nat} {EB : Nat}
theorem Send_IV (hI : IV EB S) (hc : fb_ct (tm S) (S 311) ≤ S 317) : IV (EB + 1) (Send S) := by
  have hB := hI.wb
  have hN := hB.1
  have h7 := hB.2.2.2.2.2.1
  have hT := Se_WB hB (j := S 311) (Nat.le_refl _)
  have hlo : ∀ q, q < 310 → Send S q = Se S (S 311) q := fun q hq => by unfold Send; rw [upN_n (by omega), upN_n (by omega)]
  have hn : ∀ t, (t < 300 ∧ t % 10 < 8) ∨ (306 ≤ t ∧ t ≠ 310 ∧ t ≠ 313) → Send S t = S t := fun t ht => by unfold Send; rw [upN_n (by omega), upN_n (by omega)]; exact Se_n hB (by omega) (by omega)
  have e310 : Send S 310 = 3 := by unfold Send; rw [upN_n (by omega), upN_s]
  have e313 : Send S 313 = S 313 + 1 := upN_s _ _ _
  have e311 := hn 311 (by omega)
  refine ⟨?_, ?_, ?_, ?_, ?_, ?_, ?_, ?_, ?_⟩
  · obtain ⟨b1, b2, b3, b4, b5, b6, b7, b8, b9, b10⟩ := hT
    refine ⟨by omega, by omega, ?_, ?_, ?_, ?_, ?_, ?_, fun p hp => ?_, fun k hk a ha => ?_⟩
    · rw [hn 312 (by omega)]; exact hB.2.2.1
    · rw [hn 314 (by omega)]; exact hB.2.2.2.1
    · rw [hn 315 (by omega)]; exact hB.2.2.2.2.1
    · rw [hn 317 (by omega)]; exact h7
    · rw [hn 318 (by omega)]; exact hB.2.2.2.2.2.2.1
    · rw [hn 319 (by omega)]; exact hB.2.2.2.2.2.2.2.1
    · rw [hlo _ (by omega)]; exact b9 p hp
    · rw [hlo _ (by omega)]; exact b10 k hk a ha
  · intro k h1 h2 a h3 h4
    rw [e311] at h1
    rw [hlo _ (by omega)]
    have ho := hI.out h1 h2 h3 h4
    by_cases e8 : a = 8
    · subst e8; rw [Se_8 hB h2 (by omega), if_neg (fun z => by omega)]; exact ho
    · by_cases e9 : a = 9
      · subst e9; rw [Se_9 hB h2 (by omega), if_neg (fun z => by omega)]; exact ho
      · rw [Se_n hB (by omega) (by omega)]; exact ho
  · intro h; omega
  · intro h; omega
  · intro h; omega
  · intro q hq
    rw [hlo _ (by omega), Se_cl hB (fun q hq => hI.cl hq) hq (Nat.le_refl _), e311]
    unfold clubSum
    exact fb_sm_cong (fun z hz => by rw [hlo (10 * z) (by omega), hlo (10 * z + 9) (by omega)])
  · intro k hk
    rw [e311] at hk
    have hp := hI.pt hk
    rw [hlo _ (by omega), Se_9 hB (by omega) (by omega), e313]
    by_cases e : k < S 311 ∧ tm S k = true
    · have := ptS_le hk e.2 hc
      rw [if_pos e]; omega
    · rw [if_neg e]; omega
  · have := hI.eb
    omega
  · exact IW.no (by omega)
theorem C_end22 {i : Nat} (hI : IV EB S) (h2 : S 310 = 2) (hc : fb_ct (tm S) (S 311) ≤ S 317) : ∀ (d fu : Nat) (w : gWd) (j : Nat), j + d = S 311 → d < fu → CV (w i) (Se S j) → RV (w i) S →
    ∃ w', F_X1_endEvent_22 fu w i (nI (bn (fstP S) j)) (nI j) = some (nI (bn (fstP S) (S 311)), w') ∧ agB i w w' ∧ CV (w' i) (Send S) ∧ RV (w' i) (Send S) := by
  have hB := hI.wb
  have hN := hB.1
  intro d
  induction d with
  | zero =>
    intro fu w j hjd hfu hC hR
    obtain ⟨fu, rfl⟩ : ∃ f, fu = f + 1 := ⟨fu - 1, by omega⟩
    have ej : j = S 311 := by omega
    subst ej
    have e311 : Se S (S 311) 311 = S 311 := Se_n hB (by omega) (by omega)
    have e313 : Se S (S 311) 313 = S 313 := Se_n hB (by omega) (by omega)
    have hC1 : CV (up3 w i 0 4 (nI 3) i) (upN (Se S (S 311)) 310 3) := hC.up0 (by rw [e311]; exact hN) (by omega)
    have hC2 : CV (up3 (up3 w i 0 4 (nI 3)) i 0 8 (nI (S 313 + 1)) i) (Send S) := hC1.up0 (by rw [upN_n (by omega), e311]; exact hN) (by omega)
    have e8 : up3 w i 0 4 (nI 3) i 0 8 = nI (S 313) := by rw [up3_n (by omega), hC.ev, e313]
    have hn : ∀ t, (t < 300 ∧ t % 10 < 8) ∨ (306 ≤ t ∧ t ≠ 310 ∧ t ≠ 313) → Send S t = S t := fun t ht => by unfold Send; rw [upN_n (by omega), upN_n (by omega)]; exact Se_n hB (by omega) (by omega)
    refine ⟨_, ?_, (agB.up _ _ _).tr (agB.up _ _ _), hC2, ?_⟩
    · rw [F_X1_endEvent_22_s, hC.sz, e311, iLe (by omega) (by omega), if_pos (Nat.le_refl _), gS_e, gS_e]
      show some (_, up3 (up3 w i 0 4 (nI 3)) i 0 8 (up3 w i 0 4 (nI 3) i 0 8 + 1)) = _
      rw [e8, nI_1]
    · refine hR.cg (by rw [up3_n (by omega), up3_n (by omega)]) (by rw [up3_r (by omega), up3_r (by omega)]) (by rw [hn 311 (by omega)]; exact Nat.le_refl _) (fun p hp => hn _ (by omega)) (fun k hk => ⟨hn _ (by omega), hn _ (by omega)⟩) (fun z => ?_)
      have e310 : Send S 310 = 3 := by unfold Send; rw [upN_n (by omega), upN_s]
      omega
  | succ d ih =>
    intro fu w j hjd hfu hC hR
    obtain ⟨fu, rfl⟩ : ∃ f, fu = f + 1 := ⟨fu - 1, by omega⟩
    have hj : j < S 311 := by omega
    have e311 : Se S j 311 = S 311 := Se_n hB (by omega) (by omega)
    have h8 : S (10 * j + 8) = 0 := (hI.s2 h2 j hj).2
    have hC1 : CV ((if tm S j = true then up3 (up3 w i (4 + j) 9 (nI (pl S j))) i (4 + j) 10 (nI (S (10 * j + 9) + ptS S j)) else w) i) (Se S (j + 1)) := by
      show CV _ (if tm S j = true then _ else _)
      have hcl := (hB.k (k := j) (by omega)).1
      by_cases e : tm S j = true
      · rw [if_pos e, if_pos e]
        exact ((hC.upk (k := j) (a := 8) (by omega) (by omega) rfl).upk (k := j) (a := 9) (by omega) (by omega) rfl).hi (by rw [upN_n (by omega), upN_n (by omega), e311]; exact hN) (by omega)
      · rw [if_neg e, if_neg e]; exact hC
    have hR1 : RV ((if tm S j = true then up3 (up3 w i (4 + j) 9 (nI (pl S j))) i (4 + j) 10 (nI (S (10 * j + 9) + ptS S j)) else w) i) S := by
      refine hR.cg ?_ ?_ (Nat.le_refl _) (fun _ _ => rfl) (fun _ _ => ⟨rfl, rfl⟩) (fun z => z)
      · split
        · rw [up3_n (by omega), up3_n (by omega)]
        · rfl
      · split
        · rw [up3_r (by omega), up3_r (by omega)]
        · rfl
    have hA : agB i w (if tm S j = true then up3 (up3 w i (4 + j) 9 (nI (pl S j))) i (4 + j) 10 (nI (S (10 * j + 9) + ptS S j)) else w) := by
      split
      · exact (agB.up _ _ _).tr (agB.up _ _ _)
      · exact agB.rf _ _
    have e9 : (if tm S j = true then up3 (up3 w i (4 + j) 9 (nI (pl S j))) i (4 + j) 10 (nI (S (10 * j + 9) + ptS S j)) else w) i (4 + j) 9 = nI (if tm S j = true then pl S j else 0) := by
      by_cases e : tm S j = true
      · rw [if_pos e, if_pos e, up3_n (by omega), up3_s]
      · rw [if_neg e, if_neg e, hC.f9 (by rw [e311]; exact hj), Se_8 hB (by omega) (by omega), if_neg (fun z => by omega), h8]
    have hpl : (if tm S j = true then pl S j else 0) ≤ 30 := by
      split
      · rename_i e
        have := pl_le hj e
        omega
      · omega
    obtain ⟨w', f1, f2, f3, f4⟩ := ih fu _ (j + 1) (by omega) (by omega) hC1 hR1
    refine ⟨w', ?_, hA.tr f2, f3, f4⟩
    rw [F_X1_endEvent_22_s, hC.sz, e311, iLe (by omega) (by omega), if_neg (by omega), gB_n _ (by omega) (by omega), C_place hB h2 hj hc hC, gP_s, gB_n _ (by omega) (by omega), e9, iE1 (by omega)]
    have hb : (if tm S j = true then pl S j else 0) = 1 ↔ fstP S j = true := by
      unfold fstP
      by_cases e : tm S j = true
      · rw [if_pos e, e]; simp
      · rw [if_neg e]; simp [e]
    by_cases e : fstP S j = true
    · rw [if_pos (hb.mpr e)]
      simp only [gS_e]
      rw [bs_t (by omega) e, nI_1]
      exact f1
    · rw [if_neg (fun z => e (hb.mp z))]
      simp only [gS_e]
      rw [nI_1]
      rw [bs_f e] at f1
      exact f1
theorem M_end30 (hB : WB S) (h2 : S 310 = 2) (hc : fb_ct (tm S) (S 311) ≤ S 317) : ∀ (d fu : Nat) (w : gWd) (j : Nat), j + d = S 311 → d < fu → SV w (Se S j) →
    ∃ w', F_X12_end_30 fu w (nI (bn (fstP S) j)) (nI j) = some (nI (bn (fstP S) (S 311)), w') ∧ ag1 w w' ∧ SV w' (Send S) := by
  have hN := hB.1
  have h7 := hB.2.2.2.2.2.1
  intro d
  induction d with
  | zero =>
    intro fu w j hjd hfu hS
    obtain ⟨fu, rfl⟩ : ∃ f, fu = f + 1 := ⟨fu - 1, by omega⟩
    have ej : j = S 311 := by omega
    subst ej
    have e311 : Se S (S 311) 311 = S 311 := Se_n hB (by omega) (by omega)
    have e313 : Se S (S 311) 313 = S 313 := Se_n hB (by omega) (by omega)
    have hS2 : SV (up3 (up3 w 8 1 310 (nI 3)) 8 1 313 (nI (S 313 + 1))) (Send S) := (hS.up 310 3).up 313 _
    have e8 : up3 w 8 1 310 (nI 3) 8 1 313 = nI (S 313) := by rw [up3_n (by omega), hS 313 (by omega), e313]
    refine ⟨_, ?_, (ag1.up _ _).tr (ag1.up _ _), hS2⟩
    rw [F_X12_end_30_s, hS 311 (by omega), e311, iLe (by omega) (by omega), if_pos (Nat.le_refl _), gS_e, gS_e]
    show some (_, up3 (up3 w 8 1 310 (nI 3)) 8 1 313 (up3 w 8 1 310 (nI 3) 8 1 313 + 1)) = _
    rw [e8, nI_1]
  | succ d ih =>
    intro fu w j hjd hfu hS
    obtain ⟨fu, rfl⟩ : ∃ f, fu = f + 1 := ⟨fu - 1, by omega⟩
    have hj : j < S 311 := by omega
    have hT := Se_WB hB (j := j) (by omega)
    have hcl := (hB.k (k := j) (by omega)).1
    have hg := (hB.k (k := j) (by omega)).2.2.2.2.2.2.2.1
    have e311 : Se S j 311 = S 311 := Se_n hB (by omega) (by omega)
    have e317 : Se S j 317 = S 317 := Se_n hB (by omega) (by omega)
    have e7 : ∀ q, q < 30 → Se S j (10 * q + 7) = S (10 * q + 7) := fun q hq => Se_n hB (by omega) (by omega)
    have e0 : Se S j (10 * j) = S (10 * j) := Se_n hB (by omega) (by omega)
    have e9 : Se S j (10 * j + 9) = S (10 * j + 9) := by rw [Se_9 hB (by omega) (by omega), if_neg (fun z => by omega)]
    rw [F_X12_end_30_s, hS 311 (by omega), e311, iLe (by omega) (by omega), if_neg (by omega), M_of7 hS (by omega), gP_s, gS_e, e7 j (by omega)]
    by_cases ht : tm S j = true
    · have h1 := tm_t.mp ht
      have hpl := pl_le hj ht
      have hps := pl_sh ht
      have hsh := sh_pos (S := S) hj
      have k1 : F_X12_finishers w 1 (nI (S (10 * j + 7)) - 1 - 1) = some (nI (pl S j - 1)) := by
        rw [mN (by omega) (by omega), mN (by omega) (by omega)]
        have := M_finishers hS hT 1 (nI (S (10 * j + 7) - 1 - 1)) (fun q => tm S q && decide (S (10 * q + 7) < S (10 * j + 7))) (fun q hq => by
          rw [e311] at hq
          have hq7 := (hB.k (k := q) (by omega)).2.2.2.2.2.2.2.1
          rw [e7 q (by omega), show (1 : Int32) = nI 1 from rfl]
          have m1 := mLtn (a := S (10 * q + 7)) (b := 1) (by omega) (by omega)
          have m2 := mnLt (a := S (10 * q + 7)) (b := S (10 * j + 7) - 1 - 1) (by omega) (by omega)
          rw [show (nI 1 : Int32) = 1 from rfl] at m1 ⊢
          rw [m1, m2]
          simp [tm]
          omega)
        rw [this, e311]
        unfold pl
        rw [Nat.add_sub_cancel]
      have k2 : F_X12_finishers w (nI (S (10 * j + 7)) - 1) (nI (S (10 * j + 7)) - 1) = some (nI (sh S j)) := by
        have := M_finishers hS hT (nI (S (10 * j + 7)) - 1) (nI (S (10 * j + 7)) - 1) (fun q => decide (S (10 * q + 7) = S (10 * j + 7))) (fun q hq => by
          rw [e311] at hq
          have hq7 := (hB.k (k := q) (by omega)).2.2.2.2.2.2.2.1
          rw [e7 q (by omega), mLt (by omega) (by omega), mLt (by omega) (by omega)]
          simp
          omega)
        rw [this, e311]
        rfl
      have hS1 : SV (up3 (up3 (up3 w 8 1 (10 * j + 8) (nI (pl S j))) 8 1 (10 * j + 9) (nI (S (10 * j + 9) + ptS S j))) 8 1 (300 + S (10 * j)) (nI (Se S j (300 + S (10 * j)) + ptS S j))) (Se S (j + 1)) := by
        show SV _ (if tm S j = true then _ else _)
        rw [if_pos ht]
        exact ((hS.up _ _).up _ _).up _ _
      obtain ⟨w', f1, f2, f3⟩ := ih fu _ (j + 1) (by omega) (by omega) hS1
      refine ⟨w', ?_, ((ag1.up _ _).tr ((ag1.up _ _).tr (ag1.up _ _))).tr f2, f3⟩
      have k3 := M_end83 (rec30 := F_X12_end_30 fu) (x1 := nI (bn (fstP S) j)) (j0 := j) (a := pl S j) (n := sh S j) hS hT (by omega) hpl.1 hsh (by rw [e317]; omega)
      rw [e0, e9, e317] at k3
      rw [if_neg (fun z => absurd ((mLe0 (by omega)).mp z) (by omega)), k1, gP_s, gS_e, nI_1, show pl S j - 1 + 1 = pl S j by omega, k2, gP_s, k3]
      unfold F_X12_end_180
      have hb : fstP S j = decide (pl S j = 1) := by unfold fstP; rw [ht, Bool.true_and]
      simp only [gS_e]
      by_cases e : pl S j = 1
      · have e' : fstP S j = true := by rw [hb, decide_eq_true e]
        rw [if_pos e, bs_t (by omega) e', nI_1]
        exact f1
      · have e' : ¬ fstP S j = true := by rw [hb, decide_eq_false e]; decide
        rw [if_neg e, Int32.or_zero, nI_1]
        rw [bs_f e'] at f1
        exact f1
    · have h1 : ¬ 1 < S (10 * j + 7) := fun z => ht (tm_t.mpr z)
      have hS1 : SV w (Se S (j + 1)) := by
        show SV _ (if tm S j = true then _ else _)
        rw [if_neg ht]; exact hS
      obtain ⟨w', f1, f2, f3⟩ := ih fu _ (j + 1) (by omega) (by omega) hS1
      refine ⟨w', ?_, f2, f3⟩
      have e' : ¬ fstP S j = true := by simp [fstP, ht]
      rw [if_pos ((mLe0 (by omega)).mpr (by omega)), gS_e, nI_1]
      rw [bs_f e'] at f1
      exact f1
end ENDW
theorem OK_end {i EB : Nat} {S : Nat → Nat} (hI : IV EB S) : OK2 i (fun w => F_X1_endEvent w i) F_X12_end EB S := by
  have hB := hI.wb
  have hN := hB.1
  have hst := hB.2.1
  have hm2 : (-1000002 : Int32) < 0 := by decide
  have hw : whyN S ≤ 2 := by unfold whyN; split <;> (try split) <;> (try split) <;> omega
  by_cases h2 : S 310 = 2
  · by_cases z : whyN S = 0
    · have hc : fb_ct (tm S) (S 311) ≤ S 317 := by
        obtain ⟨a, b⟩ := hI.iw h2
        refine Nat.le_trans (fb_ct_sub (fun k hk hp => ?_)) a
        have := tm_t.mp hp
        exact decide_eq_true (b k hk (by omega))
      refine ⟨nI (bn (fstP S) (S 311)), Or.inr ⟨nI_pos' (by have := bn_30 (fstP S) (n := S 311) (by omega); omega), Send S, Send_IV hI hc, fun w hC hR => ?_, fun w wc hS hch hag => ?_⟩⟩
      · obtain ⟨w', f1, f2, f3, f4⟩ := C_end22 (i := i) hI h2 hc (S 311) gFU w 0 (by omega) (by unfold gFU; omega) hC hR
        refine ⟨w', ?_, f2, f3, f4⟩
        show F_X1_endEvent w i = _
        unfold F_X1_endEvent
        rw [hC.st, iE2 (by omega), if_pos h2, C_why hI hC, gP_s, iE0 (by omega), if_pos z]
        exact f1
      · have hSc := hag.sv hS
        obtain ⟨w', f1, f2, f3⟩ := M_end30 hB h2 hc (S 311) gFU wc 0 (by omega) (by unfold gFU; omega) hSc
        refine ⟨w', ?_, f2, f3⟩
        unfold F_X12_end
        rw [hS 310 (by omega), iE2 (by omega), if_pos h2, M_why hS hB, gP_s, iLe0 (by omega), if_pos z, hch, gP_s]
        exact f1
    · refine ⟨-1000002, Or.inl ⟨hm2, fun w hC _ => ?_, fun w hS => ?_⟩⟩
      · show F_X1_endEvent w i = _
        unfold F_X1_endEvent
        rw [hC.st, iE2 (by omega), if_pos h2, C_why hI hC, gP_s, iE0 (by omega), if_neg z]
      · unfold F_X12_end
        rw [hS 310 (by omega), iE2 (by omega), if_pos h2, M_why hS hB, gP_s, iLe0 (by omega), if_neg z]
  · refine ⟨-1000002, Or.inl ⟨hm2, fun w hC _ => ?_, fun w hS => ?_⟩⟩
    · show F_X1_endEvent w i = _
      unfold F_X1_endEvent
      rw [hC.st, iE2 (by omega), if_neg h2]
    · unfold F_X12_end
      rw [hS 310 (by omega), iE2 (by omega), if_neg h2]
