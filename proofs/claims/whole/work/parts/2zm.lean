/-! level 2: all orders of the text -/
theorem r_npos {r : Int32} (h : 0 ≤ r) : ¬ r < 0 := by
  rw [Int32.lt_iff_toInt_lt]
  rw [Int32.le_iff_toInt_le] at h
  omega
section PLR
variable {T : Nat} {c : Nat → Nat}
theorem ag7.q {w w' : gWd} (h : ag7 w w') : agQ w w' := fun a b e he => h a b e (by omega)
theorem agr.n {w w' : gWd} (h : agr w w') : agN w w' := fun a b e he => h a b e (by omega)
theorem pl_a {T p p' d : Nat} (h : T ≤ p + (d + 1)) (h2 : p + 1 ≤ p') : T ≤ p' + d := by omega
theorem pl_b {T p j p' : Nat} (hT : T ≤ 60) (hp : p < T) (hj : j ≤ p) (h : p' ≤ p + 10) : p' ≤ 100 ∧ j < 60 := by omega
theorem CV.b {w w' : gWd} {S : Nat → Nat} {i : Nat} (h : w' i = w i) (hC : CV (w i) S) : CV (w' i) S := by rw [h]; exact hC
theorem RV.b {w w' : gWd} {S : Nat → Nat} {i : Nat} (h : w' i = w i) (hC : RV (w i) S) : RV (w' i) S := by rw [h]; exact hC
theorem ag7.blk {w w' : gWd} (h : ag7 w w') {i : Nat} (hi : i ≠ 7) : w' i = w i := funext fun b => funext fun e => h i b e (by omega)
theorem agr.s {w w' : gWd} {S : Nat → Nat} (h : agr w w') (hS : SV w S) : SV w' S := hS.of (funext fun e => h 8 1 e (by omega))
theorem agQ5 {w w' : gWd} (h : ∀ a b e, ¬ (a = 7 ∧ b = 5) → w' a b e = w a b e) : agQ w w' := fun a b e he => h a b e (by omega)
theorem agN0 {w w' : gWd} (h : ∀ a b e, ¬ (a = 8 ∧ b = 0 ∧ (e = 4 ∨ 8 ≤ e)) → w' a b e = w a b e) : agN w w' := fun a b e he => h a b e (by omega)
theorem PLAYS (hT60 : T ≤ 60) : ∀ (d p j : Nat) (S : Nat → Nat) (EB : Nat), T ≤ p + d → p ≤ 100 → j ≤ p → j ≤ 100 → IV EB S → (∃ cc : Nat → Nat → Int32, CV cc S ∧ RV cc S) → ∃ fl pos cause n S', fl ≤ 2 ∧ n ≤ j + d ∧ IV (EB + d) S' ∧ (∃ cc : Nat → Nat → Int32, CV cc S' ∧ RV cc S') ∧ PCS T c p j d S fl pos cause n S' ∧ PMS T c p j d S fl pos cause n S' := by
  intro d
  induction d with
  | zero =>
    intro p j S EB h hp hj hj2 hI hc
    exact ⟨0, 0, 0, j, S, by omega, by omega, hI, hc, PCS_end (by omega) (by omega) (by omega) _ _, PMS_end (by omega) (by omega) _ _⟩
  | succ d ih =>
    intro p j S EB h hp hj hj2 hI hc
    by_cases hT : T ≤ p
    · exact ⟨0, 0, 0, j, S, by omega, by omega, hI.mono (by omega), hc, PCS_end hT (by omega) (by omega) _ _, PMS_end hT (by omega) _ _⟩
    have hpT : p < T := by omega
    obtain ⟨r1, r2, r3, r4⟩ := rd_in T c p
    obtain ⟨b1, b2⟩ := pl_b hT60 hpT hj r3
    by_cases hok : (rd T c p).1 = 0
    · -- it cannot be read
      refine ⟨1, p, nI (rd T c p).2 - nI p, 0, S, by omega, by omega, hI.mono (by omega), hc, ?_, ?_⟩
      · intro w fu hX h33 h52 h50 hC hR hfu
        obtain ⟨fu, rfl⟩ : ∃ f, fu = f + 1 + 1 := ⟨fu - 2, by omega⟩
        obtain ⟨w8, f1, f2, f3, f4, f5⟩ := C_read hX h33 (by omega)
        obtain ⟨w', g1, g2, g3, g4, g5⟩ := C_fail (w := w8) (fu := fu) (p := p) (x4 := nI j) (xs := nI (rd T c p).2 - nI p) (ok := 0) f3 (by omega)
        have hq : agQ w w' := f2.q.tr (agQ5 g2)
        have e1 : w' 1 = w 1 := funext fun b => funext fun e => by rw [g2 1 b e (by omega), f2 1 b e (by omega)]
        refine ⟨w', ?_, hq, CV.b e1 hC, RV.b e1 hR, g3, fun _ => ⟨g4, g5⟩, fun z => absurd z (by omega)⟩
        rw [F_X7_tryOrders_22_s, h52, if_pos rfl, C_hasMore hX h33 (by omega), gP_s, if_pos hpT, if_neg (show ¬ nI 1 = 0 by decide), show (60 : Int32) = nI 60 from rfl, iLe (by omega) (by omega), if_neg (by omega), f1, gC_s, hok, if_pos (show nI 0 = 0 from rfl)]
        unfold F_X7_tryOrders_72
        rw [if_pos (show nI 0 = 0 from rfl), f4, f3]
        exact g1
      · intro w fu hX h8 h4 h12 hS hfu
        obtain ⟨fu, rfl⟩ : ∃ f, fu = f + 1 + 1 := ⟨fu - 2, by omega⟩
        have hX1 := (agN.up (w := w) (j := 9) (v := w 8 0 8) (by omega)).tx hX
        obtain ⟨w6, f1, f2, f3, f4⟩ := M_read hX1 (by rw [up3_n (by omega)]; exact h8) (by omega)
        have h9 : w6 8 0 9 = nI p := by rw [f2 8 0 9 (by omega), up3_s, h8]
        obtain ⟨w', g1, g2, g3, g4, g5, g6⟩ := M_fail (w := w6) (fu := fu) (p := p) (ok := 0) (fl := 1) (xs := nI (rd T c p).2 - nI p) (x3 := 0) h9 (by omega) (by omega) (by rw [if_pos rfl, f3, h9])
        have hq : agN w w' := ((agN.up (w := w) (j := 9) (v := w 8 0 8) (by omega)).tr f2.n).tr (agN0 g2)
        refine ⟨w', ?_, hq, fun t ht => ?_, g3, fun _ => ⟨g4, g5, g6⟩, fun z => absurd z (by omega)⟩
        · rw [F_X12_plays_22_s, hX.2.2.1, h8, iLe (by omega) (by omega), if_neg hT, if_neg (show ¬ (1 : Int32) = 0 by decide), gS_e]
          rw [h8] at f1
          rw [f1, gC_s, hok, if_pos (show nI 0 = 0 from rfl)]
          unfold F_X12_plays_62
          rw [if_pos (show nI 0 = 0 from rfl), g1]
          rfl
        · rw [g2 8 1 t (by omega), f2 8 1 t (by omega), up3_n (by omega)]; exact hS t ht
    · have hok1 : (rd T c p).1 = 1 := by omega
      obtain ⟨r5, r6⟩ := r4 hok1
      obtain ⟨cc, hcc1, hcc2⟩ := hc
      obtain ⟨r, ⟨hr, oc, om⟩ | ⟨hr, S1, hI1, oc, om⟩⟩ := OK_one (i := 1) r6 hI ⟨cc, hcc2⟩ (nI (na T c p)) (nI (nb T c p))
      · -- it is refused
        refine ⟨2, p, r, 0, S, by omega, by omega, hI.mono (by omega), ⟨cc, hcc1, hcc2⟩, ?_, ?_⟩
        · intro w fu hX h33 h52 h50 hC hR hfu
          obtain ⟨fu, rfl⟩ : ∃ f, fu = f + 1 + 1 := ⟨fu - 2, by omega⟩
          obtain ⟨w8, f1, f2, f3, f4, f5⟩ := C_read hX h33 (by omega)
          obtain ⟨k1, k2, k3⟩ := f5 hok1
          obtain ⟨w', g1, g2, g3, g4, g5⟩ := C_fail (w := w8) (fu := fu) (p := p) (x4 := nI j) (xs := r) (ok := 1) f3 (by omega)
          have hq : agQ w w' := f2.q.tr (agQ5 g2)
          have e1 : w' 1 = w 1 := funext fun b => funext fun e => by rw [g2 1 b e (by omega), f2 1 b e (by omega)]
          have e8 : w8 1 = w 1 := f2.blk (by omega)
          refine ⟨w', ?_, hq, CV.b e1 hC, RV.b e1 hR, g3, fun _ => ⟨g4, g5⟩, fun z => absurd z (by omega)⟩
          rw [F_X7_tryOrders_22_s, h52, if_pos rfl, C_hasMore hX h33 (by omega), gP_s, if_pos hpT, if_neg (show ¬ nI 1 = 0 by decide), show (60 : Int32) = nI 60 from rfl, iLe (by omega) (by omega), if_neg (by omega), f1, gC_s, hok1, if_neg (show ¬ nI 1 = 0 by decide), obey_eq k1 r6 k2 k3, oc w8 (CV.b e8 hC) (RV.b e8 hR), gC_s]
          unfold F_X7_tryOrders_72
          rw [if_neg (show ¬ nI 1 = 0 by decide), if_pos hr]
          exact g1
        · intro w fu hX h8 h4 h12 hS hfu
          obtain ⟨fu, rfl⟩ : ∃ f, fu = f + 1 + 1 := ⟨fu - 2, by omega⟩
          have hX1 := (agN.up (w := w) (j := 9) (v := w 8 0 8) (by omega)).tx hX
          obtain ⟨w6, f1, f2, f3, f4⟩ := M_read hX1 (by rw [up3_n (by omega)]; exact h8) (by omega)
          obtain ⟨k1, k2, k3⟩ := f4 hok1
          have h9 : w6 8 0 9 = nI p := by rw [f2 8 0 9 (by omega), up3_s, h8]
          have hS6 : SV w6 S := f2.s (hS.of (up3_r (by omega)))
          obtain ⟨w', g1, g2, g3, g4, g5, g6⟩ := M_fail (w := w6) (fu := fu) (p := p) (ok := 1) (fl := 2) (xs := r) (x3 := r) h9 (by omega) (by omega) (by rw [if_neg (by omega)])
          have hq : agN w w' := ((agN.up (w := w) (j := 9) (v := w 8 0 8) (by omega)).tr f2.n).tr (agN0 g2)
          refine ⟨w', ?_, hq, fun t ht => ?_, g3, fun _ => ⟨g4, g5, g6⟩, fun z => absurd z (by omega)⟩
          · rw [F_X12_plays_22_s, hX.2.2.1, h8, iLe (by omega) (by omega), if_neg hT, if_neg (show ¬ (1 : Int32) = 0 by decide), gS_e]
            rw [h8] at f1
            rw [f1, gC_s, hok1, if_neg (show ¬ nI 1 = 0 by decide), does_eq k1 r6 k2 k3, om w6 hS6, gC_s]
            unfold F_X12_plays_62
            rw [if_neg (show ¬ nI 1 = 0 by decide), if_pos hr, g1]
            rfl
          · rw [g2 8 1 t (by omega)]; exact hS6 t ht
      · -- it is obeyed
        have hc1 : ∃ cc : Nat → Nat → Int32, CV cc S1 ∧ RV cc S1 := by
          obtain ⟨w', _, _, k1, k2⟩ := oc (fun _ => cc) hcc1 hcc2
          exact ⟨_, k1, k2⟩
        obtain ⟨fl, pos, cause, n, S2, i1, i0, i2, i3, i4, i5⟩ := ih (rd T c p).2 (j + 1) S1 (EB + 1) (pl_a h r5) b1 (by omega) (by omega) hI1 hc1
        refine ⟨fl, pos, cause, n, S2, i1, by omega, i2.mono (by omega), i3, ?_, ?_⟩
        · intro w fu hX h33 h52 h50 hC hR hfu
          obtain ⟨fu, rfl⟩ : ∃ f, fu = f + 1 := ⟨fu - 1, by omega⟩
          obtain ⟨w8, f1, f2, f3, f4, f5⟩ := C_read hX h33 (by omega)
          obtain ⟨k1, k2, k3⟩ := f5 hok1
          have e8 : w8 1 = w 1 := f2.blk (by omega)
          obtain ⟨w12, q1, q2, q3, q4⟩ := oc w8 (CV.b e8 hC) (RV.b e8 hR)
          have hq12 : agQ w w12 := f2.q.tr (fun a b e he => by rw [q2 a (by omega)])
          have hq15 : agQ w (up3 w12 7 5 0 (nI (j + 1))) := hq12.tr agQ.up
          have e15 : up3 w12 7 5 0 (nI (j + 1)) 1 = w12 1 := up3_b (by omega)
          have e52 : w12 7 5 2 = 0 := by rw [q2 7 (by omega), f2 7 5 2 (by omega)]; exact h52
          have e50 : w12 7 5 0 = nI j := by rw [q2 7 (by omega), f2 7 5 0 (by omega)]; exact h50
          have e33 : w12 7 3 3 = nI (rd T c p).2 := by rw [q2 7 (by omega)]; exact f4
          obtain ⟨w', m1, m2, m3, m4, m5, m6, m7⟩ := i4 (up3 w12 7 5 0 (nI (j + 1))) fu (hq15.tx hX) (by rw [up3_n (by omega)]; exact e33) (by rw [up3_n (by omega)]; exact e52) (up3_s _ _ _ _ _) (CV.b e15 q3) (RV.b e15 q4) (by omega)
          refine ⟨w', ?_, hq15.tr m2, m3, m4, m5, m6, m7⟩
          rw [F_X7_tryOrders_22_s, h52, if_pos rfl, C_hasMore hX h33 (by omega), gP_s, if_pos hpT, if_neg (show ¬ nI 1 = 0 by decide), show (60 : Int32) = nI 60 from rfl, iLe (by omega) (by omega), if_neg (by omega), f1, gC_s, hok1, if_neg (show ¬ nI 1 = 0 by decide), obey_eq k1 r6 k2 k3, q1, gC_s]
          unfold F_X7_tryOrders_72
          rw [if_neg (show ¬ nI 1 = 0 by decide), if_neg (show ¬ r < 0 from r_npos hr), gS_e, gS_e, e50, nI_1]
          exact m1
        · intro w fu hX h8 h4 h12 hS hfu
          obtain ⟨fu, rfl⟩ : ∃ f, fu = f + 1 := ⟨fu - 1, by omega⟩
          have hX1 := (agN.up (w := w) (j := 9) (v := w 8 0 8) (by omega)).tx hX
          obtain ⟨w6, f1, f2, f3, f4⟩ := M_read hX1 (by rw [up3_n (by omega)]; exact h8) (by omega)
          obtain ⟨k1, k2, k3⟩ := f4 hok1
          have hS6 : SV w6 S := f2.s (hS.of (up3_r (by omega)))
          have h46 : w6 8 0 4 = 1 := by rw [f2 8 0 4 (by omega), up3_n (by omega)]; exact h4
          have hch : F_X12_changes w6 = some w6 := by
            unfold F_X12_changes
            rw [h46, if_neg (by decide)]
          obtain ⟨w10, q1, q2, q3⟩ := om w6 w6 hS6 hch (fun _ _ _ => rfl)
          have e12 : w10 8 0 12 = nI j := by rw [q2 8 0 (by omega), f2 8 0 12 (by omega), up3_n (by omega)]; exact h12
          have e8 : w10 8 0 8 = nI (rd T c p).2 := by rw [q2 8 0 (by omega)]; exact f3
          have e4 : w10 8 0 4 = 1 := by rw [q2 8 0 (by omega)]; exact h46
          have hN10 : agN w w10 := ((agN.up (w := w) (j := 9) (v := w 8 0 8) (by omega)).tr f2.n).tr (fun a b e he => by rw [q2 a b (by omega)])
          have hN17 : agN w (up3 (up3 (up3 w10 8 0 10 2) 8 0 11 r) 8 0 12 (nI (j + 1))) := hN10.tr (((agN.up (by omega)).tr (agN.up (by omega))).tr (agN.up (by omega)))
          obtain ⟨w', m1, m2, m3, m4, m5, m6⟩ := i5 (up3 (up3 (up3 w10 8 0 10 2) 8 0 11 r) 8 0 12 (nI (j + 1))) fu (hN17.tx hX) (by rw [up3_n (by omega), up3_n (by omega), up3_n (by omega)]; exact e8) (by rw [up3_n (by omega), up3_n (by omega), up3_n (by omega)]; exact e4) (up3_s _ _ _ _ _) (q3.of (by rw [up3_r (by omega), up3_r (by omega), up3_r (by omega)])) (by omega)
          refine ⟨w', ?_, hN17.tr m2, m3, m4, m5, m6⟩
          rw [F_X12_plays_22_s, hX.2.2.1, h8, iLe (by omega) (by omega), if_neg hT, if_neg (show ¬ (1 : Int32) = 0 by decide), gS_e]
          rw [h8] at f1
          rw [f1, gC_s, hok1, if_neg (show ¬ nI 1 = 0 by decide), does_eq k1 r6 k2 k3, q1, gC_s]
          unfold F_X12_plays_62 F_X12_plays_76 F_X12_plays_87 F_X12_plays_108
          rw [if_neg (show ¬ nI 1 = 0 by decide), if_neg (show ¬ r < 0 from r_npos hr), if_neg (show ¬ nI 1 = 0 by decide), gS_e, if_neg (show ¬ nI 1 = 0 by decide), gS_e, gS_e, up3_n (by omega), up3_n (by omega), e12, nI_1]
          exact m1
end PLR
