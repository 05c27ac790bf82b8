/-! level 2: copying a meet, ifDrawn -/
theorem up3_o {w : gWd} {i i1 r j : Nat} {v : Int32} (h : i1 ≠ i) (b c : Nat) : up3 w i r j v i1 b c = w i1 b c := up3_n (fun z => h z.1)
theorem C_copySw {u : gWd} {i0 i1 k : Nat} (h : i1 ≠ i0) (hz : u i1 (4 + k) 3 = 0 ∨ u i1 (4 + k) 3 = 1) : ∃ u', F_X10_copyFrom u i0 k i1 k = some u' ∧ (∀ a b c, ¬ (a = i0 ∧ b = 4 + k) → u' a b c = u a b c) ∧ ∀ c, 1 ≤ c → c ≤ 10 → u' i0 (4 + k) c = u i1 (4 + k) c := by
  unfold F_X10_copyFrom gZ
  simp only [gS_e, up3_o h]
  rw [if_pos hz]
  refine ⟨_, rfl, fun a b c hab => ?_, fun c h1 h2 => ?_⟩
  · rw [up3_n (fun z => hab ⟨z.1, z.2.1⟩), up3_n (fun z => hab ⟨z.1, z.2.1⟩), up3_n (fun z => hab ⟨z.1, z.2.1⟩), up3_n (fun z => hab ⟨z.1, z.2.1⟩), up3_n (fun z => hab ⟨z.1, z.2.1⟩), up3_n (fun z => hab ⟨z.1, z.2.1⟩), up3_n (fun z => hab ⟨z.1, z.2.1⟩), up3_n (fun z => hab ⟨z.1, z.2.1⟩), up3_n (fun z => hab ⟨z.1, z.2.1⟩), up3_n (fun z => hab ⟨z.1, z.2.1⟩)]
  · have : c = 1 ∨ c = 2 ∨ c = 3 ∨ c = 4 ∨ c = 5 ∨ c = 6 ∨ c = 7 ∨ c = 8 ∨ c = 9 ∨ c = 10 := by omega
    rcases this with rfl | rfl | rfl | rfl | rfl | rfl | rfl | rfl | rfl | rfl <;> simp [up3]
/-- what the copy has of the meet -/
def cpR (w : gWd) (i0 i1 : Nat) (u : gWd) (a b d : Nat) : Prop := agB i0 w u ∧ (∀ c, 3 ≤ c → c ≤ 10 → u i0 0 c = w i1 0 c) ∧ (∀ c, c < a → u i0 1 c = w i1 1 c) ∧ (∀ c, c < b → u i0 3 c = w i1 3 c) ∧ ∀ q, q < d → ∀ c, 1 ≤ c → c ≤ 10 → u i0 (4 + q) c = w i1 (4 + q) c
theorem C_copy116 {w u : gWd} {S : Nat → Nat} {i0 i1 : Nat} (h : i1 ≠ i0) (hC : CV (w i1) S) (hB : WB S) (hu : cpR w i0 i1 u 3 4 0) : ∃ w', F_X5_copyFrom_116 gFU u i0 i1 0 = some w' ∧ cpR w i0 i1 w' 3 4 (S 311) := by
  have hN := hB.1
  refine loopI (F := fun fu (v : gWd) j => F_X5_copyFrom_116 fu v i0 i1 (nI j)) (S 311) (fun j v => cpR w i0 i1 v 3 4 j) (fun o => ∃ w', o = some w' ∧ cpR w i0 i1 w' 3 4 (S 311)) ?_ ?_ gFU u 0 (by omega) (gFU_lt (by omega)) hu
  · intro fu v hv
    refine ⟨v, ?_, hv⟩
    show F_X5_copyFrom_116 (fu + 1) v i0 i1 (nI (S 311)) = _
    rw [F_X5_copyFrom_116_s, hv.2.1 3 (by omega) (by omega), hC.sz, iLe (by omega) (by omega), if_pos (Nat.le_refl _)]
  · intro fu v j hj hv
    right
    have hk := hB.k (k := j) (by omega)
    have e1 : v i1 = w i1 := hv.1 i1 h
    obtain ⟨v', f1, f2, f3⟩ := C_copySw (u := v) (i0 := i0) (i1 := i1) (k := j) h (by
      rw [e1, hC.f3 hj]
      have : S (10 * j + 2) = 0 ∨ S (10 * j + 2) = 1 := by omega
      rcases this with e | e <;> rw [e]
      · left; rfl
      · right; rfl)
    refine ⟨v', ⟨fun a ha => ?_, fun c h3 h4 => ?_, fun c hc => ?_, fun c hc => ?_, fun q hq c h3 h4 => ?_⟩, ?_⟩
    · rw [← hv.1 a ha]
      funext b c
      exact f2 a b c (fun z => ha z.1)
    · rw [f2 _ _ _ (fun z => by omega)]; exact hv.2.1 c h3 h4
    · rw [f2 _ _ _ (fun z => by omega)]; exact hv.2.2.1 c hc
    · rw [f2 _ _ _ (fun z => by omega)]; exact hv.2.2.2.1 c hc
    · by_cases e : q = j
      · subst e; rw [f3 c h3 h4, e1]
      · rw [f2 _ _ _ (fun z => by omega)]; exact hv.2.2.2.2 q (by omega) c h3 h4
    · show F_X5_copyFrom_116 (fu + 1) v i0 i1 (nI j) = F_X5_copyFrom_116 fu v' i0 i1 (nI (j + 1))
      rw [F_X5_copyFrom_116_s, hv.2.1 3 (by omega) (by omega), hC.sz, iLe (by omega) (by omega), if_neg (by omega), gB_n _ (by omega) (by omega), gB_n _ (by omega) (by omega), f1, gP_s, gS_e, nI_1]
theorem C_copy91 {w u : gWd} {S : Nat → Nat} {i0 i1 : Nat} (h : i1 ≠ i0) (hC : CV (w i1) S) (hB : WB S) (hu : cpR w i0 i1 u 3 0 0) : ∃ w', F_X5_copyFrom_91 gFU u i0 i1 0 = some w' ∧ cpR w i0 i1 w' 3 4 (S 311) := by
  refine loopI (F := fun fu (v : gWd) j => F_X5_copyFrom_91 fu v i0 i1 (nI j)) 4 (fun j v => cpR w i0 i1 v 3 j 0) (fun o => ∃ w', o = some w' ∧ cpR w i0 i1 w' 3 4 (S 311)) ?_ ?_ gFU u 0 (by omega) (gFU_lt (by omega)) hu
  · intro fu v hv
    obtain ⟨w', f1, f2⟩ := C_copy116 h hC hB hv
    refine ⟨w', ?_, f2⟩
    show F_X5_copyFrom_91 (fu + 1) v i0 i1 (nI 4) = _
    rw [F_X5_copyFrom_91_s, if_pos (by decide)]
    exact f1
  · intro fu v j hj hv
    right
    have e1 : v i1 = w i1 := hv.1 i1 h
    refine ⟨up3 v i0 3 j (v i1 3 j), ⟨hv.1.tr (agB.up _ _ _), fun c h3 h4 => ?_, fun c hc => ?_, fun c hc => ?_, fun q hq => absurd hq (Nat.not_lt_zero q)⟩, ?_⟩
    · rw [up3_n (by omega)]; exact hv.2.1 c h3 h4
    · rw [up3_n (by omega)]; exact hv.2.2.1 c hc
    · by_cases e : c = j
      · subst e; rw [up3_s, e1]
      · rw [up3_n (by omega)]; exact hv.2.2.2.1 c (by omega)
    · show F_X5_copyFrom_91 (fu + 1) v i0 i1 (nI j) = F_X5_copyFrom_91 fu (up3 v i0 3 j (v i1 3 j)) i0 i1 (nI (j + 1))
      rw [F_X5_copyFrom_91_s, show (4 : Int32) = nI 4 from rfl, iLe (by omega) (by omega), if_neg (by omega), gB_n _ (by omega) (by omega), gB_n _ (by omega) (by omega), gS_e, gS_e, nI_1]
theorem C_copy66 {w u : gWd} {S : Nat → Nat} {i0 i1 : Nat} (h : i1 ≠ i0) (hC : CV (w i1) S) (hB : WB S) (hu : cpR w i0 i1 u 0 0 0) : ∃ w', F_X5_copyFrom_66 gFU u i0 i1 0 = some w' ∧ cpR w i0 i1 w' 3 4 (S 311) := by
  refine loopI (F := fun fu (v : gWd) j => F_X5_copyFrom_66 fu v i0 i1 (nI j)) 3 (fun j v => cpR w i0 i1 v j 0 0) (fun o => ∃ w', o = some w' ∧ cpR w i0 i1 w' 3 4 (S 311)) ?_ ?_ gFU u 0 (by omega) (gFU_lt (by omega)) hu
  · intro fu v hv
    obtain ⟨w', f1, f2⟩ := C_copy91 h hC hB hv
    refine ⟨w', ?_, f2⟩
    show F_X5_copyFrom_66 (fu + 1) v i0 i1 (nI 3) = _
    rw [F_X5_copyFrom_66_s, if_pos (by decide)]
    exact f1
  · intro fu v j hj hv
    right
    have e1 : v i1 = w i1 := hv.1 i1 h
    refine ⟨up3 v i0 1 j (v i1 1 j), ⟨hv.1.tr (agB.up _ _ _), fun c h3 h4 => ?_, fun c hc => ?_, fun c hc => absurd hc (Nat.not_lt_zero c), fun q hq => absurd hq (Nat.not_lt_zero q)⟩, ?_⟩
    · rw [up3_n (by omega)]; exact hv.2.1 c h3 h4
    · by_cases e : c = j
      · subst e; rw [up3_s, e1]
      · rw [up3_n (by omega)]; exact hv.2.2.1 c (by omega)
    · show F_X5_copyFrom_66 (fu + 1) v i0 i1 (nI j) = F_X5_copyFrom_66 fu (up3 v i0 1 j (v i1 1 j)) i0 i1 (nI (j + 1))
      rw [F_X5_copyFrom_66_s, show (3 : Int32) = nI 3 from rfl, iLe (by omega) (by omega), if_neg (by omega), gB_n _ (by omega) (by omega), gB_n _ (by omega) (by omega), gS_e, gS_e, nI_1]
/-- the copy of a meet is that meet -/
theorem C_copy {w : gWd} {S : Nat → Nat} {i0 i1 : Nat} (h : i1 ≠ i0) (hC : CV (w i1) S) (hR : RV (w i1) S) (hB : WB S) : ∃ w', F_X5_copyFrom w i0 i1 = some w' ∧ agB i0 w w' ∧ CV (w' i0) S ∧ RV (w' i0) S := by
  have key : ∃ w', F_X5_copyFrom w i0 i1 = some w' ∧ cpR w i0 i1 w' 3 4 (S 311) := by
    unfold F_X5_copyFrom
    rw [gS_e, gS_e, gS_e, gS_e, gS_e, gS_e, gS_e, gS_e]
    refine C_copy66 h hC hB ⟨fun a ha => ?_, fun c h3 h4 => ?_, fun c hc => absurd hc (Nat.not_lt_zero c), fun c hc => absurd hc (Nat.not_lt_zero c), fun q hq => absurd hq (Nat.not_lt_zero q)⟩
    · rw [up3_b ha, up3_b ha, up3_b ha, up3_b ha, up3_b ha, up3_b ha, up3_b ha, up3_b ha]
    · have : c = 3 ∨ c = 4 ∨ c = 5 ∨ c = 6 ∨ c = 7 ∨ c = 8 ∨ c = 9 ∨ c = 10 := by omega
      rcases this with rfl | rfl | rfl | rfl | rfl | rfl | rfl | rfl <;> simp [up3, h]
  obtain ⟨w', f1, g1, g2, g3, g4, g5⟩ := key
  refine ⟨w', f1, g1, ⟨?_, fun k hk a ha => ?_⟩, ?_⟩
  · rw [g2 3 (by omega) (by omega), g2 4 (by omega) (by omega), g2 5 (by omega) (by omega), g2 7 (by omega) (by omega), g2 8 (by omega) (by omega), g2 9 (by omega) (by omega), g2 10 (by omega) (by omega), g3 0 (by omega), g3 1 (by omega), g3 2 (by omega)]
    exact hC.1
  · rw [g5 k hk (a + 1) (by omega) (by omega)]
    exact hC.2 k hk a ha
  · obtain ⟨n, q, h1, h2, h4, h5, h7, h8⟩ := hR
    exact ⟨n, q, h1, by rw [g2 6 (by omega) (by omega)]; exact h2, fun p hp => by rw [g4 p (by omega)]; exact h4 p hp, h5, h7, h8⟩
theorem Sdraw_c {S : Nat → Nat} {t k : Nat} (hk : k < S 311) (hN : S 311 ≤ 30) (hU : UN S k = true) : nI (Sdraw S t (10 * k + 3)) - 1 = nI (Dt (S 317) (nH S) t (erank S k)) ∧ nI (Sdraw S t (10 * k + 4)) = laneI S (hcn S t k) := by
  unfold Sdraw
  rw [upN_n (by omega), upN_n (by omega), upN_n (by omega), upN_n (by omega), Sd_3 (by omega), Sd_4 (by omega), if_pos ⟨hk, hU⟩, if_pos ⟨hk, hU⟩, nI_nOf]
  refine ⟨?_, rfl⟩
  rw [← nI_1, Int32.add_sub_cancel]
