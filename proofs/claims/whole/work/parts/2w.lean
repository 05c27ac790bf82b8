/-! level 2: copying a meet, ifDrawn -/
theorem up3_o {w : gWd} {i i1 r j : Nat} {v : Int32} (h : i1 ≠ i) (b c : Nat) : up3 w i r j v i1 b c = w i1 b c := up3_n (fun z => h z.1)
theorem C_copySw {u : gWd} {i0 i1 k : Nat} (h : i1 ≠ i0) (hz : u i1 (4 + k) 3 = 0 ∨ u i1 (4 + k) 3 = 1) : ∃ u', F_X10_copyFrom u i0 k i1 k = some u' ∧ (∀ a b c, ¬ (a = i0 ∧ b = 4 + k) → u' a b c = u a b c) ∧ ∀ c, 1 ≤ c → c ≤ 10 → u' i0 (4 + k) c = u i1 (4 + k) c := by
  unfold F_X10_copyFrom gZ
  simp only [gS_e, up3_o h]
  rw [if_pos hz]
  refine ⟨_, rfl, fun a b c hab => ?_, fun c h1 h2 => ?_⟩
  · rw [up3_n (fun z => hab ⟨z.1, z.2.1⟩), up3_n (fun z => hab ⟨z.1, z.2.1⟩), up3_n (fun z => hab ⟨z.1, z.2.1⟩), up3_n (fun z => hab ⟨z.1, z.2.1⟩), up3_n (fun z => hab ⟨z.1, z.2.1⟩), up3_n (fun z => hab ⟨z.1, z.2.1⟩), up3_n (fun z => hab ⟨z.1, z.2.1⟩), up3_n (fun z => hab ⟨z.1, z.2.1⟩), up3_n (fun z => hab ⟨z.1, z.2.1⟩), up3_n (fun z => hab ⟨z.1, z.2.1⟩)]
  · have : c = 1 ∨ c = 2 ∨ c = 3 ∨ c = 4 ∨ c = 5 ∨ c = 6 ∨ c = 7 ∨ c = 8 ∨ c = 9 ∨ c = 10 := by omega
    rcases this with rfl | rfl | rfl | rfl | rfl | rfl | rfl | rfl | rfl | rfl <;> simp [up3]
/-- what the copy has of the meet -/
def cpR (w : gWd) (i0 i1 : Nat) (u : gWd) (a b d : Nat) : Prop := agB i0 w u ∧ (∀ c, 3 ≤ c → c ≤ 10 → u i0 0 c = w i1 0 c) ∧ (∀ c, c < a → u i0 1 c = w i1 1 c) ∧ (∀ c, c < b → u i0 3 c = w i1 3 c) ∧ ∀ q, q < d → ∀ c, 1 ≤ c → c ≤ 10 → u i0 (4 + q) c = w i1 (4 + q) c
theorem C_copy116 {w u : gWd} {S : Nat → Nat} {i0 i1 : Nat} (h : i1 ≠ i0) (hC : CV (w i1) S) (hB : WB S) (hu : cpR w i0 i1 u 3 4 0) : ∃ w', F_X5_copyFrom_116 gFU u i0 i1 0 = some w' ∧ cpR w i0 i1 w' 3 4 (S 311) := by
  have hN := hB.1
  refine loopI (F := fun fu (v : gWd) j => F_X5_copyFrom_116 fu v i0 i1 (nI j)) (S 311) (fun j v => cpR w i0 i1 v 3 4 j) (fun o => ∃ w', o = some w' ∧ cpR w i0 i1 w' 3 4 (S 311)) ?_ ?_ gFU u 0 (by omega) (gFU_lt (by omega)) hu
  · intro fu v hv
    refine ⟨v, ?_, hv⟩
    show F_X5_copyFrom_116 (fu + 1) v i0 i1 (nI (S 311)) = _
    rw [F_X5_copyFrom_116_s, hv.2.1 3 (by omega) (by omega), hC.sz, iLe (by omega) (by omega), if_pos (Nat.le_refl _)]
  · intro fu v j hj hv
    right
    have hk := hB.k (k := j) (by omega)
    have e1 : v i1 = w i1 := hv.1 i1 h
    obtain ⟨v', f1, f2, f3⟩ := C_copySw (u := v) (i0 := i0) (i1 := i1) (k := j) h (by
      rw [e1, hC.f3 hj]
      have : S (10 * j + 2) = 0 ∨ S (10 * j + 2) = 1 := by omega
      rcases this with e | e <;> rw [e]
      · left; rfl
      · right; rfl)
    refine ⟨v', ⟨fun a ha => ?_, fun c h3 h4 => ?_, fun c hc => ?_, fun c hc => ?_, fun q hq c h3 h4 => ?_⟩, ?_⟩
    · rw [← hv.1 a ha]
      funext b c
      exact f2 a b c (fun z => ha z.1)
    · rw [f2 _ _ _ (fun z => by omega)]; exact hv.2.1 c h3 h4
    · rw [f2 _ _ _ (fun z => by omega)]; exact hv.2.2.1 c hc
    · rw [f2 _ _ _ (fun z => by omega)]; exact hv.2.2.2.1 c hc
    · by_cases e : q = j
      · subst e; rw [f3 c h3 h4, e1]
      · rw [f2 _ _ _ (fun z => by omega)]; exact hv.2.2.2.2 q (by omega) c h3 h4
    · show F_X5_copyFrom_116 (fu + 1) v i0 i1 (nI j) = F_X5_copyFrom_116 fu v' i0 i1 (nI (j + 1))
      rw [F_X5_copyFrom_116_s, hv.2.1 3 (by omega) (by omega), hC.sz, iLe (by omega) (by omega), if_neg (by omega), gB_n _ (by omega) (by omega), gB_n _ (by omega) (by omega), f1, gP_s, gS_e, nI_1]
theorem C_copy91 {w u : gWd} {S : Nat → Nat} {i0 i1 : Nat} (h : i1 ≠ i0) (hC : CV (w i1) S) (hB : WB S) (hu : cpR w i0 i1 u 3 0 0) : ∃ w', F_X5_copyFrom_91 gFU u i0 i1 0 = some w' ∧ cpR w i0 i1 w' 3 4 (S 311) := by
  refine loopI (F := fun fu (v : gWd) j => F_X5_copyFrom_91 fu v i0 i1 (nI j)) 4 (fun j v => cpR w i0 i1 v 3 j 0) (fun o => ∃ w', o = some w' ∧ cpR w i0 i1 w' 3 4 (S 311)) ?_ ?_ gFU u 0 (by omega) (gFU_lt (by omega)) hu
  · intro fu v hv
    obtain ⟨w', f1, f2⟩ := C_copy116 h hC hB hv
    refine ⟨w', ?_, f2⟩
    show F_X5_copyFrom_91 (fu + 1) v i0 i1 (nI 4) = _
    rw [F_X5_copyFrom_91_s, if_pos (by decide)]
    exact f1
  · intro fu v j hj hv
    right
    have e1 : v i1 = w i1 := hv.1 i1 h
    refine ⟨up3 v i0 3 j (v i1 3 j), ⟨hv.1.tr (agB.up _ _ _), fun c h3 h4 => ?_, fun c hc => ?_, fun c hc => ?_, fun q hq => absurd hq (Nat.not_lt_zero q)⟩, ?_⟩
    · rw [up3_n (by omega)]; exact hv.2.1 c h3 h4
    · rw [up3_n (by omega)]; exact hv.2.2.1 c hc
    · by_cases e : c = j
      · subst e; rw [up3_s, e1]
      · rw [up3_n (by omega)]; exact hv.2.2.2.1 c (by omega)
    · show F_X5_copyFrom_91 (fu + 1) v i0 i1 (nI j) = F_X5_copyFrom_91 fu (up3 v i0 3 j (v i1 3 j)) i0 i1 (nI (j + 1))
      rw [F_X5_copyFrom_91_s, show (4 : Int32) = nI 4 from rfl, iLe (by omega) (by omega), if_neg (by omega), gB_n _ (by omega) (by omega), gB_n _ (by omega) (by omega), gS_e, gS_e, nI_1]
theorem C_copy66 {w u : gWd} {S : Nat → Nat} {i0 i1 : Nat} (h : i1 ≠ i0) (hC : CV (w i1) S) (hB : WB S) (hu : cpR w i0 i1 u 0 0 0) : ∃ w', F_X5_copyFrom_66 gFU u i0 i1 0 = some w' ∧ cpR w i0 i1 w' 3 4 (S 311) := by
  refine loopI (F := fun fu (v : gWd) j => F_X5_copyFrom_66 fu v i0 i1 (nI j)) 3 (fun j v => cpR w i0 i1 v j 0 0) (fun o => ∃ w', o = some w' ∧ cpR w i0 i1 w' 3 4 (S 311)) ?_ ?_ gFU u 0 (by omega) (gFU_lt (by omega)) hu
  · intro fu v hv
    obtain ⟨w', f1, f2⟩ := C_copy91 h hC hB hv
    refine ⟨w', ?_, f2⟩
    show F_X5_copyFrom_66 (fu + 1) v i0 i1 (nI 3) = _
    rw [F_X5_copyFrom_66_s, if_pos (by decide)]
    exact f1
  · intro fu v j hj hv
    right
    have e1 : v i1 = w i1 := hv.1 i1 h
    refine ⟨up3 v i0 1 j (v i1 1 j), ⟨hv.1.tr (agB.up _ _ _), fun c h3 h4 => ?_, fun c hc => ?_, fun c hc => absurd hc (Nat.not_lt_zero c), fun q hq => absurd hq (Nat.not_lt_zero q)⟩, ?_⟩
    · rw [up3_n (by omega)]; exact hv.2.1 c h3 h4
    · by_cases e : c = j
      · subst e; rw [up3_s, e1]
      · rw [up3_n (by omega)]; exact hv.2.2.1 c (by omega)
    · show F_X5_copyFrom_66 (fu + 1) v i0 i1 (nI j) = F_X5_copyFrom_66 fu (up3 v i0 1 j (v i1 1 j)) i0 i1 (nI (j + 1))
      rw [F_X5_copyFrom_66_s, show (3 : Int32) = nI 3 from rfl, iLe (by omega) (by omega), if_neg (by omega), gB_n _ (by omega) (by omega), gB_n _ (by omega) (by omega), gS_e, gS_e, nI_1]
/-- the copy of a meet is that meet -/
theorem C_copy {w : gWd} {S : Nat → Nat} {i0 i1 : Nat} (h : i1 ≠ i0) (hC : CV (w i1) S) (hR : RV (w i1) S) (hB : WB S) : ∃ w', F_X5_copyFrom w i0 i1 = some w' ∧ agB i0 w w' ∧ CV (w' i0) S ∧ RV (w' i0) S := by
  have key : ∃ w', F_X5_copyFrom w i0 i1 = some w' ∧ cpR w i0 i1 w' 3 4 (S 311) := by
    unfold F_X5_copyFrom
    rw [gS_e, gS_e, gS_e, gS_e, gS_e, gS_e, gS_e, gS_e]
    refine C_copy66 h hC hB ⟨fun a ha => ?_, fun c h3 h4 => ?_, fun c hc => absurd hc (Nat.not_lt_zero c), fun c hc => absurd hc (Nat.not_lt_zero c), fun q hq => absurd hq (Nat.not_lt_zero q)⟩
    · rw [up3_b ha, up3_b ha, up3_b ha, up3_b ha, up3_b ha, up3_b ha, up3_b ha, up3_b ha]
    · have : c = 3 ∨ c = 4 ∨ c = 5 ∨ c = 6 ∨ c = 7 ∨ c = 8 ∨ c = 9 ∨ c = 10 := by omega
      rcases this with rfl | rfl | rfl | rfl | rfl | rfl | rfl | rfl <;> simp [up3, h]
  obtain ⟨w', f1, g1, g2, g3, g4, g5⟩ := key
  refine ⟨w', f1, g1, ⟨?_, fun k hk a ha => ?_⟩, ?_⟩
  · rw [g2 3 (by omega) (by omega), g2 4 (by omega) (by omega), g2 5 (by omega) (by omega), g2 7 (by omega) (by omega), g2 8 (by omega) (by omega), g2 9 (by omega) (by omega), g2 10 (by omega) (by omega), g3 0 (by omega), g3 1 (by omega), g3 2 (by omega)]
    exact hC.1
  · rw [g5 k hk (a + 1) (by omega) (by omega)]
    exact hC.2 k hk a ha
  · obtain ⟨n, q, h1, h2, h4, h5, h7, h8⟩ := hR
    exact ⟨n, q, h1, by rw [g2 6 (by omega) (by omega)]; exact h2, fun p hp => by rw [g4 p (by omega)]; exact h4 p hp, h5, h7, h8⟩
theorem Sdraw_c {S : Nat → Nat} {t k : Nat} (hk : k < S 311) (hN : S 311 ≤ 30) (hU : UN S k = true) : nI (Sdraw S t (10 * k + 3)) - 1 = nI (Dt (S 317) (nH S) t (erank S k)) ∧ nI (Sdraw S t (10 * k + 4)) = laneI S (hcn S t k) := by
  unfold Sdraw
  rw [upN_n (by omega), upN_n (by omega), upN_n (by omega), upN_n (by omega), Sd_3 (by omega), Sd_4 (by omega), if_pos ⟨hk, hU⟩, if_pos ⟨hk, hU⟩, nI_nOf]
  refine ⟨?_, rfl⟩
  rw [← nI_1, Int32.add_sub_cancel]
/-- ifDrawn: the class's side changes its trial only, the model's side its row of heats -/
theorem Q_ifDrawn {S : Nat → Nat} {EB : Nat} (hI : IV EB S) (x y : Int32) : ∃ r : Int32, (∀ w, CV (w 0) S → RV (w 0) S → ∃ w', F_X11_ifDrawn w x y = some (r, w') ∧ agB 1 w w') ∧ (∀ w, SV w S → ∃ w', F_X12_ifDrawn w x y = some (r, w') ∧ ag5 w w') := by
  have hB := hI.wb
  have hN := hB.1
  have hst := hB.2.1
  by_cases a : x < 0 ∨ nI (S 311) ≤ x
  · refine ⟨-1000001, fun w hC _ => ⟨w, ?_, agB.rf _ _⟩, fun w hS => ⟨w, ?_, ag5.rf _⟩⟩
    · unfold F_X11_ifDrawn
      rw [C_has hC, if_pos a, gP_s, if_pos rfl]
    · unfold F_X12_ifDrawn
      rw [M_isSw hS hB, if_pos a, gP_s, if_pos rfl]
  obtain ⟨k, hk, rfl⟩ := arg_lt (by omega) (fun z => a (Or.inl z)) (fun z => a (Or.inr z))
  have hg := (hB.k (k := k) (by omega)).2.2.1
  by_cases c : y < 0
  · refine ⟨-1000001, fun w hC _ => ⟨w, ?_, agB.rf _ _⟩, fun w hS => ⟨w, ?_, ag5.rf _⟩⟩
    · unfold F_X11_ifDrawn
      rw [C_hasN hC hB hk, gP_s, if_neg (show ¬ (1 : Int32) = 0 by decide), if_pos c]
    · unfold F_X12_ifDrawn
      rw [M_isSw hS hB, if_neg a, gP_s, if_neg (show ¬ (1 : Int32) = 0 by decide), show F_X12_in w y 0 2 = F_X12_in w y 0 (nI 2) from rfl, M_in_f (by omega) (Or.inl c), gP_s, if_pos rfl]
  by_cases d : nI 3 ≤ y
  · refine ⟨-1000001, fun w hC _ => ⟨w, ?_, agB.rf _ _⟩, fun w hS => ⟨w, ?_, ag5.rf _⟩⟩
    · unfold F_X11_ifDrawn
      rw [C_hasN hC hB hk, gP_s, if_neg (show ¬ (1 : Int32) = 0 by decide), if_neg c, if_neg]
      intro q
      rw [Int32.le_iff_toInt_le] at q d
      have k1 : (nI 3).toInt = 3 := by decide
      have k2 : (2 : Int32).toInt = 2 := by decide
      omega
    · unfold F_X12_ifDrawn
      rw [M_isSw hS hB, if_neg a, gP_s, if_neg (show ¬ (1 : Int32) = 0 by decide), show F_X12_in w y 0 2 = F_X12_in w y 0 (nI 2) from rfl, M_in_f (n := 2) (by omega) (Or.inr d), gP_s, if_pos rfl]
  obtain ⟨q, hq, rfl⟩ := arg_lt (n := 3) (by omega) c d
  have cC : ∀ w, CV (w 0) S → F_X11_ifDrawn w (nI k) (nI q) = if S 310 = 0 then (if S (10 * k + 2) = 0 then (gP (F_X5_copyFrom w 1 0) (fun w_11 => gC (F_X1_drawHeats w_11 1) (fun v_13 w_14 => if q = 2 then (some (v_13, w_14)) else (if q = 0 then (some ((w_14 1 (4 + k) 4), w_14)) else (some ((w_14 1 (4 + k) 5), w_14)))))) else (some ((-1000002), w))) else (some ((-1000002), w)) := by
    intro w hC
    unfold F_X11_ifDrawn
    rw [C_hasN hC hB hk, gP_s, if_neg (show ¬ (1 : Int32) = 0 by decide), if_neg c, if_pos (show nI q ≤ 2 from (nI_leI (b := 2) (by omega) (by omega)).mpr (by omega)), hC.st, iE0 (by omega), gB_n _ (by omega) (by omega), hC.f3 hk, iE0 (by omega)]
    have e : (fun (v_13 : Int32) (w_14 : gWd) => if nI q = 2 then some (v_13, w_14) else if nI q = 0 then gB (nI k) 30 (fun k_20 => some (w_14 1 (4 + k_20) 4, w_14)) else gB (nI k) 30 (fun k_18 => some (w_14 1 (4 + k_18) 5, w_14))) = (fun v_13 w_14 => if q = 2 then (some (v_13, w_14)) else (if q = 0 then (some ((w_14 1 (4 + k) 4), w_14)) else (some ((w_14 1 (4 + k) 5), w_14)))) := by
      funext v u
      rw [iE2 (by omega), iE0 (by omega), gB_n _ (by omega) (by omega), gB_n _ (by omega) (by omega)]
    rw [e]
  have cM : ∀ w, SV w S → F_X12_ifDrawn w (nI k) (nI q) = if S 310 = 0 then (if S (10 * k + 2) = 0 then (gC (F_X12_plans w) (fun v_12 w_13 => gP (F_X12_entryRank w_13 (nI k)) (fun v_15 => if q = 0 then (gB v_15 30 (fun k_21 => some ((w_13 8 5 k_21), w_13))) else (if q = 1 then (gP (F_X12_laneIn w_13 v_15) (fun v_19 => some (v_19, w_13))) else (some (v_12, w_13)))))) else (some ((-1000002), w))) else (some ((-1000002), w)) := by
    intro w hS
    unfold F_X12_ifDrawn
    rw [M_isSw hS hB, if_neg a, gP_s, if_neg (show ¬ (1 : Int32) = 0 by decide), show F_X12_in w (nI q) 0 2 = F_X12_in w (nI q) 0 (nI 2) from rfl, M_in_t (by omega) (by omega), gP_s, if_neg (show ¬ (1 : Int32) = 0 by decide), hS 310 (by omega), iE0 (by omega), M_isGone hS hB (by omega), gP_s, iE0 (by omega)]
    simp only [iE0 (a := q) (show q < 2 ^ 31 by omega), iE1 (a := q) (show q < 2 ^ 31 by omega)]
  by_cases s0 : S 310 = 0
  · by_cases g0 : S (10 * k + 2) = 0
    · have hU : UN S k = true := UN_t.mpr g0
      have hp : 0 < pres S (S 311) := by
        rw [pres_ct]
        exact fb_ct_pos.mpr ⟨k, hk, hU⟩
      obtain ⟨t0, ht0⟩ := t0_ex hB hp
      have her := erank_lt hk hU
      have hpl := pres_le S (S 311)
      have hsd := Sdraw_c (t := t0) hk hN hU
      refine ⟨if q = 2 then nI (nH S) else if q = 0 then nI (Dt (S 317) (nH S) t0 (erank S k)) else laneI S (hcn S t0 k), fun w hC hR => ?_, fun w hS => ?_⟩
      · obtain ⟨w1, f1, f2, f3, f4⟩ := C_copy (i0 := 1) (i1 := 0) (by omega) hC hR hB
        obtain ⟨w2, g1, g2, g3, g4⟩ := C_draw (i := 1) hI f3 f4 hp s0 ht0
        have h311 : Sdraw S t0 311 = S 311 := by unfold Sdraw; rw [upN_n (by omega), upN_n (by omega), Sd_hi (by omega)]
        refine ⟨w2, ?_, f2.tr g2⟩
        rw [cC w hC, if_pos s0, if_pos g0, f1, gP_s, g1, gC_s, g3.f4 (by rw [h311]; exact hk), g3.f5 (by rw [h311]; exact hk), hsd.1, hsd.2]
        split
        · rfl
        · split <;> rfl
      · obtain ⟨w1, t, f1, g1, d1, k1⟩ := M_plans hS hB hp
        have hS1 := g1.sv hS
        have hcg : cg (S 317) (nH S) (pres S (S 311)) t = cg (S 317) (nH S) (pres S (S 311)) t0 := k1.trans ht0.symm
        have hsd2 := Sdraw_c (t := t) hk hN hU
        have hSS : Sdraw S t = Sdraw S t0 := by unfold Sdraw; rw [Sd_cg hN hcg]
        rw [hSS] at hsd2
        have eD : nI (Dt (S 317) (nH S) t (erank S k)) = nI (Dt (S 317) (nH S) t0 (erank S k)) := hsd2.1.symm.trans hsd.1
        have eL : laneI S (hcn S t k) = laneI S (hcn S t0 k) := hsd2.2.symm.trans hsd.2
        obtain ⟨hH1, hH8, hHL⟩ := nH_in hB hp
        refine ⟨w1, ?_, g1⟩
        rw [cM w hS, if_pos s0, if_pos g0, f1, gC_s, M_erank hS1 hB (by omega), gP_s, gB_n _ (by omega) (by omega), d1 _ her, M_laneIn (d := Dt (S 317) (nH S) t) hS1 hB (n := pres S (S 311)) (by omega) her (fun r hr => ⟨d1 r hr, by have := Dt_le (L := S 317) (t := t) (r := r) hH1; omega⟩), gP_s, eD]
        show (if q = 0 then _ else if q = 1 then some (laneI S (hcn S t k), w1) else _) = _
        rw [eL]
        have : q = 0 ∨ q = 1 ∨ q = 2 := by omega
        rcases this with rfl | rfl | rfl <;> rfl
    · refine ⟨-1000002, fun w hC _ => ⟨w, ?_, agB.rf _ _⟩, fun w hS => ⟨w, ?_, ag5.rf _⟩⟩
      · rw [cC w hC, if_pos s0, if_neg g0]
      · rw [cM w hS, if_pos s0, if_neg g0]
  · refine ⟨-1000002, fun w hC _ => ⟨w, ?_, agB.rf _ _⟩, fun w hS => ⟨w, ?_, ag5.rf _⟩⟩
    · rw [cC w hC, if_neg s0]
    · rw [cM w hS, if_neg s0]
