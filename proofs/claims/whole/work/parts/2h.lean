/-! level 2: scratch, whole -/
theorem CV.res {c : Nat → Nat → Int32} {S : Nat → Nat} (hC : CV c S) (hN : S 311 ≤ 30) {p v : Nat} (hp : p < 4) : CV c (upN S (306 + p) v) := by
  refine ⟨?_, fun q hq b hb => ?_⟩
  · simp only [upN_n (S := S) (t := 306 + p) (v := v) (show 311 ≠ 306 + p by omega), upN_n (S := S) (t := 306 + p) (v := v) (show 310 ≠ 306 + p by omega), upN_n (S := S) (t := 306 + p) (v := v) (show 312 ≠ 306 + p by omega), upN_n (S := S) (t := 306 + p) (v := v) (show 313 ≠ 306 + p by omega), upN_n (S := S) (t := 306 + p) (v := v) (show 314 ≠ 306 + p by omega), upN_n (S := S) (t := 306 + p) (v := v) (show 315 ≠ 306 + p by omega), upN_n (S := S) (t := 306 + p) (v := v) (show 316 ≠ 306 + p by omega), upN_n (S := S) (t := 306 + p) (v := v) (show 317 ≠ 306 + p by omega), upN_n (S := S) (t := 306 + p) (v := v) (show 318 ≠ 306 + p by omega), upN_n (S := S) (t := 306 + p) (v := v) (show 319 ≠ 306 + p by omega)]
    exact hC.1
  · rw [upN_n (by omega)] at hq
    rw [upN_n (by omega)]
    exact hC.2 q hq b hb
theorem Sgo2_n {S : Nat → Nat} {k t : Nat} (h : 10 * k + 7 < t ∨ t < 10 * k + 2) : Sgo2 S k t = S t := by
  unfold Sgo2 Sgo
  rw [upN_n (by omega), upN_n (by omega), upN_n (by omega)]
theorem OK_scratch {i EB : Nat} {S : Nat → Nat} (hI : IV EB S) (hR0 : ∃ c : Nat → Nat → Int32, RV c S) (x1 : Int32) : OK2 i (fun w => F_X1_withdraw w i x1) (fun w => F_X12_scratch w x1) EB S := by
  have hB := hI.wb
  have hN := hB.1
  have hst := hB.2.1
  have hm1 : (-1000001 : Int32) < 0 := by decide
  have hm2 : (-1000002 : Int32) < 0 := by decide
  by_cases a1 : x1 < 0 ∨ nI (S 311) ≤ x1
  · refine ⟨-1000001, Or.inl ⟨hm1, fun w hC _ => ?_, fun w hS => ?_⟩⟩
    · show F_X1_withdraw w i x1 = _
      unfold F_X1_withdraw
      rw [C_has hC, if_pos a1, gP_s, if_pos rfl]
    · show F_X12_scratch w x1 = _
      unfold F_X12_scratch
      rw [M_isSw hS hB, if_pos a1, gP_s, if_pos rfl]
  obtain ⟨k, hk, rfl⟩ := arg_lt (by omega) (fun z => a1 (Or.inl z)) (fun z => a1 (Or.inr z))
  have hg := (hB.k (k := k) (by omega)).2.2.1
  have hg6 := (hB.k (k := k) (by omega)).2.2.2.2.2.2.1
  have cC : ∀ w, CV (w i) S → F_X1_withdraw w i (nI k) = if S (10 * k + 2) = 0 then (if S 310 = 3 then some (-1000002, w) else if S 310 = 1 then gP (F_X10_leaveHeat (up3 w i (4 + k) 3 1) i k) (fun w_16 => F_X1_withdraw_53 w_16 i i k) else F_X1_withdraw_53 (up3 w i (4 + k) 3 1) i i k) else some (-1000002, w) := by
    intro w hC
    unfold F_X1_withdraw
    rw [C_hasN hC hB hk, gP_s, if_neg (by decide), gB_n _ (by omega) (by omega), hC.f3 hk, iE0 (by omega), hC.st, iE3 (by omega), gS_e, up3_n (by omega), hC.st, iE1 (by omega)]
  have cM : ∀ w, SV w S → F_X12_scratch w (nI k) = if S (10 * k + 2) = 0 then (if S 310 = 3 then some (-1000002, w) else gP (F_X12_changes w) (fun w_19 => gP (F_X12_lay w_19 (nI k) 2 1) (fun w_21 => if (w_21 8 1 310) = 1 then (gP (F_X12_lay w_21 (nI k) 3 0) (fun w_24 => gP (F_X12_lay w_24 (nI k) 4 0) (fun w_26 => gP (F_X12_lay w_26 (nI k) 5 0) (fun w_28 => F_X12_scratch_78 w_28 (nI k))))) else (F_X12_scratch_78 w_21 (nI k))))) else some (-1000002, w) := by
    intro w hS
    unfold F_X12_scratch
    rw [M_isSw hS hB, if_neg a1, gP_s, if_neg (by decide), M_isGone hS hB (by omega), gP_s, iE0 (by omega), hS 310 (by omega), iE3 (by omega)]
  by_cases g0 : S (10 * k + 2) = 0
  · by_cases g3 : S 310 = 3
    · refine ⟨-1000002, Or.inl ⟨hm2, fun w hC _ => ?_, fun w hS => ?_⟩⟩
      · show F_X1_withdraw w i (nI k) = _
        rw [cC w hC, if_pos g0, if_pos g3]
      · show F_X12_scratch w (nI k) = _
        rw [cM w hS, if_pos g0, if_pos g3]
    · have cM2 : ∀ w wc, SV w S → F_X12_changes w = some wc → agH w wc → F_X12_scratch w (nI k) = if S 310 = 1 then F_X12_scratch_78 (up3 (up3 (up3 (up3 wc 8 1 (10 * k + 2) 1) 8 1 (10 * k + 3) 0) 8 1 (10 * k + 4) 0) 8 1 (10 * k + 5) 0) (nI k) else F_X12_scratch_78 (up3 wc 8 1 (10 * k + 2) 1) (nI k) := by
        intro w wc hS hch hag
        have hSc := hag.sv hS
        rw [cM w hS, if_pos g0, if_neg g3, hch, gP_s, show (2 : Int32) = nI 2 from rfl, M_lay (by omega), gP_s, up3_n (by omega), hSc 310 (by omega), iE1 (by omega), show (3 : Int32) = nI 3 from rfl, M_lay (by omega), gP_s, show (4 : Int32) = nI 4 from rfl, M_lay (by omega), gP_s, show (5 : Int32) = nI 5 from rfl, M_lay (by omega), gP_s]
      have hC1 : ∀ w, CV (w i) S → CV (up3 w i (4 + k) 3 1 i) (Sgo S k) := fun w hC => hC.upk (k := k) (a := 2) (v := 1) (by omega) (by omega) rfl
      have hS1 : ∀ w, SV w S → SV (up3 w 8 1 (10 * k + 2) 1) (Sgo S k) := fun w hS => hS.up (10 * k + 2) 1
      have h53 : ∀ (w : gWd) (T : Nat → Nat), CV (w i) T → k < T 311 → T 310 ≤ 3 → T (10 * k + 6) ≤ 10 → F_X1_withdraw_53 w i i k = if T 310 = 2 then (if T (10 * k + 6) = 0 then some (100, w) else (gC (F_X1_callReserve w i i k) (fun v_4 w_5 => some (v_4, w_5)))) else some (100, w) := by
        intro w T hC hkT h1 h2
        unfold F_X1_withdraw_53
        rw [hC.st, hC.f7 hkT, iE2 (by omega), iE0 (by omega)]
      have h78 : ∀ (w : gWd) (T : Nat → Nat), SV w T → T (10 * k + 6) ≤ 10 → F_X12_scratch_78 w (nI k) = if T (10 * k + 6) = 0 then some (100, w) else gC (F_X12_calls (up3 (up3 w 8 1 (10 * k + 6) 0) 8 1 (10 * k + 7) 0) (nI (T (10 * k + 6)))) (fun v_9 w_10 => some (v_9, w_10)) := by
        intro w T hS h2
        unfold F_X12_scratch_78
        rw [M_of6 hS (by omega), gP_s, iE0 (by omega), show (6 : Int32) = nI 6 from rfl, M_lay (by omega), gP_s, show (7 : Int32) = nI 7 from rfl, M_lay (by omega), gP_s]
      by_cases g1 : S 310 = 1
      · -- before the final
        have z6 := (hI.s1 g1 k hk).2.1
        have e6 : Sgo1 S k (10 * k + 6) = 0 := by unfold Sgo1 Sgo; rw [upN_n (by omega), upN_n (by omega), upN_n (by omega), upN_n (by omega)]; exact z6
        have eh : ∀ q, 300 ≤ q → Sgo1 S k q = S q := fun q hq => by unfold Sgo1 Sgo; rw [upN_n (by omega), upN_n (by omega), upN_n (by omega), upN_n (by omega)]
        have eo : ∀ q a, a < 10 → (q ≠ k ∨ a = 6) → Sgo1 S k (10 * q + a) = S (10 * q + a) := fun q a h1 h2 => by unfold Sgo1 Sgo; rw [upN_n (by omega), upN_n (by omega), upN_n (by omega), upN_n (by omega)]
        refine ⟨100, Or.inr ⟨by decide, Sgo1 S k, (Sgo1_IV hI hk g1).mono (by omega), fun w hC hR => ?_, fun w wc hS hch hag => ?_⟩⟩
        · refine ⟨up3 (up3 (up3 (up3 w i (4 + k) 3 1) i (4 + k) 4 (-1)) i (4 + k) 5 0) i (4 + k) 6 (-1), ?_, (agB.up _ _ _).tr ((agB.up _ _ _).tr ((agB.up _ _ _).tr (agB.up _ _ _))), ?_, ?_⟩
          · show F_X1_withdraw w i (nI k) = _
            have hC4 : CV (up3 (up3 (up3 (up3 w i (4 + k) 3 1) i (4 + k) 4 (-1)) i (4 + k) 5 0) i (4 + k) 6 (-1) i) (Sgo1 S k) := (((hC1 w hC).upk (k := k) (a := 3) (v := 0) (by omega) (by omega) rfl).upk (k := k) (a := 4) (v := 0) (by omega) (by omega) rfl).upk (k := k) (a := 5) (v := 0) (by omega) (by omega) rfl
            rw [cC w hC, if_pos g0, if_neg g3, if_pos g1]
            show F_X1_withdraw_53 (up3 (up3 (up3 (up3 w i (4 + k) 3 1) i (4 + k) 4 (-1)) i (4 + k) 5 0) i (4 + k) 6 (-1)) i i k = _
            rw [h53 _ _ hC4 (by rw [eh 311 (by omega)]; exact hk) (by rw [eh 310 (by omega)]; omega) (by omega), eh 310 (by omega), if_neg (by omega)]
          · exact (((hC1 w hC).upk (k := k) (a := 3) (v := 0) (by omega) (by omega) rfl).upk (k := k) (a := 4) (v := 0) (by omega) (by omega) rfl).upk (k := k) (a := 5) (v := 0) (by omega) (by omega) rfl
          · refine hR.gone (k := k) (by rw [up3_n (by omega), up3_n (by omega), up3_n (by omega), up3_n (by omega)]) (by rw [up3_r (by omega), up3_r (by omega), up3_r (by omega), up3_r (by omega)]) (eh 311 (by omega)) (eh 310 (by omega)) (fun p _ => eh _ (by omega)) ⟨?_, Or.inl e6⟩ (fun q hq => ⟨eo q 6 (by omega) (Or.inl hq), eo q 2 (by omega) (Or.inl hq)⟩)
            unfold Sgo1 Sgo
            rw [upN_n (by omega), upN_n (by omega), upN_n (by omega), upN_s]
        · have hSc := hag.sv hS
          have hS4 : SV (up3 (up3 (up3 (up3 wc 8 1 (10 * k + 2) 1) 8 1 (10 * k + 3) 0) 8 1 (10 * k + 4) 0) 8 1 (10 * k + 5) 0) (Sgo1 S k) := (((hS1 wc hSc).up (10 * k + 3) 0).up (10 * k + 4) 0).up (10 * k + 5) 0
          refine ⟨_, ?_, (ag1.up _ _).tr ((ag1.up _ _).tr ((ag1.up _ _).tr (ag1.up _ _))), hS4⟩
          show F_X12_scratch w (nI k) = _
          rw [cM2 w wc hS hch hag, if_pos g1, h78 _ _ hS4 (by omega), if_pos e6]
      · have e6 : Sgo S k (10 * k + 6) = S (10 * k + 6) := by unfold Sgo; rw [upN_n (by omega)]
        have eh : ∀ q, 300 ≤ q → Sgo S k q = S q := fun q hq => by unfold Sgo; rw [upN_n (by omega)]
        have eo : ∀ q a, a < 10 → (q ≠ k ∨ a = 6) → Sgo S k (10 * q + a) = S (10 * q + a) := fun q a h1 h2 => by unfold Sgo; rw [upN_n (by omega)]
        have cC2 : ∀ w, CV (w i) S → F_X1_withdraw w i (nI k) = if S 310 = 2 then (if S (10 * k + 6) = 0 then some (100, up3 w i (4 + k) 3 1) else (gC (F_X1_callReserve (up3 w i (4 + k) 3 1) i i k) (fun v_4 w_5 => some (v_4, w_5)))) else some (100, up3 w i (4 + k) 3 1) := by
          intro w hC
          rw [cC w hC, if_pos g0, if_neg g3, if_neg g1, h53 _ _ (hC1 w hC) (by rw [eh 311 (by omega)]; exact hk) (by rw [eh 310 (by omega)]; omega) (by omega), eh 310 (by omega), e6]
        have cM3 : ∀ w wc, SV w S → F_X12_changes w = some wc → agH w wc → F_X12_scratch w (nI k) = if S (10 * k + 6) = 0 then some (100, up3 wc 8 1 (10 * k + 2) 1) else gC (F_X12_calls (up3 (up3 (up3 wc 8 1 (10 * k + 2) 1) 8 1 (10 * k + 6) 0) 8 1 (10 * k + 7) 0) (nI (S (10 * k + 6)))) (fun v_9 w_10 => some (v_9, w_10)) := by
          intro w wc hS hch hag
          rw [cM2 w wc hS hch hag, if_neg g1, h78 _ _ (hS1 wc (hag.sv hS)) (by omega), e6]
        by_cases g6 : S (10 * k + 6) = 0
        · refine ⟨100, Or.inr ⟨by decide, Sgo S k, (Sgo_IV hI hk g1 g6).mono (by omega), fun w hC hR => ?_, fun w wc hS hch hag => ?_⟩⟩
          · refine ⟨up3 w i (4 + k) 3 1, ?_, agB.up _ _ _, hC1 w hC, ?_⟩
            · show F_X1_withdraw w i (nI k) = _
              rw [cC2 w hC, if_pos g6]
              split <;> rfl
            · exact hR.gone (k := k) (up3_n (by omega)) (up3_r (by omega)) (eh 311 (by omega)) (eh 310 (by omega)) (fun p _ => eh _ (by omega)) ⟨upN_s _ _ _, Or.inr e6⟩ (fun q hq => ⟨eo q 6 (by omega) (Or.inl hq), eo q 2 (by omega) (Or.inl hq)⟩)
          · refine ⟨up3 wc 8 1 (10 * k + 2) 1, ?_, ag1.up _ _, hS1 wc (hag.sv hS)⟩
            show F_X12_scratch w (nI k) = _
            rw [cM3 w wc hS hch hag, if_pos g6]
        · have g2 : S 310 = 2 := by
            have : S 310 ≠ 0 := fun z => g6 ((hI.s0 z).2 k hk 6 (by omega) (by omega))
            omega
          -- the swimmer leaves the final
          have hC3 : ∀ w, CV (w i) S → CV (up3 (up3 (up3 w i (4 + k) 3 1) i (4 + k) 7 0) i (4 + k) 8 (-1) i) (Sgo2 S k) := fun w hC => ((hC1 w hC).upk (k := k) (a := 6) (v := 0) (by omega) (by omega) rfl).upk (k := k) (a := 7) (v := 0) (by omega) (by omega) rfl
          have hS3 : ∀ w, SV w S → SV (up3 (up3 (up3 w 8 1 (10 * k + 2) 1) 8 1 (10 * k + 6) 0) 8 1 (10 * k + 7) 0) (Sgo2 S k) := fun w hS => ((hS1 w hS).up (10 * k + 6) 0).up (10 * k + 7) 0
          have hI2 := Sgo2_IV hI hk g1
          have hB2 := hI2.wb
          have eh2 : ∀ q, 300 ≤ q → Sgo2 S k q = S q := fun q hq => Sgo2_n (by omega)
          have eo2 : ∀ q a, a < 10 → q ≠ k → Sgo2 S k (10 * q + a) = S (10 * q + a) := fun q a h1 h2 => Sgo2_n (by omega)
          have e26 : Sgo2 S k (10 * k + 6) = 0 := by unfold Sgo2; rw [upN_n (by omega), upN_s]
          have e22 : Sgo2 S k (10 * k + 2) = 1 := by unfold Sgo2 Sgo; rw [upN_n (by omega), upN_n (by omega), upN_s]
          have hR3 : ∀ c c' : Nat → Nat → Int32, RV c S → c' 0 6 = c 0 6 → c' 3 = c 3 → RV c' (Sgo2 S k) := fun c c' hR h6 h3 => hR.gone (k := k) h6 h3 (eh2 311 (by omega)) (eh2 310 (by omega)) (fun p _ => eh2 _ (by omega)) ⟨e22, Or.inl e26⟩ (fun q hq => ⟨eo2 q 6 (by omega) hq, eo2 q 2 (by omega) hq⟩)
          have hRw : ∀ w, RV (w i) S → RV (up3 (up3 (up3 w i (4 + k) 3 1) i (4 + k) 7 0) i (4 + k) 8 (-1) i) (Sgo2 S k) := fun w hR => hR3 _ _ hR (by rw [up3_n (by omega), up3_n (by omega), up3_n (by omega)]) (by rw [up3_r (by omega), up3_r (by omega), up3_r (by omega)])
          have cC3 : ∀ w, CV (w i) S → F_X1_withdraw w i (nI k) = gP (F_X5_freeReserve (up3 (up3 (up3 w i (4 + k) 3 1) i (4 + k) 7 0) i (4 + k) 8 (-1)) i 0) (fun v_5 => gP (F_X5_has (up3 (up3 (up3 w i (4 + k) 3 1) i (4 + k) 7 0) i (4 + k) 8 (-1)) i v_5) (fun v_7 => if v_7 = 0 then (some (100, up3 (up3 (up3 w i (4 + k) 3 1) i (4 + k) 7 0) i (4 + k) 8 (-1))) else (gB v_5 30 (fun k_10 => gS (up3 (up3 (up3 (up3 w i (4 + k) 3 1) i (4 + k) 7 0) i (4 + k) 8 (-1)) i (4 + k_10) 7 (nI (S (10 * k + 6)))) (fun w_11 => gS (up3 w_11 i 0 7 (((w_11 i 0 7) + 1))) (fun w_12 => some (v_5, w_12))))))) := by
            intro w hC
            have e7 : up3 w i (4 + k) 3 1 i (4 + k) 7 = nI (S (10 * k + 6)) := by rw [up3_n (by omega), hC.f7 hk]
            rw [cC2 w hC, if_pos g2, if_neg g6]
            unfold F_X1_callReserve
            rw [gS_e, e7]
            show gC (gP (F_X5_freeReserve (up3 (up3 (up3 w i (4 + k) 3 1) i (4 + k) 7 0) i (4 + k) 8 (-1)) i 0) _) _ = _
            cases F_X5_freeReserve (up3 (up3 (up3 w i (4 + k) 3 1) i (4 + k) 7 0) i (4 + k) 8 (-1)) i 0 with
            | none => rfl
            | some v =>
              simp only [gP_s]
              cases F_X5_has (up3 (up3 (up3 w i (4 + k) 3 1) i (4 + k) 7 0) i (4 + k) 8 (-1)) i v with
              | none => rfl
              | some b =>
                simp only [gP_s]
                split
                · rfl
                · unfold gB
                  split
                  · rfl
                  · rfl
          by_cases gf : fb_ct (rsv (Sgo2 S k)) 4 = 0
          · refine ⟨100, Or.inr ⟨by decide, Sgo2 S k, hI2.mono (by omega), fun w hC hR => ?_, fun w wc hS hch hag => ?_⟩⟩
            · refine ⟨up3 (up3 (up3 w i (4 + k) 3 1) i (4 + k) 7 0) i (4 + k) 8 (-1), ?_, (agB.up _ _ _).tr ((agB.up _ _ _).tr (agB.up _ _ _)), hC3 w hC, hRw w hR⟩
              show F_X1_withdraw w i (nI k) = _
              rw [cC3 w hC, show F_X5_freeReserve (up3 (up3 (up3 w i (4 + k) 3 1) i (4 + k) 7 0) i (4 + k) 8 (-1)) i 0 = _ from (C_free (r := 0) (hC3 w hC) (hRw w hR) hB2 (by omega)).2 (by omega), gP_s, C_has (hC3 w hC), if_pos (Or.inl (by decide)), gP_s, if_pos rfl]
            · have hSc := hag.sv hS
              refine ⟨_, ?_, (ag1.up _ _).tr ((ag1.up _ _).tr (ag1.up _ _)), hS3 wc hSc⟩
              show F_X12_scratch w (nI k) = _
              rw [cM3 w wc hS hch hag, if_neg g6]
              unfold F_X12_calls
              rw [(M_first (hS3 wc hSc) hB2).2 gf, gP_s, if_neg (by decide)]
              rfl
          · obtain ⟨p, hp4, hrp, hcp⟩ := fb_ct_kth (p := rsv (Sgo2 S k)) (k := 0) (n := 4) (by omega)
            have hr0 := rsv_t hrp
            have hrb := hB2.r hp4
            have hq : Sgo2 S k (306 + p) - 1 < Sgo2 S k 311 := by
              obtain ⟨c, hR⟩ := hR0
              obtain ⟨n, q, h1, h2, h4, h5, h7, h8⟩ := hR3 c c hR rfl rfl
              rcases Nat.lt_or_ge p n with z | z
              · have := (h4 p z).2.2.2 hr0.1
                have := (h4 p z).2.1
                omega
              · exact absurd (h5 p z hp4) hr0.1
            have hq30 : Sgo2 S k (306 + p) - 1 < 30 := by omega
            have hS' := Scall_IV hI2 (by rw [eh2 310 (by omega)]; exact g2) (p := p) (L := S (10 * k + 6)) (c := Sgo2 S k 316 + 1) hp4 hg6 hrp hq (by rw [eh2 311 (by omega), eh2 317 (by omega), Sgo2_room hN hk g6]; exact (hI.iw g2).1) (fun z => absurd z g6)
            refine ⟨nI (Sgo2 S k (306 + p) - 1), Or.inr ⟨nI_pos' (by omega), _, hS'.mono (by omega), fun w hC hR => ?_, fun w wc hS hch hag => ?_⟩⟩
            · have hCa := ((hC3 w hC).upk (k := Sgo2 S k (306 + p) - 1) (a := 6) (v := S (10 * k + 6)) hq30 (by omega) rfl).up0 (j := 7) (t := 316) (v := Sgo2 S k 316 + 1) (by rw [upN_n (by omega), eh2 311 (by omega)]; exact hN) (by omega)
              have hCb := hCa.res (by rw [upN_n (by omega), upN_n (by omega), eh2 311 (by omega)]; exact hN) (p := p) (v := 0) hp4
              rw [upN_comm (a := 316) (b := 306 + p) (by omega), upN_comm (a := 10 * (Sgo2 S k (306 + p) - 1) + 6) (b := 306 + p) (by omega), upN_comm (a := 10 * (Sgo2 S k (306 + p) - 1) + 6) (b := 316) (by omega)] at hCb
              refine ⟨_, ?_, ?_, hCb, ?_⟩
              · show F_X1_withdraw w i (nI k) = _
                rw [cC3 w hC, show F_X5_freeReserve (up3 (up3 (up3 w i (4 + k) 3 1) i (4 + k) 7 0) i (4 + k) 8 (-1)) i 0 = _ from (C_free (r := 0) (hC3 w hC) (hRw w hR) hB2 (by omega)).1 p hp4 hrp hcp, gP_s, C_hasN (hC3 w hC) hB2 hq, gP_s, if_neg (by decide), gB_n _ hq30 (by omega), gS_e, gS_e]
                have e7 : up3 (up3 (up3 (up3 w i (4 + k) 3 1) i (4 + k) 7 0) i (4 + k) 8 (-1)) i (4 + (Sgo2 S k (306 + p) - 1)) 7 (nI (S (10 * k + 6))) i 0 7 = nI (Sgo2 S k 316) := by rw [up3_n (by omega)]; exact (hC3 w hC).ca
                rw [e7, nI_1]
                rfl
              · exact ((agB.up _ _ _).tr ((agB.up _ _ _).tr (agB.up _ _ _))).tr ((agB.up _ _ _).tr (agB.up _ _ _))
              · refine (hRw w hR).call (by rw [eh2 311 (by omega)]; exact hN) hp4 hrp (L := S (10 * k + 6)) ?_ ?_ ?_ ?_ g6 (fun p' hp' => ?_) (fun q hq3 => ?_) (fun q hq3 => ?_)
                · rw [up3_n (by omega), up3_n (by omega)]
                · rw [up3_r (by omega), up3_r (by omega)]
                · rw [upN_n (by omega), upN_n (by omega), upN_n (by omega)]
                · rw [upN_n (by omega), upN_n (by omega), upN_n (by omega)]
                · rw [upN_n (by omega), upN_n (by omega)]
                  unfold upN
                  by_cases e : p' = p
                  · rw [if_pos (by omega), if_pos e]
                  · rw [if_neg (by omega), if_neg e]
                · rw [upN_n (by omega), upN_n (by omega), upN_n (by omega)]
                · by_cases e : q = Sgo2 S k (306 + p) - 1
                  · rw [if_pos e, e, upN_s]
                  · rw [if_neg e, upN_n (by omega), upN_n (by omega), upN_n (by omega)]
            · have hSc := hag.sv hS
              refine ⟨_, ?_, ?_, (((hS3 wc hSc).up (306 + p) 0).up 316 (Sgo2 S k 316 + 1)).up (10 * (Sgo2 S k (306 + p) - 1) + 6) (S (10 * k + 6))⟩
              · show F_X12_scratch w (nI k) = _
                rw [cM3 w wc hS hch hag, if_neg g6]
                have h3 := hS3 wc hSc
                revert h3
                generalize up3 (up3 (up3 wc 8 1 (10 * k + 2) 1) 8 1 (10 * k + 6) 0) 8 1 (10 * k + 7) 0 = w3
                intro h3
                unfold F_X12_calls
                have e16 : up3 w3 8 1 (306 + p) 0 8 1 316 = nI (Sgo2 S k 316) := by rw [up3_n (by omega)]; exact h3 316 (by omega)
                rw [(M_first h3 hB2).1 p hp4 hrp hcp, gP_s, i0Le (by omega), show (306 : Int32) = nI 306 from rfl, nI_add, gB_n _ (by omega) (by omega), gS_e, gB_n _ (by omega) (by omega), h3 (306 + p) (by omega), gS_e, gS_e, e16, mN (by omega) (by omega), nI_1, show (6 : Int32) = nI 6 from rfl, M_lay (by omega), gP_s]
                rfl
              · exact ((ag1.up _ _).tr ((ag1.up _ _).tr (ag1.up _ _))).tr ((ag1.up _ _).tr ((ag1.up _ _).tr (ag1.up _ _)))
  · refine ⟨-1000002, Or.inl ⟨hm2, fun w hC _ => ?_, fun w hS => ?_⟩⟩
    · show F_X1_withdraw w i (nI k) = _
      rw [cC w hC, if_neg g0]
    · show F_X12_scratch w (nI k) = _
      rw [cM w hS, if_neg g0]
