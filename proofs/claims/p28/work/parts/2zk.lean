/-! level 2: each order of the law: both sides answer alike, and the relation holds again -/
theorem HL.cg {S S' : Nat → Nat} (h : HL S) (e : S' 311 = S 311) (e2 : ∀ k, k < S 311 → S' (10 * k + 3) = S (10 * k + 3) ∧ S' (10 * k + 4) = S (10 * k + 4)) : HL S' := by
  intro k hk
  rw [e] at hk
  rw [(e2 k hk).1, (e2 k hk).2]
  exact h k hk
theorem OP_S {FC : gWd → Option (Int32 × gWd)} {w w1 : gWd} {S S' : Nat → Nat} {r : Int32} {EB : Nat} (hR : RS w EB S) (ha : agL w w1) (hl : LV w1 S') (hok : OKS 0 FC S r S') (hr : 0 ≤ r) (hI : IV (EB + 1) S') (hH : HL S') (hN : S' 311 ≤ 20) : ∃ w', FCC FC w1 = some (r, w') ∧ w' 8 = w1 8 ∧ RS w' (EB + 1) S' := by
  obtain ⟨hI0, hH0, hN0, hC, hRV, ⟨K, ρ, hHC⟩, hS⟩ := hR
  have e0 : w1 0 = w 0 := ha 0 (by omega)
  have e7 : w1 7 = w 7 := ha 7 (by omega)
  obtain ⟨h1, h2, h3, h4⟩ := hHC
  obtain ⟨w', f, e8, c, v, k⟩ := FCC_S (w := w1) (K := K) (ρ := ρ) hI0.wb ⟨h1, by rw [e7]; exact h2, by rw [e7]; exact h3, h4⟩ (by rw [e0]; exact hC) (by rw [e0]; exact hRV) hok hr
  exact ⟨w', f, e8, hI, hH, hN, c, v, k, hl.of e8⟩
theorem OP_E {FC : gWd → Option (Int32 × gWd)} {w : gWd} {S : Nat → Nat} {r : Int32} {EB : Nat} (hR : RS w EB S) (hok : OKE 0 FC S r) (hr : r < 0) : ∃ w', FCC FC w = some (r, w') ∧ w' 8 = w 8 ∧ RS w' (EB + 1) S := by
  obtain ⟨hI0, hH0, hN0, hC, hRV, ⟨K, ρ, hHC⟩, hS⟩ := hR
  obtain ⟨w', f, e0, e8, k⟩ := FCC_E hI0.wb hHC hC hRV hok hr
  exact ⟨w', f, e8, hI0.mono (by omega), hH0, hN0, by rw [e0]; exact hC, by rw [e0]; exact hRV, ⟨K, ρ, k⟩, hS.of e8⟩
section ORDERS
variable {w : gWd} {EB : Nat} {S : Nat → Nat}
theorem T_43 {x5 x6 r : Int32} {w1 w' : gWd} (h : F_X11_swim w1 x5 x6 = some (r, w')) : F_L_isSwum_43 w1 x5 x6 r = some (1, w') := by
  unfold F_L_isSwum_43
  rw [h, gC_s, if_pos rfl]
theorem T_swum (hR : RS w EB S) {k e : Nat} (hk : k < 2 ^ 31) (he : e = 0 ∨ (100 ≤ e ∧ e ≤ 999)) : ∃ w' S', F_L_isSwum w (nI k) (nI e) = some (1, w') ∧ RS w' (EB + 1) S' ∧ S' 311 = S 311 := by
  have hR0 := hR
  obtain ⟨hI, hH, hN, hC, hRV, hHC, hS⟩ := hR
  have hB := hI.wb
  unfold F_L_isSwum
  rw [hS.N, iLt hk (by omega)]
  by_cases c : k < S 311
  · rw [if_pos c, L_isAsked hS hB (by omega), gP_s]
    by_cases a : askB S k = true
    · rw [if_pos a, if_neg (by decide)]
      obtain ⟨w1, f1, a1, l1⟩ := L_swum hI hS hN c a (e := e) (by omega)
      have htc := tcol_in S
      have e11 : Sswim S k e 311 = S 311 := by rw [Sswim_low (by omega), upN_n (by omega)]
      have hr : (0 : Int32) ≤ (if e = 0 then 100 else nI (ctF (Sswim S k e) e (S 311))) := by
        split
        · decide
        · have := fb_ct_le (fun q => decide (1 < Sswim S k e (10 * q + tcol (Sswim S k e))) && decide (Sswim S k e (10 * q + tcol (Sswim S k e)) < e + 1)) (S 311)
          exact nI_pos' (by unfold ctF; omega)
      obtain ⟨w', f2, e8, hR'⟩ := OP_S hR0 a1 l1 (G_swim hI c he a) hr ((Sswim_IV hI c a (by omega)).mono (by omega)) (hH.cg e11 (fun q hq => ⟨by rw [Sswim_low (by omega), upN_n (by omega)], by rw [Sswim_low (by omega), upN_n (by omega)]⟩)) (by rw [e11]; exact hN)
      exact ⟨w', _, by rw [f1, gC_s]; exact T_43 f2, hR', e11⟩
    · rw [if_neg a, if_pos (by rfl)]
      obtain ⟨w', f2, e8, hR'⟩ := OP_E hR0 (G_swimE2 hI c he a) (by decide)
      exact ⟨w', _, T_43 f2, hR', rfl⟩
  · rw [if_neg c]
    obtain ⟨w', f2, e8, hR'⟩ := OP_E hR0 (G_swimE1 (i := 0) (S := S) (x1 := nI k) (x2 := nI e) (Or.inr ((nI_leI (by omega) hk).mpr (by omega)))) (by decide)
    exact ⟨w', _, T_43 f2, hR', rfl⟩
theorem T_111 {w1 w' : gWd} {r : Int32} (h : F_X11_draw w1 = some (r, w')) : (r = w' 8 5 2 → F_L_isStage_111 w1 (nI 0) = some (1, w')) ∧ (r = -1000002 → F_L_isStage_111 w1 (nI 1) = some (1, w')) := by
  unfold F_L_isStage_111 F_L_isStage_129
  refine ⟨fun e => ?_, fun e => ?_⟩
  · rw [h, gC_s, if_pos (by rfl), if_pos e]
  · rw [h, gC_s, if_neg (by decide), if_pos e]
theorem T_stage (hR : RS w EB S) : ∃ w' S', F_L_isStage w = some (1, w') ∧ RS w' (EB + 1) S' := by
  have hR0 := hR
  obtain ⟨hI, hH, hN, hC, hRV, hHC, hS⟩ := hR
  have hB := hI.wb
  have hst := hB.2.1
  have hw : whyN S ≤ 2 := by unfold whyN; split <;> (try split) <;> (try split) <;> omega
  unfold F_L_isStage
  rw [L_why hS hB hN, gP_s, hS.st, iE0 (by omega), iE1 (by omega), iE2 (by omega), iE0 (a := whyN S) (by omega), iE0 (a := whyN S) (by omega), iE0 (a := whyN S) (by omega)]
  by_cases c0 : S 310 = 0
  · rw [if_pos c0]
    by_cases hp : pres S (S 311) = 0
    · have hwy : whyN S = 1 := by unfold whyN; rw [if_pos c0, if_pos hp]
      rw [if_neg (by omega), hwy]
      obtain ⟨w', f2, e8, hR'⟩ := OP_E hR0 (G_drawE hI hp c0) (by decide)
      exact ⟨w', _, (T_111 f2).2 rfl, hR'⟩
    · have hwy : whyN S = 0 := by unfold whyN; rw [if_pos c0, if_neg hp]
      rw [if_pos hwy, hwy]
      obtain ⟨w1, t, f1, a1, d1, t1⟩ := L_plan hS hB hN (by omega)
      have hS1 := (a1.lv hS).ut (j := 2) (by omega) (nH S)
      rw [f1, gC_s, gS_e]
      obtain ⟨w2, f2, a2, l2⟩ := L_draw37 (t := t) (x9 := nI 0) hB hN (by omega) (S 311) gFU (up3 w1 8 5 2 (nI (nH S))) 0 (by omega) (by unfold gFU; omega) (by rw [Sd_0]; exact hS1) (fun r hr => by rw [up3_n (by omega)]; exact d1 r hr)
      have e11 : Sdraw S t 311 = S 311 := by unfold Sdraw; rw [upN_n (by omega), upN_n (by omega), Sd_hi (by omega)]
      have e12 : Sdraw S t 312 = nH S := by unfold Sdraw; rw [upN_s]
      obtain ⟨hH1, hH8, hHL⟩ := nH_in hB (by omega)
      obtain ⟨w', f3, e8, hR'⟩ := OP_S hR0 (a1.l.tr ((agL.up _ _ _).tr a2)) l2 (G_draw hI (by omega) c0 t1) (nI_pos' (by omega)) ((Sdraw_IV hI (by omega) c0).mono (by omega)) (Sdraw_HL hI (by omega) c0 t1) (by rw [e11]; exact hN)
      refine ⟨w', _, f2.trans ((T_111 f3).1 ?_), hR'⟩
      rw [e8, l2.ht, e12]
  · rw [if_neg c0]
    by_cases c1 : S 310 = 1
    · rw [if_pos c1]
      by_cases hwy : whyN S = 0
      · rw [if_pos hwy]
        obtain ⟨w1, f1, a1, l1⟩ := L_finals hI hS hN c1
        have e11 : Sfin S 311 = S 311 := Sfin_n hB (by omega)
        obtain ⟨w', f2, e8, hR'⟩ := OP_S hR0 a1 l1 (G_finals hI c1 hwy) (nI_pos' (by have := bn_30 (inF (Sfin S)) (n := S 311) (by omega); omega)) ((Sfin_IV hI c1).mono (by omega)) (hH.cg e11 (fun q hq => ⟨Sfin_n hB (by omega), Sfin_n hB (by omega)⟩)) (by rw [e11]; exact hN)
        refine ⟨w', _, ?_, hR'⟩
        rw [f1, gC_s]
        unfold F_L_isStage_166
        rw [show F_X11_finals w1 = _ from f2, gC_s, if_pos rfl]
      · rw [if_neg hwy]
        obtain ⟨w', f2, e8, hR'⟩ := OP_E hR0 (G_finalsE hI c1 hwy) (by decide)
        refine ⟨w', _, ?_, hR'⟩
        unfold F_L_isStage_166
        rw [show F_X11_finals w = _ from f2, gC_s, if_pos rfl]
    · rw [if_neg c1]
      by_cases c2 : S 310 = 2
      · rw [if_pos c2]
        by_cases hwy : whyN S = 0
        · rw [if_pos hwy]
          obtain ⟨w1, f1, a1, l1⟩ := L_end hI hS hN c2
          have en : ∀ t, (t < 300 ∧ t % 10 < 8) ∨ t = 311 → Send S t = S t := fun t ht => by unfold Send; rw [upN_n (by omega), upN_n (by omega)]; exact Se_n hB (by omega) (by omega)
          have e11 : Send S 311 = S 311 := en 311 (by omega)
          obtain ⟨w', f2, e8, hR'⟩ := OP_S hR0 a1 l1 (G_end hI c2 hwy) (nI_pos' (by have := bn_30 (fstP S) (n := S 311) (by omega); omega)) (Send_IV hI (tm_room hI c2)) (hH.cg e11 (fun q hq => ⟨en _ (by omega), en _ (by omega)⟩)) (by rw [e11]; exact hN)
          refine ⟨w', _, ?_, hR'⟩
          rw [f1, gC_s]
          unfold F_L_isStage_212
          rw [show F_X11_end w1 = _ from f2, gC_s, if_pos rfl]
        · rw [if_neg hwy]
          obtain ⟨w', f2, e8, hR'⟩ := OP_E hR0 (G_endE hI c2 hwy) (by decide)
          refine ⟨w', _, ?_, hR'⟩
          unfold F_L_isStage_212
          rw [show F_X11_end w = _ from f2, gC_s, if_pos rfl]
      · rw [if_neg c2]
        obtain ⟨w1, f1, a1, l1⟩ := L_next hI hS hN
        have e11 : Snext S 311 = S 311 := by rw [Snext_n (by omega), Sn_hi (by omega)]
        have ez : ∀ q, q < S 311 → Snext S (10 * q + 3) = 0 ∧ Snext S (10 * q + 4) = 0 := fun q hq => ⟨by rw [Snext_n (by omega), Sn_c (by omega), if_pos hq, if_neg (by omega), if_pos (by omega)], by rw [Snext_n (by omega), Sn_c (by omega), if_pos hq, if_neg (by omega), if_pos (by omega)]⟩
        obtain ⟨w', f2, e8, hR'⟩ := OP_S hR0 a1 l1 (G_next hI (by omega)) (nI_pos' (by have := fb_ct_le (chg S) (S 311); omega)) ((Snext_IV hI).mono (by omega)) (fun q hq => by rw [e11] at hq; exact ⟨fun _ => (ez q hq).2, fun z => absurd (ez q hq).1 z⟩) (by rw [e11]; exact hN)
        refine ⟨w', _, ?_, hR'⟩
        rw [f1, gC_s, show F_X11_next w1 = _ from f2, gC_s, if_pos rfl]
theorem T_set (hR : RS w EB S) {k v : Nat} (hk : k < 3) (hv1 : stLo k ≤ v) (hv2 : v ≤ stHi k) : ∃ w' S', F_L_isActed_251 w (nI k) (nI v) = some (1, w') ∧ RS w' (EB + 1) S' := by
  have hR0 := hR
  obtain ⟨hI, hH, hN, hC, hRV, hHC, hS⟩ := hR
  have hB := hI.wb
  have hst := hB.2.1
  have n7 : (7 : Int32) + nI k = nI (7 + k) := nI_add 7 k
  have hset : S (317 + k) ≤ 10 := by
    have h6 := hB.2.2.2.2.2.1
    have h7 := hB.2.2.2.2.2.2.1
    have h8 := hB.2.2.2.2.2.2.2.1
    have : k = 0 ∨ k = 1 ∨ k = 2 := by omega
    rcases this with rfl | rfl | rfl
    · exact h6.2
    · show S 318 ≤ 10; omega
    · show S 319 ≤ 10; omega
  have g7 : w 8 5 (7 + k) = nI (S (317 + k)) := by rw [hS.gt (by omega), show 310 + (7 + k) = 317 + k by omega]
  unfold F_L_isActed_251 F_L_isActed_273 F_L_isActed_302
  rw [hS.st, iE0 (by omega), n7, gB10 (by omega), gB10 (by omega), gB10 (by omega), g7, gS_e]
  by_cases c : S 310 = 0
  · rw [if_pos c, iE0 (by omega), if_pos c]
    have l1 := hS.ut (j := 7 + k) (by omega) v
    rw [show 310 + (7 + k) = 317 + k by omega] at l1
    have e11 : upN S (317 + k) v 311 = S 311 := upN_n (by omega)
    obtain ⟨w', f2, e8, hR'⟩ := OP_S hR0 (agL.up 5 (7 + k) (nI v)) l1 (G_set hI c hk hv1 hv2) (nI_pos' (by omega)) ((Sset_IV hI c hk hv1 hv2).mono (by omega)) (hH.cg e11 (fun q hq => ⟨upN_n (by omega), upN_n (by omega)⟩)) (by rw [e11]; exact hN)
    refine ⟨w', _, ?_, hR'⟩
    rw [show F_X11_set (up3 w 8 5 (7 + k) (nI v)) (nI k) (nI v) = _ from f2, gC_s, if_pos rfl]
  · rw [if_neg c, iE0 (by omega), if_neg c, gB10 (by omega), gB10 (by omega), gS_e]
    obtain ⟨w', f2, e8, hR'⟩ := OP_E hR0 (G_setE hI c hk hv1 hv2) (by decide)
    refine ⟨w', _, ?_, hR'⟩
    rw [up3_id, show F_X11_set w (nI k) (nI v) = _ from f2, gC_s, if_pos rfl]
theorem T_enter (hR : RS w EB S) (h0 : S 310 = 0) (hn : S 311 < 20) {y e : Nat} (hy : y < 2 ^ 31) (he : e = 0 ∨ (100 ≤ e ∧ e ≤ 999)) : ∃ w' S', F_L_isActed_68 w (nI y) (nI e) = some (1, w') ∧ RS w' (EB + 1) S' := by
  have hR0 := hR
  obtain ⟨hI, hH, hN, hC, hRV, hHC, hS⟩ := hR
  have hB := hI.wb
  have hcl : y % 6 < 6 := Nat.mod_lt _ (by omega)
  have hm : nI y - nI y / 6 * 6 = nI (y % 6) := pk_rem (d := 6) hy (by omega) (by omega)
  have r1 : ∀ v, up3 w 8 0 (3 * S 311) v 8 5 1 = nI (S 311) := fun v => by rw [up3_n (by omega)]; exact hS.N
  have r2 : ∀ v u, up3 (up3 w 8 0 (3 * S 311) v) 8 0 (3 * S 311 + 1) u 8 5 1 = nI (S 311) := fun v u => by rw [up3_n (by omega)]; exact r1 v
  have l1 := ((hS.u0 hn (y % 6)).u1 hn e).ut (j := 1) (by omega) (S 311 + 1)
  have e11 : Sent S (y % 6) e 311 = S 311 + 1 := Sent_N
  have hIV := Sent_IV (cl := y % 6) (e := e) hI (by omega) h0 (by omega) (by omega)
  have hHL : HL (Sent S (y % 6) e) := by
    intro q hq
    rw [e11] at hq
    have q3 : Sent S (y % 6) e (10 * q + 3) = S (10 * q + 3) := by rw [Sent_k (by omega) (by omega) (by omega), if_neg (by omega), if_neg (by omega)]
    have q4 : Sent S (y % 6) e (10 * q + 4) = S (10 * q + 4) := by rw [Sent_k (by omega) (by omega) (by omega), if_neg (by omega), if_neg (by omega)]
    rw [q3, q4]
    by_cases hq2 : q < S 311
    · exact hH q hq2
    · have z3 := hI.out (k := q) (a := 3) (by omega) (by omega) (by omega) (by omega)
      have z4 := hI.out (k := q) (a := 4) (by omega) (by omega) (by omega) (by omega)
      exact ⟨fun _ => z4, fun z => absurd z3 z⟩
  obtain ⟨w', f2, e8, hR'⟩ := OP_S (S' := Sent S (y % 6) e) hR0 ((agL.up 0 (3 * S 311) (nI (y % 6))).tr ((agL.up 0 (3 * S 311 + 1) (nI e)).tr (agL.up 5 1 (nI (S 311 + 1))))) l1 (G_enter hI (by omega) h0 hcl he) (nI_pos' (by omega)) (hIV.mono (by omega)) hHL (by rw [e11]; omega)
  refine ⟨w', _, ?_, hR'⟩
  unfold F_L_isActed_68
  rw [hm, hS.N, g30 hn, gS_e, r1, g31 hn, gS_e, r2, nI_1, gS_e, show F_X11_enter (up3 (up3 (up3 w 8 0 (3 * S 311) (nI (y % 6))) 8 0 (3 * S 311 + 1) (nI e)) 8 5 1 (nI (S 311 + 1))) (nI (y % 6)) (nI e) = _ from f2, gC_s, e8, up3_s, nI_pred, if_pos rfl]
theorem T_186 {w1 w' : gWd} {x11 r : Int32} (h : F_X11_scratch w1 x11 = some (r, w')) : F_L_isActed_186 w1 x11 r = some (1, w') := by
  unfold F_L_isActed_186
  rw [h, gC_s, if_pos rfl]
theorem T_scratch (hR : RS w EB S) {k : Nat} (hk : k < 2 ^ 31) : ∃ w' S', (if nI k < (w 8 5 1) then (gB (((3 * nI k) + 2)) 60 (fun k_26 => if (w 8 0 k_26) = 1 then (F_L_isActed_169 w (nI k)) else (if (w 8 5 0) = 3 then (F_L_isActed_169 w (nI k)) else (gC (F_L_scratch w (nI k)) (fun v_30 w_31 => F_L_isActed_186 w_31 (nI k) v_30))))) else (F_L_isActed_186 w (nI k) (-1000001))) = some (1, w') ∧ RS w' (EB + 1) S' := by
  have hR0 := hR
  obtain ⟨hI, hH, hN, hC, hRV, hHC, hS⟩ := hR
  have hB := hI.wb
  have hst := hB.2.1
  rw [hS.N, iLt hk (by omega)]
  by_cases c : k < S 311
  · have hk2 : k < 20 := by omega
    have h := hB.k (k := k) (by omega)
    have hg6 := h.2.2.2.2.2.2.1
    rw [if_pos c, g32 hk2, hS.g2 hk2, iE1 (by omega), hS.st, iE3 (by omega)]
    unfold F_L_isActed_169
    by_cases g0 : S (10 * k + 2) = 0
    · rw [if_neg (by omega)]
      by_cases g3 : S 310 = 3
      · rw [if_pos g3]
        obtain ⟨w', f2, e8, hR'⟩ := OP_E hR0 (G_scratchE2 hI c (Or.inr g3)) (by decide)
        exact ⟨w', _, T_186 f2, hR'⟩
      · rw [if_neg g3]
        by_cases g1 : S 310 = 1
        · obtain ⟨w1, f1, a1, l1⟩ := L_scratch1 hI hS hN c g1
          have e11 : Sgo1 S k 311 = S 311 := by unfold Sgo1 Sgo; rw [upN_n (by omega), upN_n (by omega), upN_n (by omega), upN_n (by omega)]
          have hHL : HL (Sgo1 S k) := by
            intro q hq
            rw [e11] at hq
            by_cases eq : q = k
            · subst eq
              have z3 : Sgo1 S q (10 * q + 3) = 0 := by unfold Sgo1; rw [upN_n (by omega), upN_n (by omega), upN_s]
              have z4 : Sgo1 S q (10 * q + 4) = 0 := by unfold Sgo1; rw [upN_n (by omega), upN_s]
              exact ⟨fun _ => z4, fun z => absurd z3 z⟩
            · have z3 : Sgo1 S k (10 * q + 3) = S (10 * q + 3) := by unfold Sgo1 Sgo; rw [upN_n (by omega), upN_n (by omega), upN_n (by omega), upN_n (by omega)]
              have z4 : Sgo1 S k (10 * q + 4) = S (10 * q + 4) := by unfold Sgo1 Sgo; rw [upN_n (by omega), upN_n (by omega), upN_n (by omega), upN_n (by omega)]
              rw [z3, z4]
              exact hH q hq
          obtain ⟨w', f2, e8, hR'⟩ := OP_S hR0 a1 l1 (G_scratch1 hI c g0 g1) (by decide) ((Sgo1_IV hI c g1).mono (by omega)) hHL (by rw [e11]; exact hN)
          exact ⟨w', _, by rw [f1, gC_s]; exact T_186 f2, hR'⟩
        · by_cases g6 : S (10 * k + 6) = 0
          · obtain ⟨w1, f1, a1, l1⟩ := L_scratch0 hI hS hN c g1 g3 g6
            have e11 : Sgo S k 311 = S 311 := by unfold Sgo; rw [upN_n (by omega)]
            obtain ⟨w', f2, e8, hR'⟩ := OP_S hR0 a1 l1 (G_scratch0 hI c g0 g1 g3 g6) (by decide) ((Sgo_IV hI c g1 g6).mono (by omega)) (hH.cg e11 (fun q hq => ⟨by unfold Sgo; rw [upN_n (by omega)], by unfold Sgo; rw [upN_n (by omega)]⟩)) (by rw [e11]; exact hN)
            exact ⟨w', _, by rw [f1, gC_s]; exact T_186 f2, hR'⟩
          · have g2 : S 310 = 2 := by
              have : S 310 ≠ 0 := fun z => g6 ((hI.s0 z).2 k c 6 (by omega) (by omega))
              omega
            have eh2 : ∀ q, 300 ≤ q → Sgo2 S k q = S q := fun q hq => Sgo2_n (by omega)
            have e34 : ∀ q, Sgo2 S k (10 * q + 3) = S (10 * q + 3) ∧ Sgo2 S k (10 * q + 4) = S (10 * q + 4) := fun q => ⟨by unfold Sgo2 Sgo; rw [upN_n (by omega), upN_n (by omega), upN_n (by omega)], by unfold Sgo2 Sgo; rw [upN_n (by omega), upN_n (by omega), upN_n (by omega)]⟩
            have hI2 := Sgo2_IV hI c g1
            have hH2 : HL (Sgo2 S k) := hH.cg (eh2 311 (by omega)) (fun q _ => e34 q)
            rcases L_scratch2 hI hS hN (fun p hp => hRV.le hp) c g2 g6 with ⟨p, p1, p2, p3, w1, f1, a1, l1⟩ | ⟨p1, w1, f1, a1, l1⟩
            · have hr0 := rsv_t p2
              have hle : Sgo2 S k (306 + p) ≤ S 311 := by rw [eh2 _ (by omega)]; exact hRV.le p1
              have hq : Sgo2 S k (306 + p) - 1 < Sgo2 S k 311 := by rw [eh2 311 (by omega)]; omega
              have hS' := Scall_IV hI2 (by rw [eh2 310 (by omega)]; exact g2) (p := p) (L := S (10 * k + 6)) (c := Sgo2 S k 316 + 1) p1 hg6 p2 hq (by rw [eh2 311 (by omega), eh2 317 (by omega), Sgo2_room (by omega) c g6]; exact (hI.iw g2).1) (fun z => absurd z g6)
              have e11 : upN (upN (upN (Sgo2 S k) (306 + p) 0) 316 (Sgo2 S k 316 + 1)) (10 * (Sgo2 S k (306 + p) - 1) + 6) (S (10 * k + 6)) 311 = Sgo2 S k 311 := by rw [upN_n (by omega), upN_n (by omega), upN_n (by omega)]
              obtain ⟨w', f2, e8, hR'⟩ := OP_S hR0 a1 l1 (G_scratch3 hI ⟨w 0, hRV⟩ c g0 g2 g6 p1 p2 p3) (nI_pos' (by omega)) (hS'.mono (by omega)) (hH2.cg e11 (fun q hq => ⟨by rw [upN_n (by omega), upN_n (by omega), upN_n (by omega)], by rw [upN_n (by omega), upN_n (by omega), upN_n (by omega)]⟩)) (by rw [e11, eh2 311 (by omega)]; exact hN)
              exact ⟨w', _, by rw [f1, gC_s]; exact T_186 f2, hR'⟩
            · obtain ⟨w', f2, e8, hR'⟩ := OP_S hR0 a1 l1 (G_scratch2 hI c g0 g2 g6 p1) (by decide) (hI2.mono (by omega)) hH2 (by rw [eh2 311 (by omega)]; exact hN)
              exact ⟨w', _, by rw [f1, gC_s]; exact T_186 f2, hR'⟩
    · rw [if_pos (by omega)]
      obtain ⟨w', f2, e8, hR'⟩ := OP_E hR0 (G_scratchE2 hI c (Or.inl g0)) (by decide)
      exact ⟨w', _, T_186 f2, hR'⟩
  · rw [if_neg c]
    obtain ⟨w', f2, e8, hR'⟩ := OP_E hR0 (G_scratchE1 (i := 0) (S := S) (x1 := nI k) (Or.inr ((nI_leI (by omega) hk).mpr (by omega)))) (by decide)
    exact ⟨w', _, T_186 f2, hR'⟩
end ORDERS
