/-! level 2: draw -/
theorem erank_cg30 {S S' : Nat → Nat} (hN0 : S 311 ≤ 30) (h1 : ∀ q, q < 30 → S' (10 * q + 1) = S (10 * q + 1)) (h2 : ∀ q, q < 30 → S' (10 * q + 2) = S (10 * q + 2)) (hN : S' 311 = S 311) {k : Nat} (hk : k < 30) : erank S' k = erank S k := by
  unfold erank
  rw [hN]
  exact fb_ct_cong (fun q hq => by rw [h2 q (by omega), ek_cg (h1 q (by omega)), ek_cg (h1 k hk)])
theorem bulk_up {S : Nat → Nat} {v a j : Nat} {f g : Nat → Nat} {p p' : Nat → Bool} (hf : ∀ k, k < 30 → f k = g k) (hp : ∀ k, k < 30 → p k = p' k) : bulk (upN S 312 v) a f p j = upN (bulk S a g p' j) 312 v := by
  funext t
  by_cases h : t = 312
  · subst h
    rw [upN_s, bulk_hi (by omega), upN_s]
  · rw [upN_n h]
    unfold bulk
    by_cases c : t < 300
    · rw [hf (t / 10) (by omega), hp (t / 10) (by omega), upN_n h]
    · rw [if_neg (fun z => c z.1), if_neg (fun z => c z.1), upN_n h]
theorem pres_up {S : Nat → Nat} {v : Nat} (hN : S 311 ≤ 30) : pres (upN S 312 v) (upN S 312 v 311) = pres S (S 311) := by
  rw [upN_n (by omega)]
  unfold pres
  exact fb_ct_cong (fun q hq => by rw [upN_n (by omega)])
theorem nH_up {S : Nat → Nat} {v : Nat} (hN : S 311 ≤ 30) : nH (upN S 312 v) = nH S := by
  unfold nH
  rw [pres_up hN, upN_n (by omega)]
theorem erank_up {S : Nat → Nat} {v k : Nat} (hN : S 311 ≤ 30) (hk : k < 30) : erank (upN S 312 v) k = erank S k := erank_cg30 hN (fun q hq => upN_n (by omega)) (fun q hq => upN_n (by omega)) (upN_n (by omega)) hk
theorem hcn_up {S : Nat → Nat} {v t k : Nat} (hN : S 311 ≤ 30) (hk : k < 30) : hcn (upN S 312 v) t k = hcn S t k := by
  unfold hcn
  rw [erank_up hN hk, nH_up hN, upN_n (by omega)]
theorem Sd_up {S : Nat → Nat} {v t : Nat} (hN : S 311 ≤ 30) : Sd (upN S 312 v) t (upN S 312 v 311) = upN (Sd S t (S 311)) 312 v := by
  have hU : ∀ k, k < 30 → UN (upN S 312 v) k = UN S k := fun k hk => by unfold UN; rw [upN_n (by omega)]
  unfold Sd
  rw [upN_n (show (311 : Nat) ≠ 312 by omega), bulk_up (S := S) (g := fun k => Dt (S 317) (nH S) t (erank S k) + 1) (p' := UN S) (fun k hk => by rw [erank_up hN hk, nH_up hN, upN_n (by omega)]) hU]
  exact bulk_up (fun k hk => by rw [hcn_up hN hk, laneI_cg (upN_n (by omega))]) hU
theorem Sd_cg {S : Nat → Nat} {t t' : Nat} (hN : S 311 ≤ 30) (h : cg (S 317) (nH S) (pres S (S 311)) t = cg (S 317) (nH S) (pres S (S 311)) t') : Sd S t (S 311) = Sd S t' (S 311) := by
  have hd : ∀ r, r < pres S (S 311) → Dt (S 317) (nH S) t r = Dt (S 317) (nH S) t' r := fun r hr => Dt_cg h hr
  unfold Sd
  rw [bulk_ext (S := S) (f := fun k => Dt (S 317) (nH S) t (erank S k) + 1) (g := fun k => Dt (S 317) (nH S) t' (erank S k) + 1) (fun k _ hk hU => by rw [hd _ (erank_lt hk hU)])]
  refine bulk_ext (fun k _ hk hU => ?_)
  have hr := erank_lt hk hU
  congr 2
  unfold hcn
  exact fb_ct_cong (fun q hq => by rw [hd q (by omega), hd _ hr])
theorem nA_up {S : Nat → Nat} {v : Nat} (hN : S 311 ≤ 30) : nA (upN S 312 v) (nH S) = nA S (nH S) := by
  unfold nA
  rw [pres_up hN, upN_n (by omega), upN_n (by omega)]
theorem Sdraw_IV {EB : Nat} {S : Nat → Nat} {t : Nat} (hI : IV EB S) (hp : 0 < pres S (S 311)) (h0 : S 310 = 0) : IV EB (Sdraw S t) := by
  have hB := hI.wb
  obtain ⟨hH1, hH8, hHL⟩ := nH_in hB hp
  have hN := hB.1
  have hi : ∀ q, 300 ≤ q → q ≠ 310 → q ≠ 312 → Sdraw S t q = S q := fun q h1 h2 h3 => by unfold Sdraw; rw [upN_n h3, upN_n h2, Sd_hi h1]
  have hk : ∀ k a, k < 30 → a < 10 → Sdraw S t (10 * k + a) = Sd S t (S 311) (10 * k + a) := fun k a h1 h2 => by unfold Sdraw; rw [upN_n (by omega), upN_n (by omega)]
  have hne : ∀ k a, k < 30 → a < 10 → a ≠ 3 → a ≠ 4 → Sdraw S t (10 * k + a) = S (10 * k + a) := fun k a h1 h2 h3 h4 => by rw [hk k a h1 h2, Sd_ne h2 h3 h4]
  have h310 : Sdraw S t 310 = 1 := by unfold Sdraw; rw [upN_n (by omega), upN_s]
  have h312 : Sdraw S t 312 = nH S := upN_s _ _ _
  have hBd : WB (Sd S t (S 311)) := Sd_WB hB hp
  have h9 := hB.2.2.2.2.2.2.2.2.1
  refine ⟨⟨by rw [hi 311 (by omega) (by omega) (by omega)]; exact hN, by rw [h310]; omega, by rw [h312]; exact hH8, by rw [hi 314 (by omega) (by omega) (by omega)]; exact hB.2.2.2.1, by rw [hi 315 (by omega) (by omega) (by omega)]; exact hB.2.2.2.2.1, by rw [hi 317 (by omega) (by omega) (by omega)]; exact hB.2.2.2.2.2.1, by rw [hi 318 (by omega) (by omega) (by omega)]; exact hB.2.2.2.2.2.2.1, by rw [hi 319 (by omega) (by omega) (by omega)]; exact hB.2.2.2.2.2.2.2.1, fun p hp2 => by rw [hi (306 + p) (by omega) (by omega) (by omega)]; exact h9 p hp2, fun k hk1 a ha => by rw [hk k a hk1 ha]; exact hBd.a hk1 ha⟩, ?_, ?_, ?_, ?_, ?_, ?_, ?_⟩
  · intro k h1 h2 a h3 h4
    rw [hi 311 (by omega) (by omega) (by omega)] at h1
    rw [hk k a h2 h4]
    by_cases e3 : a = 3
    · subst e3; rw [Sd_3 h2, if_neg (fun z => by omega)]; exact hI.out h1 h2 h3 h4
    · by_cases e4 : a = 4
      · subst e4; rw [Sd_4 h2, if_neg (fun z => by omega)]; exact hI.out h1 h2 h3 h4
      · rw [Sd_ne h4 e3 e4]; exact hI.out h1 h2 h3 h4
  · intro h; omega
  · intro _ k hk1
    rw [hi 311 (by omega) (by omega) (by omega)] at hk1
    have hz := (hI.s0 h0).2 k hk1
    rw [hne k 2 (by omega) (by omega) (by omega) (by omega), hne k 5 (by omega) (by omega) (by omega) (by omega), hne k 6 (by omega) (by omega) (by omega) (by omega), hne k 7 (by omega) (by omega) (by omega) (by omega), hne k 8 (by omega) (by omega) (by omega) (by omega), hk k 3 (by omega) (by omega), Sd_3 (by omega)]
    refine ⟨fun hg => ⟨?_, hz 5 (by omega) (by omega)⟩, hz 6 (by omega) (by omega), hz 7 (by omega) (by omega), hz 8 (by omega) (by omega)⟩
    rw [if_neg (fun z => by have := UN_t.mp z.2; omega)]
    exact hz 3 (by omega) (by omega)
  · intro h; omega
  · intro q hq
    rw [hi (300 + q) (by omega) (by omega) (by omega), hI.cl hq, hi 311 (by omega) (by omega) (by omega)]
    unfold clubSum
    exact fb_sm_cong (fun z hz => by rw [show Sdraw S t (10 * z) = S (10 * z) from hne z 0 (by omega) (by omega) (by omega) (by omega), hne z 9 (by omega) (by omega) (by omega) (by omega)])
  · intro k hk1
    rw [hi 311 (by omega) (by omega) (by omega)] at hk1
    rw [hne k 9 (by omega) (by omega) (by omega) (by omega), hi 313 (by omega) (by omega) (by omega)]
    exact hI.pt hk1
  · rw [hi 313 (by omega) (by omega) (by omega)]; exact ⟨hI.eb, IW.no (by omega)⟩
theorem C_draw {w : gWd} {S : Nat → Nat} {i t0 EB : Nat} (hI : IV EB S) (hC : CV (w i) S) (hR : RV (w i) S) (hp : 0 < pres S (S 311)) (h0 : S 310 = 0) (ht0 : cg (S 317) (nH S) (pres S (S 311)) t0 = min (nA S (nH S)).toNat (nT S (nH S))) : ∃ w', F_X1_drawHeats w i = some (nI (nH S), w') ∧ agB i w w' ∧ CV (w' i) (Sdraw S t0) ∧ RV (w' i) (Sdraw S t0) := by
  have hB := hI.wb
  have hN := hB.1
  have hn := pres_le S (S 311)
  have hl := hB.2.2.2.2.2.1
  obtain ⟨hH1, hH8, hHL⟩ := nH_in hB hp
  have hz := fun k hk => (hI.s0 h0).2 k hk 3 (by omega) (by omega)
  -- the memory with the number of heats
  have hC1 : CV (up3 w i 0 5 (nI (nH S)) i) (upN S 312 (nH S)) := hC.up0 hN (by omega)
  have hB1 : WB (upN S 312 (nH S)) := by
    obtain ⟨b1, b2, b3, b4, b5, b6, b7, b8, b9, b10⟩ := hB
    exact ⟨by rw [upN_n (by omega)]; exact b1, by rw [upN_n (by omega)]; exact b2, by rw [upN_s]; exact hH8, by rw [upN_n (by omega)]; exact b4, by rw [upN_n (by omega)]; exact b5, by rw [upN_n (by omega)]; exact b6, by rw [upN_n (by omega)]; exact b7, by rw [upN_n (by omega)]; exact b8, fun p hp => by rw [upN_n (by omega)]; exact b9 p hp, fun k hk a ha => by rw [upN_n (by omega)]; exact b10 k hk a ha⟩
  have hp1 : 0 < pres (upN S 312 (nH S)) (upN S 312 (nH S) 311) := by rw [pres_up hN]; exact hp
  have hz1 : ∀ q, q < upN S 312 (nH S) 311 → upN S 312 (nH S) (10 * q + 3) = 0 := fun q hq => by
    rw [upN_n (by omega)] at hq
    rw [upN_n (by omega)]
    exact hz q hq
  have hH1' : upN S 312 (nH S) 312 = nH (upN S 312 (nH S)) := by rw [nH_up hN, upN_s]
  obtain ⟨w1, f1, g1, c1⟩ := C_spread hC1 hB1 hp1 hH1'
  obtain ⟨w2, t, f2, g2, c2, k2⟩ := C_fill hB1 hp1 hz1 hH1' c1
  obtain ⟨w3, f3, g3, c3⟩ := C_lanesAll hB1 hp1 hz1 c2
  have k3 : cg (S 317) (nH S) (pres S (S 311)) t = cg (S 317) (nH S) (pres S (S 311)) t0 := by
    rw [ht0]
    have := k2
    rw [pres_up hN, nH_up hN, nA_up hN, upN_n (by omega)] at this
    rw [this]
    congr 1
    unfold nT
    rw [pres_up hN, upN_n (by omega)]
  rw [Sd_up hN, Sd_cg hN k3] at c3
  have e5 : w3 i 0 5 = nI (nH S) := by rw [c3.ht, upN_s]
  have c4 : CV (up3 w3 i 0 4 (nI 1) i) (upN (upN (Sd S t0 (S 311)) 312 (nH S)) 310 1) := c3.up0 (by rw [upN_n (by omega), Sd_hi (by omega)]; exact hN) (by omega)
  have hcom : upN (upN (Sd S t0 (S 311)) 312 (nH S)) 310 1 = Sdraw S t0 := by
    funext q
    unfold Sdraw upN
    by_cases a : q = 310
    · subst a; rfl
    · rw [if_neg a, if_neg a]
  rw [hcom] at c4
  refine ⟨up3 w3 i 0 4 (nI 1), ?_, ?_, c4, ?_⟩
  · unfold F_X1_drawHeats
    rw [C_pres hC hB, gP_s, hC.st, iE0 (by omega), if_pos h0, iE0 (by omega), if_neg (by omega), C_lanes hC, gP_s, C_heatsFor ⟨hp, by omega⟩ hl, gP_s, gS_e]
    show gP (F_X2_spread (up3 w i 0 5 (nI (nH S))) i) _ = _
    rw [f1, gP_s, f2, gP_s, f3, gP_s, gS_e, up3_n (by omega), e5]
    rfl
  · exact (agB.up 0 5 _).tr (g1.agB.tr (g2.agB.tr (g3.agB.tr (agB.up 0 4 _))))
  · have gg := g1.tr (g2.tr g3)
    have hSd : ∀ k a, k < 30 → a < 10 → a ≠ 3 → a ≠ 4 → Sdraw S t0 (10 * k + a) = S (10 * k + a) := fun k a h1 h2 h3 h4 => by unfold Sdraw; rw [upN_n (by omega), upN_n (by omega), Sd_ne h2 h3 h4]
    refine hR.cg ?_ ?_ ?_ (fun p hp => ?_) (fun k hk => ⟨hSd k 6 (by omega) (by omega) (by omega) (by omega), hSd k 2 (by omega) (by omega) (by omega) (by omega)⟩) (fun _ => by omega)
    · rw [up3_n (by omega), gg.2 0 (by omega), up3_n (by omega)]
    · rw [up3_r (by omega), gg.2 3 (by omega), up3_r (by omega)]
    · unfold Sdraw; rw [upN_n (by omega), upN_n (by omega), Sd_hi (by omega)]; exact Nat.le_refl _
    · unfold Sdraw; rw [upN_n (by omega), upN_n (by omega), Sd_hi (by omega)]
