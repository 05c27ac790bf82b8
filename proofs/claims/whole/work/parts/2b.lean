/-! level 2: enter and set -/
theorem okv0 {a : Nat} : okv a 0 := by
  refine ⟨fun h => ?_, fun h => ?_, fun h => ?_, fun h => ?_, fun h => ?_, fun h => ?_, fun h => ?_, fun h => ?_⟩ <;> omega
theorem fb_sm_zero' {f : Nat → Nat} {n : Nat} (h : ∀ k, k < n → f k = 0) : fb_sm f n = 0 := by
  rw [fb_sm_cong h]
  have := fb_sm_const 0 n
  simpa using this
/-- what entering makes of the memory -/
def Sent (S : Nat → Nat) (cl e : Nat) : Nat → Nat := upN (upN (upN S (10 * S 311) cl) (10 * S 311 + 1) e) 311 (S 311 + 1)
section ENT
variable {S : Nat → Nat} {cl e : Nat}
theorem Sent_hi {t : Nat} (hN : S 311 < 30) (h : 300 ≤ t) (h2 : t ≠ 311) : Sent S cl e t = S t := by
  unfold Sent
  rw [upN_n h2, upN_n (by omega), upN_n (by omega)]
theorem Sent_N : Sent S cl e 311 = S 311 + 1 := upN_s _ _ _
theorem Sent_k {k a : Nat} (hN : S 311 < 30) (hk : k < 30) (ha : a < 10) : Sent S cl e (10 * k + a) = if k = S 311 ∧ a = 0 then cl else if k = S 311 ∧ a = 1 then e else S (10 * k + a) := by
  unfold Sent
  rw [upN_n (by omega)]
  by_cases h1 : k = S 311 ∧ a = 1
  · obtain ⟨rfl, rfl⟩ := h1
    rw [upN_s, if_neg (by omega), if_pos ⟨rfl, rfl⟩]
  · rw [upN_n (by omega)]
    by_cases h0 : k = S 311 ∧ a = 0
    · obtain ⟨rfl, rfl⟩ := h0
      rw [if_pos ⟨rfl, rfl⟩]
      exact upN_s _ _ _
    · rw [upN_n (by omega), if_neg h0, if_neg h1]
theorem Sent_o {k a : Nat} (hN : S 311 < 30) (hk : k < S 311) (ha : a < 10) : Sent S cl e (10 * k + a) = S (10 * k + a) := by
  rw [Sent_k hN (by omega) ha, if_neg (by omega), if_neg (by omega)]
theorem Sent_IV {EB : Nat} (hI : IV EB S) (hN : S 311 < 30) (h0 : S 310 = 0) (hcl : cl ≤ 5) (he : e ≤ 999) : IV EB (Sent S cl e) := by
  have hB := hI.wb
  obtain ⟨b1, b2, b3, b4, b5, b6, b7, b8, b9, b10⟩ := hB
  have hi : ∀ t, 300 ≤ t → t ≠ 311 → Sent S cl e t = S t := fun t => Sent_hi hN
  have h300 := hi 300 (by omega) (by omega)
  refine ⟨⟨by rw [Sent_N]; omega, by rw [hi 310 (by omega) (by omega)]; exact b2, by rw [hi 312 (by omega) (by omega)]; exact b3, by rw [hi 314 (by omega) (by omega)]; exact b4, by rw [hi 315 (by omega) (by omega)]; exact b5, by rw [hi 317 (by omega) (by omega)]; exact b6, by rw [hi 318 (by omega) (by omega)]; exact b7, by rw [hi 319 (by omega) (by omega)]; exact b8, fun p hp => by rw [hi (306 + p) (by omega) (by omega)]; exact b9 p hp, fun k hk a ha => ?_⟩, ?_, ?_, ?_, ?_, ?_, ?_, ?_⟩
  · rw [Sent_k hN hk ha]
    by_cases c0 : k = S 311 ∧ a = 0
    · rw [if_pos c0, c0.2]
      refine ⟨fun h => ?_, fun h => ?_, fun h => ?_, fun h => ?_, fun h => ?_, fun h => ?_, fun h => ?_, fun h => ?_⟩ <;> omega
    · rw [if_neg c0]
      by_cases c1 : k = S 311 ∧ a = 1
      · rw [if_pos c1, c1.2]
        refine ⟨fun h => ?_, fun h => ?_, fun h => ?_, fun h => ?_, fun h => ?_, fun h => ?_, fun h => ?_, fun h => ?_⟩ <;> omega
      · rw [if_neg c1]; exact b10 k hk a ha
  · intro k h1 h2 a h3 h4
    rw [Sent_N] at h1
    rw [Sent_k hN h2 h4, if_neg (by omega), if_neg (by omega)]
    exact hI.out (by omega) h2 h3 h4
  · intro _
    rw [hi 312 (by omega) (by omega)]
    refine ⟨(hI.s0 h0).1, fun k hk a h3 h4 => ?_⟩
    rw [Sent_N] at hk
    rw [Sent_k hN (by omega) (by omega), if_neg (by omega), if_neg (by omega)]
    by_cases c : k = S 311
    · exact hI.out (by omega) (by omega) (by omega) (by omega)
    · exact (hI.s0 h0).2 k (by omega) a h3 h4
  · intro h; rw [hi 310 (by omega) (by omega), h0] at h; omega
  · intro h; rw [hi 310 (by omega) (by omega), h0] at h; omega
  · intro q hq
    rw [hi (300 + q) (by omega) (by omega), hI.cl hq, Sent_N]
    unfold clubSum
    rw [fb_sm_succ]
    have h9 : Sent S cl e (10 * S 311 + 9) = 0 := by
      rw [Sent_k hN (by omega) (by omega), if_neg (by omega), if_neg (by omega)]
      exact hI.out (Nat.le_refl _) (by omega) (by omega) (by omega)
    rw [h9, ite_self, Nat.add_zero]
    refine fb_sm_cong (fun k hk => ?_)
    rw [Sent_o (a := 9) hN hk (by omega), show Sent S cl e (10 * k) = S (10 * k) from Sent_o (a := 0) hN hk (by omega)]
  · intro k hk
    rw [Sent_N] at hk
    rw [hi 313 (by omega) (by omega), Sent_k hN (by omega) (by omega), if_neg (by omega), if_neg (by omega)]
    by_cases c : k = S 311
    · have := hI.out (k := k) (a := 9) (by omega) (by omega) (by omega) (by omega)
      omega
    · exact hI.pt (by omega)
  · rw [hi 313 (by omega) (by omega)]; exact ⟨hI.eb, IW.no (by rw [hi 310 (by omega) (by omega)]; omega)⟩
end ENT
theorem C_join (w : gWd) (i n : Nat) (x1 x2 : Int32) : ∃ w', F_X10_join w i n x1 x2 = some w' ∧ (∀ a r, ¬ (a = i ∧ r = 4 + n) → w' a r = w a r) ∧ w' i (4 + n) 1 = x1 ∧ w' i (4 + n) 2 = x2 ∧ w' i (4 + n) 3 = 0 ∧ w' i (4 + n) 4 = -1 ∧ w' i (4 + n) 5 = 0 ∧ w' i (4 + n) 6 = -1 ∧ w' i (4 + n) 7 = 0 ∧ w' i (4 + n) 8 = -1 ∧ w' i (4 + n) 9 = 0 ∧ w' i (4 + n) 10 = 0 := by
  unfold F_X10_join F_X10_forgetEvent F_X10_leaveHeat F_X10_leaveFinal
  simp only [gS_e, gP_s]
  refine ⟨_, rfl, fun a r h => ?_, ?_⟩
  · repeat rw [up3_r h]
  · simp [up3]
theorem OK_enter {i EB : Nat} {S : Nat → Nat} (hI : IV EB S) (x1 x2 : Int32) : OK2 i (fun w => F_X1_addSwimmer w i x1 x2) (fun w => F_X12_enter w x1 x2) EB S := by
  have hB := hI.wb
  have hN := hB.1
  have hst := hB.2.1
  have hm1 : (-1000001 : Int32) < 0 := by decide
  have hm2 : (-1000002 : Int32) < 0 := by decide
  have hm3 : (-1000003 : Int32) < 0 := by decide
  by_cases a1 : x1 < 0
  · refine ⟨-1000001, Or.inl ⟨hm1, fun w hC _ => ?_, fun w hS => ?_⟩⟩
    · show F_X1_addSwimmer w i x1 x2 = _
      unfold F_X1_addSwimmer; rw [if_pos a1]
    · show F_X12_enter w x1 x2 = _
      unfold F_X12_enter
      rw [show (5 : Int32) = nI 5 from rfl, M_in_f (by omega) (Or.inl a1), gP_s, if_pos rfl]
  by_cases a2 : (6 : Int32) ≤ x1
  · refine ⟨-1000001, Or.inl ⟨hm1, fun w hC _ => ?_, fun w hS => ?_⟩⟩
    · show F_X1_addSwimmer w i x1 x2 = _
      unfold F_X1_addSwimmer; rw [if_neg a1, if_pos a2]
    · show F_X12_enter w x1 x2 = _
      unfold F_X12_enter
      rw [show (5 : Int32) = nI 5 from rfl, M_in_f (by omega) (Or.inr a2), gP_s, if_pos rfl]
  obtain ⟨cl, hcl, rfl⟩ := arg_lt (n := 6) (by omega) a1 a2
  have hin5 : ∀ w, F_X12_in w (nI cl) 0 5 = some 1 := fun w => M_in_t (n := 5) (by omega) (by omega)
  rcases time_cases x2 with ⟨e, he, rfl⟩ | hx2
  · -- the model's test of the time
    have hM : ∀ w, F_X12_enter w (nI cl) (nI e) = F_X12_enter_28 w (nI cl) (nI e) := by
      intro w
      unfold F_X12_enter
      rw [hin5, gP_s, if_neg (by decide), iE0 (by omega)]
      by_cases h0 : e = 0
      · rw [if_pos h0]
      · rw [if_neg h0, M_time_t (by omega), gP_s, if_neg (by decide)]
    have hCt : ∀ w, F_X1_addSwimmer w i (nI cl) (nI e) = (if (w i 0 4) = 0 then (if (w i 0 3) < 30 then (gB ((w i 0 3)) 30 (fun k_9 => gP (F_X10_join w i k_9 (nI cl) (nI e)) (fun w_11 => gS (up3 w_11 i 0 3 (((w_11 i 0 3) + 1))) (fun w_12 => some ((w_11 i 0 3), w_12))))) else (some ((-1000003), w))) else (some ((-1000002), w))) := by
      intro w
      unfold F_X1_addSwimmer
      rw [if_neg a1, if_neg a2, C_time_t he, gP_s, if_neg (by decide)]
    by_cases a3 : S 310 = 0
    · by_cases a4 : S 311 = 30
      · refine ⟨-1000003, Or.inl ⟨hm3, fun w hC _ => ?_, fun w hS => ?_⟩⟩
        · show F_X1_addSwimmer w i _ _ = _
          rw [hCt, hC.st, iE0 (by omega), if_pos a3, hC.sz, show (30 : Int32) = nI 30 from rfl, iLt (by omega) (by omega), if_neg (by omega)]
        · show F_X12_enter w _ _ = _
          rw [hM]
          unfold F_X12_enter_28
          rw [hS 310 (by omega), iE0 (by omega), if_pos a3, hS 311 (by omega), show (30 : Int32) = nI 30 from rfl, iEq (by omega) (by omega), if_pos a4]
      · have hN2 : S 311 < 30 := by omega
        refine ⟨nI (S 311), Or.inr ⟨nI_pos' (by omega), Sent S cl e, (Sent_IV hI hN2 a3 (by omega) (by omega)).mono (by omega), fun w hC hR => ?_, fun w wc hS hch hag => ?_⟩⟩
        · show ∃ w', F_X1_addSwimmer w i _ _ = _ ∧ _
          obtain ⟨u, j0, j1, j2⟩ := C_join w i (S 311) (nI cl) (nI e)
          have u03 : u i 0 3 = nI (S 311) := by rw [j1 i 0 (by omega)]; exact hC.sz
          rw [hCt, hC.st, iE0 (by omega), if_pos a3, hC.sz, show (30 : Int32) = nI 30 from rfl, iLt (by omega) (by omega), if_pos hN2, gB_n _ hN2 (by omega), j0, gP_s, gS_e, u03, nI_1]
          refine ⟨up3 u i 0 3 (nI (S 311 + 1)), rfl, ?_, ?_, ?_⟩
          · exact agB.tr (fun a h => funext (fun r => j1 a r (by omega))) (agB.up 0 3 _)
          · have hrow : ∀ r, r ≠ 4 + S 311 → ∀ b, ¬ (r = 0 ∧ b = 3) → up3 u i 0 3 (nI (S 311 + 1)) i r b = w i r b := by
              intro r h1 b h2
              rw [up3_n (by omega), j1 i r (by omega)]
            refine ⟨⟨by rw [up3_s, Sent_N], ?_, ?_, ?_, ?_, ?_, ?_, ?_, ?_, ?_⟩, fun k hk a ha => ?_⟩
            · rw [hrow 0 (by omega) 4 (by omega), Sent_hi hN2 (by omega) (by omega)]; exact hC.st
            · rw [hrow 0 (by omega) 5 (by omega), Sent_hi hN2 (by omega) (by omega)]; exact hC.ht
            · rw [hrow 0 (by omega) 7 (by omega), Sent_hi hN2 (by omega) (by omega)]; exact hC.ca
            · rw [hrow 0 (by omega) 8 (by omega), Sent_hi hN2 (by omega) (by omega)]; exact hC.ev
            · rw [hrow 0 (by omega) 9 (by omega), Sent_hi hN2 (by omega) (by omega)]; exact hC.rc
            · rw [hrow 0 (by omega) 10 (by omega), Sent_hi hN2 (by omega) (by omega)]; exact hC.rs
            · rw [hrow 1 (by omega) 0 (by omega), Sent_hi hN2 (by omega) (by omega)]; exact hC.la
            · rw [hrow 1 (by omega) 1 (by omega), Sent_hi hN2 (by omega) (by omega)]; exact hC.fe
            · rw [hrow 1 (by omega) 2 (by omega), Sent_hi hN2 (by omega) (by omega)]; exact hC.re
            · rw [Sent_N] at hk
              by_cases hk2 : k = S 311
              · subst hk2
                rw [up3_n (by omega)]
                obtain ⟨f1, f2, f3, f4, f5, f6, f7, f8, f9, f10⟩ := j2
                have hz : ∀ b, 2 ≤ b → b < 10 → Sent S cl e (10 * S 311 + b) = 0 := fun b h1 h2 => by
                  rw [Sent_k hN2 (by omega) h2, if_neg (by omega), if_neg (by omega)]
                  exact hI.out (Nat.le_refl _) (by omega) h1 h2
                have h0 : Sent S cl e (10 * S 311 + 0) = cl := by rw [Sent_k hN2 (by omega) (by omega), if_pos ⟨rfl, rfl⟩]
                have h1 : Sent S cl e (10 * S 311 + 1) = e := by rw [Sent_k hN2 (by omega) (by omega), if_neg (by omega), if_pos ⟨rfl, rfl⟩]
                have hcase : a = 0 ∨ a = 1 ∨ a = 2 ∨ a = 3 ∨ a = 4 ∨ a = 5 ∨ a = 6 ∨ a = 7 ∨ a = 8 ∨ a = 9 := by omega
                rcases hcase with rfl | rfl | rfl | rfl | rfl | rfl | rfl | rfl | rfl | rfl
                · rw [f1, h0]; rfl
                · rw [f2, h1]; rfl
                · rw [f3, hz 2 (by omega) (by omega)]; rfl
                · rw [f4, hz 3 (by omega) (by omega)]; rfl
                · rw [f5, hz 4 (by omega) (by omega)]; rfl
                · rw [f6, hz 5 (by omega) (by omega)]; rfl
                · rw [f7, hz 6 (by omega) (by omega)]; rfl
                · rw [f8, hz 7 (by omega) (by omega)]; rfl
                · rw [f9, hz 8 (by omega) (by omega)]; rfl
                · rw [f10, hz 9 (by omega) (by omega)]; rfl
              · rw [hrow (4 + k) (by omega) _ (by omega), Sent_o hN2 (by omega) ha]
                exact hC.2 k (by omega) a ha
          · refine hR.cg ?_ ?_ (by rw [Sent_N]; omega) (fun p hp => Sent_hi hN2 (by omega) (by omega)) (fun k hk => ⟨Sent_o hN2 hk (by omega), Sent_o hN2 hk (by omega)⟩) (fun h => by rw [Sent_hi hN2 (by omega) (by omega)] at h; exact h)
            · rw [up3_n (by omega), j1 i 0 (by omega)]
            · rw [up3_r (by omega), j1 i 3 (by omega)]
        · show ∃ w', F_X12_enter w _ _ = _ ∧ _
          have hSc := hag.sv hS
          rw [hM]
          unfold F_X12_enter_28
          have l0 : ∀ (u : gWd) (v : Int32), F_X12_lay u (nI (S 311)) 0 v = some (up3 u 8 1 (10 * S 311) v) := fun u v => M_lay (j := 0) (by omega) v
          have l1 : ∀ (u : gWd) (v : Int32), F_X12_lay u (nI (S 311)) 1 v = some (up3 u 8 1 (10 * S 311 + 1) v) := fun u v => M_lay (j := 1) (by omega) v
          have hS1 := hSc.up (10 * S 311) cl
          have hS2 := hS1.up (10 * S 311 + 1) e
          have hS3 := hS2.up 311 (S 311 + 1)
          have e1 : up3 wc 8 1 (10 * S 311) (nI cl) 8 1 311 = nI (S 311) := by rw [hS1 311 (by omega), upN_n (by omega)]
          have e2 : up3 (up3 wc 8 1 (10 * S 311) (nI cl)) 8 1 (10 * S 311 + 1) (nI e) 8 1 311 = nI (S 311) := by rw [hS2 311 (by omega), upN_n (by omega), upN_n (by omega)]
          rw [hS 310 (by omega), iE0 (by omega), if_pos a3, hS 311 (by omega), show (30 : Int32) = nI 30 from rfl, iEq (by omega) (by omega), if_neg a4, hch, gP_s, hSc 311 (by omega), l0, gP_s, e1, l1, gP_s, gS_e, e2, nI_1, up3_s]
          refine ⟨_, ?_, ((ag1.up _ _).tr (ag1.up _ _)).tr (ag1.up _ _), hS3⟩
          rw [show (1 : Int32) = nI 1 from rfl, pk_sub (by omega)]
          rfl
    · refine ⟨-1000002, Or.inl ⟨hm2, fun w hC _ => ?_, fun w hS => ?_⟩⟩
      · show F_X1_addSwimmer w i _ _ = _
        rw [hCt, hC.st, iE0 (by omega), if_neg a3]
      · show F_X12_enter w _ _ = _
        rw [hM]
        unfold F_X12_enter_28
        rw [hS 310 (by omega), iE0 (by omega), if_neg a3]
  · refine ⟨-1000001, Or.inl ⟨hm1, fun w hC _ => ?_, fun w hS => ?_⟩⟩
    · show F_X1_addSwimmer w i _ _ = _
      unfold F_X1_addSwimmer
      rw [if_neg a1, if_neg a2, C_time_f hx2, gP_s, if_pos rfl]
    · show F_X12_enter w _ _ = _
      unfold F_X12_enter
      rw [hin5, gP_s, if_neg (by decide), if_neg hx2.1, M_time_f hx2.2, gP_s, if_pos rfl]
