/-! level 2: what the law does to its own arrays: a time, a scratch -/
def agL (w w' : gWd) : Prop := ∀ a, a ≠ 8 → w' a = w a
theorem agL.rf (w : gWd) : agL w w := fun _ _ => rfl
theorem agL.tr {w w1 w2 : gWd} (h1 : agL w w1) (h2 : agL w1 w2) : agL w w2 := fun a h => (h2 a h).trans (h1 a h)
theorem agL.up {w : gWd} (r j : Nat) (v : Int32) : agL w (up3 w 8 r j v) := fun a h => up3_b h
theorem up3_id (w : gWd) (i r j : Nat) : up3 w i r j (w i r j) = w := by
  funext a b c
  unfold up3
  by_cases e : a = i ∧ b = r ∧ c = j
  · rw [if_pos e, e.1, e.2.1, e.2.2]
  · rw [if_neg e]
theorem upN_id {S : Nat → Nat} {t v : Nat} (h : S t = v) : upN S t v = S := by
  funext q
  unfold upN
  by_cases e : q = t
  · rw [if_pos e, e, h]
  · rw [if_neg e]
theorem gB10 {α : Type} {j : Nat} (h : j < 10) (f : Nat → Option α) : gB (nI j) 10 f = f j := gB_n f h (by omega)
theorem gB4 {α : Type} {j : Nat} (h : j < 4) (f : Nat → Option α) : gB (nI j) 4 f = f j := gB_n f h (by omega)
theorem L_swum97 {w : gWd} {T : Nat → Nat} (hS : LV w T) (hB : WB T) (hN : T 311 ≤ 20) {e : Nat} (he : e ≤ 999) : F_L_swum_97 gFU w (nI e) 0 0 = some (if e = 0 then 100 else nI (ctF T e (T 311)), w) := by
  refine loopI (F := fun fu (acc : Nat) j => F_L_swum_97 fu w (nI e) (nI acc) (nI j)) (T 311) (fun j acc => acc = ctF T e j) (fun r => r = some (if e = 0 then 100 else nI (ctF T e (T 311)), w)) ?_ ?_ gFU 0 0 (by omega) (gFU_lt (by omega)) rfl
  · intro fu acc hI
    show F_L_swum_97 (fu + 1) w (nI e) (nI acc) (nI (T 311)) = _
    rw [F_L_swum_97_s, hS.N, iLe (by omega) (by omega), if_pos (Nat.le_refl _), iE0 (by omega), hI]
    split <;> rfl
  · intro fu acc j hj hI
    right
    refine ⟨_, rfl, ?_⟩
    show F_L_swum_97 (fu + 1) w (nI e) (nI acc) (nI j) = F_L_swum_97 fu w (nI e) (nI (ctF T e (j + 1))) (nI (j + 1))
    have ht := tcol_le hB (k := j) (by omega)
    rw [F_L_swum_97_s, hS.N, iLe (by omega) (by omega), if_neg (by omega), L_time hS hB (by omega), gP_s, iLe1 (by omega), gP_s]
    unfold F_L_swum_138 ctF
    rw [fb_ct_succ, hI]
    by_cases c1 : T (10 * j + tcol T) ≤ 1
    · rw [if_pos c1, if_neg (by simp; omega)]
      simp only [gS_e, Int32.add_zero, Nat.add_zero, nI_1]
      rfl
    · rw [if_neg c1]
      by_cases c2 : e + 1 ≤ T (10 * j + tcol T)
      · rw [if_pos ((mnLe (by omega) (by omega)).mpr c2), if_neg (by simp; omega)]
        simp only [gS_e, Int32.add_zero, Nat.add_zero, nI_1]
        rfl
      · rw [if_neg (fun z => c2 ((mnLe (by omega) (by omega)).mp z)), if_pos (by simp; omega)]
        simp only [gS_e, nI_1]
        rfl
theorem L_swum {w : gWd} {S : Nat → Nat} {EB : Nat} (hI : IV EB S) (hS : LV w S) (hN : S 311 ≤ 20) {k e : Nat} (hk : k < S 311) (ha : askB S k = true) (he : e ≤ 999) : ∃ w', F_L_swum w (nI k) (nI e) = some (if e = 0 then 100 else nI (ctF (Sswim S k e) e (S 311)), w') ∧ agL w w' ∧ LV w' (Sswim S k e) := by
  have hB := hI.wb
  have hst := hB.2.1
  have hrc := hB.2.2.2.1
  have hIV := Sswim_IV hI hk ha he
  have hk2 : k < 20 := by omega
  have htc := tcol_in S
  have e311 : Sswim S k e 311 = S 311 := by rw [Sswim_low (by omega), upN_n (by omega)]
  -- the time is laid
  obtain ⟨w1, h1, a1, l1⟩ : ∃ w1, F_L_swum w (nI k) (nI e) = F_L_swum_32 w1 (nI k) (nI e) ∧ agL w w1 ∧ LV w1 (upN S (10 * k + tcol S) (e + 1)) := by
    unfold F_L_swum tcol
    rw [hS.st, iE1 (by omega), g32 hk2, g31 hk2, nI_1]
    by_cases c : S 310 = 1
    · rw [if_pos c, if_pos c]
      exact ⟨_, rfl, agL.up _ _ _, hS.u5 hk2 (e + 1)⟩
    · rw [if_neg c, if_neg c]
      exact ⟨_, rfl, agL.up _ _ _, hS.u7 hk2 (e + 1)⟩
  have r4 : w1 8 5 4 = nI (S 314) := by rw [l1.rc, upN_n (by omega)]
  have r5 : w1 8 5 5 = nI (S 315) := by rw [l1.rs, upN_n (by omega)]
  have b90 : ∀ (u : gWd) (v : Int32), F_L_swum_90 u (nI e) v 4 = F_L_swum_97 gFU (up3 u 8 5 4 v) (nI e) 0 0 := by
    intro u v
    unfold F_L_swum_90
    rw [show (4 : Int32) = nI 4 from rfl, gB10 (by omega), gS_e]
  have b60 : ∀ (u : gWd) (v : Int32), u 8 5 4 = nI (S 314) → F_L_swum_60 u (nI e) v 5 = F_L_swum_97 gFU (up3 (up3 u 8 5 5 v) 8 5 4 (if 0 < e ∧ (S 314 = 0 ∨ e < S 314) then nI e else nI (S 314))) (nI e) 0 0 := by
    intro u v hu
    unfold F_L_swum_60 F_L_swum_87 F_L_swum_82
    rw [show (5 : Int32) = nI 5 from rfl, gB10 (by omega), gS_e, up3_n (by omega), hu, iLe0 (by omega), iE0 (by omega), iLe (by omega) (by omega), b90, b90]
    by_cases c0 : e = 0
    · rw [if_pos c0, if_neg (by omega)]
    · rw [if_neg c0]
      by_cases c1 : S 314 = 0
      · rw [if_pos c1, if_pos ⟨by omega, Or.inl c1⟩]
      · rw [if_neg c1]
        by_cases c2 : S 314 ≤ e
        · rw [if_pos c2, if_neg (by omega)]
        · rw [if_neg c2, if_pos ⟨by omega, by omega⟩]
  have b32 : F_L_swum_32 w1 (nI k) (nI e) = F_L_swum_97 gFU (up3 (up3 w1 8 5 5 (if 0 < e ∧ (S 314 = 0 ∨ e < S 314) then nI k else nI (S 315))) 8 5 4 (if 0 < e ∧ (S 314 = 0 ∨ e < S 314) then nI e else nI (S 314))) (nI e) 0 0 := by
    unfold F_L_swum_32 F_L_swum_57 F_L_swum_53
    rw [r4, r5, iLe0 (by omega), iE0 (by omega), iLe (by omega) (by omega), b60 _ _ r4, b60 _ _ r4]
    by_cases c0 : e = 0
    · rw [if_pos c0, if_neg (show ¬ (0 < e ∧ (S 314 = 0 ∨ e < S 314)) by omega), if_neg (show ¬ (0 < e ∧ (S 314 = 0 ∨ e < S 314)) by omega)]
    · rw [if_neg c0]
      by_cases c1 : S 314 = 0
      · rw [if_pos c1, if_pos (show 0 < e ∧ (S 314 = 0 ∨ e < S 314) by omega), if_pos (show 0 < e ∧ (S 314 = 0 ∨ e < S 314) by omega)]
      · rw [if_neg c1]
        by_cases c2 : S 314 ≤ e
        · rw [if_pos c2, if_neg (show ¬ (0 < e ∧ (S 314 = 0 ∨ e < S 314)) by omega), if_neg (show ¬ (0 < e ∧ (S 314 = 0 ∨ e < S 314)) by omega)]
        · rw [if_neg c2, if_pos (show 0 < e ∧ (S 314 = 0 ∨ e < S 314) by omega), if_pos (show 0 < e ∧ (S 314 = 0 ∨ e < S 314) by omega)]
  obtain ⟨w2, h2, a2, l2⟩ : ∃ w2, F_L_swum_32 w1 (nI k) (nI e) = F_L_swum_97 gFU w2 (nI e) 0 0 ∧ agL w1 w2 ∧ LV w2 (Sswim S k e) := by
    refine ⟨_, b32, (agL.up _ _ _).tr (agL.up _ _ _), ?_⟩
    unfold Sswim
    by_cases c : 0 < e ∧ (S 314 = 0 ∨ e < S 314)
    · rw [if_pos c, if_pos c, if_pos c, upN_comm (a := 314) (b := 315) (by omega)]
      exact (l1.ut (j := 5) (by omega) k).ut (j := 4) (by omega) e
    · rw [if_neg c, if_neg c, if_neg c]
      have h5 := l1.ut (j := 5) (by omega) (S 315)
      rw [upN_id (upN_n (by omega))] at h5
      have h4 := h5.ut (j := 4) (by omega) (S 314)
      rw [upN_id (upN_n (by omega))] at h4
      exact h4
  refine ⟨w2, ?_, a1.tr a2, l2⟩
  rw [h1, h2, L_swum97 l2 hIV.wb (by rw [e311]; exact hN) he, e311]
/-! a scratch -/
theorem RV.le {c : Nat → Nat → Int32} {S : Nat → Nat} (h : RV c S) {p : Nat} (hp : p < 4) : S (306 + p) ≤ S 311 := by
  obtain ⟨n, q, h1, h2, h4, h5, h7, h8⟩ := h
  rcases Nat.lt_or_ge p n with z | z
  · obtain ⟨b1, b2, b3, b4⟩ := h4 p z
    by_cases e : S (306 + p) = 0
    · omega
    · have := (b4 e).1
      omega
  · have := h5 p z hp
    omega
theorem L_scr69 {w : gWd} {T : Nat → Nat} (hS : LV w T) (hB : WB T) (hN : T 311 ≤ 20) (hr : ∀ p, p < 4 → T (306 + p) ≤ T 311) {l : Nat} (hl : 0 < l) (hl2 : l ≤ 10) : (∃ p, p < 4 ∧ rsv T p = true ∧ fb_ct (rsv T) p = 0 ∧ ∃ w', F_L_scratch_69 gFU w (nI l) 0 = some (nI (T (306 + p) - 1), w') ∧ agL w w' ∧ LV w' (upN (upN (upN T (306 + p) 0) 316 (T 316 + 1)) (10 * (T (306 + p) - 1) + 6) l)) ∨ (fb_ct (rsv T) 4 = 0 ∧ F_L_scratch_69 gFU w (nI l) 0 = some (100, w)) := by
  refine loopI (F := fun fu (acc : Nat) j => F_L_scratch_69 fu w (nI l) (nI j)) 4 (fun j _ => fb_ct (rsv T) j = 0) (fun r => (∃ p, p < 4 ∧ rsv T p = true ∧ fb_ct (rsv T) p = 0 ∧ ∃ w', r = some (nI (T (306 + p) - 1), w') ∧ agL w w' ∧ LV w' (upN (upN (upN T (306 + p) 0) 316 (T 316 + 1)) (10 * (T (306 + p) - 1) + 6) l)) ∨ (fb_ct (rsv T) 4 = 0 ∧ r = some (100, w))) ?_ ?_ gFU 0 0 (by omega) (gFU_lt (by omega)) rfl
  · intro fu acc hI
    right
    refine ⟨hI, ?_⟩
    show F_L_scratch_69 (fu + 1) w (nI l) (nI 4) = _
    rw [F_L_scratch_69_s, if_pos (by decide)]
  · intro fu acc j hj hI
    have hrj := hr j hj
    have h4 : ¬ (4 : Int32) ≤ nI j := fun z => absurd ((nI_leI (a := 4) (b := j) (by omega) (by omega)).mp z) (by omega)
    have e0 : F_L_scratch_69 (fu + 1) w (nI l) (nI j) = if T (306 + j) = 0 then F_L_scratch_69 fu w (nI l) (nI (j + 1)) else gB (3 * nI (T (306 + j)) - 1) 60 (fun k_19 => if (w 8 0 k_19) = 0 then (gB (nI j) 4 (fun k_23 => gS (((w 8 4 k_23) - 1)) (fun x8_24 => gB (nI j) 4 (fun k_26 => gS (up3 w 8 4 k_26 0) (fun w_27 => gB ((3 * x8_24)) 60 (fun k_29 => gS (up3 w_27 8 2 k_29 (nI l)) (fun w_30 => gS (up3 w_30 8 5 6 (((w_30 8 5 6) + 1))) (fun w_31 => some (x8_24, w_31))))))))) else F_L_scratch_69 fu w (nI l) (nI (j + 1))) := by
      rw [F_L_scratch_69_s, if_neg h4, iLe0 (by omega), if_neg (by omega), gB4 hj, hS.gv hj, iLe0 (by omega), gB4 hj, hS.gv hj, nI_1]
      rfl
    by_cases c : T (306 + j) = 0
    · right
      refine ⟨0, ?_, ?_⟩
      · rw [fb_ct_succ, hI, if_neg (by simp [rsv, c])]
      · show F_L_scratch_69 (fu + 1) w (nI l) (nI j) = F_L_scratch_69 fu w (nI l) (nI (j + 1))
        rw [e0, if_pos c]
    · obtain ⟨q, hq⟩ : ∃ q, T (306 + j) = q + 1 := ⟨T (306 + j) - 1, by omega⟩
      have hq20 : q < 20 := by omega
      have hix : (3 : Int32) * nI (q + 1) - 1 = nI (3 * q + 2) := by
        rw [show (3 : Int32) = nI 3 from rfl, pk_mul, show (1 : Int32) = nI 1 from rfl, pk_sub (by omega), show 3 * (q + 1) - 1 = 3 * q + 2 by omega]
      have hg := (hB.k (k := q) (by omega)).2.2.1
      rw [if_neg c, hq, hix, gB_n _ (by omega) (by omega), hS.g2 hq20, iE0 (by omega)] at e0
      by_cases c2 : T (10 * q + 2) = 0
      · left
        left
        have hrs : rsv T j = true := by unfold rsv; rw [hq]; exact decide_eq_true ⟨by omega, by rw [Nat.add_sub_cancel]; exact c2⟩
        refine ⟨j, hj, hrs, hI, up3 (up3 (up3 w 8 4 j (nI 0)) 8 2 (3 * q) (nI l)) 8 5 6 (nI (T 316 + 1)), ?_, (agL.up _ _ _).tr ((agL.up _ _ _).tr (agL.up _ _ _)), ?_⟩
        · show F_L_scratch_69 (fu + 1) w (nI l) (nI j) = _
          rw [e0, if_pos c2, gB4 hj, hS.gv hj, hq, nI_pred, gS_e, gB4 hj, gS_e, g30 hq20, gS_e, gS_e, Nat.add_sub_cancel]
          have e6 : up3 (up3 w 8 4 j (nI 0)) 8 2 (3 * q) (nI l) 8 5 6 = nI (T 316) := by rw [up3_n (by omega), up3_n (by omega)]; exact hS.ca
          show some (nI q, up3 (up3 (up3 w 8 4 j (nI 0)) 8 2 (3 * q) (nI l)) 8 5 6 (up3 (up3 w 8 4 j (nI 0)) 8 2 (3 * q) (nI l) 8 5 6 + 1)) = _
          rw [e6, nI_1]
        · rw [hq, Nat.add_sub_cancel, upN_comm (a := 316) (b := 10 * q + 6) (by omega)]
          exact ((hS.uv hj 0).u6 hq20 l).ut (j := 6) (by omega) (T 316 + 1)
      · right
        refine ⟨0, ?_, ?_⟩
        · rw [fb_ct_succ, hI, if_neg]
          unfold rsv
          rw [hq, Nat.add_sub_cancel]
          simp [c2]
        · show F_L_scratch_69 (fu + 1) w (nI l) (nI j) = F_L_scratch_69 fu w (nI l) (nI (j + 1))
          rw [e0, if_neg c2]
theorem L_scr42 {w : gWd} {T : Nat → Nat} (hS : LV w T) {k : Nat} (hk : k < 20) : ∃ w1, F_L_scratch_42 w (nI k) = F_L_scratch_69 gFU w1 (nI (T (10 * k + 6))) 0 ∧ agL w w1 ∧ LV w1 (upN (upN T (10 * k + 6) 0) (10 * k + 7) 0) := by
  refine ⟨up3 (up3 w 8 2 (3 * k) (nI 0)) 8 2 (3 * k + 1) (nI 0), ?_, (agL.up _ _ _).tr (agL.up _ _ _), (hS.u6 hk 0).u7 hk 0⟩
  unfold F_L_scratch_42
  rw [g30 hk, hS.g6 hk, gS_e, g30 hk, gS_e, g31 hk, gS_e]
  rfl
theorem L_scr0 (w : gWd) : F_L_scratch_69 gFU w (nI 0) 0 = some (100, w) := by
  show F_L_scratch_69 (1999 + 1) w (nI 0) 0 = _
  rw [F_L_scratch_69_s, if_neg (by decide), if_pos (by decide)]
section LSCR
variable {w : gWd} {S : Nat → Nat} {EB k : Nat}
theorem L_scratch1 (hI : IV EB S) (hS : LV w S) (hN : S 311 ≤ 20) (hk : k < S 311) (g1 : S 310 = 1) : ∃ w', F_L_scratch w (nI k) = some (100, w') ∧ agL w w' ∧ LV w' (Sgo1 S k) := by
  have hk2 : k < 20 := by omega
  obtain ⟨z2, z6, z7, z8⟩ := hI.s1 g1 k hk
  have hS1 := hS.u2 hk2 1
  have hS4 := ((hS1.u3 hk2 0).u4 hk2 0).u5 hk2 0
  obtain ⟨w1, f1, a1, l1⟩ := L_scr42 hS4 hk2
  have e6 : upN (upN (upN (upN S (10 * k + 2) 1) (10 * k + 3) 0) (10 * k + 4) 0) (10 * k + 5) 0 (10 * k + 6) = 0 := by rw [upN_n (by omega), upN_n (by omega), upN_n (by omega), upN_n (by omega)]; exact z6
  have e7 : upN (upN (upN (upN S (10 * k + 2) 1) (10 * k + 3) 0) (10 * k + 4) 0) (10 * k + 5) 0 (10 * k + 7) = 0 := by rw [upN_n (by omega), upN_n (by omega), upN_n (by omega), upN_n (by omega)]; exact z7
  rw [e6, L_scr0] at f1
  rw [upN_id e6, upN_id e7] at l1
  refine ⟨w1, ?_, ((agL.up _ _ _).tr ((agL.up _ _ _).tr ((agL.up _ _ _).tr (agL.up _ _ _)))).tr a1, l1⟩
  unfold F_L_scratch
  rw [g32 hk2, gS_e, up3_n (by omega), hS.st, iE1 (by omega), if_pos g1, g30 hk2, gS_e, g31 hk2, gS_e, g32 hk2, gS_e]
  exact f1
theorem L_scratchX (hI : IV EB S) (hS : LV w S) (hN : S 311 ≤ 20) (hk : k < S 311) (g1 : ¬ S 310 = 1) : ∃ w1, F_L_scratch w (nI k) = F_L_scratch_69 gFU w1 (nI (S (10 * k + 6))) 0 ∧ agL w w1 ∧ LV w1 (Sgo2 S k) := by
  have hk2 : k < 20 := by omega
  have hst := hI.wb.2.1
  have hS1 := hS.u2 hk2 1
  obtain ⟨w1, f1, a1, l1⟩ := L_scr42 hS1 hk2
  rw [upN_n (by omega)] at f1
  refine ⟨w1, ?_, (agL.up _ _ _).tr a1, l1⟩
  unfold F_L_scratch
  rw [g32 hk2, gS_e, up3_n (by omega), hS.st, iE1 (by omega), if_neg g1]
  exact f1
theorem L_scratch0 (hI : IV EB S) (hS : LV w S) (hN : S 311 ≤ 20) (hk : k < S 311) (g1 : ¬ S 310 = 1) (g3 : ¬ S 310 = 3) (g6 : S (10 * k + 6) = 0) : ∃ w', F_L_scratch w (nI k) = some (100, w') ∧ agL w w' ∧ LV w' (Sgo S k) := by
  obtain ⟨w1, f1, a1, l1⟩ := L_scratchX hI hS hN hk g1
  have hst := hI.wb.2.1
  have z7 : S (10 * k + 7) = 0 := by
    by_cases c : S 310 = 0
    · exact (hI.s0 c).2 k hk 7 (by omega) (by omega)
    · have h2 : S 310 = 2 := by omega
      have := (hI.iw h2).2 k hk
      omega
  rw [g6, L_scr0] at f1
  refine ⟨w1, f1, a1, ?_⟩
  have e6 : Sgo S k (10 * k + 6) = 0 := by unfold Sgo; rw [upN_n (by omega)]; exact g6
  have e7 : Sgo S k (10 * k + 7) = 0 := by unfold Sgo; rw [upN_n (by omega)]; exact z7
  unfold Sgo2 at l1
  rw [upN_id e6, upN_id e7] at l1
  exact l1
theorem L_scratch2 (hI : IV EB S) (hS : LV w S) (hN : S 311 ≤ 20) (hr : ∀ p, p < 4 → S (306 + p) ≤ S 311) (hk : k < S 311) (g2 : S 310 = 2) (g6 : ¬ S (10 * k + 6) = 0) : (∃ p, p < 4 ∧ rsv (Sgo2 S k) p = true ∧ fb_ct (rsv (Sgo2 S k)) p = 0 ∧ ∃ w', F_L_scratch w (nI k) = some (nI (Sgo2 S k (306 + p) - 1), w') ∧ agL w w' ∧ LV w' (upN (upN (upN (Sgo2 S k) (306 + p) 0) 316 (Sgo2 S k 316 + 1)) (10 * (Sgo2 S k (306 + p) - 1) + 6) (S (10 * k + 6)))) ∨ (fb_ct (rsv (Sgo2 S k)) 4 = 0 ∧ ∃ w', F_L_scratch w (nI k) = some (100, w') ∧ agL w w' ∧ LV w' (Sgo2 S k)) := by
  have hB := hI.wb
  have h6 := (hB.k (k := k) (by omega)).2.2.2.2.2.2.1
  obtain ⟨w1, f1, a1, l1⟩ := L_scratchX hI hS hN hk (by omega)
  have hI2 := Sgo2_IV hI hk (by omega)
  have eh2 : ∀ q, 300 ≤ q → Sgo2 S k q = S q := fun q hq => Sgo2_n (by omega)
  rcases L_scr69 l1 hI2.wb (by rw [eh2 311 (by omega)]; exact hN) (fun p hp => by rw [eh2 _ (by omega), eh2 311 (by omega)]; exact hr p hp) (l := S (10 * k + 6)) (by omega) h6 with ⟨p, p1, p2, p3, w', f2, a2, l2⟩ | ⟨p1, f2⟩
  · exact Or.inl ⟨p, p1, p2, p3, w', f1.trans f2, a1.tr a2, l2⟩
  · exact Or.inr ⟨p1, w1, f1.trans f2, a1, l1⟩
end LSCR
