/-! level 2: the law's plan of the heats -/
/-- only the law's row of orders and heats has changed -/
def agW (w w' : gWd) : Prop := ∀ a b, ¬ (a = 8 ∧ b = 7) → w' a b = w a b
theorem agW.rf (w : gWd) : agW w w := fun _ _ _ => rfl
theorem agW.tr {w w1 w2 : gWd} (h1 : agW w w1) (h2 : agW w1 w2) : agW w w2 := fun a b h => (h2 a b h).trans (h1 a b h)
theorem agW.up {w : gWd} (j : Nat) (v : Int32) : agW w (up3 w 8 7 j v) := fun a b h => up3_r h
theorem agW.lv {w w' : gWd} {S : Nat → Nat} (h : agW w w') (hS : LV w S) : LV w' S := fun t ht => by
  have := lr_lt t
  rw [h 8 (lr t) (by omega)]
  exact hS t ht
theorem agW.l {w w' : gWd} (h : agW w w') : agL w w' := fun a ha => funext fun b => h a b (fun z => ha z.1)
theorem gB40 {α : Type} {j : Nat} (h : j < 40) (f : Nat → Option α) : gB (nI j) 40 f = f j := gB_n f h (by omega)
theorem n20 (r : Nat) : (20 : Int32) + nI r = nI (20 + r) := nI_add 20 r
theorem L_plan137 {rec75 : gWd → Int32 → Int32 → Int32 → Int32 → Int32 → Option (Int32 × gWd)} {w : gWd} {x3 x4 x5 : Int32} {f r v : Nat} (hr : r < 20) (hv : v < 1000) : F_L_plan_137 rec75 w x3 x4 x5 (nI f) (nI r) (nI v) = rec75 (up3 w 8 7 (20 + r) (nI v)) x3 x4 x5 (nI (f + if v = 0 then 1 else 0)) (nI (r + 1)) := by
  unfold F_L_plan_137
  rw [n20, gB40 (by omega), gS_e, iE0 (by omega)]
  by_cases c : v = 0
  · rw [if_pos c, if_pos c, nI_1, gS_e, nI_1, gS_e]
  · rw [if_neg c, if_neg c, Int32.add_zero, gS_e, nI_1, gS_e]
    rfl
theorem L_plan75s {fu : Nat} {w : gWd} {n L H f r : Nat} (hn : n ≤ 20) (hL : 4 ≤ L ∧ L ≤ 10) (hH : 1 ≤ H ∧ H ≤ 8) (hr : r < n) (hrL : r < H * L) : F_L_plan_75 (fu + 1) w (nI n) (nI L) (nI H) (nI f) (nI r) = F_L_plan_75 fu (up3 w 8 7 (20 + r) (nI (h0 L H r))) (nI n) (nI L) (nI H) (nI (f + if h0 L H r = 0 then 1 else 0)) (nI (r + 1)) := by
  have hle := h0_le (L := L) (H := H) (r := r) hH.1
  have hdv := div_lt' (r := r) (H := H) (L := L) (by omega) hrL
  rw [← L_plan137 (rec75 := F_L_plan_75 fu) (by omega) (show h0 L H r < 1000 by omega)]
  rw [F_L_plan_75_s, iLe (by omega) (by omega), if_neg (by omega), show (2 : Int32) = nI 2 from rfl, iLe (by omega) (by omega), iEq (by omega) (by omega), show (3 : Int32) = nI 3 from rfl, pk_mul, iLt (by omega) (by omega), pk_rem (by omega) (by omega) (by omega), pk_rem (by omega) (by omega) (by omega), pk_div (by omega) (by omega) (by omega), show (1 : Int32) = nI 1 from rfl, pk_sub (by omega), pk_sub (a := H) (by omega)]
  unfold h0
  by_cases c2 : 2 ≤ H
  · rw [if_pos c2]
    by_cases c3 : H = 2
    · rw [if_pos c3, if_pos (show H < 3 by omega)]
      by_cases c4 : r % 2 = 0
      · rw [if_pos ⟨c3, c4⟩, c4]
      · rw [if_neg (fun z => c4 z.2), show r % 2 = 1 by omega]
    · rw [if_neg c3, if_neg (show ¬ H < 3 by omega)]
      by_cases c5 : r < 3 * L
      · rw [if_pos c5, if_pos c5, pk_sub (by omega)]
      · rw [if_neg c5, if_neg c5, gD_n (by omega) (by omega), pk_sub (by omega)]
  · rw [if_neg c2, if_pos (show H < 3 by omega), if_neg (fun z => absurd z.1 (by omega))]
    rfl
theorem L_plan75 {n L H : Nat} (hn : n ≤ 20) (hL : 4 ≤ L ∧ L ≤ 10) (hH : 1 ≤ H ∧ H ≤ 8) (hnL : n ≤ H * L) (h1 : 1 ≤ n) : ∀ (d fu : Nat) (w : gWd) (r : Nat), r + d = n → d < fu → (∀ q, q < r → w 8 7 (20 + q) = nI (h0 L H q)) → ∃ w', F_L_plan_75 fu w (nI n) (nI L) (nI H) (nI (fb_ct (fun q => decide (h0 L H q = 0)) r)) (nI r) = F_L_plan_174 gFU w' (nI H) (nI (fb_ct (fun q => decide (h0 L H q = 0)) n)) (nI (n - 1)) ∧ agW w w' ∧ ∀ q, q < n → w' 8 7 (20 + q) = nI (h0 L H q) := by
  intro d
  induction d with
  | zero =>
    intro fu w r hr hfu hd
    obtain ⟨fu, rfl⟩ : ∃ f, fu = f + 1 := ⟨fu - 1, by omega⟩
    obtain rfl : r = n := by omega
    refine ⟨w, ?_, agW.rf w, hd⟩
    rw [F_L_plan_75_s, iLe (by omega) (by omega), if_pos (Nat.le_refl _), show (1 : Int32) = nI 1 from rfl, pk_sub h1, gS_e]
  | succ d ih =>
    intro fu w r hr hfu hd
    obtain ⟨fu, rfl⟩ : ∃ f, fu = f + 1 := ⟨fu - 1, by omega⟩
    obtain ⟨w', f1, a1, d1⟩ := ih fu (up3 w 8 7 (20 + r) (nI (h0 L H r))) (r + 1) (by omega) (by omega) (fun q hq => by
      by_cases e : q = r
      · subst e; rw [up3_s]
      · rw [up3_n (by omega)]; exact hd q (by omega))
    refine ⟨w', ?_, (agW.up _ _).tr a1, d1⟩
    rw [L_plan75s hn hL hH (by omega) (by omega), ← f1, fb_ct_succ]
    congr 2
    by_cases c : h0 L H r = 0
    · rw [if_pos c, if_pos (decide_eq_true c)]
    · rw [if_neg c, if_neg (by simp [c])]
theorem L_plan174 {n L H f0 F8 : Nat} {T : Nat → Nat} (hn : n ≤ 20) (hL : 4 ≤ L) (hH : 1 ≤ H ∧ H ≤ 8) (hf0 : f0 ≤ n) (hF8 : F8 ≤ 3) {A : Int} (hA : A = if H < 4 then 0 else (F8 : Int) - f0) : ∀ (m fu : Nat) (w : gWd), m < n → m < fu → w 8 5 8 = nI F8 → (∀ r, r < n → w 8 7 (20 + r) = nI (Dt L H (m + 1) r)) → cg L H n (m + 1) ≤ A.toNat →
    ∃ w' t, F_L_plan_174 fu w (nI H) (nI (f0 + cg L H n (m + 1))) (nI m) = some (nI H, w') ∧ agW w w' ∧ (∀ r, r < n → w' 8 7 (20 + r) = nI (Dt L H t r)) ∧ cg L H n t = min A.toNat (cg L H n 0) := by
  intro m
  induction m with
  | zero =>
    intro fu w _ hfu h8 hd hc
    obtain ⟨fu, rfl⟩ : ∃ f, fu = f + 1 := ⟨fu - 1, by omega⟩
    refine ⟨w, 1, ?_, agW.rf w, hd, ?_⟩
    · rw [F_L_plan_174_s, if_pos (by decide)]
    · have hm := cg_mono (L := L) (H := H) (n := n) (show 0 ≤ 1 by omega)
      by_cases c : H < 4
      · rw [if_pos c] at hA
        have : A.toNat = 0 := by rw [hA]; rfl
        have hc' : cg L H n 1 ≤ A.toNat := hc
        omega
      · have hcs := cg_step (L := L) (H := H) (n := n) (t := 0) (by omega)
        rw [if_neg (show ¬ h0 L H 0 = 1 by unfold h0; rw [if_neg (by omega), if_pos (by omega)]; omega)] at hcs
        have hc' : cg L H n 1 ≤ A.toNat := hc
        have hcs' : cg L H n 0 = cg L H n 1 + 0 := hcs
        omega
  | succ m ih =>
    intro fu w hm hfu h8 hd hc
    obtain ⟨fu, rfl⟩ : ∃ f, fu = f + 1 := ⟨fu - 1, by omega⟩
    have hle := cg_mono (L := L) (H := H) (n := n) (show 0 ≤ m + 1 + 1 by omega)
    have hcn := cg_le L H n (m + 1 + 1)
    have hDm : Dt L H (m + 1 + 1) (m + 1) = h0 L H (m + 1) := by unfold Dt; rw [if_neg (by omega)]
    have h0l := h0_le (L := L) (H := H) (r := m + 1) hH.1
    have hcs := cg_step (L := L) (H := H) (n := n) (t := m + 1) (by omega)
    have e0 : F_L_plan_174 (fu + 1) w (nI H) (nI (f0 + cg L H n (m + 1 + 1))) (nI (m + 1)) = if H ≤ 3 then some (nI H, w) else if F8 ≤ f0 + cg L H n (m + 1 + 1) then some (nI H, w) else F_L_plan_174 fu (up3 w 8 7 (20 + (m + 1)) (nI (if h0 L H (m + 1) = 1 then 0 else h0 L H (m + 1)))) (nI H) (nI (f0 + cg L H n (m + 1))) (nI m) := by
      have e212 : ∀ b : Nat, F_L_plan_212 (F_L_plan_174 fu) w (nI H) (nI (m + 1)) (nI b) (nI (f0 + cg L H n (m + 1 + 1))) = F_L_plan_174 fu (up3 w 8 7 (20 + (m + 1)) (nI (if h0 L H (m + 1) = 1 then 0 else h0 L H (m + 1)))) (nI H) (nI (f0 + cg L H n (m + 1 + 1) + b)) (nI m) := by
        intro b
        unfold F_L_plan_212 F_L_plan_243
        rw [nI_add, gS_e, n20, gB40 (by omega), hd (m + 1) hm, hDm, iE1 (by omega), gB40 (by omega), gB40 (by omega), hd (m + 1) hm, hDm, gB40 (by omega), gS_e, gS_e, pk_m1, gS_e]
        by_cases c : h0 L H (m + 1) = 1
        · rw [if_pos c, if_pos c]; rfl
        · rw [if_neg c, if_neg c]; rfl
      rw [F_L_plan_174_s, iLe0 (by omega), if_neg (by omega), show (3 : Int32) = nI 3 from rfl, iLe (by omega) (by omega), h8, iLe (by omega) (by omega), n20, gB40 (by omega), hd (m + 1) hm, hDm, iE1 (by omega)]
      by_cases c : h0 L H (m + 1) = 1
      · rw [if_pos c] at hcs
        rw [if_pos c, show f0 + cg L H n (m + 1) = f0 + cg L H n (m + 1 + 1) + 1 by omega, ← e212 1]
        rfl
      · rw [if_neg c] at hcs
        rw [if_neg c, show f0 + cg L H n (m + 1) = f0 + cg L H n (m + 1 + 1) + 0 by omega, ← e212 0]
        rfl
    rw [e0]
    by_cases c3 : H ≤ 3
    · rw [if_pos c3]
      rw [if_pos (show H < 4 by omega)] at hA
      have : A.toNat = 0 := by rw [hA]; rfl
      exact ⟨w, m + 1 + 1, rfl, agW.rf w, hd, by omega⟩
    · rw [if_neg c3]
      rw [if_neg (show ¬ H < 4 by omega)] at hA
      by_cases c8 : F8 ≤ f0 + cg L H n (m + 1 + 1)
      · rw [if_pos c8]
        exact ⟨w, m + 1 + 1, rfl, agW.rf w, hd, by omega⟩
      · rw [if_neg c8]
        obtain ⟨w', t, g1, g2, g3, g4⟩ := ih fu (up3 w 8 7 (20 + (m + 1)) (nI (if h0 L H (m + 1) = 1 then 0 else h0 L H (m + 1)))) (by omega) (by omega) (by rw [up3_n (by omega)]; exact h8) (fun r hr => by
          by_cases er : r = m + 1
          · subst er
            rw [up3_s]
            unfold Dt
            by_cases q : h0 L H (m + 1) = 1
            · rw [if_pos q, if_pos ⟨q, Nat.le_refl _⟩]
            · rw [if_neg q, if_neg (fun z => q z.1)]
          · rw [up3_n (by omega), hd r hr]
            congr 1
            unfold Dt
            by_cases q : h0 L H r = 1 ∧ m + 1 + 1 ≤ r
            · rw [if_pos q, if_pos ⟨q.1, by omega⟩]
            · rw [if_neg q, if_neg (fun z => q ⟨z.1, by omega⟩)]) (by split at hcs <;> omega)
        exact ⟨w', t, g1, (agW.up _ _).tr g2, g3, g4⟩
theorem nH_split {n L : Nat} (hL : 4 ≤ L ∧ L ≤ 10) (hn : n ≤ 20) : n / L + (if n % L = 0 then 0 else 1) = (n + L - 1) / L := by
  have : L = 4 ∨ L = 5 ∨ L = 6 ∨ L = 7 ∨ L = 8 ∨ L = 9 ∨ L = 10 := by omega
  rcases this with rfl | rfl | rfl | rfl | rfl | rfl | rfl <;> split <;> omega
theorem L_plan5 {S : Nat → Nat} (hB : WB S) (hN : S 311 ≤ 20) (hp : 0 < pres S (S 311)) : ∀ (d fu : Nat) (w : gWd) (j : Nat), j + d = S 311 → d < fu → LV w S → ∃ w', F_L_plan_5 fu w (nI (pres S j)) (nI j) = F_L_plan_75 gFU w' (nI (pres S (S 311))) (nI (S 317)) (nI (nH S)) 0 0 ∧ agW w w' := by
  have hl := hB.2.2.2.2.2.1
  have hpl := pres_le S (S 311)
  intro d
  induction d with
  | zero =>
    intro fu w j hj hfu hS
    obtain ⟨fu, rfl⟩ : ∃ f, fu = f + 1 := ⟨fu - 1, by omega⟩
    obtain rfl : j = S 311 := by omega
    refine ⟨w, ?_, agW.rf w⟩
    have hs := nH_split hl (show pres S (S 311) ≤ 20 by omega)
    have hml : pres S (S 311) % S 317 < S 317 := Nat.mod_lt _ (by omega)
    have hdl : pres S (S 311) / S 317 ≤ pres S (S 311) := Nat.div_le_self _ _
    rw [F_L_plan_5_s, hS.N, iLe (by omega) (by omega), if_pos (Nat.le_refl _), hS.la, gS_e, gD_n (by omega) (by omega), gD_n (by omega) (by omega), pk_rem (by omega) (by omega) (by omega), pk_div (by omega) (by omega) (by omega), iLe0 (by omega)]
    unfold F_L_plan_66 nH
    rw [← hs]
    by_cases c : pres S (S 311) % S 317 = 0
    · rw [if_pos c, if_pos c, Int32.add_zero, gS_e]; rfl
    · rw [if_neg c, if_neg c, nI_1, gS_e]
  | succ d ih =>
    intro fu w j hj hfu hS
    obtain ⟨fu, rfl⟩ : ∃ f, fu = f + 1 := ⟨fu - 1, by omega⟩
    have hj2 : j < 20 := by omega
    have hg := (hB.k (k := j) (by omega)).2.2.1
    rw [F_L_plan_5_s, hS.N, iLe (by omega) (by omega), if_neg (by omega), g32 hj2, hS.g2 hj2, iE0 (by omega)]
    by_cases c : S (10 * j + 2) = 0
    · have her : erank S j < 40 := by
        have := fb_ct_le (fun q => decide (S (10 * q + 2) = 0 ∧ ek S q < ek S j)) (S 311)
        unfold erank
        omega
      rw [if_pos c, L_rank hS hB hN hj2, gP_s, gB40 her, gS_e, nI_1, gS_e, nI_1, gS_e]
      obtain ⟨w', f1, a1⟩ := ih fu (up3 w 8 7 (erank S j) (nI j)) (j + 1) (by omega) (by omega) (hS.w7 _ _)
      refine ⟨w', ?_, (agW.up _ _).tr a1⟩
      rw [← f1]
      congr 2
      unfold pres
      rw [fb_ct_succ, if_pos (decide_eq_true c)]
    · rw [if_neg c, nI_1, gS_e]
      obtain ⟨w', f1, a1⟩ := ih fu w (j + 1) (by omega) (by omega) hS
      refine ⟨w', ?_, a1⟩
      rw [← f1]
      congr 2
      unfold pres
      rw [fb_ct_succ, if_neg (by simp [c])]
      rfl
theorem L_plan {w : gWd} {S : Nat → Nat} (hS : LV w S) (hB : WB S) (hN : S 311 ≤ 20) (hp : 0 < pres S (S 311)) : ∃ w' t, F_L_plan w = some (nI (nH S), w') ∧ agW w w' ∧ (∀ r, r < pres S (S 311) → w' 8 7 (20 + r) = nI (Dt (S 317) (nH S) t r)) ∧ cg (S 317) (nH S) (pres S (S 311)) t = min (nA S (nH S)).toNat (nT S (nH S)) := by
  have hl := hB.2.2.2.2.2.1
  have hf := hB.2.2.2.2.2.2.1
  have hpl := pres_le S (S 311)
  obtain ⟨hH1, hH8, hHL⟩ := nH_in hB hp
  obtain ⟨w1, f1, a1⟩ := L_plan5 hB hN hp (S 311) gFU w 0 (by omega) (by unfold gFU; omega) hS
  obtain ⟨w2, f2, a2, d2⟩ := L_plan75 (n := pres S (S 311)) (L := S 317) (H := nH S) (by omega) hl ⟨hH1, hH8⟩ hHL (by omega) (pres S (S 311)) gFU w1 0 (by omega) (by unfold gFU; omega) (fun q hq => absurd hq (Nat.not_lt_zero q))
  have hS2 := a2.lv (a1.lv hS)
  have e1 : pres S (S 311) - 1 + 1 = pres S (S 311) := by omega
  obtain ⟨w', t, f3, a3, d3, c3⟩ := L_plan174 (T := S) (n := pres S (S 311)) (L := S 317) (H := nH S) (f0 := fb_ct (fun q => decide (h0 (S 317) (nH S) q = 0)) (pres S (S 311))) (F8 := S 318) (A := nA S (nH S)) (by omega) hl.1 ⟨hH1, hH8⟩ (fb_ct_le _ _) hf.2 rfl (pres S (S 311) - 1) gFU w2 (by omega) (by unfold gFU; omega) hS2.fe (fun r hr => by rw [e1, Dt_n hr]; exact d2 r hr) (by rw [e1, cg_n]; omega)
  rw [e1, cg_n, Nat.add_zero] at f3
  exact ⟨w', t, f1.trans (f2.trans f3), a1.tr (a2.tr a3), d3, c3⟩
theorem L_planLane {w : gWd} {S : Nat → Nat} (hS : LV w S) (hB : WB S) {d : Nat → Nat} {n r : Nat} (hn : n ≤ 20) (hr : r < n) (hd : ∀ q, q < n → w 8 7 (20 + q) = nI (d q) ∧ d q < 1000) : F_L_planLane w (nI r) = some (laneI S (fb_ct (fun q => decide (d q = d r)) r)) := by
  have hl := hB.2.2.2.2.2.1
  unfold F_L_planLane
  refine loopI (F := fun fu (acc : Nat) q => F_L_planLane_5 fu w (nI r) (nI acc) (nI q)) r (fun q acc => acc = fb_ct (fun q => decide (d q = d r)) q) (fun o => o = some (laneI S (fb_ct (fun q => decide (d q = d r)) r))) ?_ ?_ gFU 0 0 (by omega) (gFU_lt (by omega)) rfl
  · intro fu acc hI
    subst hI
    have := fb_ct_le (fun q => decide (d q = d r)) r
    show F_L_planLane_5 (fu + 1) w (nI r) (nI (fb_ct (fun q => decide (d q = d r)) r)) (nI r) = _
    rw [F_L_planLane_5_s, iLe (by omega) (by omega), if_pos (Nat.le_refl _), hS.la, L_lane (w := w) (S := S) (by omega) (by omega), gP_s]
  · intro fu acc q hq hI
    right
    refine ⟨_, rfl, ?_⟩
    show F_L_planLane_5 (fu + 1) w (nI r) (nI acc) (nI q) = F_L_planLane_5 fu w (nI r) (nI (fb_ct (fun q => decide (d q = d r)) (q + 1))) (nI (q + 1))
    obtain ⟨b1, b2⟩ := hd q (by omega)
    obtain ⟨c1, c2⟩ := hd r (by omega)
    rw [F_L_planLane_5_s, iLe (by omega) (by omega), if_neg (by omega), n20, gB40 (by omega), n20, gB40 (by omega), b1, c1, iEq (by omega) (by omega), fb_ct_succ, hI]
    by_cases c : d q = d r
    · rw [if_pos c, if_pos (decide_eq_true c), nI_1, gS_e, nI_1, gS_e]
    · rw [if_neg c, if_neg (by simp [c]), Int32.add_zero, gS_e, nI_1, gS_e]
      rfl
