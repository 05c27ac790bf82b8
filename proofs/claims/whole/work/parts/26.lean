/-! level 2: drawing the heats, the model's side -/
def UN (S : Nat → Nat) (q : Nat) : Bool := decide (S (10 * q + 2) = 0)
theorem erank_rk (S : Nat → Nat) (k : Nat) : erank S k = rk (UN S) (ek S) (S 311) k := by
  unfold erank rk UN
  exact fb_ct_cong (fun q _ => by simp)
theorem pres_ct (S : Nat → Nat) : pres S (S 311) = fb_ct (UN S) (S 311) := rfl
theorem ek_inj {S : Nat → Nat} {a b : Nat} (ha : a < 30) (hb : b < 30) (h : ek S a = ek S b) : a = b := by
  unfold ek at h
  omega
theorem erank_lt {S : Nat → Nat} {k : Nat} (hk : k < S 311) (hU : UN S k = true) : erank S k < pres S (S 311) := by
  rw [erank_rk, pres_ct]
  exact rk_n _ _ _ hk hU
theorem pres_le (S : Nat → Nat) (n : Nat) : pres S n ≤ n := fb_ct_le _ _
def nH (S : Nat → Nat) : Nat := (pres S (S 311) + S 317 - 1) / S 317
theorem nH_in {S : Nat → Nat} (hB : WB S) (h : 0 < pres S (S 311)) : 1 ≤ nH S ∧ nH S ≤ 8 ∧ pres S (S 311) ≤ nH S * S 317 := by
  have h1 := hB.1
  have h2 := hB.2.2.2.2.2.1
  have h3 := pres_le S (S 311)
  unfold nH
  generalize pres S (S 311) = n at *
  generalize hl : S 317 = L at *
  refine ⟨Nat.div_pos (by omega) (by omega), ?_, ?_⟩
  · rw [Nat.div_le_iff_le_mul_add_pred (by omega)]
    omega
  · have := Nat.div_add_mod (n + L - 1) L
    have h4 := Nat.mod_lt (n + L - 1) (show L > 0 by omega)
    rw [Nat.mul_comm]
    omega
/-- the heat of a rank before the first heat is filled -/
def h0 (L H r : Nat) : Nat := if H < 3 then (if H = 2 ∧ r % 2 = 0 then 1 else 0) else if r < 3 * L then H - 1 - r % 3 else H - 1 - r / L
theorem h0_le {L H r : Nat} (h : 1 ≤ H) : h0 L H r ≤ H - 1 := by
  unfold h0
  split
  · split <;> omega
  · split
    · exact Nat.sub_le _ _
    · exact Nat.sub_le _ _
theorem div_lt' {r H L : Nat} (hL : 0 < L) (h : r < H * L) : r / L < H := (Nat.div_lt_iff_lt_mul hL).mpr h
theorem M_heatFor {w : gWd} {S : Nat → Nat} (hS : SV w S) (hB : WB S) {r H : Nat} (h1 : 1 ≤ H) (h8 : H ≤ 8) (hr : r < H * S 317) (hr2 : r < 30) : F_X12_heatFor w (nI r) (nI H) = some (nI (h0 (S 317) H r)) := by
  have hl := hB.2.2.2.2.2.1
  have hd := div_lt' (by omega) hr
  unfold F_X12_heatFor h0
  rw [show (3 : Int32) = nI 3 from rfl, iLe (by omega) (by omega), M_lanes hS, gP_s, gP_s, pk_mul, iLe (by omega) (by omega), gD_n (by omega) (by omega), pk_div (by omega) (by omega) (by omega), pk_rem (by omega) (by omega) (by omega), show (2 : Int32) = nI 2 from rfl, pk_rem (by omega) (by omega) (by omega), show (1 : Int32) = nI 1 from rfl, iEq (by omega) (by omega), pk_sub h1]
  by_cases e1 : 3 ≤ H
  · rw [if_pos e1, if_neg (show ¬ H < 3 by omega)]
    by_cases e2 : 3 * S 317 ≤ r
    · rw [if_pos e2, if_neg (show ¬ r < 3 * S 317 by omega), pk_sub (show r / S 317 ≤ H - 1 by omega)]
    · rw [if_neg e2, if_pos (show r < 3 * S 317 by omega), pk_sub (show r % 3 ≤ H - 1 by omega)]
  · rw [if_neg e1, if_pos (show H < 3 by omega)]
    by_cases e2 : H = 1
    · rw [if_pos e2, if_neg (by omega)]; rfl
    · rw [if_neg e2]
      by_cases e3 : r % 2 = 0
      · rw [if_pos (by omega), e3]; rfl
      · rw [if_neg (by omega), show r % 2 = 1 by omega]; rfl
theorem M_sizeOf {w : gWd} {d : Nat → Nat} {h m : Nat} (hm : m ≤ 30) (hh : h < 1000) (hd : ∀ r, r < m → w 8 5 r = nI (d r) ∧ d r < 1000) : F_X12_sizeOf w (nI h) (nI m) = some (nI (fb_ct (fun r => decide (d r = h)) m)) := by
  unfold F_X12_sizeOf
  refine loopI (F := fun fu (acc : Nat) j => F_X12_sizeOf_5 fu w (nI h) (nI m) (nI acc) (nI j)) m (fun j acc => acc = fb_ct (fun r => decide (d r = h)) j) (fun r => r = some (nI (fb_ct (fun r => decide (d r = h)) m))) ?_ ?_ gFU 0 0 (by omega) (gFU_lt (by omega)) rfl
  · intro fu acc hI
    show F_X12_sizeOf_5 (fu + 1) w (nI h) (nI m) (nI acc) (nI m) = _
    rw [F_X12_sizeOf_5_s, iLe (by omega) (by omega), if_pos (Nat.le_refl _), hI]
  · intro fu acc j hj hI
    right
    refine ⟨_, rfl, ?_⟩
    show F_X12_sizeOf_5 (fu + 1) w (nI h) (nI m) (nI acc) (nI j) = F_X12_sizeOf_5 fu w (nI h) (nI m) _ (nI (j + 1))
    obtain ⟨h1, h2⟩ := hd j hj
    rw [F_X12_sizeOf_5_s, iLe (by omega) (by omega), if_neg (by omega), gB_n _ (by omega) (by omega), h1, iEq (by omega) (by omega), fb_ct_succ, hI]
    by_cases e : d j = h
    · rw [if_pos e, if_pos (by simp [e])]
      simp only [gS_e, nI_1]
    · rw [if_neg e, if_neg (by simp [e])]
      simp only [gS_e, Int32.add_zero, Nat.add_zero, nI_1]
/-- the heat of a rank when those of heat 1 from the rank t on came into the heat 0 -/
def Dt (L H t r : Nat) : Nat := if h0 L H r = 1 ∧ t ≤ r then 0 else h0 L H r
def cg (L H n t : Nat) : Nat := fb_ct (fun r => decide (t ≤ r) && decide (h0 L H r = 1)) n
theorem Dt_le {L H t r : Nat} (h : 1 ≤ H) : Dt L H t r ≤ H - 1 := by
  have := h0_le (L := L) (r := r) h
  unfold Dt
  split <;> omega
theorem cg_n (L H n : Nat) : cg L H n n = 0 := fb_ct_zero.mpr (fun k hk => by simp; intro h; omega)
theorem Dt_n {L H n r : Nat} (h : r < n) : Dt L H n r = h0 L H r := by
  unfold Dt
  rw [if_neg (by omega)]
theorem cg_step {L H n t : Nat} (ht : t < n) : cg L H n t = cg L H n (t + 1) + if h0 L H t = 1 then 1 else 0 := by
  unfold cg
  have h := fb_ct_or (p := fun r => decide (t + 1 ≤ r) && decide (h0 L H r = 1)) (q := fun r => decide (r = t) && decide (h0 L H r = 1)) (n := n) (fun k _ => by simp; omega)
  have h2 : fb_ct (fun r => decide (t ≤ r) && decide (h0 L H r = 1)) n = fb_ct (fun r => (decide (t + 1 ≤ r) && decide (h0 L H r = 1)) || (decide (r = t) && decide (h0 L H r = 1))) n := fb_ct_cong (fun k _ => by
    rcases Nat.lt_trichotomy k t with q | q | q
    · have a1 : ¬ t ≤ k := by omega
      have a2 : ¬ t + 1 ≤ k := by omega
      have a3 : ¬ k = t := by omega
      simp [a1, a2, a3]
    · subst q; simp
    · have a1 : t ≤ k := by omega
      have a2 : t + 1 ≤ k := by omega
      have a3 : ¬ k = t := by omega
      simp [a1, a2, a3])
  rw [h2, h]
  congr 1
  by_cases e : h0 L H t = 1
  · rw [if_pos e]
    refine Nat.le_antisymm (ct_one (fun a b _ _ h1 h2 => by simp at h1 h2; omega)) ?_
    exact fb_ct_pos.mpr ⟨t, ht, by simp [e]⟩
  · rw [if_neg e]
    exact fb_ct_zero.mpr (fun k _ => by
      simp
      intro q
      subst q
      exact e)
theorem cg_mono {L H n a b : Nat} (h : a ≤ b) : cg L H n b ≤ cg L H n a := fb_ct_sub (fun k _ hk => by simp at hk ⊢; exact ⟨by omega, hk.2⟩)
/-- where as many came over, the same came over -/
theorem Dt_cg {L H n a b : Nat} (h : cg L H n a = cg L H n b) {r : Nat} (hr : r < n) : Dt L H a r = Dt L H b r := by
  have key : ∀ a b : Nat, a ≤ b → cg L H n a = cg L H n b → Dt L H a r = Dt L H b r := by
    intro a b hab h
    unfold Dt
    by_cases e : h0 L H r = 1 ∧ a ≤ r ∧ r < b
    · exfalso
      have : cg L H n b < cg L H n a := ct_lt (fun k _ hk => by simp at hk ⊢; exact ⟨by omega, hk.2⟩) ⟨r, hr, by simp; intro; omega, by simp [e.1, e.2.1]⟩
      omega
    · by_cases e1 : h0 L H r = 1 ∧ a ≤ r
      · rw [if_pos e1, if_pos ⟨e1.1, by omega⟩]
      · rw [if_neg e1, if_neg (fun q => e1 ⟨q.1, by omega⟩)]
  rcases Nat.le_total a b with q | q
  · exact key a b q h
  · exact (key b a q h.symm).symm
/-- how many are to come over, if there are as many -/
def nA (S : Nat → Nat) (H : Nat) : Int := if H < 4 then 0 else (S 318 : Int) - fb_ct (fun r => decide (h0 (S 317) H r = 0)) (pres S (S 311))
def nT (S : Nat → Nat) (H : Nat) : Nat := cg (S 317) H (pres S (S 311)) 0
/-- only the model's row of heats has changed -/
def ag5 (w w' : gWd) : Prop := ∀ a b, ¬ (a = 8 ∧ b = 5) → w' a b = w a b
theorem ag5.rf (w : gWd) : ag5 w w := fun _ _ _ => rfl
theorem ag5.tr {w w1 w2 : gWd} (h1 : ag5 w w1) (h2 : ag5 w1 w2) : ag5 w w2 := fun a b h => (h2 a b h).trans (h1 a b h)
theorem ag5.up {w : gWd} (j : Nat) (v : Int32) : ag5 w (up3 w 8 5 j v) := fun a b h => up3_r h
theorem ag5.sv {w w' : gWd} {S : Nat → Nat} (h : ag5 w w') (hS : SV w S) : SV w' S := hS.of (h 8 1 (by omega))
theorem ax1 {A : Int} {Ap a b : Nat} (h : A ≤ Ap) (e : ¬ A - (a : Int) ≤ 0) (hb : b = a + 1) : b ≤ Ap := by omega
theorem ax2 {A : Int} {a b : Nat} (hb : b = a + 1) : A - (a : Int) + -1 = A - (b : Int) := by omega
theorem ax3 {A z : Int} (h : A ≤ 30 ∧ -40 ≤ A) (h1 : 0 ≤ z) (h2 : z ≤ 30) : -2147483648 ≤ A - z + -1 ∧ A - z + -1 < 2147483648 := by omega
theorem M_plans74 {L H n : Nat} (hH : 1 ≤ H ∧ H ≤ 8) (hn : n ≤ 30) {A : Int} {Ap : Nat} (hA : A ≤ 30 ∧ -40 ≤ A) (hAp : A ≤ Ap ∧ (A ≤ 0 → Ap = 0) ∧ (0 ≤ A → (Ap : Int) = A)) (x2 : Int32) : ∀ (m fu : Nat) (w : gWd) (x3 : Int32), m ≤ n → m < fu → (∀ r, r < n → w 8 5 r = nI (Dt L H m r)) → x3.toInt = A - cg L H n m → cg L H n m ≤ Ap →
    ∃ w' t, F_X12_plans_74 fu w x2 x3 (nI m - 1) = some (x2, w') ∧ ag5 w w' ∧ (∀ r, r < n → w' 8 5 r = nI (Dt L H t r)) ∧ cg L H n t = min Ap (cg L H n 0) := by
  intro m
  induction m with
  | zero =>
    intro fu w x3 _ hfu hd hx hc
    obtain ⟨fu, rfl⟩ : ∃ f, fu = f + 1 := ⟨fu - 1, by omega⟩
    refine ⟨w, 0, ?_, ag5.rf w, hd, by omega⟩
    rw [F_X12_plans_74_s, if_pos (by decide)]
  | succ m ih =>
    intro fu w x3 hm hfu hd hx hc
    obtain ⟨fu, rfl⟩ : ∃ f, fu = f + 1 := ⟨fu - 1, by omega⟩
    have hle := cg_mono (L := L) (H := H) (n := n) (show 0 ≤ m + 1 by omega)
    have hx0 : (x3 ≤ 0) ↔ A - cg L H n (m + 1) ≤ 0 := by rw [Int32.le_iff_toInt_le, hx]; rfl
    rw [F_X12_plans_74_s, nI_pred, if_neg (nI_pos (by omega)), gB_n _ (by omega) (by omega), gB_n _ (by omega) (by omega), hd m (by omega)]
    by_cases e1 : A - cg L H n (m + 1) ≤ 0
    · rw [if_pos (hx0.mpr e1)]
      exact ⟨w, m + 1, rfl, ag5.rf w, hd, by omega⟩
    · rw [if_neg (fun q => e1 (hx0.mp q))]
      have hDm : Dt L H (m + 1) m = h0 L H m := by unfold Dt; rw [if_neg (by omega)]
      have h0l := h0_le (L := L) (H := H) (r := m) hH.1
      have hcs := cg_step (L := L) (H := H) (n := n) (t := m) (by omega)
      rw [hDm, show (1 : Int32) = nI 1 from rfl, iEq (by omega) (by omega)]
      have em : nI m + (-nI 1) = nI m - 1 := by rw [Int32.sub_eq_add_neg]; rfl
      by_cases e2 : h0 L H m = 1
      · rw [if_pos e2, gS_e, gS_e, gS_e, em]
        rw [if_pos e2] at hcs
        have hd' : ∀ r, r < n → up3 w 8 5 m 0 8 5 r = nI (Dt L H m r) := by
          intro r hr
          by_cases er : r = m
          · subst er
            rw [up3_s]
            unfold Dt
            rw [if_pos ⟨e2, Nat.le_refl _⟩]
            rfl
          · rw [up3_n (by omega), hd r hr]
            congr 1
            unfold Dt
            by_cases q : h0 L H r = 1 ∧ m + 1 ≤ r
            · rw [if_pos q, if_pos ⟨q.1, by omega⟩]
            · rw [if_neg q, if_neg (fun z => q ⟨z.1, by omega⟩)]
        have hx' : (x3 + (-nI 1)).toInt = A - cg L H n m := by
          have h1 : (-nI 1).toInt = -1 := by decide
          have hb : (cg L H n (m + 1) : Int) ≤ 30 := by
            have := fb_ct_le (fun r => decide (m + 1 ≤ r) && decide (h0 L H r = 1)) n
            unfold cg
            omega
          have hb0 : (0 : Int) ≤ cg L H n (m + 1) := Int.natCast_nonneg _
          have hz := ax3 hA hb0 hb
          rw [fb_addI (by rw [hx, h1]; exact hz.1) (by rw [hx, h1]; exact hz.2), hx, h1]
          exact ax2 hcs
        have hc' : cg L H n m ≤ Ap := ax1 hAp.1 e1 hcs
        obtain ⟨w', t, g1, g2, g3, g4⟩ := ih fu (up3 w 8 5 m 0) (x3 + (-nI 1)) (by omega) (by omega) hd' hx' hc'
        exact ⟨w', t, g1, (ag5.up m 0).tr g2, g3, g4⟩
      · rw [if_neg e2, gS_e, em]
        rw [if_neg e2] at hcs
        have hd' : ∀ r, r < n → w 8 5 r = nI (Dt L H m r) := by
          intro r hr
          rw [hd r hr]
          congr 1
          unfold Dt
          by_cases q : h0 L H r = 1 ∧ m + 1 ≤ r
          · rw [if_pos q, if_pos ⟨q.1, by omega⟩]
          · rw [if_neg q, if_neg (fun z => q ⟨z.1, by
              rcases Nat.lt_or_ge m r with y | y
              · omega
              · have : r = m := by omega
                subst this
                exact absurd z.1 e2⟩)]
        exact ih fu w x3 (by omega) (by omega) hd' (by rw [hx]; omega) (by omega)

theorem M_plans21 {S : Nat → Nat} (hB : WB S) (hp : 0 < pres S (S 311)) : ∀ (d : Nat) (fu : Nat) (w : gWd) (j : Nat), SV w S → j + d = pres S (S 311) → d < fu → (∀ r, r < j → w 8 5 r = nI (h0 (S 317) (nH S) r)) →
    ∃ w' t, F_X12_plans_21 fu w (nI (pres S (S 311))) (nI (nH S)) (nI j) = some (nI (nH S), w') ∧ ag5 w w' ∧ (∀ r, r < pres S (S 311) → w' 8 5 r = nI (Dt (S 317) (nH S) t r)) ∧ cg (S 317) (nH S) (pres S (S 311)) t = min (nA S (nH S)).toNat (nT S (nH S)) := by
  have hN := hB.1
  have hn := pres_le S (S 311)
  obtain ⟨hH1, hH8, hHL⟩ := nH_in hB hp
  have hfe := hB.2.2.2.2.2.2.1
  intro d
  induction d with
  | zero =>
    intro fu w j hS hj hfu hd
    obtain ⟨fu, rfl⟩ : ∃ f, fu = f + 1 := ⟨fu - 1, by omega⟩
    have e : j = pres S (S 311) := by omega
    subst e
    have hDn : ∀ r, r < pres S (S 311) → w 8 5 r = nI (Dt (S 317) (nH S) (pres S (S 311)) r) := fun r hr => by rw [hd r hr, Dt_n hr]
    have hsz : F_X12_sizeOf w 0 (nI (pres S (S 311))) = some (nI (fb_ct (fun r => decide (h0 (S 317) (nH S) r = 0)) (pres S (S 311)))) := M_sizeOf (h := 0) (by omega) (by omega) (fun r hr => ⟨hd r hr, by have := h0_le (L := S 317) (r := r) hH1; omega⟩)
    rw [F_X12_plans_21_s, iLe (by omega) (by omega), if_pos (Nat.le_refl _), show (4 : Int32) = nI 4 from rfl, iLe (by omega) (by omega), hsz, gP_s, gS_e, gS_e, gS_e, hS 318 (by omega)]
    have hc := fb_ct_le (fun r => decide (h0 (S 317) (nH S) r = 0)) (pres S (S 311))
    unfold nA nT
    generalize hcc : fb_ct (fun r => decide (h0 (S 317) (nH S) r = 0)) (pres S (S 311)) = c0 at *
    by_cases e4 : 4 ≤ nH S
    · rw [if_pos e4, if_neg (by omega)]
      exact M_plans74 (A := (S 318 : Int) - c0) (Ap := ((S 318 : Int) - c0).toNat) ⟨hH1, hH8⟩ (by omega) (by omega) (by omega) _ _ gFU w _ (Nat.le_refl _) (by unfold gFU; omega) hDn (by rw [cg_n, pk_sub_toInt (by omega) (by omega)]; omega) (by rw [cg_n]; omega)
    · rw [if_neg e4, if_pos (by omega)]
      exact M_plans74 (A := 0) (Ap := (0 : Int).toNat) ⟨hH1, hH8⟩ (by omega) (by omega) (by decide) _ _ gFU w _ (Nat.le_refl _) (by unfold gFU; omega) hDn (by rw [cg_n]; rfl) (by rw [cg_n]; omega)
  | succ d ih =>
    intro fu w j hS hj hfu hd
    obtain ⟨fu, rfl⟩ : ∃ f, fu = f + 1 := ⟨fu - 1, by omega⟩
    rw [F_X12_plans_21_s, iLe (by omega) (by omega), if_neg (by omega), M_heatFor hS hB hH1 hH8 (by omega) (by omega), gP_s, gB_n _ (by omega) (by omega), gS_e, gS_e, nI_1]
    obtain ⟨w', t, g1, g2, g3⟩ := ih fu (up3 w 8 5 j (nI (h0 (S 317) (nH S) j))) (j + 1) ((ag5.up j _).sv hS) (by omega) (by omega) (fun r hr => by
      by_cases e : r = j
      · subst e; rw [up3_s]
      · rw [up3_n (by omega)]; exact hd r (by omega))
    exact ⟨w', t, g1, (ag5.up j _).tr g2, g3⟩
/-- laying out the heats: what the model's row holds then -/
theorem M_plans {w : gWd} {S : Nat → Nat} (hS : SV w S) (hB : WB S) (hp : 0 < pres S (S 311)) : ∃ w' t, F_X12_plans w = some (nI (nH S), w') ∧ ag5 w w' ∧ (∀ r, r < pres S (S 311) → w' 8 5 r = nI (Dt (S 317) (nH S) t r)) ∧ cg (S 317) (nH S) (pres S (S 311)) t = min (nA S (nH S)).toNat (nT S (nH S)) := by
  have hN := hB.1
  have hn := pres_le S (S 311)
  have hl := hB.2.2.2.2.2.1
  unfold F_X12_plans
  have e : (nI (pres S (S 311)) + nI (S 317) - 1) / nI (S 317) = nI (nH S) := by
    rw [nI_add, show (1 : Int32) = nI 1 from rfl, pk_sub (by omega), pk_div (by omega) (by omega) (by omega)]
    rfl
  rw [M_pres hS hB, gP_s, M_lanes hS, gP_s, gP_s, gD_n (by omega) (by omega), gS_e, e]
  exact M_plans21 hB hp _ gFU w 0 hS (Nat.zero_add _) (by unfold gFU; omega) (fun r hr => by omega)
