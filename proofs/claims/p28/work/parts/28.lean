/-! level 2: drawing the heats, the class's side -/
def agS (i : Nat) (w w' : gWd) : Prop := (∀ a, a ≠ i → w' a = w a) ∧ ∀ r, r < 4 → w' i r = w i r
theorem agS.rf (i : Nat) (w : gWd) : agS i w w := ⟨fun _ _ => rfl, fun _ _ => rfl⟩
theorem agS.tr {i : Nat} {w w1 w2 : gWd} (h1 : agS i w w1) (h2 : agS i w1 w2) : agS i w w2 := ⟨fun a h => (h2.1 a h).trans (h1.1 a h), fun r h => (h2.2 r h).trans (h1.2 r h)⟩
theorem agS.up {i : Nat} {w : gWd} (k j : Nat) (v : Int32) : agS i w (up3 w i (4 + k) j v) := ⟨fun a h => up3_b h, fun r h => up3_r (fun q => by omega)⟩
theorem CV.cgS {c : Nat → Nat → Int32} {S S' : Nat → Nat} (h : CV c S) (hN : S 311 ≤ 30) (e : ∀ t, t < 320 → S' t = S t) : CV c S' := by
  refine ⟨?_, fun k hk a ha => ?_⟩
  · rw [e 311 (by omega), e 310 (by omega), e 312 (by omega), e 313 (by omega), e 314 (by omega), e 315 (by omega), e 316 (by omega), e 317 (by omega), e 318 (by omega), e 319 (by omega)]
    exact h.1
  · rw [e 311 (by omega)] at hk
    rw [e _ (by omega)]
    exact h.2 k hk a ha
theorem rk_surj {U : Nat → Bool} {e : Nat → Nat} {N : Nat} (hinj : ∀ a b, a < N → b < N → e a = e b → a = b) {x : Nat} (hx : x < fb_ct U N) : ∃ q, q < N ∧ U q = true ∧ rk U e N q = x := by
  have h := ct_rank U e N hinj (fun r => decide (r = x))
  have h1 : 0 < fb_ct (fun r => decide (r = x)) (fb_ct U N) := fb_ct_pos.mpr ⟨x, hx, by simp⟩
  rw [← h] at h1
  obtain ⟨q, hq, hp⟩ := fb_ct_pos.mp h1
  simp at hp
  exact ⟨q, hq, hp.1, hp.2⟩
theorem ct_cut {p : Nat → Bool} {m : Nat} : ∀ {n : Nat}, m ≤ n → fb_ct (fun r => p r && decide (r < m)) n = fb_ct p m
  | 0, h => by
    have : m = 0 := by omega
    subst this; rfl
  | n + 1, h => by
    by_cases e : m = n + 1
    · subst e
      exact fb_ct_cong (fun k hk => by simp [hk])
    · rw [fb_ct_succ, ct_cut (by omega)]
      have : ¬ n < m := by omega
      simp [this]
section ERK
variable {S : Nat → Nat}
theorem erank_surj (hN : S 311 ≤ 30) {x : Nat} (hx : x < pres S (S 311)) : ∃ q, q < S 311 ∧ UN S q = true ∧ erank S q = x := by
  obtain ⟨q, h1, h2, h3⟩ := rk_surj (U := UN S) (e := ek S) (N := S 311) (fun a b ha hb h => ek_inj (by omega) (by omega) h) hx
  exact ⟨q, h1, h2, by rw [erank_rk]; exact h3⟩
theorem erank_inj (hN : S 311 ≤ 30) {a b : Nat} (ha : a < S 311) (hb : b < S 311) (hUa : UN S a = true) (hUb : UN S b = true) (h : erank S a = erank S b) : a = b := by
  rw [erank_rk, erank_rk] at h
  exact rk_inj _ _ _ (fun a b ha hb h => ek_inj (by omega) (by omega) h) ha hb hUa hUb h
theorem erank_iff (hN : S 311 ≤ 30) {a b : Nat} (ha : a < S 311) (hb : b < S 311) (hUa : UN S a = true) (hUb : UN S b = true) : erank S a < erank S b ↔ ek S a < ek S b := by
  rw [erank_rk, erank_rk]
  exact rk_iff _ _ _ (fun a b ha hb h => ek_inj (by omega) (by omega) h) ha hb hUa hUb
theorem ct_erank (hN : S 311 ≤ 30) (P : Nat → Bool) : fb_ct (fun q => UN S q && P (erank S q)) (S 311) = fb_ct P (pres S (S 311)) := by
  rw [pres_ct, ← ct_rank (UN S) (ek S) (S 311) (fun a b ha hb h => ek_inj (by omega) (by omega) h) P]
  exact fb_ct_cong (fun k _ => by rw [erank_rk])
end ERK
theorem C_heatsFor {w : gWd} {n L : Nat} (hn : 0 < n ∧ n ≤ 30) (hL : 4 ≤ L ∧ L ≤ 10) : F_X2_heatsFor w (nI n) (nI L) = some (nI ((n + L - 1) / L)) := by
  unfold F_X2_heatsFor
  rw [show (1 : Int32) = nI 1 from rfl, iLe (by omega) (by omega), if_pos (by omega), gD_n (by omega) (by omega), nI_add, pk_sub (by omega), pk_div (by omega) (by omega) (by omega)]
theorem C_heatOf {w : gWd} {r H L : Nat} (h1 : 1 ≤ H) (h8 : H ≤ 8) (hL : 4 ≤ L ∧ L ≤ 10) (hr : r < H * L) (hr2 : r < 30) : F_X2_heatOfRank w (nI r) (nI H) (nI L) = some (nI (h0 L H r)) := by
  have hd := div_lt' (by omega) hr
  unfold F_X2_heatOfRank F_X2_heatOfRank_20 h0
  rw [show (3 : Int32) = nI 3 from rfl, iLe (by omega) (by omega), pk_mul, iLe (by omega) (by omega), gD_n (by omega) (by omega), pk_div (by omega) (by omega) (by omega), pk_rem (by omega) (by omega) (by omega), show (2 : Int32) = nI 2 from rfl, pk_rem (by omega) (by omega) (by omega), show (1 : Int32) = nI 1 from rfl, iLe (by omega) (by omega), iEq (by omega) (by omega), iE0 (by omega), pk_sub h1]
  by_cases e1 : 3 ≤ H
  · rw [if_pos e1, if_neg (show ¬ H < 3 by omega)]
    by_cases e2 : 3 * L ≤ r
    · rw [if_pos e2, if_neg (show ¬ r < 3 * L by omega), if_pos (by omega), pk_sub (show r / L ≤ H - 1 by omega)]
    · rw [if_neg e2, if_pos (show r < 3 * L by omega), pk_sub (show r % 3 ≤ H - 1 by omega)]
  · rw [if_neg e1, if_pos (show H < 3 by omega)]
    by_cases e2 : H = 2
    · rw [if_pos e2]
      by_cases e3 : r % 2 = 0
      · rw [if_pos e3, if_pos ⟨e2, e3⟩]
      · rw [if_neg e3, if_neg (fun q => e3 q.2)]; rfl
    · rw [if_neg e2, if_neg (fun q => e2 q.1)]; rfl
/-- the heats when those of heat 1 from the rank t on have come over -/
def Dst (S : Nat → Nat) (t j : Nat) : Nat → Nat := bulk S 3 (fun k => Dt (S 317) (nH S) t (erank S k) + 1) (UN S) j
section DST
variable {S : Nat → Nat} {t j : Nat}
theorem Dst_hi {q : Nat} (h : 300 ≤ q) : Dst S t j q = S q := bulk_hi h
theorem Dst_ne {b k : Nat} (hb : b < 10) (h3 : b ≠ 3) : Dst S t j (10 * k + b) = S (10 * k + b) := bulk_ne hb h3
theorem Dst_3 {k : Nat} (hk : k < 30) : Dst S t j (10 * k + 3) = if k < j ∧ UN S k = true then Dt (S 317) (nH S) t (erank S k) + 1 else S (10 * k + 3) := bulk_at (by omega) hk
theorem Dst_WB (hB : WB S) (hp : 0 < pres S (S 311)) : WB (Dst S t j) := by
  obtain ⟨hH1, hH8, hHL⟩ := nH_in hB hp
  refine hB.bulk (by omega) (fun k _ _ _ => ?_)
  have := Dt_le (L := S 317) (t := t) (r := erank S k) hH1
  refine ⟨fun h => ?_, fun h => ?_, fun h => ?_, fun h => ?_, fun h => ?_, fun h => ?_, fun h => ?_, fun h => ?_⟩ <;> first | (exact absurd h (by decide)) | omega
theorem Dst_erank (k : Nat) : erank (Dst S t j) k = erank S k := erank_cg (fun q => Dst_ne (by omega) (by omega)) (fun q => Dst_ne (by omega) (by omega)) (Dst_hi (by omega)) k
theorem Dst_ek (k : Nat) : ek (Dst S t j) k = ek S k := ek_cg (Dst_ne (by omega) (by omega))
end DST
theorem C_spread {w : gWd} {S : Nat → Nat} {i : Nat} (hC : CV (w i) S) (hB : WB S) (hp : 0 < pres S (S 311)) (hH : S 312 = nH S) : ∃ w', F_X2_spread w i = some w' ∧ agS i w w' ∧ CV (w' i) (Dst S (pres S (S 311)) (S 311)) := by
  have hN := hB.1
  have hn := pres_le S (S 311)
  obtain ⟨hH1, hH8, hHL⟩ := nH_in hB hp
  have hl := hB.2.2.2.2.2.1
  unfold F_X2_spread
  refine loopI (F := fun fu (u : gWd) j => F_X2_spread_2 fu u i (nI j)) (S 311) (fun j u => agS i w u ∧ CV (u i) (Dst S (pres S (S 311)) j)) (fun r => ∃ w', r = some w' ∧ agS i w w' ∧ CV (w' i) (Dst S (pres S (S 311)) (S 311))) ?_ ?_ gFU w 0 (by omega) (gFU_lt (by omega)) ⟨agS.rf i w, by unfold Dst; rw [bulk_0]; exact hC⟩
  · intro fu u hI
    refine ⟨u, ?_, hI⟩
    show F_X2_spread_2 (fu + 1) u i (nI (S 311)) = _
    rw [F_X2_spread_2_s, hI.2.sz, Dst_hi (by omega), iLe (by omega) (by omega), if_pos (Nat.le_refl _)]
  · intro fu u j hj hI
    right
    obtain ⟨hag, hCj⟩ := hI
    have hBj : WB (Dst S (pres S (S 311)) j) := Dst_WB hB hp
    have hN' : Dst S (pres S (S 311)) j 311 = S 311 := Dst_hi (by omega)
    have hg := (hB.k (k := j) (by omega)).2.2.1
    by_cases e : S (10 * j + 2) = 0
    · have hU : UN S j = true := by simp [UN, e]
      have hr := erank_lt (k := j) (by omega) hU
      refine ⟨up3 u i (4 + j) 4 (nI (h0 (S 317) (nH S) (erank S j))), ⟨hag.tr (agS.up j 4 _), ?_⟩, ?_⟩
      · have := hCj.upk (k := j) (a := 3) (v := h0 (S 317) (nH S) (erank S j) + 1) (by omega) (by omega) (x := nI (h0 (S 317) (nH S) (erank S j))) (nI_pred _).symm
        unfold Dst at this ⊢
        rw [bulk_t (by omega) (by omega) hU, Dt_n hr]
        exact this
      · show F_X2_spread_2 (fu + 1) u i (nI j) = F_X2_spread_2 fu _ i (nI (j + 1))
        rw [F_X2_spread_2_s, hCj.sz, hN', iLe (by omega) (by omega), if_neg (by omega), gB_n _ (by omega) (by omega), hCj.f3 (by omega), Dst_ne (by omega) (by omega), iE0 (by omega), if_pos e, C_erank hCj hBj (by omega), gP_s, C_lanes hCj, gP_s, Dst_erank, hCj.ht, Dst_hi (by omega), Dst_hi (by omega), hH, C_heatOf hH1 hH8 hl (by omega) (by omega), gP_s, gS_e, gS_e, nI_1]
    · have hU : UN S j = false := by simp [UN, e]
      refine ⟨u, ⟨hag, by unfold Dst; rw [bulk_f hU]; exact hCj⟩, ?_⟩
      show F_X2_spread_2 (fu + 1) u i (nI j) = F_X2_spread_2 fu _ i (nI (j + 1))
      rw [F_X2_spread_2_s, hCj.sz, hN', iLe (by omega) (by omega), if_neg (by omega), gB_n _ (by omega) (by omega), hCj.f3 (by omega), Dst_ne (by omega) (by omega), iE0 (by omega), if_neg e, gS_e, nI_1]
theorem C_sizeOf {w : gWd} {S : Nat → Nat} {i h : Nat} (hC : CV (w i) S) (hB : WB S) (hh : h < 1000) : F_X2_sizeOf w i (nI h) = some (nI (fb_ct (fun q => decide (S (10 * q + 3) = h + 1)) (S 311))) := by
  unfold F_X2_sizeOf
  have hN := hB.1
  refine loopI (F := fun fu (acc : Nat) j => F_X2_sizeOf_4 fu w i (nI h) (nI acc) (nI j)) (S 311) (fun j acc => acc = fb_ct (fun q => decide (S (10 * q + 3) = h + 1)) j) (fun r => r = some (nI (fb_ct (fun q => decide (S (10 * q + 3) = h + 1)) (S 311)))) ?_ ?_ gFU 0 0 (by omega) (gFU_lt (by omega)) rfl
  · intro fu acc hI
    show F_X2_sizeOf_4 (fu + 1) w i (nI h) (nI acc) (nI (S 311)) = _
    rw [F_X2_sizeOf_4_s, hC.sz, iLe (by omega) (by omega), if_pos (Nat.le_refl _), hI]
  · intro fu acc j hj hI
    right
    refine ⟨_, rfl, ?_⟩
    show F_X2_sizeOf_4 (fu + 1) w i (nI h) (nI acc) (nI j) = F_X2_sizeOf_4 fu w i (nI h) _ (nI (j + 1))
    have hg := (hB.k (k := j) (by omega)).2.2.2.1
    rw [F_X2_sizeOf_4_s, hC.sz, iLe (by omega) (by omega), if_neg (by omega), gB_n _ (by omega) (by omega), hC.f4 hj, fb_ct_succ, hI]
    by_cases e : S (10 * j + 3) = h + 1
    · rw [if_pos ((mEn (by omega) (by omega)).mpr e), if_pos (by simp [e])]
      simp only [gS_e, nI_1]
    · rw [if_neg (fun q => e ((mEn (by omega) (by omega)).mp q)), if_neg (by simp [e])]
      simp only [gS_e, Nat.add_zero, nI_1]
/-- the last swimmer by entry of the heat 1 -/
theorem C_lastOf {w : gWd} {S : Nat → Nat} {i : Nat} (hC : CV (w i) S) (hB : WB S) : ∃ v, F_X2_lastOf w i 1 = some v ∧ ((v = -1000004 ∧ ∀ q, q < S 311 → S (10 * q + 3) ≠ 2) ∨ ∃ k, k < S 311 ∧ v = nI k ∧ S (10 * k + 3) = 2 ∧ ∀ q, q < S 311 → S (10 * q + 3) = 2 → ek S q ≤ ek S k) := by
  unfold F_X2_lastOf
  have hN := hB.1
  refine loopI (F := fun fu (v : Int32) j => F_X2_lastOf_5 fu w i 1 v (nI j)) (S 311) (fun j v => (v = -1000004 ∧ ∀ q, q < j → S (10 * q + 3) ≠ 2) ∨ ∃ k, k < j ∧ v = nI k ∧ S (10 * k + 3) = 2 ∧ ∀ q, q < j → S (10 * q + 3) = 2 → ek S q ≤ ek S k) (fun r => ∃ v, r = some v ∧ ((v = -1000004 ∧ ∀ q, q < S 311 → S (10 * q + 3) ≠ 2) ∨ ∃ k, k < S 311 ∧ v = nI k ∧ S (10 * k + 3) = 2 ∧ ∀ q, q < S 311 → S (10 * q + 3) = 2 → ek S q ≤ ek S k)) ?_ ?_ gFU (-1000004) 0 (by omega) (gFU_lt (by omega)) (Or.inl ⟨rfl, fun q hq => by omega⟩)
  · intro fu v hI
    refine ⟨v, ?_, hI⟩
    show F_X2_lastOf_5 (fu + 1) w i 1 v (nI (S 311)) = _
    rw [F_X2_lastOf_5_s, hC.sz, iLe (by omega) (by omega), if_pos (Nat.le_refl _)]
  · intro fu v j hj hI
    right
    have hg := (hB.k (k := j) (by omega)).2.2.2.1
    have e0 : (nI (S (10 * j + 3)) - 1 = 1) ↔ S (10 * j + 3) = 2 := mEn (b := 1) (by omega) (by omega)
    show ∃ st', _ ∧ F_X2_lastOf_5 (fu + 1) w i 1 v (nI j) = F_X2_lastOf_5 fu w i 1 st' (nI (j + 1))
    rw [F_X2_lastOf_5_s, hC.sz, iLe (by omega) (by omega), if_neg (by omega), gB_n _ (by omega) (by omega), hC.f4 hj]
    by_cases e : S (10 * j + 3) = 2
    · rw [if_pos (e0.mpr e)]
      rcases hI with ⟨rfl, hI⟩ | ⟨k, hk, rfl, hk2, hI⟩
      · have hh : F_X5_has w i (-1000004) = some 0 := by rw [C_has hC, if_pos (Or.inl (by decide))]
        rw [hh, gP_s, if_pos rfl]
        unfold F_X2_lastOf_52
        rw [gS_e, nI_1]
        refine ⟨nI j, Or.inr ⟨j, by omega, rfl, e, fun q hq h2 => ?_⟩, rfl⟩
        by_cases y : q = j
        · subst y; exact Nat.le_refl _
        · exact absurd h2 (hI q (by omega))
      · rw [C_hasN hC hB (by omega), gP_s, if_neg (by decide), gB_n _ (by omega) (by omega), gB_n _ (by omega) (by omega), C_aE hC hB (by omega) hj, gP_s]
        by_cases e2 : ek S k < ek S j
        · rw [if_pos e2, iE0 (by omega), if_neg (by omega)]
          unfold F_X2_lastOf_52
          rw [gS_e, nI_1]
          refine ⟨nI j, Or.inr ⟨j, by omega, rfl, e, fun q hq h2 => ?_⟩, rfl⟩
          by_cases y : q = j
          · subst y; exact Nat.le_refl _
          · have := hI q (by omega) h2; omega
        · rw [if_neg e2, iE0 (by omega), if_pos rfl, gS_e, nI_1]
          refine ⟨nI k, Or.inr ⟨k, by omega, rfl, hk2, fun q hq h2 => ?_⟩, rfl⟩
          by_cases y : q = j
          · subst y; omega
          · exact hI q (by omega) h2
    · rw [if_neg (fun q => e (e0.mp q)), gS_e, nI_1]
      refine ⟨v, ?_, rfl⟩
      rcases hI with ⟨h1, hI⟩ | ⟨k, hk, h1, hk2, hI⟩
      · refine Or.inl ⟨h1, fun q hq => ?_⟩
        by_cases y : q = j
        · subst y; exact e
        · exact hI q (by omega)
      · refine Or.inr ⟨k, by omega, h1, hk2, fun q hq h2 => ?_⟩
        by_cases y : q = j
        · subst y; exact absurd h2 e
        · exact hI q (by omega) h2
