/-! level 2: drawing the heats, the class's side: the first heat is filled, lanes -/
theorem cg_le (L H n t : Nat) : cg L H n t ≤ n := fb_ct_le _ _
theorem UN_t {S : Nat → Nat} {q : Nat} : UN S q = true ↔ S (10 * q + 2) = 0 := by simp [UN]
/-- a swimmer's heat is 1 just where its rank's is -/
theorem Dst_2 {S : Nat → Nat} {t q : Nat} (hN : S 311 ≤ 30) (hz : ∀ q, q < S 311 → S (10 * q + 3) = 0) (hq : q < S 311) : Dst S t (S 311) (10 * q + 3) = 2 ↔ UN S q = true ∧ h0 (S 317) (nH S) (erank S q) = 1 ∧ erank S q < t := by
  rw [Dst_3 (by omega)]
  cases hU : UN S q
  · rw [if_neg (fun z => by cases z.2), hz q hq]
    exact ⟨fun z => absurd z (by decide), fun z => by cases z.1⟩
  · rw [if_pos ⟨hq, rfl⟩]
    unfold Dt
    by_cases e : h0 (S 317) (nH S) (erank S q) = 1 ∧ t ≤ erank S q
    · rw [if_pos e]
      exact ⟨fun z => absurd z (by decide), fun z => by omega⟩
    · rw [if_neg e]
      exact ⟨fun z => ⟨rfl, by omega, by omega⟩, fun z => by omega⟩
theorem bulk_ext {S : Nat → Nat} {a : Nat} {f g : Nat → Nat} {p : Nat → Bool} {j : Nat} (h : ∀ k, k < 30 → k < j → p k = true → f k = g k) : bulk S a f p j = bulk S a g p j := by
  funext t
  unfold bulk
  by_cases c : t < 300 ∧ t % 10 = a ∧ t / 10 < j ∧ p (t / 10) = true
  · rw [if_pos c, if_pos c]
    exact h _ (by omega) c.2.2.1 c.2.2.2
  · rw [if_neg c, if_neg c]
theorem ax4 {c tot j : Nat} (h : c = min j tot) (h2 : c = tot) : c = min (j + 1) tot := by omega
theorem ax5 {c c2 tot j : Nat} (h : c = min j tot) (h2 : c2 = c + 1) (h3 : c2 ≤ tot) : c2 = min (j + 1) tot := by omega
theorem C_fill24 {S : Nat → Nat} {i : Nat} (hB : WB S) (hp : 0 < pres S (S 311)) (hz : ∀ q, q < S 311 → S (10 * q + 3) = 0) {A : Int} {Ap : Nat} (hA : A ≤ 30 ∧ -40 ≤ A) (hAp : A ≤ Ap ∧ (A ≤ 0 → Ap = 0) ∧ (0 ≤ A → (Ap : Int) = A)) {x1 : Int32} (hx1 : x1.toInt = A) : ∀ (d fu : Nat) (w : gWd) (j t : Nat), j + d = Ap → d < fu → CV (w i) (Dst S t (S 311)) → cg (S 317) (nH S) (pres S (S 311)) t = min j (nT S (nH S)) →
    ∃ w' t', F_X2_fillFirstHeat_24 fu w i x1 (nI j) = some w' ∧ agS i w w' ∧ CV (w' i) (Dst S t' (S 311)) ∧ cg (S 317) (nH S) (pres S (S 311)) t' = min Ap (nT S (nH S)) := by
  have hN := hB.1
  have hn := pres_le S (S 311)
  obtain ⟨hH1, hH8, hHL⟩ := nH_in hB hp
  intro d
  induction d with
  | zero =>
    intro fu w j t hj hfu hC hc
    obtain ⟨fu, rfl⟩ : ∃ f, fu = f + 1 := ⟨fu - 1, by omega⟩
    refine ⟨w, t, ?_, agS.rf i w, hC, by rw [hc, show j = Ap by omega]⟩
    have hj1 : (nI j).toInt = (j : Int) := nI_toInt (by omega)
    rw [F_X2_fillFirstHeat_24_s, if_pos (by rw [Int32.le_iff_toInt_le, hx1, hj1]; omega)]
  | succ d ih =>
    intro fu w j t hj hfu hC hc
    obtain ⟨fu, rfl⟩ : ∃ f, fu = f + 1 := ⟨fu - 1, by omega⟩
    have hBt : WB (Dst S t (S 311)) := Dst_WB hB hp
    have hN' : Dst S t (S 311) 311 = S 311 := Dst_hi (by omega)
    have hj1 : (nI j).toInt = (j : Int) := nI_toInt (by omega)
    rw [F_X2_fillFirstHeat_24_s, if_neg (by rw [Int32.le_iff_toInt_le, hx1, hj1]; omega)]
    obtain ⟨v, hv, hcase⟩ := C_lastOf hC hBt
    rw [hv, gP_s]
    rw [hN'] at hcase
    rcases hcase with ⟨rfl, hno⟩ | ⟨k, hk, rfl, hk2, hmax⟩
    · have hh : F_X5_has w i (-1000004) = some 0 := by rw [C_has hC, if_pos (Or.inl (by decide))]
      rw [hh, gP_s, if_pos rfl, gS_e, nI_1]
      refine ih fu w (j + 1) t (by omega) (by omega) hC (ax4 hc ?_)
      show cg (S 317) (nH S) (pres S (S 311)) t = cg (S 317) (nH S) (pres S (S 311)) 0
      refine fb_ct_cong (fun r hr => ?_)
      obtain ⟨q, hq1, hq2, hq3⟩ := erank_surj hN hr
      have h1 := hno q hq1
      rw [ne_eq, Dst_2 hN hz hq1, hq3] at h1
      by_cases e : h0 (S 317) (nH S) r = 1
      · have : t ≤ r := Nat.not_lt.mp fun z => h1 ⟨hq2, e, z⟩
        simp [this]
      · simp [e]
    · rw [C_hasN hC hBt (by omega), gP_s, if_neg (by decide), gB_n _ (by omega) (by omega), gS_e, gS_e, nI_1]
      obtain ⟨hkU, hkh, hkt⟩ := (Dst_2 hN hz hk).mp hk2
      have hkn := erank_lt hk hkU
      -- nothing of heat 1 lies between
      have hbt : ∀ r, erank S k < r → r < t → r < pres S (S 311) → h0 (S 317) (nH S) r ≠ 1 := by
        intro r h1 h2 h3 h4
        obtain ⟨q, hq1, hq2, hq3⟩ := erank_surj hN h3
        have h5 := hmax q hq1 ((Dst_2 hN hz hq1).mpr ⟨hq2, by rw [hq3]; exact h4, by rw [hq3]; exact h2⟩)
        rw [Dst_ek, Dst_ek] at h5
        have := (erank_iff hN hk hq1 hkU hq2).mp (by rw [hq3]; exact h1)
        omega
      have hcg : cg (S 317) (nH S) (pres S (S 311)) (erank S k) = cg (S 317) (nH S) (pres S (S 311)) t + 1 := by
        have h1 := cg_step (L := S 317) (H := nH S) (n := pres S (S 311)) hkn
        rw [if_pos hkh] at h1
        rw [h1]
        congr 1
        refine fb_ct_cong (fun r hr => ?_)
        by_cases e : h0 (S 317) (nH S) r = 1
        · by_cases e1 : t ≤ r
          · have : erank S k + 1 ≤ r := by omega
            simp [e1, this]
          · have : ¬ erank S k + 1 ≤ r := fun z => hbt r (by omega) (by omega) hr e
            simp [e1, this]
        · simp [e]
      have hD : upN (Dst S t (S 311)) (10 * k + 3) 1 = Dst S (erank S k) (S 311) := by
        funext q
        by_cases hq : q = 10 * k + 3
        · subst hq
          rw [upN_s, Dst_3 (by omega), if_pos ⟨hk, hkU⟩]
          unfold Dt
          rw [if_pos ⟨hkh, Nat.le_refl _⟩]
        · rw [upN_n hq]
          unfold Dst bulk
          by_cases c : q < 300 ∧ q % 10 = 3 ∧ q / 10 < S 311 ∧ UN S (q / 10) = true
          · rw [if_pos c, if_pos c]
            show Dt (S 317) (nH S) t (erank S (q / 10)) + 1 = Dt (S 317) (nH S) (erank S k) (erank S (q / 10)) + 1
            congr 1
            have hne : erank S (q / 10) ≠ erank S k := fun z => hq (by
              have := erank_inj hN c.2.2.1 hk c.2.2.2 hkU z
              omega)
            have hrn := erank_lt c.2.2.1 c.2.2.2
            unfold Dt
            by_cases e1 : h0 (S 317) (nH S) (erank S (q / 10)) = 1
            · by_cases e2 : t ≤ erank S (q / 10)
              · rw [if_pos ⟨e1, e2⟩, if_pos ⟨e1, by omega⟩]
              · rw [if_neg (fun z => e2 z.2), if_neg (fun z => hbt _ (by omega) (by omega) hrn e1)]
            · rw [if_neg (fun z => e1 z.1), if_neg (fun z => e1 z.1)]
          · rw [if_neg c, if_neg c]
      have hC' : CV (up3 w i (4 + k) 4 0 i) (Dst S (erank S k) (S 311)) := by
        rw [← hD]
        exact hC.upk (a := 3) (v := 1) (by omega) (by omega) (by decide)
      obtain ⟨w', t', g1, g2, g3, g4⟩ := ih fu (up3 w i (4 + k) 4 0) (j + 1) (erank S k) (by omega) (by omega) hC' (ax5 hc hcg (cg_mono (Nat.zero_le _)))
      exact ⟨w', t', g1, (agS.up k 4 0).tr g2, g3, g4⟩
theorem C_fill {w : gWd} {S : Nat → Nat} {i : Nat} (hB : WB S) (hp : 0 < pres S (S 311)) (hz : ∀ q, q < S 311 → S (10 * q + 3) = 0) (hH : S 312 = nH S) (hC : CV (w i) (Dst S (pres S (S 311)) (S 311))) : ∃ w' t, F_X2_fillFirstHeat w i = some w' ∧ agS i w w' ∧ CV (w' i) (Dst S t (S 311)) ∧ cg (S 317) (nH S) (pres S (S 311)) t = min (nA S (nH S)).toNat (nT S (nH S)) := by
  have hN := hB.1
  have hn := pres_le S (S 311)
  obtain ⟨hH1, hH8, hHL⟩ := nH_in hB hp
  have hfe := hB.2.2.2.2.2.2.1
  have hBt : WB (Dst S (pres S (S 311)) (S 311)) := Dst_WB hB hp
  have hN' : Dst S (pres S (S 311)) (S 311) 311 = S 311 := Dst_hi (by omega)
  have hct : fb_ct (fun q => decide (Dst S (pres S (S 311)) (S 311) (10 * q + 3) = 0 + 1)) (Dst S (pres S (S 311)) (S 311) 311) = fb_ct (fun r => decide (h0 (S 317) (nH S) r = 0)) (pres S (S 311)) := by
    rw [hN', ← ct_erank hN (fun r => decide (h0 (S 317) (nH S) r = 0))]
    refine fb_ct_cong (fun q hq => ?_)
    rw [Dst_3 (by omega)]
    cases hU : UN S q
    · rw [if_neg (fun z => by cases z.2), hz q hq]; rfl
    · rw [if_pos ⟨hq, rfl⟩, Dt_n (erank_lt hq hU)]
      simp
  have hsz : F_X2_sizeOf w i 0 = some (nI (fb_ct (fun q => decide (Dst S (pres S (S 311)) (S 311) (10 * q + 3) = 0 + 1)) (Dst S (pres S (S 311)) (S 311) 311))) := C_sizeOf (h := 0) hC hBt (by omega)
  rw [hct] at hsz
  have hc := fb_ct_le (fun r => decide (h0 (S 317) (nH S) r = 0)) (pres S (S 311))
  unfold F_X2_fillFirstHeat
  rw [hC.ht, Dst_hi (by omega), hH, show (4 : Int32) = nI 4 from rfl, iLe (by omega) (by omega), hsz, gP_s, gS_e, hC.fe, Dst_hi (by omega)]
  unfold nA
  generalize hcc : fb_ct (fun r => decide (h0 (S 317) (nH S) r = 0)) (pres S (S 311)) = c0 at *
  by_cases e4 : 4 ≤ nH S
  · rw [if_pos e4, if_neg (by omega)]
    exact C_fill24 (A := (S 318 : Int) - c0) (Ap := ((S 318 : Int) - c0).toNat) hB hp hz (by omega) (by omega) (pk_sub_toInt (by omega) (by omega)) _ gFU w 0 (pres S (S 311)) (Nat.zero_add _) (by unfold gFU; omega) hC (by rw [cg_n]; exact (Nat.zero_min _).symm)
  · rw [if_neg e4, if_pos (by omega)]
    exact ⟨w, pres S (S 311), rfl, agS.rf i w, hC, by rw [cg_n]; exact (Nat.zero_min _).symm⟩
theorem C_rankIn {w : gWd} {S : Nat → Nat} {i k : Nat} (hC : CV (w i) S) (hB : WB S) (hk : k < S 311) : F_X2_rankInHeat w i i k = some (nI (fb_ct (fun q => decide (S (10 * q + 3) = S (10 * k + 3)) && decide (ek S q < ek S k)) (S 311))) := by
  unfold F_X2_rankInHeat
  have hN := hB.1
  refine loopI (F := fun fu (acc : Nat) j => F_X2_rankInHeat_4 fu w i i k (nI acc) (nI j)) (S 311) (fun j acc => acc = fb_ct (fun q => decide (S (10 * q + 3) = S (10 * k + 3)) && decide (ek S q < ek S k)) j) (fun r => r = some (nI (fb_ct (fun q => decide (S (10 * q + 3) = S (10 * k + 3)) && decide (ek S q < ek S k)) (S 311)))) ?_ ?_ gFU 0 0 (by omega) (gFU_lt (by omega)) rfl
  · intro fu acc hI
    show F_X2_rankInHeat_4 (fu + 1) w i i k (nI acc) (nI (S 311)) = _
    rw [F_X2_rankInHeat_4_s, hC.sz, iLe (by omega) (by omega), if_pos (Nat.le_refl _), hI]
  · intro fu acc j hj hI
    right
    refine ⟨_, rfl, ?_⟩
    show F_X2_rankInHeat_4 (fu + 1) w i i k (nI acc) (nI j) = F_X2_rankInHeat_4 fu w i i k _ (nI (j + 1))
    have hg := (hB.k (k := j) (by omega)).2.2.2.1
    have hg2 := (hB.k (k := k) (by omega)).2.2.2.1
    rw [F_X2_rankInHeat_4_s, hC.sz, iLe (by omega) (by omega), if_neg (by omega), gB_n _ (by omega) (by omega), gB_n _ (by omega) (by omega), hC.f4 hj, hC.f4 hk, fb_ct_succ, hI, C_aE hC hB hj hk, gP_s]
    by_cases e : S (10 * j + 3) = S (10 * k + 3)
    · rw [if_pos ((mE (by omega) (by omega)).mpr e)]
      by_cases e2 : ek S j < ek S k
      · rw [if_pos e2, iE0 (by omega), if_neg (by omega), if_pos (by simp [e, e2])]
        simp only [gS_e, nI_1]
      · rw [if_neg e2, iE0 (by omega), if_pos rfl, if_neg (by simp [e2])]
        simp only [gS_e, Nat.add_zero, nI_1]
    · rw [if_neg (fun q => e ((mE (by omega) (by omega)).mp q)), if_neg (by simp [e])]
      simp only [gS_e, Nat.add_zero, nI_1]
theorem C_lanesAll {w : gWd} {S : Nat → Nat} {i t : Nat} (hB : WB S) (hp : 0 < pres S (S 311)) (hz : ∀ q, q < S 311 → S (10 * q + 3) = 0) (hC : CV (w i) (Dst S t (S 311))) : ∃ w', F_X2_giveLanes w i = some w' ∧ agS i w w' ∧ CV (w' i) (Sd S t (S 311)) := by
  have hN := hB.1
  have hn := pres_le S (S 311)
  obtain ⟨hH1, hH8, hHL⟩ := nH_in hB hp
  have hl := hB.2.2.2.2.2.1
  have hBD : WB (Dst S t (S 311)) := Dst_WB hB hp
  have hBj : ∀ j, WB (bulk (Dst S t (S 311)) 4 (fun k => nOf (laneI S (hcn S t k))) (UN S) j) := fun j => hBD.bulk (by omega) (fun k _ _ _ => by
    refine ⟨fun h => ?_, fun h => ?_, fun h => ?_, fun h => ?_, fun h => ?_, fun h => ?_, fun h => ?_, fun h => ?_⟩ <;> exact absurd h (by decide))
  unfold F_X2_giveLanes
  refine loopI (F := fun fu (u : gWd) j => F_X2_giveLanes_2 fu u i (nI j)) (S 311) (fun j u => agS i w u ∧ CV (u i) (bulk (Dst S t (S 311)) 4 (fun k => nOf (laneI S (hcn S t k))) (UN S) j)) (fun r => ∃ w', r = some w' ∧ agS i w w' ∧ CV (w' i) (Sd S t (S 311))) ?_ ?_ gFU w 0 (by omega) (gFU_lt (by omega)) ⟨agS.rf i w, by rw [bulk_0]; exact hC⟩
  · intro fu u hI
    refine ⟨u, ?_, hI⟩
    show F_X2_giveLanes_2 (fu + 1) u i (nI (S 311)) = _
    rw [F_X2_giveLanes_2_s, hI.2.sz, bulk_hi (by omega), Dst_hi (by omega), iLe (by omega) (by omega), if_pos (Nat.le_refl _)]
  · intro fu u j hj hI
    right
    obtain ⟨hag, hCj⟩ := hI
    have h311 : bulk (Dst S t (S 311)) 4 (fun k => nOf (laneI S (hcn S t k))) (UN S) j 311 = S 311 := by rw [bulk_hi (by omega), Dst_hi (by omega)]
    have hf : ∀ b q, b < 10 → b ≠ 4 → bulk (Dst S t (S 311)) 4 (fun k => nOf (laneI S (hcn S t k))) (UN S) j (10 * q + b) = Dst S t (S 311) (10 * q + b) := fun b q hb h4 => bulk_ne hb h4
    have hek : ∀ q, ek (bulk (Dst S t (S 311)) 4 (fun k => nOf (laneI S (hcn S t k))) (UN S) j) q = ek S q := fun q => (ek_cg (hf 1 q (by omega) (by omega))).trans (Dst_ek q)
    have hg := (hB.k (k := j) (by omega)).2.2.1
    by_cases e : S (10 * j + 2) = 0
    · have hU : UN S j = true := by simp [UN, e]
      have hr := erank_lt (k := j) (by omega) hU
      have hcnt : fb_ct (fun q => decide (bulk (Dst S t (S 311)) 4 (fun k => nOf (laneI S (hcn S t k))) (UN S) j (10 * q + 3) = bulk (Dst S t (S 311)) 4 (fun k => nOf (laneI S (hcn S t k))) (UN S) j (10 * j + 3)) && decide (ek (bulk (Dst S t (S 311)) 4 (fun k => nOf (laneI S (hcn S t k))) (UN S) j) q < ek (bulk (Dst S t (S 311)) 4 (fun k => nOf (laneI S (hcn S t k))) (UN S) j) j)) (S 311) = hcn S t j := by
        have h1 := ct_cut (p := fun q => decide (Dt (S 317) (nH S) t q = Dt (S 317) (nH S) t (erank S j))) (Nat.le_of_lt hr)
        rw [show hcn S t j = fb_ct (fun q => decide (Dt (S 317) (nH S) t q = Dt (S 317) (nH S) t (erank S j))) (erank S j) from rfl, ← h1, ← ct_erank hN (fun r => decide (Dt (S 317) (nH S) t r = Dt (S 317) (nH S) t (erank S j)) && decide (r < erank S j))]
        refine fb_ct_cong (fun q hq => ?_)
        rw [hf 3 q (by omega) (by omega), hf 3 j (by omega) (by omega), hek, hek, Dst_3 (by omega), Dst_3 (by omega), if_pos (show j < S 311 ∧ UN S j = true from ⟨hj, hU⟩)]
        cases hUq : UN S q
        · rw [if_neg (fun z => by cases z.2), hz q hq]
          simp
        · rw [if_pos ⟨hq, rfl⟩]
          have := erank_iff hN hq hj hUq hU
          simp [this]
      have hcl := fb_ct_le (fun q => decide (Dt (S 317) (nH S) t q = Dt (S 317) (nH S) t (erank S j))) (erank S j)
      refine ⟨up3 u i (4 + j) 5 (laneI S (hcn S t j)), ⟨hag.tr (agS.up j 5 _), ?_⟩, ?_⟩
      · have := hCj.upk (k := j) (a := 4) (v := nOf (laneI S (hcn S t j))) (by omega) (by omega) (x := laneI S (hcn S t j)) (nI_nOf _).symm
        rw [bulk_t (by omega) (by omega) hU]
        exact this
      · show F_X2_giveLanes_2 (fu + 1) u i (nI j) = F_X2_giveLanes_2 fu _ i (nI (j + 1))
        have hri := C_rankIn hCj (hBj j) (k := j) (by omega)
        rw [h311, hcnt] at hri
        have h317 : bulk (Dst S t (S 311)) 4 (fun k => nOf (laneI S (hcn S t k))) (UN S) j 317 = S 317 := by rw [bulk_hi (by omega), Dst_hi (by omega)]
        rw [F_X2_giveLanes_2_s, hCj.sz, h311, iLe (by omega) (by omega), if_neg (by omega), gB_n _ (by omega) (by omega), hCj.f3 (by omega), hf 2 j (by omega) (by omega), Dst_ne (by omega) (by omega), iE0 (by omega), if_pos e, hri, gP_s, C_lanes hCj, gP_s, h317, C_ofRank hB (by unfold hcn; omega), gP_s, gS_e, gS_e, nI_1]
    · have hU : UN S j = false := by simp [UN, e]
      refine ⟨u, ⟨hag, by rw [bulk_f hU]; exact hCj⟩, ?_⟩
      show F_X2_giveLanes_2 (fu + 1) u i (nI j) = F_X2_giveLanes_2 fu _ i (nI (j + 1))
      rw [F_X2_giveLanes_2_s, hCj.sz, h311, iLe (by omega) (by omega), if_neg (by omega), gB_n _ (by omega) (by omega), hCj.f3 (by omega), hf 2 j (by omega) (by omega), Dst_ne (by omega) (by omega), iE0 (by omega), if_neg e, gS_e, nI_1]
theorem CV.up0 {w : gWd} {S : Nat → Nat} {i : Nat} (hC : CV (w i) S) {j t v : Nat} (hN : S 311 ≤ 30) (h : (j = 4 ∧ t = 310) ∨ (j = 5 ∧ t = 312) ∨ (j = 7 ∧ t = 316) ∨ (j = 8 ∧ t = 313) ∨ (j = 9 ∧ t = 314) ∨ (j = 10 ∧ t = 315)) : CV (up3 w i 0 j (nI v) i) (upN S t v) := by
  have hsw : ∀ k b, up3 w i 0 j (nI v) i (4 + k) b = w i (4 + k) b := fun k b => up3_n (by omega)
  have h1 : ∀ b, up3 w i 0 j (nI v) i 1 b = w i 1 b := fun b => up3_n (by omega)
  have hne : ∀ q, q ≠ t → upN S t v q = S q := fun q hq => upN_n hq
  have g : ∀ jj tt, (jj = j ↔ tt = t) → w i 0 jj = nI (S tt) → up3 w i 0 j (nI v) i 0 jj = nI (upN S t v tt) := by
    intro jj tt hp h2
    by_cases e : jj = j
    · have e2 := hp.mp e
      subst e; subst e2
      rw [up3_s, upN_s]
    · rw [up3_n (fun z => e z.2.2), upN_n (fun z => e (hp.mpr z))]
      exact h2
  refine ⟨⟨g 3 311 (by omega) hC.sz, g 4 310 (by omega) hC.st, g 5 312 (by omega) hC.ht, g 7 316 (by omega) hC.ca, g 8 313 (by omega) hC.ev, g 9 314 (by omega) hC.rc, g 10 315 (by omega) hC.rs, by rw [h1, hne 317 (by omega)]; exact hC.la, by rw [h1, hne 318 (by omega)]; exact hC.fe, by rw [h1, hne 319 (by omega)]; exact hC.re⟩, fun k hk a ha => ?_⟩
  · rw [hne 311 (by omega)] at hk
    rw [hsw, hne _ (by omega)]
    exact hC.2 k hk a ha
