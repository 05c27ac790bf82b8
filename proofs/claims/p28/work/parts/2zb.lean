/-! level 2: the class's orders alone: what they answer, and the memory they come to -/
def OKE (i : Nat) (FC : gWd → Option (Int32 × gWd)) (S : Nat → Nat) (r : Int32) : Prop := ∀ w : gWd, CV (w i) S → RV (w i) S → FC w = some (r, w)
def OKS (i : Nat) (FC : gWd → Option (Int32 × gWd)) (S : Nat → Nat) (r : Int32) (S' : Nat → Nat) : Prop := ∀ w : gWd, CV (w i) S → RV (w i) S → ∃ w', FC w = some (r, w') ∧ agB i w w' ∧ CV (w' i) S' ∧ RV (w' i) S'
theorem G_enter {i EB : Nat} {S : Nat → Nat} (hI : IV EB S) (hN2 : S 311 < 30) (a3 : S 310 = 0) {cl e : Nat} (hcl : cl < 6) (he : e = 0 ∨ (100 ≤ e ∧ e ≤ 999)) : OKS i (fun w => F_X1_addSwimmer w i (nI cl) (nI e)) S (nI (S 311)) (Sent S cl e) := by
  have hB := hI.wb
  have hN := hB.1
  have hst := hB.2.1
  have a1 : ¬ nI cl < 0 := nI_pos (by omega)
  have a2 : ¬ (6 : Int32) ≤ nI cl := fun z => absurd ((nI_leI (a := 6) (b := cl) (by omega) (by omega)).mp z) (by omega)
  have hCt : ∀ w, F_X1_addSwimmer w i (nI cl) (nI e) = (if (w i 0 4) = 0 then (if (w i 0 3) < 30 then (gB ((w i 0 3)) 30 (fun k_9 => gP (F_X10_join w i k_9 (nI cl) (nI e)) (fun w_11 => gS (up3 w_11 i 0 3 (((w_11 i 0 3) + 1))) (fun w_12 => some ((w_11 i 0 3), w_12))))) else (some ((-1000003), w))) else (some ((-1000002), w))) := by
    intro w
    unfold F_X1_addSwimmer
    rw [if_neg a1, if_neg a2, C_time_t he, gP_s, if_neg (by decide)]
  intro w hC hR
  show ∃ w', F_X1_addSwimmer w i _ _ = _ ∧ _
  obtain ⟨u, j0, j1, j2⟩ := C_join w i (S 311) (nI cl) (nI e)
  have u03 : u i 0 3 = nI (S 311) := by rw [j1 i 0 (by omega)]; exact hC.sz
  rw [hCt, hC.st, iE0 (by omega), if_pos a3, hC.sz, show (30 : Int32) = nI 30 from rfl, iLt (by omega) (by omega), if_pos hN2, gB_n _ hN2 (by omega), j0, gP_s, gS_e, u03, nI_1]
  refine ⟨up3 u i 0 3 (nI (S 311 + 1)), rfl, ?_, ?_, ?_⟩
  · exact agB.tr (fun a h => funext (fun r => j1 a r (by omega))) (agB.up 0 3 _)
  · have hrow : ∀ r, r ≠ 4 + S 311 → ∀ b, ¬ (r = 0 ∧ b = 3) → up3 u i 0 3 (nI (S 311 + 1)) i r b = w i r b := by
      intro r h1 b h2
      rw [up3_n (by omega), j1 i r (by omega)]
    refine ⟨⟨by rw [up3_s, Sent_N], ?_, ?_, ?_, ?_, ?_, ?_, ?_, ?_, ?_⟩, fun k hk a ha => ?_⟩
    · rw [hrow 0 (by omega) 4 (by omega), Sent_hi hN2 (by omega) (by omega)]; exact hC.st
    · rw [hrow 0 (by omega) 5 (by omega), Sent_hi hN2 (by omega) (by omega)]; exact hC.ht
    · rw [hrow 0 (by omega) 7 (by omega), Sent_hi hN2 (by omega) (by omega)]; exact hC.ca
    · rw [hrow 0 (by omega) 8 (by omega), Sent_hi hN2 (by omega) (by omega)]; exact hC.ev
    · rw [hrow 0 (by omega) 9 (by omega), Sent_hi hN2 (by omega) (by omega)]; exact hC.rc
    · rw [hrow 0 (by omega) 10 (by omega), Sent_hi hN2 (by omega) (by omega)]; exact hC.rs
    · rw [hrow 1 (by omega) 0 (by omega), Sent_hi hN2 (by omega) (by omega)]; exact hC.la
    · rw [hrow 1 (by omega) 1 (by omega), Sent_hi hN2 (by omega) (by omega)]; exact hC.fe
    · rw [hrow 1 (by omega) 2 (by omega), Sent_hi hN2 (by omega) (by omega)]; exact hC.re
    · rw [Sent_N] at hk
      by_cases hk2 : k = S 311
      · subst hk2
        rw [up3_n (by omega)]
        obtain ⟨f1, f2, f3, f4, f5, f6, f7, f8, f9, f10⟩ := j2
        have hz : ∀ b, 2 ≤ b → b < 10 → Sent S cl e (10 * S 311 + b) = 0 := fun b h1 h2 => by
          rw [Sent_k hN2 (by omega) h2, if_neg (by omega), if_neg (by omega)]
          exact hI.out (Nat.le_refl _) (by omega) h1 h2
        have h0 : Sent S cl e (10 * S 311 + 0) = cl := by rw [Sent_k hN2 (by omega) (by omega), if_pos ⟨rfl, rfl⟩]
        have h1 : Sent S cl e (10 * S 311 + 1) = e := by rw [Sent_k hN2 (by omega) (by omega), if_neg (by omega), if_pos ⟨rfl, rfl⟩]
        have hcase : a = 0 ∨ a = 1 ∨ a = 2 ∨ a = 3 ∨ a = 4 ∨ a = 5 ∨ a = 6 ∨ a = 7 ∨ a = 8 ∨ a = 9 := by omega
        rcases hcase with rfl | rfl | rfl | rfl | rfl | rfl | rfl | rfl | rfl | rfl
        · rw [f1, h0]; rfl
        · rw [f2, h1]; rfl
        · rw [f3, hz 2 (by omega) (by omega)]; rfl
        · rw [f4, hz 3 (by omega) (by omega)]; rfl
        · rw [f5, hz 4 (by omega) (by omega)]; rfl
        · rw [f6, hz 5 (by omega) (by omega)]; rfl
        · rw [f7, hz 6 (by omega) (by omega)]; rfl
        · rw [f8, hz 7 (by omega) (by omega)]; rfl
        · rw [f9, hz 8 (by omega) (by omega)]; rfl
        · rw [f10, hz 9 (by omega) (by omega)]; rfl
      · rw [hrow (4 + k) (by omega) _ (by omega), Sent_o hN2 (by omega) ha]
        exact hC.2 k (by omega) a ha
  · refine hR.cg ?_ ?_ (by rw [Sent_N]; omega) (fun p hp => Sent_hi hN2 (by omega) (by omega)) (fun k hk => ⟨Sent_o hN2 hk (by omega), Sent_o hN2 hk (by omega)⟩) (fun h => by rw [Sent_hi hN2 (by omega) (by omega)] at h; exact h)
    · rw [up3_n (by omega), j1 i 0 (by omega)]
    · rw [up3_r (by omega), j1 i 3 (by omega)]
theorem G_set {i EB : Nat} {S : Nat → Nat} (hI : IV EB S) (a4 : S 310 = 0) {k v : Nat} (hk : k < 3) (hv1 : stLo k ≤ v) (hv2 : v ≤ stHi k) : OKS i (fun w => F_X1_changeSetting w i (nI k) (nI v)) S (nI (S (317 + k))) (upN S (317 + k) v) := by
  have hB := hI.wb
  have hst := hB.2.1
  have hlo : stLo k < 2 ^ 20 := by unfold stLo; split <;> (try split) <;> omega
  have hhi : stHi k < 2 ^ 20 := by unfold stHi; split <;> (try split) <;> omega
  have a3 : ¬ (nI v < nI (stLo k) ∨ nI (stHi k) < nI v) := by
    intro z
    rw [fa_lt, fa_lt, nI_toInt (by omega), nI_toInt (by omega), nI_toInt (by omega)] at z
    omega
  have hCa : ∀ w, F_X1_changeSetting w i (nI k) (nI v) = (if (w i 0 4) = 0 then some (w i 1 k, up3 w i 1 k (nI v)) else (some ((-1000002), w))) := by
    intro w
    unfold F_X1_changeSetting
    rw [C_allow hk, gP_s, if_neg (fun z => a3 (Or.inl z)), if_neg (fun z => a3 (Or.inr z)), if_neg (by decide), gB_n _ hk (by omega), gS_e, gB_n _ hk (by omega), gS_e]
  have hset : S (317 + k) ≤ 10 := by
    have h6 := hB.2.2.2.2.2.1
    have h7 := hB.2.2.2.2.2.2.1
    have h8 := hB.2.2.2.2.2.2.2.1
    have : k = 0 ∨ k = 1 ∨ k = 2 := by omega
    rcases this with rfl | rfl | rfl
    · exact h6.2
    · show S 318 ≤ 10; omega
    · show S 319 ≤ 10; omega
  intro w hC hR
  show ∃ w', F_X1_changeSetting w i _ _ = _ ∧ _
  have hold : w i 1 k = nI (S (317 + k)) := by
    have : k = 0 ∨ k = 1 ∨ k = 2 := by omega
    rcases this with rfl | rfl | rfl
    · exact hC.la
    · exact hC.fe
    · exact hC.re
  rw [hCa, hC.st, iE0 (by omega), if_pos a4, hold]
  refine ⟨_, rfl, agB.up 1 k _, ?_, ?_⟩
  · have h0 : ∀ j, up3 w i 1 k (nI v) i 0 j = w i 0 j := fun j => up3_n (by omega)
    have h4 : ∀ r j, 4 ≤ r → up3 w i 1 k (nI v) i r j = w i r j := fun r j hr => up3_n (by omega)
    have hi : ∀ t, t < 317 → upN S (317 + k) v t = S t := fun t ht => upN_n (by omega)
    have hs : ∀ j, j < 3 → w i 1 j = nI (S (317 + j)) → up3 w i 1 k (nI v) i 1 j = nI (upN S (317 + k) v (317 + j)) := by
      intro j hj h
      by_cases e : j = k
      · subst e; rw [up3_s, upN_s]
      · rw [up3_n (by omega), upN_n (by omega)]; exact h
    refine ⟨⟨by rw [h0, hi 311 (by omega)]; exact hC.sz, by rw [h0, hi 310 (by omega)]; exact hC.st, by rw [h0, hi 312 (by omega)]; exact hC.ht, by rw [h0, hi 316 (by omega)]; exact hC.ca, by rw [h0, hi 313 (by omega)]; exact hC.ev, by rw [h0, hi 314 (by omega)]; exact hC.rc, by rw [h0, hi 315 (by omega)]; exact hC.rs, hs 0 (by omega) hC.la, hs 1 (by omega) hC.fe, hs 2 (by omega) hC.re⟩, fun q hq a ha => ?_⟩
    rw [hi 311 (by omega)] at hq
    have := hB.1
    rw [h4 _ _ (by omega), hi _ (by omega)]
    exact hC.2 q hq a ha
  · have := hB.1
    exact hR.cg (up3_n (by omega)) (up3_r (by omega)) (by rw [upN_n (by omega)]; exact Nat.le_refl _) (fun p hp => upN_n (by omega)) (fun q hq => ⟨upN_n (by omega), upN_n (by omega)⟩) (fun h => by rw [upN_n (by omega)] at h; exact h)
theorem G_setE {i EB : Nat} {S : Nat → Nat} (hI : IV EB S) (a4 : S 310 ≠ 0) {k v : Nat} (hk : k < 3) (hv1 : stLo k ≤ v) (hv2 : v ≤ stHi k) : OKE i (fun w => F_X1_changeSetting w i (nI k) (nI v)) S (-1000002) := by
  have hB := hI.wb
  have hst := hB.2.1
  have hlo : stLo k < 2 ^ 20 := by unfold stLo; split <;> (try split) <;> omega
  have hhi : stHi k < 2 ^ 20 := by unfold stHi; split <;> (try split) <;> omega
  have a3 : ¬ (nI v < nI (stLo k) ∨ nI (stHi k) < nI v) := by
    intro z
    rw [fa_lt, fa_lt, nI_toInt (by omega), nI_toInt (by omega), nI_toInt (by omega)] at z
    omega
  have hCa : ∀ w, F_X1_changeSetting w i (nI k) (nI v) = (if (w i 0 4) = 0 then some (w i 1 k, up3 w i 1 k (nI v)) else (some ((-1000002), w))) := by
    intro w
    unfold F_X1_changeSetting
    rw [C_allow hk, gP_s, if_neg (fun z => a3 (Or.inl z)), if_neg (fun z => a3 (Or.inr z)), if_neg (by decide), gB_n _ hk (by omega), gS_e, gB_n _ hk (by omega), gS_e]
  intro w hC _
  show F_X1_changeSetting w i _ _ = _
  rw [hCa, hC.st, iE0 (by omega), if_neg a4]
theorem G_draw {i EB t0 : Nat} {S : Nat → Nat} (hI : IV EB S) (hp : 0 < pres S (S 311)) (h0 : S 310 = 0) (ht0 : cg (S 317) (nH S) (pres S (S 311)) t0 = min (nA S (nH S)).toNat (nT S (nH S))) : OKS i (fun w => F_X1_drawHeats w i) S (nI (nH S)) (Sdraw S t0) := fun w hC hR => C_draw hI hC hR hp h0 ht0
theorem G_drawE {i EB : Nat} {S : Nat → Nat} (hI : IV EB S) (hp : pres S (S 311) = 0) (h0 : S 310 = 0) : OKE i (fun w => F_X1_drawHeats w i) S (-1000002) := by
  have hB := hI.wb
  have hst := hB.2.1
  have hn := pres_le S (S 311)
  have hN := hB.1
  intro w hC _
  show F_X1_drawHeats w i = _
  unfold F_X1_drawHeats
  rw [C_pres hC hB, gP_s, hC.st, iE0 (by omega), if_pos h0, iE0 (by omega), if_pos hp]
theorem G_swim {i EB : Nat} {S : Nat → Nat} (hI : IV EB S) {k e : Nat} (hk : k < S 311) (he : e = 0 ∨ (100 ≤ e ∧ e ≤ 999)) (ha : askB S k = true) : OKS i (fun w => F_X1_giveTime w i (nI k) (nI e)) S (if e = 0 then 100 else nI (ctF (Sswim S k e) e (S 311))) (Sswim S k e) := by
  have hB := hI.wb
  have hN := hB.1
  have hst := hB.2.1
  have hrc := hB.2.2.2.1
  have he9 : e ≤ 999 := by omega
  have hgk := (hB.k (k := k) (by omega)).2.2.1
  have hask := of_decide_eq_true ha
  have htc := tcol_in S
  intro w hC hR
  show ∃ w', F_X1_giveTime w i (nI k) (nI e) = _ ∧ _
  have hIV := Sswim_IV hI hk ha he9
  have hCt : CV (up3 w i (4 + k) (tcol S + 1) (nI e) i) (upN S (10 * k + tcol S) (e + 1)) := hC.upk (by omega) (by omega) (by
    have : enc (tcol S) (e + 1) = nI (e + 1) - 1 := by unfold enc; rw [if_pos (by omega)]
    rw [this, nI_pred])
  have h1 : F_X1_giveTime w i (nI k) (nI e) = F_X1_giveTime_64 (up3 w i (4 + k) (tcol S + 1) (nI e)) i (nI k) (nI e) := by
    unfold F_X1_giveTime
    rw [C_hasN hC hB hk, gP_s, if_neg (by decide), C_time_t he, gP_s, if_neg (by decide), gB_n _ (by omega) (by omega), hC.f3 hk, iE0 (by omega), if_pos hask.1, C_swimsNow hI hC hk, if_pos ha, gP_s, iE0 (by omega), if_neg (by omega), hC.st, iE1 (by omega)]
    unfold tcol
    by_cases z : S 310 = 1
    · rw [if_pos z, if_pos z, gS_e]
    · rw [if_neg z, if_neg z, gS_e]
  rw [h1]
  unfold F_X1_giveTime_64
  rw [iE0 (by omega)]
  have hRt : ∀ S', (∀ q, q < 314 → S' q = upN S (10 * k + tcol S) (e + 1) q) → ∀ u : gWd, u i 0 6 = w i 0 6 → u i 3 = w i 3 → RV (u i) S' := by
    intro S' hS' u h6 h3
    exact hR.cg h6 h3 (by rw [hS' 311 (by omega), upN_n (by omega)]; exact Nat.le_refl _) (fun p hp => by rw [hS' _ (by omega), upN_n (by omega)]) (fun q hq => ⟨by rw [hS' _ (by omega), upN_n (by omega)], by rw [hS' _ (by omega), upN_n (by omega)]⟩) (fun h => by rw [hS' 310 (by omega), upN_n (by omega)] at h; exact h)
  by_cases e0 : e = 0
  · rw [if_pos e0, if_pos e0]
    have hs : Sswim S k e = upN S (10 * k + tcol S) (e + 1) := by unfold Sswim; rw [if_neg (by omega)]
    exact ⟨_, rfl, agB.up _ _ _, by rw [hs]; exact hCt, hRt _ (fun q hq => by rw [hs]) _ (up3_n (by omega)) (up3_r (by omega))⟩
  · rw [if_neg e0, if_neg e0]
    unfold F_X1_noteRecord F_X1_noteRecord_15
    have hr9 : up3 w i (4 + k) (tcol S + 1) (nI e) i 0 9 = nI (S 314) := by rw [up3_n (by omega)]; exact hC.rc
    rw [hr9, iE0 (by omega), iLe (by omega) (by omega)]
    by_cases er : S 314 = 0 ∨ e < S 314
    · have hs : Sswim S k e = upN (upN (upN S (10 * k + tcol S) (e + 1)) 314 e) 315 k := by unfold Sswim; rw [if_pos ⟨by omega, er⟩]
      have hC2 : CV (up3 (up3 (up3 w i (4 + k) (tcol S + 1) (nI e)) i 0 9 (nI e)) i 0 10 (nI k) i) (Sswim S k e) := by
        rw [hs]
        exact (hCt.up0 (j := 9) (t := 314) (by rw [upN_n (by omega)]; exact hN) (by omega)).up0 (j := 10) (t := 315) (by rw [upN_n (by omega), upN_n (by omega)]; exact hN) (by omega)
      have hif : ∀ {α : Type} (a b : α), (if S 314 = 0 then a else if S 314 ≤ e then b else a) = a := by
        intro α a b
        by_cases z : S 314 = 0
        · rw [if_pos z]
        · rw [if_neg z, if_neg (by omega)]
      rw [hif, gS_e, gS_e, gP_s, C_faster hC2 hIV.wb (by omega), gP_s, Sswim_low (by omega), upN_n (by omega)]
      exact ⟨_, rfl, (agB.up _ _ _).tr ((agB.up _ _ _).tr (agB.up _ _ _)), hC2, hRt _ (fun q hq => Sswim_low hq) _ (by rw [up3_n (by omega), up3_n (by omega), up3_n (by omega)]) (by rw [up3_r (by omega), up3_r (by omega), up3_r (by omega)])⟩
    · have hs : Sswim S k e = upN S (10 * k + tcol S) (e + 1) := by unfold Sswim; rw [if_neg (fun z => er z.2)]
      rw [if_neg (by omega), if_pos (by omega), gP_s]
      rw [← hs] at hCt
      rw [C_faster hCt hIV.wb (by omega), gP_s, Sswim_low (by omega), upN_n (by omega)]
      exact ⟨_, rfl, agB.up _ _ _, hCt, hRt _ (fun q hq => Sswim_low hq) _ (up3_n (by omega)) (up3_r (by omega))⟩
theorem G_swimE1 {i : Nat} {S : Nat → Nat} {x1 x2 : Int32} (a1 : x1 < 0 ∨ nI (S 311) ≤ x1) : OKE i (fun w => F_X1_giveTime w i x1 x2) S (-1000001) := by
  intro w hC _
  show F_X1_giveTime w i x1 x2 = _
  unfold F_X1_giveTime
  rw [C_has hC, if_pos a1, gP_s, if_pos rfl]
theorem G_swimE2 {i EB : Nat} {S : Nat → Nat} (hI : IV EB S) {k e : Nat} (hk : k < S 311) (he : e = 0 ∨ (100 ≤ e ∧ e ≤ 999)) (ha : ¬ askB S k = true) : OKE i (fun w => F_X1_giveTime w i (nI k) (nI e)) S (-1000002) := by
  have hB := hI.wb
  have hN := hB.1
  have hgk := (hB.k (k := k) (by omega)).2.2.1
  intro w hC _
  show F_X1_giveTime w i (nI k) (nI e) = _
  unfold F_X1_giveTime
  rw [C_hasN hC hB hk, gP_s, if_neg (by decide), C_time_t he, gP_s, if_neg (by decide), gB_n _ (by omega) (by omega), hC.f3 hk, iE0 (by omega), C_swimsNow hI hC hk, if_neg ha, gP_s]
  by_cases z : S (10 * k + 2) = 0
  · rw [if_pos z, if_pos (by rfl)]
  · rw [if_neg z]
theorem G_scratchE1 {i : Nat} {S : Nat → Nat} {x1 : Int32} (a1 : x1 < 0 ∨ nI (S 311) ≤ x1) : OKE i (fun w => F_X1_withdraw w i x1) S (-1000001) := by
  intro w hC _
  show F_X1_withdraw w i x1 = _
  unfold F_X1_withdraw
  rw [C_has hC, if_pos a1, gP_s, if_pos rfl]
theorem G_scratchE2 {i EB : Nat} {S : Nat → Nat} (hI : IV EB S) {k : Nat} (hk : k < S 311) (h : S (10 * k + 2) ≠ 0 ∨ S 310 = 3) : OKE i (fun w => F_X1_withdraw w i (nI k)) S (-1000002) := by
  have hB := hI.wb
  have hN := hB.1
  have hst := hB.2.1
  have hg := (hB.k (k := k) (by omega)).2.2.1
  have hg6 := (hB.k (k := k) (by omega)).2.2.2.2.2.2.1
  have cC : ∀ w, CV (w i) S → F_X1_withdraw w i (nI k) = if S (10 * k + 2) = 0 then (if S 310 = 3 then some (-1000002, w) else if S 310 = 1 then gP (F_X10_leaveHeat (up3 w i (4 + k) 3 1) i k) (fun w_16 => F_X1_withdraw_53 w_16 i i k) else F_X1_withdraw_53 (up3 w i (4 + k) 3 1) i i k) else some (-1000002, w) := by
    intro w hC
    unfold F_X1_withdraw
    rw [C_hasN hC hB hk, gP_s, if_neg (by decide), gB_n _ (by omega) (by omega), hC.f3 hk, iE0 (by omega), hC.st, iE3 (by omega), gS_e, up3_n (by omega), hC.st, iE1 (by omega)]
  intro w hC _
  show F_X1_withdraw w i (nI k) = _
  by_cases g0 : S (10 * k + 2) = 0
  · rw [cC w hC, if_pos g0, if_pos (h.resolve_left (fun z => z g0))]
  · rw [cC w hC, if_neg g0]
theorem G_scratch1 {i EB : Nat} {S : Nat → Nat} (hI : IV EB S) {k : Nat} (hk : k < S 311) (g0 : S (10 * k + 2) = 0) (g1 : S 310 = 1) : OKS i (fun w => F_X1_withdraw w i (nI k)) S 100 (Sgo1 S k) := by
  have hB := hI.wb
  have hN := hB.1
  have hst := hB.2.1
  have hg := (hB.k (k := k) (by omega)).2.2.1
  have hg6 := (hB.k (k := k) (by omega)).2.2.2.2.2.2.1
  have cC : ∀ w, CV (w i) S → F_X1_withdraw w i (nI k) = if S (10 * k + 2) = 0 then (if S 310 = 3 then some (-1000002, w) else if S 310 = 1 then gP (F_X10_leaveHeat (up3 w i (4 + k) 3 1) i k) (fun w_16 => F_X1_withdraw_53 w_16 i i k) else F_X1_withdraw_53 (up3 w i (4 + k) 3 1) i i k) else some (-1000002, w) := by
    intro w hC
    unfold F_X1_withdraw
    rw [C_hasN hC hB hk, gP_s, if_neg (by decide), gB_n _ (by omega) (by omega), hC.f3 hk, iE0 (by omega), hC.st, iE3 (by omega), gS_e, up3_n (by omega), hC.st, iE1 (by omega)]
  have g3 : ¬ S 310 = 3 := by omega
  have hC1 : ∀ w, CV (w i) S → CV (up3 w i (4 + k) 3 1 i) (Sgo S k) := fun w hC => hC.upk (k := k) (a := 2) (v := 1) (by omega) (by omega) rfl
  have h53 : ∀ (w : gWd) (T : Nat → Nat), CV (w i) T → k < T 311 → T 310 ≤ 3 → T (10 * k + 6) ≤ 10 → F_X1_withdraw_53 w i i k = if T 310 = 2 then (if T (10 * k + 6) = 0 then some (100, w) else (gC (F_X1_callReserve w i i k) (fun v_4 w_5 => some (v_4, w_5)))) else some (100, w) := by
    intro w T hC hkT h1 h2
    unfold F_X1_withdraw_53
    rw [hC.st, hC.f7 hkT, iE2 (by omega), iE0 (by omega)]
  have z6 := (hI.s1 g1 k hk).2.1
  have e6 : Sgo1 S k (10 * k + 6) = 0 := by unfold Sgo1 Sgo; rw [upN_n (by omega), upN_n (by omega), upN_n (by omega), upN_n (by omega)]; exact z6
  have eh : ∀ q, 300 ≤ q → Sgo1 S k q = S q := fun q hq => by unfold Sgo1 Sgo; rw [upN_n (by omega), upN_n (by omega), upN_n (by omega), upN_n (by omega)]
  have eo : ∀ q a, a < 10 → (q ≠ k ∨ a = 6) → Sgo1 S k (10 * q + a) = S (10 * q + a) := fun q a h1 h2 => by unfold Sgo1 Sgo; rw [upN_n (by omega), upN_n (by omega), upN_n (by omega), upN_n (by omega)]
  intro w hC hR
  refine ⟨up3 (up3 (up3 (up3 w i (4 + k) 3 1) i (4 + k) 4 (-1)) i (4 + k) 5 0) i (4 + k) 6 (-1), ?_, (agB.up _ _ _).tr ((agB.up _ _ _).tr ((agB.up _ _ _).tr (agB.up _ _ _))), ?_, ?_⟩
  · show F_X1_withdraw w i (nI k) = _
    have hC4 : CV (up3 (up3 (up3 (up3 w i (4 + k) 3 1) i (4 + k) 4 (-1)) i (4 + k) 5 0) i (4 + k) 6 (-1) i) (Sgo1 S k) := (((hC1 w hC).upk (k := k) (a := 3) (v := 0) (by omega) (by omega) rfl).upk (k := k) (a := 4) (v := 0) (by omega) (by omega) rfl).upk (k := k) (a := 5) (v := 0) (by omega) (by omega) rfl
    rw [cC w hC, if_pos g0, if_neg g3, if_pos g1]
    show F_X1_withdraw_53 (up3 (up3 (up3 (up3 w i (4 + k) 3 1) i (4 + k) 4 (-1)) i (4 + k) 5 0) i (4 + k) 6 (-1)) i i k = _
    rw [h53 _ _ hC4 (by rw [eh 311 (by omega)]; exact hk) (by rw [eh 310 (by omega)]; omega) (by omega), eh 310 (by omega), if_neg (by omega)]
  · exact (((hC1 w hC).upk (k := k) (a := 3) (v := 0) (by omega) (by omega) rfl).upk (k := k) (a := 4) (v := 0) (by omega) (by omega) rfl).upk (k := k) (a := 5) (v := 0) (by omega) (by omega) rfl
  · refine hR.gone (k := k) (by rw [up3_n (by omega), up3_n (by omega), up3_n (by omega), up3_n (by omega)]) (by rw [up3_r (by omega), up3_r (by omega), up3_r (by omega), up3_r (by omega)]) (eh 311 (by omega)) (eh 310 (by omega)) (fun p _ => eh _ (by omega)) ⟨?_, Or.inl e6⟩ (fun q hq => ⟨eo q 6 (by omega) (Or.inl hq), eo q 2 (by omega) (Or.inl hq)⟩)
    unfold Sgo1 Sgo
    rw [upN_n (by omega), upN_n (by omega), upN_n (by omega), upN_s]
theorem G_scratch0 {i EB : Nat} {S : Nat → Nat} (hI : IV EB S) {k : Nat} (hk : k < S 311) (g0 : S (10 * k + 2) = 0) (g1 : ¬ S 310 = 1) (g3 : ¬ S 310 = 3) (g6 : S (10 * k + 6) = 0) : OKS i (fun w => F_X1_withdraw w i (nI k)) S 100 (Sgo S k) := by
  have hB := hI.wb
  have hN := hB.1
  have hst := hB.2.1
  have hg := (hB.k (k := k) (by omega)).2.2.1
  have hg6 := (hB.k (k := k) (by omega)).2.2.2.2.2.2.1
  have cC : ∀ w, CV (w i) S → F_X1_withdraw w i (nI k) = if S (10 * k + 2) = 0 then (if S 310 = 3 then some (-1000002, w) else if S 310 = 1 then gP (F_X10_leaveHeat (up3 w i (4 + k) 3 1) i k) (fun w_16 => F_X1_withdraw_53 w_16 i i k) else F_X1_withdraw_53 (up3 w i (4 + k) 3 1) i i k) else some (-1000002, w) := by
    intro w hC
    unfold F_X1_withdraw
    rw [C_hasN hC hB hk, gP_s, if_neg (by decide), gB_n _ (by omega) (by omega), hC.f3 hk, iE0 (by omega), hC.st, iE3 (by omega), gS_e, up3_n (by omega), hC.st, iE1 (by omega)]
  have hC1 : ∀ w, CV (w i) S → CV (up3 w i (4 + k) 3 1 i) (Sgo S k) := fun w hC => hC.upk (k := k) (a := 2) (v := 1) (by omega) (by omega) rfl
  have h53 : ∀ (w : gWd) (T : Nat → Nat), CV (w i) T → k < T 311 → T 310 ≤ 3 → T (10 * k + 6) ≤ 10 → F_X1_withdraw_53 w i i k = if T 310 = 2 then (if T (10 * k + 6) = 0 then some (100, w) else (gC (F_X1_callReserve w i i k) (fun v_4 w_5 => some (v_4, w_5)))) else some (100, w) := by
    intro w T hC hkT h1 h2
    unfold F_X1_withdraw_53
    rw [hC.st, hC.f7 hkT, iE2 (by omega), iE0 (by omega)]
  have e6 : Sgo S k (10 * k + 6) = S (10 * k + 6) := by unfold Sgo; rw [upN_n (by omega)]
  have eh : ∀ q, 300 ≤ q → Sgo S k q = S q := fun q hq => by unfold Sgo; rw [upN_n (by omega)]
  have eo : ∀ q a, a < 10 → (q ≠ k ∨ a = 6) → Sgo S k (10 * q + a) = S (10 * q + a) := fun q a h1 h2 => by unfold Sgo; rw [upN_n (by omega)]
  have cC2 : ∀ w, CV (w i) S → F_X1_withdraw w i (nI k) = if S 310 = 2 then (if S (10 * k + 6) = 0 then some (100, up3 w i (4 + k) 3 1) else (gC (F_X1_callReserve (up3 w i (4 + k) 3 1) i i k) (fun v_4 w_5 => some (v_4, w_5)))) else some (100, up3 w i (4 + k) 3 1) := by
    intro w hC
    rw [cC w hC, if_pos g0, if_neg g3, if_neg g1, h53 _ _ (hC1 w hC) (by rw [eh 311 (by omega)]; exact hk) (by rw [eh 310 (by omega)]; omega) (by omega), eh 310 (by omega), e6]
  intro w hC hR
  refine ⟨up3 w i (4 + k) 3 1, ?_, agB.up _ _ _, hC1 w hC, ?_⟩
  · show F_X1_withdraw w i (nI k) = _
    rw [cC2 w hC, if_pos g6]
    split <;> rfl
  · exact hR.gone (k := k) (up3_n (by omega)) (up3_r (by omega)) (eh 311 (by omega)) (eh 310 (by omega)) (fun p _ => eh _ (by omega)) ⟨upN_s _ _ _, Or.inr e6⟩ (fun q hq => ⟨eo q 6 (by omega) (Or.inl hq), eo q 2 (by omega) (Or.inl hq)⟩)
theorem G_scratch2 {i EB : Nat} {S : Nat → Nat} (hI : IV EB S) {k : Nat} (hk : k < S 311) (g0 : S (10 * k + 2) = 0) (g2 : S 310 = 2) (g6 : ¬ S (10 * k + 6) = 0) (gf : fb_ct (rsv (Sgo2 S k)) 4 = 0) : OKS i (fun w => F_X1_withdraw w i (nI k)) S 100 (Sgo2 S k) := by
  have hB := hI.wb
  have hN := hB.1
  have hst := hB.2.1
  have hg := (hB.k (k := k) (by omega)).2.2.1
  have hg6 := (hB.k (k := k) (by omega)).2.2.2.2.2.2.1
  have cC : ∀ w, CV (w i) S → F_X1_withdraw w i (nI k) = if S (10 * k + 2) = 0 then (if S 310 = 3 then some (-1000002, w) else if S 310 = 1 then gP (F_X10_leaveHeat (up3 w i (4 + k) 3 1) i k) (fun w_16 => F_X1_withdraw_53 w_16 i i k) else F_X1_withdraw_53 (up3 w i (4 + k) 3 1) i i k) else some (-1000002, w) := by
    intro w hC
    unfold F_X1_withdraw
    rw [C_hasN hC hB hk, gP_s, if_neg (by decide), gB_n _ (by omega) (by omega), hC.f3 hk, iE0 (by omega), hC.st, iE3 (by omega), gS_e, up3_n (by omega), hC.st, iE1 (by omega)]
  have g1 : ¬ S 310 = 1 := by omega
  have g3 : ¬ S 310 = 3 := by omega
  have hC1 : ∀ w, CV (w i) S → CV (up3 w i (4 + k) 3 1 i) (Sgo S k) := fun w hC => hC.upk (k := k) (a := 2) (v := 1) (by omega) (by omega) rfl
  have h53 : ∀ (w : gWd) (T : Nat → Nat), CV (w i) T → k < T 311 → T 310 ≤ 3 → T (10 * k + 6) ≤ 10 → F_X1_withdraw_53 w i i k = if T 310 = 2 then (if T (10 * k + 6) = 0 then some (100, w) else (gC (F_X1_callReserve w i i k) (fun v_4 w_5 => some (v_4, w_5)))) else some (100, w) := by
    intro w T hC hkT h1 h2
    unfold F_X1_withdraw_53
    rw [hC.st, hC.f7 hkT, iE2 (by omega), iE0 (by omega)]
  have e6 : Sgo S k (10 * k + 6) = S (10 * k + 6) := by unfold Sgo; rw [upN_n (by omega)]
  have eh : ∀ q, 300 ≤ q → Sgo S k q = S q := fun q hq => by unfold Sgo; rw [upN_n (by omega)]
  have eo : ∀ q a, a < 10 → (q ≠ k ∨ a = 6) → Sgo S k (10 * q + a) = S (10 * q + a) := fun q a h1 h2 => by unfold Sgo; rw [upN_n (by omega)]
  have cC2 : ∀ w, CV (w i) S → F_X1_withdraw w i (nI k) = if S 310 = 2 then (if S (10 * k + 6) = 0 then some (100, up3 w i (4 + k) 3 1) else (gC (F_X1_callReserve (up3 w i (4 + k) 3 1) i i k) (fun v_4 w_5 => some (v_4, w_5)))) else some (100, up3 w i (4 + k) 3 1) := by
    intro w hC
    rw [cC w hC, if_pos g0, if_neg g3, if_neg g1, h53 _ _ (hC1 w hC) (by rw [eh 311 (by omega)]; exact hk) (by rw [eh 310 (by omega)]; omega) (by omega), eh 310 (by omega), e6]
  have hC3 : ∀ w, CV (w i) S → CV (up3 (up3 (up3 w i (4 + k) 3 1) i (4 + k) 7 0) i (4 + k) 8 (-1) i) (Sgo2 S k) := fun w hC => ((hC1 w hC).upk (k := k) (a := 6) (v := 0) (by omega) (by omega) rfl).upk (k := k) (a := 7) (v := 0) (by omega) (by omega) rfl
  have hI2 := Sgo2_IV hI hk g1
  have hB2 := hI2.wb
  have eh2 : ∀ q, 300 ≤ q → Sgo2 S k q = S q := fun q hq => Sgo2_n (by omega)
  have eo2 : ∀ q a, a < 10 → q ≠ k → Sgo2 S k (10 * q + a) = S (10 * q + a) := fun q a h1 h2 => Sgo2_n (by omega)
  have e26 : Sgo2 S k (10 * k + 6) = 0 := by unfold Sgo2; rw [upN_n (by omega), upN_s]
  have e22 : Sgo2 S k (10 * k + 2) = 1 := by unfold Sgo2 Sgo; rw [upN_n (by omega), upN_n (by omega), upN_s]
  have hR3 : ∀ c c' : Nat → Nat → Int32, RV c S → c' 0 6 = c 0 6 → c' 3 = c 3 → RV c' (Sgo2 S k) := fun c c' hR h6 h3 => hR.gone (k := k) h6 h3 (eh2 311 (by omega)) (eh2 310 (by omega)) (fun p _ => eh2 _ (by omega)) ⟨e22, Or.inl e26⟩ (fun q hq => ⟨eo2 q 6 (by omega) hq, eo2 q 2 (by omega) hq⟩)
  have hRw : ∀ w, RV (w i) S → RV (up3 (up3 (up3 w i (4 + k) 3 1) i (4 + k) 7 0) i (4 + k) 8 (-1) i) (Sgo2 S k) := fun w hR => hR3 _ _ hR (by rw [up3_n (by omega), up3_n (by omega), up3_n (by omega)]) (by rw [up3_r (by omega), up3_r (by omega), up3_r (by omega)])
  have cC3 : ∀ w, CV (w i) S → F_X1_withdraw w i (nI k) = gP (F_X5_freeReserve (up3 (up3 (up3 w i (4 + k) 3 1) i (4 + k) 7 0) i (4 + k) 8 (-1)) i 0) (fun v_5 => gP (F_X5_has (up3 (up3 (up3 w i (4 + k) 3 1) i (4 + k) 7 0) i (4 + k) 8 (-1)) i v_5) (fun v_7 => if v_7 = 0 then (some (100, up3 (up3 (up3 w i (4 + k) 3 1) i (4 + k) 7 0) i (4 + k) 8 (-1))) else (gB v_5 30 (fun k_10 => gS (up3 (up3 (up3 (up3 w i (4 + k) 3 1) i (4 + k) 7 0) i (4 + k) 8 (-1)) i (4 + k_10) 7 (nI (S (10 * k + 6)))) (fun w_11 => gS (up3 w_11 i 0 7 (((w_11 i 0 7) + 1))) (fun w_12 => some (v_5, w_12))))))) := by
    intro w hC
    have e7 : up3 w i (4 + k) 3 1 i (4 + k) 7 = nI (S (10 * k + 6)) := by rw [up3_n (by omega), hC.f7 hk]
    rw [cC2 w hC, if_pos g2, if_neg g6]
    unfold F_X1_callReserve
    rw [gS_e, e7]
    show gC (gP (F_X5_freeReserve (up3 (up3 (up3 w i (4 + k) 3 1) i (4 + k) 7 0) i (4 + k) 8 (-1)) i 0) _) _ = _
    cases F_X5_freeReserve (up3 (up3 (up3 w i (4 + k) 3 1) i (4 + k) 7 0) i (4 + k) 8 (-1)) i 0 with
    | none => rfl
    | some v =>
      simp only [gP_s]
      cases F_X5_has (up3 (up3 (up3 w i (4 + k) 3 1) i (4 + k) 7 0) i (4 + k) 8 (-1)) i v with
      | none => rfl
      | some b =>
        simp only [gP_s]
        split
        · rfl
        · unfold gB
          split
          · rfl
          · rfl
  intro w hC hR
  refine ⟨up3 (up3 (up3 w i (4 + k) 3 1) i (4 + k) 7 0) i (4 + k) 8 (-1), ?_, (agB.up _ _ _).tr ((agB.up _ _ _).tr (agB.up _ _ _)), hC3 w hC, hRw w hR⟩
  show F_X1_withdraw w i (nI k) = _
  rw [cC3 w hC, show F_X5_freeReserve (up3 (up3 (up3 w i (4 + k) 3 1) i (4 + k) 7 0) i (4 + k) 8 (-1)) i 0 = _ from (C_free (r := 0) (hC3 w hC) (hRw w hR) hB2 (by omega)).2 (by omega), gP_s, C_has (hC3 w hC), if_pos (Or.inl (by decide)), gP_s, if_pos rfl]
theorem G_scratch3 {i EB : Nat} {S : Nat → Nat} (hI : IV EB S) (hR0 : ∃ c : Nat → Nat → Int32, RV c S) {k p : Nat} (hk : k < S 311) (g0 : S (10 * k + 2) = 0) (g2 : S 310 = 2) (g6 : ¬ S (10 * k + 6) = 0) (hp4 : p < 4) (hrp : rsv (Sgo2 S k) p = true) (hcp : fb_ct (rsv (Sgo2 S k)) p = 0) : OKS i (fun w => F_X1_withdraw w i (nI k)) S (nI (Sgo2 S k (306 + p) - 1)) (upN (upN (upN (Sgo2 S k) (306 + p) 0) 316 (Sgo2 S k 316 + 1)) (10 * (Sgo2 S k (306 + p) - 1) + 6) (S (10 * k + 6))) := by
  have hB := hI.wb
  have hN := hB.1
  have hst := hB.2.1
  have hg := (hB.k (k := k) (by omega)).2.2.1
  have hg6 := (hB.k (k := k) (by omega)).2.2.2.2.2.2.1
  have cC : ∀ w, CV (w i) S → F_X1_withdraw w i (nI k) = if S (10 * k + 2) = 0 then (if S 310 = 3 then some (-1000002, w) else if S 310 = 1 then gP (F_X10_leaveHeat (up3 w i (4 + k) 3 1) i k) (fun w_16 => F_X1_withdraw_53 w_16 i i k) else F_X1_withdraw_53 (up3 w i (4 + k) 3 1) i i k) else some (-1000002, w) := by
    intro w hC
    unfold F_X1_withdraw
    rw [C_hasN hC hB hk, gP_s, if_neg (by decide), gB_n _ (by omega) (by omega), hC.f3 hk, iE0 (by omega), hC.st, iE3 (by omega), gS_e, up3_n (by omega), hC.st, iE1 (by omega)]
  have g1 : ¬ S 310 = 1 := by omega
  have g3 : ¬ S 310 = 3 := by omega
  have hC1 : ∀ w, CV (w i) S → CV (up3 w i (4 + k) 3 1 i) (Sgo S k) := fun w hC => hC.upk (k := k) (a := 2) (v := 1) (by omega) (by omega) rfl
  have h53 : ∀ (w : gWd) (T : Nat → Nat), CV (w i) T → k < T 311 → T 310 ≤ 3 → T (10 * k + 6) ≤ 10 → F_X1_withdraw_53 w i i k = if T 310 = 2 then (if T (10 * k + 6) = 0 then some (100, w) else (gC (F_X1_callReserve w i i k) (fun v_4 w_5 => some (v_4, w_5)))) else some (100, w) := by
    intro w T hC hkT h1 h2
    unfold F_X1_withdraw_53
    rw [hC.st, hC.f7 hkT, iE2 (by omega), iE0 (by omega)]
  have e6 : Sgo S k (10 * k + 6) = S (10 * k + 6) := by unfold Sgo; rw [upN_n (by omega)]
  have eh : ∀ q, 300 ≤ q → Sgo S k q = S q := fun q hq => by unfold Sgo; rw [upN_n (by omega)]
  have eo : ∀ q a, a < 10 → (q ≠ k ∨ a = 6) → Sgo S k (10 * q + a) = S (10 * q + a) := fun q a h1 h2 => by unfold Sgo; rw [upN_n (by omega)]
  have cC2 : ∀ w, CV (w i) S → F_X1_withdraw w i (nI k) = if S 310 = 2 then (if S (10 * k + 6) = 0 then some (100, up3 w i (4 + k) 3 1) else (gC (F_X1_callReserve (up3 w i (4 + k) 3 1) i i k) (fun v_4 w_5 => some (v_4, w_5)))) else some (100, up3 w i (4 + k) 3 1) := by
    intro w hC
    rw [cC w hC, if_pos g0, if_neg g3, if_neg g1, h53 _ _ (hC1 w hC) (by rw [eh 311 (by omega)]; exact hk) (by rw [eh 310 (by omega)]; omega) (by omega), eh 310 (by omega), e6]
  have hC3 : ∀ w, CV (w i) S → CV (up3 (up3 (up3 w i (4 + k) 3 1) i (4 + k) 7 0) i (4 + k) 8 (-1) i) (Sgo2 S k) := fun w hC => ((hC1 w hC).upk (k := k) (a := 6) (v := 0) (by omega) (by omega) rfl).upk (k := k) (a := 7) (v := 0) (by omega) (by omega) rfl
  have hI2 := Sgo2_IV hI hk g1
  have hB2 := hI2.wb
  have eh2 : ∀ q, 300 ≤ q → Sgo2 S k q = S q := fun q hq => Sgo2_n (by omega)
  have eo2 : ∀ q a, a < 10 → q ≠ k → Sgo2 S k (10 * q + a) = S (10 * q + a) := fun q a h1 h2 => Sgo2_n (by omega)
  have e26 : Sgo2 S k (10 * k + 6) = 0 := by unfold Sgo2; rw [upN_n (by omega), upN_s]
  have e22 : Sgo2 S k (10 * k + 2) = 1 := by unfold Sgo2 Sgo; rw [upN_n (by omega), upN_n (by omega), upN_s]
  have hR3 : ∀ c c' : Nat → Nat → Int32, RV c S → c' 0 6 = c 0 6 → c' 3 = c 3 → RV c' (Sgo2 S k) := fun c c' hR h6 h3 => hR.gone (k := k) h6 h3 (eh2 311 (by omega)) (eh2 310 (by omega)) (fun p _ => eh2 _ (by omega)) ⟨e22, Or.inl e26⟩ (fun q hq => ⟨eo2 q 6 (by omega) hq, eo2 q 2 (by omega) hq⟩)
  have hRw : ∀ w, RV (w i) S → RV (up3 (up3 (up3 w i (4 + k) 3 1) i (4 + k) 7 0) i (4 + k) 8 (-1) i) (Sgo2 S k) := fun w hR => hR3 _ _ hR (by rw [up3_n (by omega), up3_n (by omega), up3_n (by omega)]) (by rw [up3_r (by omega), up3_r (by omega), up3_r (by omega)])
  have cC3 : ∀ w, CV (w i) S → F_X1_withdraw w i (nI k) = gP (F_X5_freeReserve (up3 (up3 (up3 w i (4 + k) 3 1) i (4 + k) 7 0) i (4 + k) 8 (-1)) i 0) (fun v_5 => gP (F_X5_has (up3 (up3 (up3 w i (4 + k) 3 1) i (4 + k) 7 0) i (4 + k) 8 (-1)) i v_5) (fun v_7 => if v_7 = 0 then (some (100, up3 (up3 (up3 w i (4 + k) 3 1) i (4 + k) 7 0) i (4 + k) 8 (-1))) else (gB v_5 30 (fun k_10 => gS (up3 (up3 (up3 (up3 w i (4 + k) 3 1) i (4 + k) 7 0) i (4 + k) 8 (-1)) i (4 + k_10) 7 (nI (S (10 * k + 6)))) (fun w_11 => gS (up3 w_11 i 0 7 (((w_11 i 0 7) + 1))) (fun w_12 => some (v_5, w_12))))))) := by
    intro w hC
    have e7 : up3 w i (4 + k) 3 1 i (4 + k) 7 = nI (S (10 * k + 6)) := by rw [up3_n (by omega), hC.f7 hk]
    rw [cC2 w hC, if_pos g2, if_neg g6]
    unfold F_X1_callReserve
    rw [gS_e, e7]
    show gC (gP (F_X5_freeReserve (up3 (up3 (up3 w i (4 + k) 3 1) i (4 + k) 7 0) i (4 + k) 8 (-1)) i 0) _) _ = _
    cases F_X5_freeReserve (up3 (up3 (up3 w i (4 + k) 3 1) i (4 + k) 7 0) i (4 + k) 8 (-1)) i 0 with
    | none => rfl
    | some v =>
      simp only [gP_s]
      cases F_X5_has (up3 (up3 (up3 w i (4 + k) 3 1) i (4 + k) 7 0) i (4 + k) 8 (-1)) i v with
      | none => rfl
      | some b =>
        simp only [gP_s]
        split
        · rfl
        · unfold gB
          split
          · rfl
          · rfl
  have hr0 := rsv_t hrp
  have hrb := hB2.r hp4
  have hq : Sgo2 S k (306 + p) - 1 < Sgo2 S k 311 := by
    obtain ⟨c, hR⟩ := hR0
    obtain ⟨n, q, h1, h2, h4, h5, h7, h8⟩ := hR3 c c hR rfl rfl
    rcases Nat.lt_or_ge p n with z | z
    · have := (h4 p z).2.2.2 hr0.1
      have := (h4 p z).2.1
      omega
    · exact absurd (h5 p z hp4) hr0.1
  have hq30 : Sgo2 S k (306 + p) - 1 < 30 := by omega
  intro w hC hR
  have hCa := ((hC3 w hC).upk (k := Sgo2 S k (306 + p) - 1) (a := 6) (v := S (10 * k + 6)) hq30 (by omega) rfl).up0 (j := 7) (t := 316) (v := Sgo2 S k 316 + 1) (by rw [upN_n (by omega), eh2 311 (by omega)]; exact hN) (by omega)
  have hCb := hCa.res (by rw [upN_n (by omega), upN_n (by omega), eh2 311 (by omega)]; exact hN) (p := p) (v := 0) hp4
  rw [upN_comm (a := 316) (b := 306 + p) (by omega), upN_comm (a := 10 * (Sgo2 S k (306 + p) - 1) + 6) (b := 306 + p) (by omega), upN_comm (a := 10 * (Sgo2 S k (306 + p) - 1) + 6) (b := 316) (by omega)] at hCb
  refine ⟨_, ?_, ?_, hCb, ?_⟩
  · show F_X1_withdraw w i (nI k) = _
    rw [cC3 w hC, show F_X5_freeReserve (up3 (up3 (up3 w i (4 + k) 3 1) i (4 + k) 7 0) i (4 + k) 8 (-1)) i 0 = _ from (C_free (r := 0) (hC3 w hC) (hRw w hR) hB2 (by omega)).1 p hp4 hrp hcp, gP_s, C_hasN (hC3 w hC) hB2 hq, gP_s, if_neg (by decide), gB_n _ hq30 (by omega), gS_e, gS_e]
    have e7 : up3 (up3 (up3 (up3 w i (4 + k) 3 1) i (4 + k) 7 0) i (4 + k) 8 (-1)) i (4 + (Sgo2 S k (306 + p) - 1)) 7 (nI (S (10 * k + 6))) i 0 7 = nI (Sgo2 S k 316) := by rw [up3_n (by omega)]; exact (hC3 w hC).ca
    rw [e7, nI_1]
    rfl
  · exact ((agB.up _ _ _).tr ((agB.up _ _ _).tr (agB.up _ _ _))).tr ((agB.up _ _ _).tr (agB.up _ _ _))
  · refine (hRw w hR).call (by rw [eh2 311 (by omega)]; exact hN) hp4 hrp (L := S (10 * k + 6)) ?_ ?_ ?_ ?_ g6 (fun p' hp' => ?_) (fun q hq3 => ?_) (fun q hq3 => ?_)
    · rw [up3_n (by omega), up3_n (by omega)]
    · rw [up3_r (by omega), up3_r (by omega)]
    · rw [upN_n (by omega), upN_n (by omega), upN_n (by omega)]
    · rw [upN_n (by omega), upN_n (by omega), upN_n (by omega)]
    · rw [upN_n (by omega), upN_n (by omega)]
      unfold upN
      by_cases e : p' = p
      · rw [if_pos (by omega), if_pos e]
      · rw [if_neg (by omega), if_neg e]
    · rw [upN_n (by omega), upN_n (by omega), upN_n (by omega)]
    · by_cases e : q = Sgo2 S k (306 + p) - 1
      · rw [if_pos e, e, upN_s]
      · rw [if_neg e, upN_n (by omega), upN_n (by omega), upN_n (by omega)]
theorem G_finals {i EB : Nat} {S : Nat → Nat} (hI : IV EB S) (h1 : S 310 = 1) (z : whyN S = 0) : OKS i (fun w => F_X1_drawFinal w i) S (nI (bn (inF (Sfin S)) (S 311))) (Sfin S) := by
  have hB := hI.wb
  have hN := hB.1
  have hst := hB.2.1
  have hw : whyN S ≤ 2 := by unfold whyN; split <;> (try split) <;> (try split) <;> omega
  intro w hC hR
  have h6 : w i 0 6 = nI 0 := by
    obtain ⟨n, q, a1, a2, a3, a4, a5, a6⟩ := hR
    have := a6 (by omega)
    subst this
    exact a2
  obtain ⟨w', f1, f2, f3, f4, f5⟩ := C_fin20 (i := i) hB h1 (S 311) gFU w 0 (by omega) (by unfold gFU; omega) hC h6 (fun q hq => absurd hq (Nat.not_lt_zero q))
  refine ⟨w', ?_, f2, f3, Sfin_RV hI h1 hR f4 f5⟩
  show F_X1_drawFinal w i = _
  unfold F_X1_drawFinal
  rw [hC.st, iE1 (by omega), if_pos h1, C_why hI hC, gP_s, iE0 (by omega), if_pos z]
  exact f1
theorem G_finalsE {i EB : Nat} {S : Nat → Nat} (hI : IV EB S) (h1 : S 310 = 1) (z : whyN S ≠ 0) : OKE i (fun w => F_X1_drawFinal w i) S (-1000002) := by
  have hB := hI.wb
  have hst := hB.2.1
  have hw : whyN S ≤ 2 := by unfold whyN; split <;> (try split) <;> (try split) <;> omega
  intro w hC _
  show F_X1_drawFinal w i = _
  unfold F_X1_drawFinal
  rw [hC.st, iE1 (by omega), if_pos h1, C_why hI hC, gP_s, iE0 (by omega), if_neg z]
theorem tm_room {EB : Nat} {S : Nat → Nat} (hI : IV EB S) (h2 : S 310 = 2) : fb_ct (tm S) (S 311) ≤ S 317 := by
  obtain ⟨a, b⟩ := hI.iw h2
  refine Nat.le_trans (fb_ct_sub (fun k hk hp => ?_)) a
  have := tm_t.mp hp
  exact decide_eq_true (b k hk (by omega))
theorem G_end {i EB : Nat} {S : Nat → Nat} (hI : IV EB S) (h2 : S 310 = 2) (z : whyN S = 0) : OKS i (fun w => F_X1_endEvent w i) S (nI (bn (fstP S) (S 311))) (Send S) := by
  have hB := hI.wb
  have hN := hB.1
  have hst := hB.2.1
  have hw : whyN S ≤ 2 := by unfold whyN; split <;> (try split) <;> (try split) <;> omega
  have hc := tm_room hI h2
  intro w hC hR
  obtain ⟨w', f1, f2, f3, f4⟩ := C_end22 (i := i) hI h2 hc (S 311) gFU w 0 (by omega) (by unfold gFU; omega) hC hR
  refine ⟨w', ?_, f2, f3, f4⟩
  show F_X1_endEvent w i = _
  unfold F_X1_endEvent
  rw [hC.st, iE2 (by omega), if_pos h2, C_why hI hC, gP_s, iE0 (by omega), if_pos z]
  exact f1
theorem G_endE {i EB : Nat} {S : Nat → Nat} (hI : IV EB S) (h2 : S 310 = 2) (z : whyN S ≠ 0) : OKE i (fun w => F_X1_endEvent w i) S (-1000002) := by
  have hB := hI.wb
  have hst := hB.2.1
  have hw : whyN S ≤ 2 := by unfold whyN; split <;> (try split) <;> (try split) <;> omega
  intro w hC _
  show F_X1_endEvent w i = _
  unfold F_X1_endEvent
  rw [hC.st, iE2 (by omega), if_pos h2, C_why hI hC, gP_s, iE0 (by omega), if_neg z]
theorem G_next {i EB : Nat} {S : Nat → Nat} (hI : IV EB S) (h3 : S 310 = 3) : OKS i (fun w => F_X1_beginNextEvent w i) S (nI (fb_ct (chg S) (S 311))) (Snext S) := by
  have hB := hI.wb
  have hN := hB.1
  have hst := hB.2.1
  intro w hC hR
  obtain ⟨w', f1, f2, f3, f4⟩ := C_next15 (i := i) hB (S 311) gFU w 0 (by omega) (by unfold gFU; omega) (hC.cgS hN (fun t ht => Sn_hi (by omega)))
  refine ⟨w', ?_, f2, f3, f4⟩
  show F_X1_beginNextEvent w i = _
  unfold F_X1_beginNextEvent
  rw [hC.st, iE3 (by omega), if_pos h3]
  exact f1
theorem FCC_E {FC : gWd → Option (Int32 × gWd)} {w : gWd} {S : Nat → Nat} {K : Nat} {ρ : Nat → Nat} {r : Int32} (hB : WB S) (hH : HC w K ρ) (hC : CV (w 0) S) (hR : RV (w 0) S) (h : OKE 0 FC S r) (hr : r < 0) : ∃ w', FCC FC w = some (r, w') ∧ w' 0 = w 0 ∧ w' 8 = w 8 ∧ HC w' K ρ := by
  obtain ⟨h1, h2, h3, h4⟩ := hH
  obtain ⟨g1, g2, g3⟩ := h3 K (by omega)
  obtain ⟨w2, p1, p2, p3, p4⟩ := C_prepare ⟨h1, h2, h3, h4⟩ hC hR hB
  have e0 : w2 0 = w 0 := p2 0 (by omega)
  have e7 : w2 7 = w 7 := p2 7 (by omega)
  have e8 : w2 8 = w 8 := p2 8 (by omega)
  refine ⟨w2, ?_, e0, e8, h1, by rw [e7]; exact h2, by rw [e7]; exact h3, h4⟩
  unfold FCC
  rw [p1, gP_s, h w2 (by rw [e0]; exact hC) (by rw [e0]; exact hR), gC_s, C_keepE hr, gC_s]
theorem FCC_S {FC : gWd → Option (Int32 × gWd)} {w : gWd} {S S' : Nat → Nat} {K : Nat} {ρ : Nat → Nat} {r : Int32} (hB : WB S) (hH : HC w K ρ) (hC : CV (w 0) S) (hR : RV (w 0) S) (h : OKS 0 FC S r S') (hr : 0 ≤ r) : ∃ w', FCC FC w = some (r, w') ∧ w' 8 = w 8 ∧ CV (w' 0) S' ∧ RV (w' 0) S' ∧ ∃ K' ρ', HC w' K' ρ' := by
  obtain ⟨h1, h2, h3, h4⟩ := hH
  obtain ⟨g1, g2, g3⟩ := h3 K (by omega)
  obtain ⟨w2, p1, p2, p3, p4⟩ := C_prepare ⟨h1, h2, h3, h4⟩ hC hR hB
  have e0 : w2 0 = w 0 := p2 0 (by omega)
  have e7 : w2 7 = w 7 := p2 7 (by omega)
  have e8 : w2 8 = w 8 := p2 8 (by omega)
  obtain ⟨w5, f1, f2, f3, f4⟩ := h w2 (by rw [e0]; exact hC) (by rw [e0]; exact hR)
  have k7 : w5 7 = w 7 := by rw [f2 7 (by omega), e7]
  have k8 : w5 8 = w 8 := by rw [f2 8 (by omega), e8]
  have hH5 : HC w5 K ρ := ⟨h1, by rw [k7]; exact h2, by rw [k7]; exact h3, h4⟩
  obtain ⟨w8, c1, c2, c3⟩ := C_keep hH5 hr
  have n8 : ∀ a, a ≠ 7 → w8 a = w5 a := fun a ha => funext fun b => funext fun c => c2 a b c (fun z => ha z.1)
  refine ⟨w8, ?_, by rw [n8 8 (by omega), k8], by rw [n8 0 (by omega)]; exact f3, by rw [n8 0 (by omega)]; exact f4, _, _, c3⟩
  unfold FCC
  rw [p1, gP_s, f1, gC_s, c1, gC_s]
