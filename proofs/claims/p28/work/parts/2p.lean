/-! level 2: next, whole -/
def btr (e t : Nat) : Nat := if t ≤ 1 then e else if e = 0 then t - 1 else if e ≤ t - 1 then e else t - 1
def best (S : Nat → Nat) (k : Nat) : Nat := btr (btr (S (10 * k + 1)) (S (10 * k + 5))) (S (10 * k + 7))
theorem btr_le {e t : Nat} (h1 : e ≤ 999) (h2 : t ≤ 1000) : btr e t ≤ 999 := by
  unfold btr
  split
  · omega
  · split
    · omega
    · split <;> omega
theorem best_le {S : Nat → Nat} (hB : WB S) {k : Nat} (hk : k < 30) : best S k ≤ 999 := by
  have h := hB.k hk
  exact btr_le (btr_le h.2.1 h.2.2.2.2.2.1) h.2.2.2.2.2.2.2.1
theorem C_best {w : gWd} {T : Nat → Nat} {i k : Nat} (hC : CV (w i) T) (hB : WB T) (hk : k < T 311) : F_X10_bestTime w i k = some (nI (best T k)) := by
  have hN := hB.1
  have h := hB.k (k := k) (by omega)
  have h29 : ∀ e, e ≤ 999 → F_X10_bestTime_29 w i k (nI e) = some (nI (btr e (T (10 * k + 7)))) := by
    intro e he
    unfold F_X10_bestTime_29 F_X10_bestTime_48 btr
    rw [hC.f8 hk]
    by_cases a : T (10 * k + 7) ≤ 1
    · rw [if_pos ((mLe0 (by omega)).mpr a), if_pos a]
    · rw [if_neg (fun z => a ((mLe0 (by omega)).mp z)), if_neg a, mN (by omega) (by omega), iE0 (by omega), iLe (by omega) (by omega)]
      split
      · rfl
      · split <;> rfl
  have hb := btr_le h.2.1 h.2.2.2.2.2.1
  unfold F_X10_bestTime F_X10_bestTime_24
  rw [gS_e, gS_e, hC.f2 hk, hC.f6 hk]
  unfold best
  rw [← h29 _ hb]
  unfold btr
  by_cases a : T (10 * k + 5) ≤ 1
  · rw [if_pos ((mLe0 (by omega)).mpr a), if_pos a]
  · rw [if_neg (fun z => a ((mLe0 (by omega)).mp z)), if_neg a, mN (by omega) (by omega), iE0 (by omega), iLe (by omega) (by omega)]
    split
    · rfl
    · split <;> rfl
def Sn (S : Nat → Nat) (j t : Nat) : Nat := if t < 10 * j then (if t % 10 = 1 then best S (t / 10) else if 2 ≤ t % 10 ∧ t % 10 ≤ 8 then 0 else S t) else S t
def Snext (S : Nat → Nat) : Nat → Nat := upN (upN (upN (upN (upN (upN (Sn S (S 311)) 306 0) 307 0) 308 0) 309 0) 310 0) 312 0
section NEXT
variable {S : Nat → Nat}
theorem Sn_hi {j t : Nat} (h : 10 * j ≤ t) : Sn S j t = S t := if_neg (by omega)
theorem Sn_st {j : Nat} (t : Nat) : Sn S (j + 1) t = if t = 10 * j + 1 then best S j else if 10 * j + 2 ≤ t ∧ t < 10 * j + 9 then 0 else Sn S j t := by
  unfold Sn
  by_cases a : t < 10 * j
  · rw [if_neg (show ¬ t = 10 * j + 1 by omega), if_neg (show ¬ (10 * j + 2 ≤ t ∧ t < 10 * j + 9) by omega), if_pos (show t < 10 * (j + 1) by omega), if_pos a]
  · rw [if_neg a]
    by_cases b : t < 10 * (j + 1)
    · rw [if_pos b]
      by_cases c : t = 10 * j + 1
      · rw [if_pos c, if_pos (show t % 10 = 1 by omega), show t / 10 = j by omega]
      · rw [if_neg c, if_neg (show ¬ t % 10 = 1 by omega)]
        by_cases d : 10 * j + 2 ≤ t ∧ t < 10 * j + 9
        · rw [if_pos d, if_pos (show 2 ≤ t % 10 ∧ t % 10 ≤ 8 by omega)]
        · rw [if_neg d, if_neg (show ¬ (2 ≤ t % 10 ∧ t % 10 ≤ 8) by omega)]
    · rw [if_neg b, if_neg (show ¬ t = 10 * j + 1 by omega), if_neg (show ¬ (10 * j + 2 ≤ t ∧ t < 10 * j + 9) by omega)]
theorem Sn_c {j k a : Nat} (ha : a < 10) : Sn S j (10 * k + a) = if k < j then (if a = 1 then best S k else if 2 ≤ a ∧ a ≤ 8 then 0 else S (10 * k + a)) else S (10 * k + a) := by
  unfold Sn
  rw [show (10 * k + a) % 10 = a by omega, show (10 * k + a) / 10 = k by omega]
  by_cases h : k < j
  · rw [if_pos (by omega), if_pos h]
  · rw [if_neg (by omega), if_neg h]
theorem Sn_WB (hB : WB S) {j : Nat} (hj : j ≤ 30) : WB (Sn S j) := by
  refine hB.cg (fun t ht => Sn_hi (by omega)) (fun k hk a ha => ?_)
  rw [Sn_c ha]
  have h := hB.a hk ha
  by_cases e : k < j
  · rw [if_pos e]
    have hb := best_le hB hk
    by_cases e1 : a = 1
    · subst e1; rw [if_pos rfl]; refine ⟨?_, ?_, ?_, ?_, ?_, ?_, ?_, ?_⟩ <;> omega
    · rw [if_neg e1]
      by_cases e2 : 2 ≤ a ∧ a ≤ 8
      · rw [if_pos e2]; exact okv2 e2.1
      · rw [if_neg e2]; exact h
  · rw [if_neg e]; exact h
theorem Snext_n {t : Nat} (h : t < 306 ∨ t = 311 ∨ 313 ≤ t) : Snext S t = Sn S (S 311) t := by
  unfold Snext
  rw [upN_n (by omega), upN_n (by omega), upN_n (by omega), upN_n (by omega), upN_n (by omega), upN_n (by omega)]
theorem Snext_0 {t : Nat} (h : (306 ≤ t ∧ t < 310) ∨ t = 310 ∨ t = 312) : Snext S t = 0 := by
  unfold Snext upN
  by_cases a : t = 312
  · rw [if_pos a]
  · rw [if_neg a]
    by_cases b : t = 310
    · rw [if_pos b]
    · rw [if_neg b]
      by_cases c : t = 309
      · rw [if_pos c]
      · rw [if_neg c]
        by_cases d : t = 308
        · rw [if_pos d]
        · rw [if_neg d]
          by_cases e : t = 307
          · rw [if_pos e]
          · rw [if_neg e, if_pos (by omega)]
theorem Snext_IV {EB : Nat} (hI : IV EB S) : IV EB (Snext S) := by
  have hB := hI.wb
  have hN := hB.1
  have hT := Sn_WB hB (j := S 311) (by omega)
  have hi : ∀ t, t = 311 ∨ 313 ≤ t → Snext S t = S t := fun t ht => by rw [Snext_n (by omega)]; exact Sn_hi (by omega)
  have e311 := hi 311 (by omega)
  have e310 : Snext S 310 = 0 := Snext_0 (by omega)
  have hc : ∀ k a, k < 30 → a < 10 → Snext S (10 * k + a) = if k < S 311 then (if a = 1 then best S k else if 2 ≤ a ∧ a ≤ 8 then 0 else S (10 * k + a)) else S (10 * k + a) := fun k a hk ha => by rw [Snext_n (by omega), Sn_c ha]
  refine ⟨⟨by omega, by omega, by rw [Snext_0 (by omega)]; omega, ?_, ?_, ?_, ?_, ?_, fun p hp => by rw [Snext_0 (by omega)]; omega, fun k hk a ha => by rw [Snext_n (by omega)]; exact hT.a hk ha⟩, ?_, ?_, ?_, ?_, ?_, ?_, ?_, ?_⟩
  · rw [hi 314 (by omega)]; exact hB.2.2.2.1
  · rw [hi 315 (by omega)]; exact hB.2.2.2.2.1
  · rw [hi 317 (by omega)]; exact hB.2.2.2.2.2.1
  · rw [hi 318 (by omega)]; exact hB.2.2.2.2.2.2.1
  · rw [hi 319 (by omega)]; exact hB.2.2.2.2.2.2.2.1
  · intro k h1 h2 a h3 h4
    rw [e311] at h1
    rw [hc k a h2 h4, if_neg (by omega)]
    exact hI.out h1 h2 h3 h4
  · intro _
    refine ⟨Snext_0 (by omega), fun k hk a h3 h4 => ?_⟩
    rw [e311] at hk
    rw [hc k a (by omega) (by omega), if_pos hk, if_neg (by omega), if_pos (by omega)]
  · intro h; omega
  · intro h; omega
  · intro q hq
    rw [Snext_n (by omega), Sn_hi (by omega), hI.cl hq, e311]
    unfold clubSum
    refine fb_sm_cong (fun z hz => ?_)
    have h0 := hc z 0 (by omega) (by omega)
    have h9 := hc z 9 (by omega) (by omega)
    rw [if_pos hz, if_neg (by omega), if_neg (by omega)] at h0 h9
    rw [h9, show Snext S (10 * z) = S (10 * z) from h0]
  · intro k hk
    rw [e311] at hk
    have h9 := hc k 9 (by omega) (by omega)
    rw [if_pos hk, if_neg (by omega), if_neg (by omega)] at h9
    rw [h9, hi 313 (by omega)]
    exact hI.pt hk
  · rw [hi 313 (by omega)]
    exact hI.eb
  · exact IW.no (by omega)
def chg (S : Nat → Nat) (q : Nat) : Bool := decide (best S q ≠ S (10 * q + 1))
theorem Sn_best {j : Nat} : best (Sn S j) j = best S j := by
  unfold best
  rw [Sn_hi (t := 10 * j + 1) (by omega), Sn_hi (t := 10 * j + 5) (by omega), Sn_hi (t := 10 * j + 7) (by omega)]
theorem C_next15 {i : Nat} (hB : WB S) : ∀ (d fu : Nat) (w : gWd) (j : Nat), j + d = S 311 → d < fu → CV (w i) (Sn S j) →
    ∃ w', F_X1_beginNextEvent_15 fu w i (nI (fb_ct (chg S) j)) (nI j) = some (nI (fb_ct (chg S) (S 311)), w') ∧ agB i w w' ∧ CV (w' i) (Snext S) ∧ RV (w' i) (Snext S) := by
  have hN := hB.1
  intro d
  induction d with
  | zero =>
    intro fu w j hjd hfu hC
    obtain ⟨fu, rfl⟩ : ∃ f, fu = f + 1 := ⟨fu - 1, by omega⟩
    have ej : j = S 311 := by omega
    subst ej
    have e311 : Sn S (S 311) 311 = S 311 := Sn_hi (by omega)
    have hC1 : CV (up3 w i 0 5 (nI 0) i) (upN (Sn S (S 311)) 312 0) := hC.up0 (by rw [e311]; exact hN) (by omega)
    have hC2 : CV (up3 (up3 w i 0 5 (nI 0)) i 0 6 0 i) (upN (Sn S (S 311)) 312 0) := hC1.cg (fun r c hr hc => by rw [up3_n (by omega)])
    have hC3 : CV (up3 (up3 (up3 w i 0 5 (nI 0)) i 0 6 0) i 0 4 (nI 0) i) (upN (upN (Sn S (S 311)) 312 0) 310 0) := hC2.up0 (by rw [upN_n (by omega), e311]; exact hN) (by omega)
    have hl : upN (upN (Sn S (S 311)) 312 0) 310 0 311 ≤ 30 := by rw [upN_n (by omega), upN_n (by omega), e311]; exact hN
    have hC4 := (((hC3.hi (hl) (t := 306) (v := 0) (by omega)).hi (by rw [upN_n (by omega)]; exact hl) (t := 307) (v := 0) (by omega)).hi (by rw [upN_n (by omega), upN_n (by omega)]; exact hl) (t := 308) (v := 0) (by omega)).hi (by rw [upN_n (by omega), upN_n (by omega), upN_n (by omega)]; exact hl) (t := 309) (v := 0) (by omega)
    have hC5 : CV (up3 (up3 (up3 w i 0 5 (nI 0)) i 0 6 0) i 0 4 (nI 0) i) (Snext S) := hC4.cgS (by rw [upN_n (by omega), upN_n (by omega), upN_n (by omega), upN_n (by omega)]; exact hl) (fun t ht => by
      by_cases h : (306 ≤ t ∧ t < 310) ∨ t = 310 ∨ t = 312
      · rw [Snext_0 h]
        unfold upN
        by_cases a : t = 309
        · rw [if_pos a]
        · rw [if_neg a]
          by_cases a : t = 308
          · rw [if_pos a]
          · rw [if_neg a]
            by_cases a : t = 307
            · rw [if_pos a]
            · rw [if_neg a]
              by_cases a : t = 306
              · rw [if_pos a]
              · rw [if_neg a]
                by_cases a : t = 310
                · rw [if_pos a]
                · rw [if_neg a, if_pos (by omega)]
      · rw [Snext_n (by omega), upN_n (by omega), upN_n (by omega), upN_n (by omega), upN_n (by omega), upN_n (by omega), upN_n (by omega)])
    refine ⟨_, ?_, (agB.up _ _ _).tr ((agB.up _ _ _).tr (agB.up _ _ _)), hC5, ?_⟩
    · rw [F_X1_beginNextEvent_15_s, hC.sz, e311, iLe (by omega) (by omega), if_pos (Nat.le_refl _)]
      rfl
    · refine ⟨0, fun _ => 0, by omega, ?_, fun p hp => absurd hp (Nat.not_lt_zero p), fun p _ hp => Snext_0 (by omega), fun p p' hp => absurd hp (Nat.not_lt_zero p), fun _ => rfl⟩
      rw [up3_n (by omega), up3_s]
      rfl
  | succ d ih =>
    intro fu w j hjd hfu hC
    obtain ⟨fu, rfl⟩ : ∃ f, fu = f + 1 := ⟨fu - 1, by omega⟩
    have hj : j < S 311 := by omega
    have hT := Sn_WB hB (j := j) (by omega)
    have e311 : Sn S j 311 = S 311 := Sn_hi (by omega)
    have hj' : j < Sn S j 311 := by rw [e311]; exact hj
    have hb := best_le hB (k := j) (by omega)
    have he := (hB.k (k := j) (by omega)).2.1
    have h54 : ∀ (x : Int32) (u : gWd), CV (u i) (upN (Sn S j) (10 * j + 1) (best S j)) → agB i w u → x = nI (fb_ct (chg S) (j + 1)) → ∃ w', F_X1_beginNextEvent_54 (F_X1_beginNextEvent_15 fu) u i x (nI j) i j = some (nI (fb_ct (chg S) (S 311)), w') ∧ agB i w w' ∧ CV (w' i) (Snext S) ∧ RV (w' i) (Snext S) := by
      intro x u hu hag hx
      have g := ((((((hu.upk (k := j) (a := 2) (v := 0) (x := 0) (by omega) (by omega) rfl).upk (k := j) (a := 8) (v := 0) (x := 0) (by omega) (by omega) rfl).upk (k := j) (a := 3) (v := 0) (x := -1) (by omega) (by omega) rfl).upk (k := j) (a := 4) (v := 0) (x := 0) (by omega) (by omega) rfl).upk (k := j) (a := 5) (v := 0) (x := -1) (by omega) (by omega) rfl).upk (k := j) (a := 6) (v := 0) (x := 0) (by omega) (by omega) rfl).upk (k := j) (a := 7) (v := 0) (x := -1) (by omega) (by omega) rfl
      have g2 := g.cgS (S' := Sn S (j + 1)) (by rw [upN_n (by omega), upN_n (by omega), upN_n (by omega), upN_n (by omega), upN_n (by omega), upN_n (by omega), upN_n (by omega), upN_n (by omega), e311]; exact hN) (fun t ht => by
        rw [Sn_st]
        unfold upN
        by_cases h1 : t = 10 * j + 1
        · rw [if_pos h1, if_neg (by omega), if_neg (by omega), if_neg (by omega), if_neg (by omega), if_neg (by omega), if_neg (by omega), if_neg (by omega), if_pos h1]
        · rw [if_neg h1]
          by_cases h2 : 10 * j + 2 ≤ t ∧ t < 10 * j + 9
          · rw [if_pos h2]
            by_cases a : t = 10 * j + 7
            · rw [if_pos a]
            · rw [if_neg a]
              by_cases a : t = 10 * j + 6
              · rw [if_pos a]
              · rw [if_neg a]
                by_cases a : t = 10 * j + 5
                · rw [if_pos a]
                · rw [if_neg a]
                  by_cases a : t = 10 * j + 4
                  · rw [if_pos a]
                  · rw [if_neg a]
                    by_cases a : t = 10 * j + 3
                    · rw [if_pos a]
                    · rw [if_neg a]
                      by_cases a : t = 10 * j + 8
                      · rw [if_pos a]
                      · rw [if_neg a, if_pos (by omega)]
          · rw [if_neg h2, if_neg (by omega), if_neg (by omega), if_neg (by omega), if_neg (by omega), if_neg (by omega), if_neg (by omega), if_neg (by omega), if_neg h1])
      obtain ⟨w', f1, f2, f3, f4⟩ := ih fu _ (j + 1) (by omega) (by omega) g2
      refine ⟨w', ?_, (hag.tr ((agB.up _ _ _).tr ((agB.up _ _ _).tr ((agB.up _ _ _).tr ((agB.up _ _ _).tr ((agB.up _ _ _).tr ((agB.up _ _ _).tr (agB.up _ _ _)))))))).tr f2, f3, f4⟩
      rw [hx]
      unfold F_X1_beginNextEvent_54
      show gP (some (up3 (up3 (up3 (up3 (up3 (up3 (up3 u i (4 + j) 3 0) i (4 + j) 9 0) i (4 + j) 4 (-1)) i (4 + j) 5 0) i (4 + j) 6 (-1)) i (4 + j) 7 0) i (4 + j) 8 (-1))) _ = _
      rw [gP_s, gS_e, nI_1]
      exact f1
    rw [F_X1_beginNextEvent_15_s, hC.sz, e311, iLe (by omega) (by omega), if_neg (by omega), gB_n _ (by omega) (by omega), C_best hC hT hj', gP_s, Sn_best, hC.f2 hj', Sn_hi (t := 10 * j + 1) (by omega), iEq (by omega) (by omega)]
    by_cases e : best S j = S (10 * j + 1)
    · rw [if_pos e]
      refine h54 _ w ?_ (agB.rf _ _) ?_
      · refine hC.cgS (by rw [e311]; exact hN) (fun t ht => ?_)
        unfold upN
        by_cases a : t = 10 * j + 1
        · rw [if_pos a, a, Sn_hi (by omega), e]
        · rw [if_neg a]
      · rw [fb_ct_succ, if_neg (by simp [chg, e]), Nat.add_zero]
    · rw [if_neg e, gS_e, gS_e]
      refine h54 _ _ (hC.upk (k := j) (a := 1) (by omega) (by omega) rfl) (agB.up _ _ _) ?_
      rw [fb_ct_succ, if_pos (by simp [chg, e]), nI_1]
end NEXT
