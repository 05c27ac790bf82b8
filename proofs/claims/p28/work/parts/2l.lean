/-! level 2: finals, its order -/
section FIN
variable {S : Nat → Nat} {EB : Nat}
theorem Sfin_n (hB : WB S) {t : Nat} (h : (t < 300 ∧ t % 10 ≠ 6) ∨ (300 ≤ t ∧ t ≠ 310 ∧ ¬ (306 ≤ t ∧ t < 310))) : Sfin S t = S t := by
  have hN := hB.1
  unfold Sfin
  rw [upN_n (by omega)]
  exact Sf_n hB (by omega) (by omega)
theorem Sfin_6 (hB : WB S) {q : Nat} (hq : q < 30) : Sfin S (10 * q + 6) = if q < S 311 ∧ finP S q = true then laneN S (trank S q) else S (10 * q + 6) := by
  have hN := hB.1
  unfold Sfin
  rw [upN_n (by omega)]
  exact Sf_6 hB hq (by omega)
theorem Sfin_IV (hI : IV EB S) (h1 : S 310 = 1) : IV EB (Sfin S) := by
  have hB := hI.wb
  have hN := hB.1
  have hT := Sf_WB hB (j := S 311) (by omega)
  have e311 : Sfin S 311 = S 311 := Sfin_n hB (by omega)
  have e310 : Sfin S 310 = 2 := upN_s _ _ _
  refine ⟨?_, ?_, ?_, ?_, ?_, ?_, ?_, ?_⟩
  · obtain ⟨b1, b2, b3, b4, b5, b6, b7, b8, b9, b10⟩ := hT
    unfold Sfin
    exact ⟨by rw [upN_n (by omega)]; exact b1, by rw [upN_s]; omega, by rw [upN_n (by omega)]; exact b3, by rw [upN_n (by omega)]; exact b4, by rw [upN_n (by omega)]; exact b5, by rw [upN_n (by omega)]; exact b6, by rw [upN_n (by omega)]; exact b7, by rw [upN_n (by omega)]; exact b8, fun p hp => by rw [upN_n (by omega)]; exact b9 p hp, fun k hk a ha => by rw [upN_n (by omega)]; exact b10 k hk a ha⟩
  · intro k h1 h2 a h3 h4
    rw [e311] at h1
    by_cases e : a = 6
    · subst e
      rw [Sfin_6 hB h2, if_neg (fun z => by omega)]
      exact hI.out h1 h2 h3 h4
    · rw [Sfin_n hB (by omega)]
      exact hI.out h1 h2 h3 h4
  · intro h; omega
  · intro h; omega
  · intro _ k hk
    rw [e311] at hk
    have g := hI.s1 h1 k hk
    rw [Sfin_n hB (t := 10 * k + 8) (by omega), Sfin_n hB (t := 10 * k + 2) (by omega), Sfin_6 hB (by omega)]
    refine ⟨fun z => ?_, g.2.2.2⟩
    by_cases e : k < S 311 ∧ finP S k = true
    · have h2 := of_decide_eq_true (finP_t.mp e.2).1
      have h3 := (hB.k (k := k) (by omega)).2.2.1
      by_cases y : S (10 * k + 2) = 1
      · have := (g.1 y).2; omega
      · omega
    · rw [if_neg e] at z
      exact absurd g.2.1 z
  · intro q hq
    rw [Sfin_n hB (by omega), hI.cl hq, e311]
    unfold clubSum
    exact fb_sm_cong (fun z hz => by rw [Sfin_n hB (t := 10 * z) (by omega), Sfin_n hB (t := 10 * z + 9) (by omega)])
  · intro k hk
    rw [e311] at hk
    rw [Sfin_n hB (by omega), Sfin_n hB (by omega)]
    exact hI.pt hk
  · rw [Sfin_n hB (by omega)]
    refine ⟨hI.eb, fun _ => ?_⟩
    rw [e311, Sfin_n hB (t := 317) (by omega)]
    have z6 : ∀ k, k < S 311 → S (10 * k + 6) = 0 ∧ S (10 * k + 7) = 0 := fun k hk => ⟨(hI.s1 h1 k hk).2.1, (hI.s1 h1 k hk).2.2.1⟩
    refine ⟨?_, fun k hk z => ?_⟩
    · have e1 : fb_ct (inF (Sfin S)) (S 311) ≤ fb_ct (finP S) (S 311) := fb_ct_sub (fun k hk hp => by
        have hp' := of_decide_eq_true hp
        rw [Sfin_6 hB (by omega)] at hp'
        by_cases y : k < S 311 ∧ finP S k = true
        · exact y.2
        · rw [if_neg y] at hp'; exact absurd (z6 k hk).1 hp')
      have e2 : fb_ct (finP S) (S 311) = min (S 317) (fb_ct (TN S) (S 311)) := by
        have := ct_win 0 (S 317) (fb_ct (TN S) (S 311))
        rw [Nat.sub_zero] at this
        rw [← this, ← ct_rank (U := TN S) (e := eT S) (N := S 311) (fun a b ha hb h => eT_inj hB (by omega) (by omega) h)]
        exact fb_ct_cong (fun q hq => by unfold finP; rw [trank_rk hB (by omega)]; simp)
      omega
    · rw [Sfin_n hB (by omega)] at z
      exact absurd (z6 k hk).2 z
theorem Sfin_RV (hI : IV EB S) (h1 : S 310 = 1) {c c' : Nat → Nat → Int32} (hR : RV c S) (h6 : c' 0 6 = nI (fb_ct (rsvP S) (S 311))) (h3 : ∀ q, q < S 311 → rsvP S q = true → c' 3 (trank S q - S 317) = nI q) : RV c' (Sfin S) := by
  have hB := hI.wb
  have hN := hB.1
  have h9 := hB.2.2.2.2.2.2.2.1
  have hz : ∀ p, p < 4 → S (306 + p) = 0 := by
    obtain ⟨n, q, a1, a2, a3, a4, a5, a6⟩ := hR
    have := a6 (by omega)
    exact fun p hp => a4 p (by omega) hp
  have hct := rsvP_ct hB
  have e311 : Sfin S 311 = S 311 := Sfin_n hB (by omega)
  have er : ∀ p, Sfin S (306 + p) = Sf S (S 311) (306 + p) ∨ ¬ p < 4 := fun p => by
    by_cases z : p < 4
    · left; unfold Sfin; rw [upN_n (by omega)]
    · right; exact z
  have hrow : ∀ p, p < fb_ct (rsvP S) (S 311) → ∃ q, q < S 311 ∧ rsvP S q = true ∧ trank S q = S 317 + p ∧ Sfin S (306 + p) = q + 1 := by
    intro p hp
    rcases er p with e | e
    · rcases Sf_r hB (p := p) (by omega) (j := S 311) (by omega) with ⟨a, b⟩ | ⟨q, a, b, d, f⟩
      · exfalso
        obtain ⟨q, g1, g2, g3⟩ := trank_surj hB (x := S 317 + p) (by omega)
        exact b q g1 (rsvP_t.mpr ⟨g2, by omega, by omega⟩) g3
      · exact ⟨q, a, b, d, e.trans f⟩
    · omega
  refine ⟨fb_ct (rsvP S) (S 311), fun p => Sfin S (306 + p) - 1, by omega, h6, fun p hp => ?_, fun p a b => ?_, fun p p' hp hp' h => ?_, fun z => ?_⟩
  · obtain ⟨q, a1, a2, a3, a4⟩ := hrow p hp
    have eq1 : Sfin S (306 + p) - 1 = q := by omega
    show c' 3 p = nI (Sfin S (306 + p) - 1) ∧ Sfin S (306 + p) - 1 < Sfin S 311 ∧ (Sfin S (306 + p) = 0 → Sfin S (10 * (Sfin S (306 + p) - 1) + 6) ≠ 0 ∨ Sfin S (10 * (Sfin S (306 + p) - 1) + 2) = 1) ∧ (Sfin S (306 + p) ≠ 0 → Sfin S (306 + p) = Sfin S (306 + p) - 1 + 1 ∧ Sfin S (10 * (Sfin S (306 + p) - 1) + 6) = 0)
    rw [eq1, e311]
    have h3' := h3 q a1 a2
    rw [show trank S q - S 317 = p by omega] at h3'
    refine ⟨h3', a1, fun y => by omega, fun _ => ⟨a4, ?_⟩⟩
    have hq6 := (hI.s1 h1 q a1).2.1
    rw [Sfin_6 hB (by omega), if_neg (fun y => by have := (finP_t.mp y.2).2; omega)]
    exact hq6
  · rcases er p with e | e
    · rw [e]
      rcases Sf_r hB (p := p) b (j := S 311) (by omega) with ⟨x, y⟩ | ⟨q, x, y, d, f⟩
      · rw [x]; exact hz p b
      · exfalso
        have h5 := rsvP_t.mp y
        have := trank_n hB x h5.1
        omega
    · exact absurd b e
  · obtain ⟨q, a1, a2, a3, a4⟩ := hrow p hp
    obtain ⟨q', b1, b2, b3, b4⟩ := hrow p' hp'
    have h' : Sfin S (306 + p) - 1 = Sfin S (306 + p') - 1 := h
    have : q = q' := by omega
    subst this
    omega
  · have : Sfin S 310 = 2 := upN_s _ _ _
    omega
end FIN
