/-! level 2: the reserves, who scratches -/
def rsv (S : Nat → Nat) (p : Nat) : Bool := decide (S (306 + p) ≠ 0 ∧ S (10 * (S (306 + p) - 1) + 2) = 0)
theorem WB.r {S : Nat → Nat} (h : WB S) {p : Nat} (hp : p < 4) : S (306 + p) ≤ 30 := h.2.2.2.2.2.2.2.2.1 p hp
theorem C_canBe {w : gWd} {S : Nat → Nat} {i k : Nat} (hC : CV (w i) S) (hB : WB S) (hk : k < S 311) : F_X5_canBeCalled w i (nI k) = some (nI (if S (10 * k + 2) = 0 ∧ S (10 * k + 6) = 0 then 1 else 0)) := by
  have hN := hB.1
  have h := hB.k (k := k) (by omega)
  unfold F_X5_canBeCalled F_X5_canBeCalled_36
  rw [C_hasN hC hB hk, gP_s, if_neg (by decide), gB_n _ (by omega) (by omega), gB_n _ (by omega) (by omega), hC.f3 hk, hC.f7 hk, iE0 (by omega), iE0 (by omega)]
  by_cases e : S (10 * k + 2) = 0
  · rw [if_pos e]
    by_cases e2 : S (10 * k + 6) = 0
    · rw [if_pos e2, if_pos ⟨e, e2⟩]; rfl
    · rw [if_neg e2, if_neg (fun z => e2 z.2)]; rfl
  · rw [if_neg e, if_neg (fun z => e z.1)]; rfl
theorem RV.can {w : gWd} {S : Nat → Nat} {i : Nat} (hC : CV (w i) S) (hR : RV (w i) S) (hB : WB S) : ∃ n, n ≤ 4 ∧ w i 0 6 = nI n ∧ (∀ p, n ≤ p → p < 4 → rsv S p = false) ∧ ∀ p, p < n → F_X5_canBeCalled w i (w i 3 p) = some (nI (if rsv S p = true then 1 else 0)) ∧ (rsv S p = true → w i 3 p = nI (S (306 + p) - 1)) := by
  obtain ⟨n, q, h1, h2, h4, h5, h7, h8⟩ := hR
  refine ⟨n, h1, h2, fun p a b => by simp [rsv, h5 p a b], fun p hp => ?_⟩
  obtain ⟨a1, a2, a3, a4⟩ := h4 p hp
  rw [a1, C_canBe hC hB a2]
  by_cases e : S (306 + p) = 0
  · have hf : rsv S p = false := by simp [rsv, e]
    have := a3 e
    rw [hf, if_neg (by omega)]
    exact ⟨rfl, fun z => absurd z (by decide)⟩
  · obtain ⟨b1, b2⟩ := a4 e
    have hq : S (306 + p) - 1 = q p := by omega
    have hf : rsv S p = decide (S (10 * q p + 2) = 0) := by simp [rsv, e, hq]
    rw [hf, hq]
    by_cases e2 : S (10 * q p + 2) = 0
    · rw [if_pos ⟨e2, b2⟩, if_pos (by simp [e2])]; exact ⟨rfl, fun _ => rfl⟩
    · rw [if_neg (fun z => e2 z.1), if_neg (by simp [e2])]; exact ⟨rfl, fun _ => rfl⟩
/-- the free reserve before whom r are free -/
theorem C_free {w : gWd} {S : Nat → Nat} {i r : Nat} (hC : CV (w i) S) (hR : RV (w i) S) (hB : WB S) (hr : r < 2 ^ 31) : (∀ p, p < 4 → rsv S p = true → fb_ct (rsv S) p = r → F_X5_freeReserve w i (nI r) = some (nI (S (306 + p) - 1))) ∧ (fb_ct (rsv S) 4 ≤ r → F_X5_freeReserve w i (nI r) = some (-1000004)) := by
  obtain ⟨n, hn, h6, hz, hp⟩ := RV.can hC hR hB
  have hend : fb_ct (rsv S) 4 = fb_ct (rsv S) n := by
    have := fb_ct_split (rsv S) n (4 - n)
    rw [show n + (4 - n) = 4 by omega] at this
    rw [this, fb_ct_zero.mpr (fun k hk => hz (n + k) (by omega) (by omega)), Nat.add_zero]
  have key : (∃ p, p < n ∧ rsv S p = true ∧ fb_ct (rsv S) p = r ∧ F_X5_freeReserve w i (nI r) = some (nI (S (306 + p) - 1))) ∨ (fb_ct (rsv S) n ≤ r ∧ F_X5_freeReserve w i (nI r) = some (-1000004)) := by
    unfold F_X5_freeReserve
    refine loopI (F := fun fu (acc : Nat) j => F_X5_freeReserve_4 fu w i (nI r) (nI acc) (nI j)) n (fun j acc => acc = fb_ct (rsv S) j ∧ acc ≤ r) (fun o => (∃ p, p < n ∧ rsv S p = true ∧ fb_ct (rsv S) p = r ∧ o = some (nI (S (306 + p) - 1))) ∨ (fb_ct (rsv S) n ≤ r ∧ o = some (-1000004))) ?_ ?_ gFU 0 0 (by omega) (gFU_lt (by omega)) ⟨rfl, by omega⟩
    · intro fu acc hI
      right
      refine ⟨by omega, ?_⟩
      show F_X5_freeReserve_4 (fu + 1) w i (nI r) (nI acc) (nI n) = _
      rw [F_X5_freeReserve_4_s, h6, iLe (by omega) (by omega), if_pos (Nat.le_refl _)]
    · intro fu acc j hj hI
      have e0 : F_X5_freeReserve_4 (fu + 1) w i (nI r) (nI acc) (nI j) = if rsv S j = true then (if acc = r then some (w i 3 j) else F_X5_freeReserve_4 fu w i (nI r) (nI (acc + 1)) (nI (j + 1))) else F_X5_freeReserve_4 fu w i (nI r) (nI acc) (nI (j + 1)) := by
        rw [F_X5_freeReserve_4_s, h6, iLe (by omega) (by omega), if_neg (by omega), show (4 : Int32) = nI 4 from rfl, iLe (by omega) (by omega), if_neg (by omega), gB_n _ (by omega) (by omega), (hp j hj).1, gP_s, gB_n _ (by omega) (by omega), iEq (by omega) (by omega)]
        by_cases e : rsv S j = true
        · rw [if_pos e, iE0 (by omega), if_neg (by omega), if_pos e]
          simp only [gS_e, nI_1]
        · rw [if_neg e, iE0 (by omega), if_pos rfl, if_neg e]
          simp only [gS_e, nI_1]
      show (_ ∨ ∃ st', _ ∧ F_X5_freeReserve_4 (fu + 1) w i (nI r) (nI acc) (nI j) = F_X5_freeReserve_4 fu w i (nI r) (nI st') (nI (j + 1)))
      by_cases e : rsv S j = true
      · by_cases e2 : acc = r
        · left
          left
          refine ⟨j, hj, e, by omega, ?_⟩
          show F_X5_freeReserve_4 (fu + 1) w i (nI r) (nI acc) (nI j) = _
          rw [e0, if_pos e, if_pos e2, (hp j hj).2 e]
        · right
          refine ⟨acc + 1, ⟨by rw [fb_ct_succ, if_pos e]; omega, by omega⟩, ?_⟩
          rw [e0, if_pos e, if_neg e2]
      · right
        refine ⟨acc, ⟨by rw [fb_ct_succ, if_neg e]; omega, by omega⟩, ?_⟩
        rw [e0, if_neg e]
  refine ⟨fun p hp4 hf hc => ?_, fun hc => ?_⟩
  · rcases key with ⟨p', h1, h2, h3, h4⟩ | ⟨h1, h2⟩
    · have : p' = p := fb_ct_kth_one h2 hf (by omega)
      rw [h4, this]
    · exfalso
      have a1 : p < n := by
        rcases Nat.lt_or_ge p n with z | z
        · exact z
        · rw [hz p z hp4] at hf; cases hf
      have := fb_ct_mono (rsv S) (m := p + 1) (n := n) (by omega)
      rw [fb_ct_succ, if_pos hf] at this
      omega
  · rcases key with ⟨p', h1, h2, h3, h4⟩ | ⟨h1, h2⟩
    · exfalso
      have := fb_ct_mono (rsv S) (m := p' + 1) (n := n) (by omega)
      rw [fb_ct_succ, if_pos h2] at this
      omega
    · exact h2
theorem IV_cell {EB : Nat} {S : Nat → Nat} (hI : IV EB S) {k a v : Nat} (hk : k < S 311) (ha : 2 ≤ a ∧ a < 9) (hv : okv a v)
  (h0 : S 310 = 0 → a = 2 ∨ v = 0)
  (h1 : S 310 = 1 → (a = 2 → v = 1 → S (10 * k + 3) = 0 ∧ S (10 * k + 5) = 0) ∧ (a = 3 ∨ a = 5 ∨ a = 6 ∨ a = 7 ∨ a = 8 → v = 0))
  (h2 : S 310 = 2 → (a = 2 → S (10 * k + 6) ≠ 0 → v = 0) ∧ (a = 6 → v ≠ 0 → S (10 * k + 2) = 0) ∧ (a = 8 → v = 0))
  (h3 : S 310 = 2 → (a = 6 → (v ≠ 0 → fb_ct (inF S) (S 311) + 1 ≤ S 317) ∧ (v = 0 → S (10 * k + 7) = 0)) ∧ (a = 7 → v ≠ 0 → S (10 * k + 6) ≠ 0)) : IV EB (upN S (10 * k + a) v) := by
  have hN := hI.wb.1
  have hi : ∀ q, 300 ≤ q → upN S (10 * k + a) v q = S q := fun q hq => upN_n (by omega)
  have hq : ∀ q b, b < 10 → (q ≠ k ∨ b ≠ a) → upN S (10 * k + a) v (10 * q + b) = S (10 * q + b) := fun q b h3 h4 => upN_n (by omega)
  have hq0 : ∀ q, upN S (10 * k + a) v (10 * q) = S (10 * q) := fun q => hq q 0 (by omega) (by omega)
  have hs : upN S (10 * k + a) v (10 * k + a) = v := upN_s _ _ _
  refine ⟨hI.wb.upk (by omega) (by omega) hv, ?_, ?_, ?_, ?_, ?_, ?_, ?_⟩
  · intro q b1 b2 b b3 b4
    rw [hi 311 (by omega)] at b1
    rw [hq q b b4 (by omega)]
    exact hI.out b1 b2 b3 b4
  · intro h
    rw [hi 310 (by omega)] at h
    rw [hi 312 (by omega), hi 311 (by omega)]
    refine ⟨(hI.s0 h).1, fun q hq1 b b3 b4 => ?_⟩
    by_cases e : q = k ∧ b = a
    · obtain ⟨rfl, rfl⟩ := e
      rw [hs]
      have := h0 h
      omega
    · rw [hq q b (by omega) (by omega)]
      exact (hI.s0 h).2 q hq1 b b3 b4
  · intro h q hq1
    rw [hi 310 (by omega)] at h
    rw [hi 311 (by omega)] at hq1
    have g := hI.s1 h q hq1
    obtain ⟨g1, g2⟩ := h1 h
    by_cases e : q = k
    · subst e
      refine ⟨fun hg => ?_, ?_, ?_, ?_⟩
      · by_cases a2 : a = 2
        · subst a2
          rw [hs] at hg
          rw [hq q 3 (by omega) (by omega), hq q 5 (by omega) (by omega)]
          exact g1 rfl hg
        · rw [hq q 2 (by omega) (by omega)] at hg
          have := g.1 hg
          refine ⟨?_, ?_⟩
          · by_cases a3 : a = 3
            · subst a3; rw [hs]; exact g2 (by omega)
            · rw [hq q 3 (by omega) (by omega)]; exact this.1
          · by_cases a3 : a = 5
            · subst a3; rw [hs]; exact g2 (by omega)
            · rw [hq q 5 (by omega) (by omega)]; exact this.2
      · by_cases a3 : a = 6
        · subst a3; rw [hs]; exact g2 (by omega)
        · rw [hq q 6 (by omega) (by omega)]; exact g.2.1
      · by_cases a3 : a = 7
        · subst a3; rw [hs]; exact g2 (by omega)
        · rw [hq q 7 (by omega) (by omega)]; exact g.2.2.1
      · by_cases a3 : a = 8
        · subst a3; rw [hs]; exact g2 (by omega)
        · rw [hq q 8 (by omega) (by omega)]; exact g.2.2.2
    · rw [hq q 2 (by omega) (by omega), hq q 3 (by omega) (by omega), hq q 5 (by omega) (by omega), hq q 6 (by omega) (by omega), hq q 7 (by omega) (by omega), hq q 8 (by omega) (by omega)]
      exact g
  · intro h q hq1
    rw [hi 310 (by omega)] at h
    rw [hi 311 (by omega)] at hq1
    have g := hI.s2 h q hq1
    obtain ⟨g1, g2, g3⟩ := h2 h
    by_cases e : q = k
    · subst e
      refine ⟨fun hg => ?_, ?_⟩
      · by_cases a2 : a = 2
        · subst a2
          rw [hq q 6 (by omega) (by omega)] at hg
          rw [hs]
          exact g1 rfl hg
        · rw [hq q 2 (by omega) (by omega)]
          by_cases a6 : a = 6
          · subst a6; rw [hs] at hg; exact g2 rfl hg
          · rw [hq q 6 (by omega) (by omega)] at hg; exact g.1 hg
      · by_cases a8 : a = 8
        · subst a8; rw [hs]; exact g3 rfl
        · rw [hq q 8 (by omega) (by omega)]; exact g.2
    · rw [hq q 2 (by omega) (by omega), hq q 6 (by omega) (by omega), hq q 8 (by omega) (by omega)]
      exact g
  · intro q hq1
    rw [hi _ (by omega), hI.cl hq1, hi 311 (by omega)]
    unfold clubSum
    exact fb_sm_cong (fun z _ => by rw [hq0 z, hq z 9 (by omega) (by omega)])
  · intro q hq1
    rw [hi 311 (by omega)] at hq1
    rw [hq q 9 (by omega) (by omega), hi 313 (by omega)]
    exact hI.pt hq1
  · rw [hi 313 (by omega)]
    refine ⟨hI.eb, fun h => ?_⟩
    rw [hi 310 (by omega)] at h
    obtain ⟨x, y⟩ := hI.iw h
    obtain ⟨z6, z7⟩ := h3 h
    rw [hi 311 (by omega), hi 317 (by omega)]
    by_cases a6 : a = 6
    · subst a6
      obtain ⟨z6a, z6b⟩ := z6 rfl
      refine ⟨?_, fun q hq z => ?_⟩
      · have e := fb_ct_upd (inF S) (decide (v ≠ 0)) (i := k) (n := S 311) hk
        rw [fb_ct_cong (q := fun q => if q = k then decide (v ≠ 0) else inF S q) (fun q hq => by
          unfold inF
          by_cases e : q = k
          · subst e; rw [if_pos rfl, upN_s]
          · rw [if_neg e, upN_n (by omega)])]
        by_cases v0 : v = 0
        · subst v0
          have : decide ((0 : Nat) ≠ 0) = false := rfl
          rw [this] at e ⊢
          have e' : fb_ct (fun q => if q = k then false else inF S q) (S 311) + (if inF S k = true then 1 else 0) = fb_ct (inF S) (S 311) := e
          omega
        · have := z6a v0
          have e1 : decide (v ≠ 0) = true := decide_eq_true v0
          rw [e1] at e ⊢
          have e' : fb_ct (fun q => if q = k then true else inF S q) (S 311) + (if inF S k = true then 1 else 0) = fb_ct (inF S) (S 311) + 1 := e
          omega
      · rw [upN_n (by omega)] at z
        by_cases e : q = k
        · subst e
          rw [upN_s]
          intro v0
          exact z (z6b v0)
        · rw [upN_n (by omega)]; exact y q hq z
    · refine ⟨?_, fun q hq' z => ?_⟩
      · rw [fb_ct_cong (q := inF S) (fun q _ => by unfold inF; rw [hq q 6 (by omega) (by omega)])]; exact x
      · rw [hq q 6 (by omega) (by omega)]
        by_cases e : q = k ∧ a = 7
        · obtain ⟨rfl, rfl⟩ := e
          rw [upN_s] at z
          exact z7 rfl z
        · rw [hq q 7 (by omega) (by omega)] at z; exact y q hq' z
theorem IV_res {EB : Nat} {S : Nat → Nat} (hI : IV EB S) {p v : Nat} (hp : p < 4) (hv : v ≤ 30) : IV EB (upN S (306 + p) v) := by
  have hk : ∀ q a, q < 30 → a < 10 → upN S (306 + p) v (10 * q + a) = S (10 * q + a) := fun q a h1 h2 => upN_n (by omega)
  have hi : ∀ q, 310 ≤ q ∨ q < 306 → upN S (306 + p) v q = S q := fun q hq => upN_n (by omega)
  have h8 := hi 311 (by omega)
  obtain ⟨⟨b1, b2, b3, b4, b5, b6, b7, b8, b9, b10⟩, c2, c3, c4, c5, c6, c7, c8, c9⟩ := hI
  refine ⟨⟨by rw [h8]; exact b1, by rw [hi 310 (by omega)]; exact b2, by rw [hi 312 (by omega)]; exact b3, by rw [hi 314 (by omega)]; exact b4, by rw [hi 315 (by omega)]; exact b5, by rw [hi 317 (by omega)]; exact b6, by rw [hi 318 (by omega)]; exact b7, by rw [hi 319 (by omega)]; exact b8, fun q hq => ?_, fun q hq a ha => by rw [hk q a hq ha]; exact b10 q hq a ha⟩, ?_, ?_, ?_, ?_, ?_, ?_, ?_⟩
  · by_cases e : q = p
    · subst e; rw [upN_s]; exact hv
    · rw [upN_n (by omega)]; exact b9 q hq
  · intro q a1 a2 a a3 a4; rw [h8] at a1; rw [hk q a a2 a4]; exact c2 q a1 a2 a a3 a4
  · intro h; rw [hi 310 (by omega)] at h; rw [hi 312 (by omega), h8]; exact ⟨(c3 h).1, fun q hq a a3 a4 => by rw [hk q a (by omega) (by omega)]; exact (c3 h).2 q hq a a3 a4⟩
  · intro h q hq; rw [hi 310 (by omega)] at h; rw [h8] at hq; rw [hk q 2 (by omega) (by omega), hk q 3 (by omega) (by omega), hk q 5 (by omega) (by omega), hk q 6 (by omega) (by omega), hk q 7 (by omega) (by omega), hk q 8 (by omega) (by omega)]; exact c4 h q hq
  · intro h q hq; rw [hi 310 (by omega)] at h; rw [h8] at hq; rw [hk q 2 (by omega) (by omega), hk q 6 (by omega) (by omega), hk q 8 (by omega) (by omega)]; exact c5 h q hq
  · intro q hq; rw [hi _ (by omega), h8, c6 q hq]; unfold clubSum; exact fb_sm_cong (fun z hz => by rw [show upN S (306 + p) v (10 * z) = S (10 * z) from hk z 0 (by omega) (by omega), hk z 9 (by omega) (by omega)])
  · intro q hq; rw [h8] at hq; rw [hk q 9 (by omega) (by omega), hi 313 (by omega)]; exact c7 q hq
  · rw [hi 313 (by omega)]; exact ⟨c8, c9.cg (hi 310 (by omega)) h8 (hi 317 (by omega)) (fun q hq => hk q 6 (by omega) (by omega)) (fun q hq => hk q 7 (by omega) (by omega))⟩
