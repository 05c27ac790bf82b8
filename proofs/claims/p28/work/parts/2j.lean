/-! level 2: seats by the times -/
def eT (S : Nat → Nat) (q : Nat) : Nat := 40000 * S (10 * q + 5) + ek S q
theorem fastB_e {S : Nat → Nat} (hB : WB S) {a b : Nat} (ha : a < 30) (hb : b < 30) : fastB S a b = decide (eT S a < eT S b) := by
  have h1 := ek_lt hB ha
  have h2 := ek_lt hB hb
  unfold fastB eT
  by_cases e : 40000 * S (10 * a + 5) + ek S a < 40000 * S (10 * b + 5) + ek S b
  · rw [decide_eq_true e, decide_eq_true]; omega
  · rw [decide_eq_false e, decide_eq_false]; omega
theorem eT_inj {S : Nat → Nat} (hB : WB S) {a b : Nat} (ha : a < 30) (hb : b < 30) (h : eT S a = eT S b) : a = b := by
  have h1 := ek_lt hB ha
  have h2 := ek_lt hB hb
  unfold eT at h
  exact ek_inj (S := S) ha hb (by omega)
theorem trank_rk {S : Nat → Nat} (hB : WB S) {k : Nat} (hk : k < 30) : trank S k = rk (TN S) (eT S) (S 311) k := by
  have hN := hB.1
  unfold trank rk TN
  exact fb_ct_cong (fun q hq => by rw [fastB_e hB (by omega) hk])
theorem trank_cg {S S' : Nat → Nat} (h1 : ∀ q, q < 30 → S' (10 * q + 1) = S (10 * q + 1)) (h5 : ∀ q, q < 30 → S' (10 * q + 5) = S (10 * q + 5)) (hN : S' 311 = S 311) (h30 : S 311 ≤ 30) {k : Nat} (hk : k < 30) : trank S' k = trank S k := by
  unfold trank
  rw [hN]
  refine fb_ct_cong (fun q hq => ?_)
  unfold fastB
  rw [ek_cg (h1 q (by omega)), ek_cg (h1 k hk), h5 q (by omega), h5 k hk]
def rsvP (S : Nat → Nat) (q : Nat) : Bool := TN S q && decide (S 317 ≤ trank S q ∧ trank S q < S 317 + S 319)
def finP (S : Nat → Nat) (q : Nat) : Bool := TN S q && decide (trank S q < S 317)
def seat (S T : Nat → Nat) (j : Nat) : Nat → Nat := if finP S j = true then upN T (10 * j + 6) (laneN S (trank S j)) else if rsvP S j = true then upN T (306 + (trank S j - S 317)) (j + 1) else T
def Sf (S : Nat → Nat) : Nat → Nat → Nat
  | 0 => S
  | j + 1 => seat S (Sf S j) j
theorem rsvP_t {S : Nat → Nat} {q : Nat} : rsvP S q = true ↔ TN S q = true ∧ S 317 ≤ trank S q ∧ trank S q < S 317 + S 319 := by simp [rsvP]
theorem finP_t {S : Nat → Nat} {q : Nat} : finP S q = true ↔ TN S q = true ∧ trank S q < S 317 := by simp [finP]
section SEATS
variable {S : Nat → Nat}
theorem Sf_n (hB : WB S) {t : Nat} (h : (t < 300 ∧ t % 10 ≠ 6) ∨ (300 ≤ t ∧ ¬ (306 ≤ t ∧ t < 310))) : ∀ {j}, j ≤ 30 → Sf S j t = S t
  | 0, _ => rfl
  | j + 1, hj => by
    have h9 := hB.2.2.2.2.2.2.2.1
    show seat S (Sf S j) j t = S t
    unfold seat
    by_cases e : finP S j = true
    · rw [if_pos e, upN_n (by omega)]; exact Sf_n hB h (by omega)
    · rw [if_neg e]
      by_cases e2 : rsvP S j = true
      · have := rsvP_t.mp e2
        rw [if_pos e2, upN_n (by omega)]; exact Sf_n hB h (by omega)
      · rw [if_neg e2]; exact Sf_n hB h (by omega)
theorem Sf_6 (hB : WB S) {q : Nat} (hq : q < 30) : ∀ {j}, j ≤ 30 → Sf S j (10 * q + 6) = if q < j ∧ finP S q = true then laneN S (trank S q) else S (10 * q + 6)
  | 0, _ => by rw [if_neg (fun z => absurd z.1 (Nat.not_lt_zero q))]; rfl
  | j + 1, hj => by
    have h9 := hB.2.2.2.2.2.2.2.1
    have ih := Sf_6 hB hq (j := j) (by omega)
    have ih2 : q ≠ j → (if q < j ∧ finP S q = true then laneN S (trank S q) else S (10 * q + 6)) = if q < j + 1 ∧ finP S q = true then laneN S (trank S q) else S (10 * q + 6) := by
      intro hne
      by_cases z : q < j ∧ finP S q = true
      · rw [if_pos z, if_pos ⟨by omega, z.2⟩]
      · rw [if_neg z, if_neg (fun y => z ⟨by omega, y.2⟩)]
    show seat S (Sf S j) j (10 * q + 6) = _
    unfold seat
    by_cases e : finP S j = true
    · rw [if_pos e]
      by_cases ej : q = j
      · subst ej
        rw [upN_s, if_pos ⟨by omega, e⟩]
      · rw [upN_n (by omega), ih, ih2 ej]
    · rw [if_neg e]
      have ih3 : Sf S j (10 * q + 6) = if q < j + 1 ∧ finP S q = true then laneN S (trank S q) else S (10 * q + 6) := by
        by_cases ej : q = j
        · subst ej
          rw [ih, if_neg (fun z => by omega), if_neg (fun z => e z.2)]
        · rw [ih, ih2 ej]
      by_cases e2 : rsvP S j = true
      · have := rsvP_t.mp e2
        rw [if_pos e2, upN_n (by omega)]; exact ih3
      · rw [if_neg e2]; exact ih3
theorem Sf_r (hB : WB S) {p : Nat} (hp : p < 4) : ∀ {j}, j ≤ 30 → (Sf S j (306 + p) = S (306 + p) ∧ ∀ q, q < j → rsvP S q = true → trank S q ≠ S 317 + p) ∨ ∃ q, q < j ∧ rsvP S q = true ∧ trank S q = S 317 + p ∧ Sf S j (306 + p) = q + 1
  | 0, _ => Or.inl ⟨rfl, fun q hq => absurd hq (Nat.not_lt_zero q)⟩
  | j + 1, hj => by
    have ih := Sf_r hB hp (j := j) (by omega)
    have key : Sf S (j + 1) (306 + p) = Sf S j (306 + p) → (rsvP S j = true → trank S j ≠ S 317 + p) → (Sf S (j + 1) (306 + p) = S (306 + p) ∧ ∀ q, q < j + 1 → rsvP S q = true → trank S q ≠ S 317 + p) ∨ ∃ q, q < j + 1 ∧ rsvP S q = true ∧ trank S q = S 317 + p ∧ Sf S (j + 1) (306 + p) = q + 1 := by
      intro h1 h2
      rcases ih with ⟨a, b⟩ | ⟨q, a, b, c, d⟩
      · left
        refine ⟨h1.trans a, fun q hq hr => ?_⟩
        by_cases e : q = j
        · subst e; exact h2 hr
        · exact b q (by omega) hr
      · right
        exact ⟨q, by omega, b, c, h1.trans d⟩
    by_cases e : finP S j = true
    · have e1 : Sf S (j + 1) = upN (Sf S j) (10 * j + 6) (laneN S (trank S j)) := by show seat S (Sf S j) j = _; unfold seat; rw [if_pos e]
      have := finP_t.mp e
      exact key (by rw [e1, upN_n (by omega)]) (fun z => by have := rsvP_t.mp z; omega)
    · by_cases e2 : rsvP S j = true
      · have e1 : Sf S (j + 1) = upN (Sf S j) (306 + (trank S j - S 317)) (j + 1) := by show seat S (Sf S j) j = _; unfold seat; rw [if_neg e, if_pos e2]
        have hr := rsvP_t.mp e2
        by_cases ep : trank S j = S 317 + p
        · right
          refine ⟨j, by omega, e2, ep, ?_⟩
          rw [e1, show 306 + p = 306 + (trank S j - S 317) by omega, upN_s]
        · exact key (by rw [e1, upN_n (by omega)]) (fun _ => ep)
      · have e1 : Sf S (j + 1) = Sf S j := by show seat S (Sf S j) j = _; unfold seat; rw [if_neg e, if_neg e2]
        exact key (by rw [e1]) (fun z => absurd z e2)
theorem WB.res (h : WB S) {p v : Nat} (hp : p < 4) (hv : v ≤ 30) : WB (upN S (306 + p) v) := by
  obtain ⟨b1, b2, b3, b4, b5, b6, b7, b8, b9, b10⟩ := h
  have hi : ∀ q, 310 ≤ q ∨ q < 306 → upN S (306 + p) v q = S q := fun q hq => upN_n (by omega)
  refine ⟨by rw [hi 311 (by omega)]; exact b1, by rw [hi 310 (by omega)]; exact b2, by rw [hi 312 (by omega)]; exact b3, by rw [hi 314 (by omega)]; exact b4, by rw [hi 315 (by omega)]; exact b5, by rw [hi 317 (by omega)]; exact b6, by rw [hi 318 (by omega)]; exact b7, by rw [hi 319 (by omega)]; exact b8, fun q hq => ?_, fun q hq a ha => by rw [hi _ (by omega)]; exact b10 q hq a ha⟩
  by_cases e : q = p
  · subst e; rw [upN_s]; exact hv
  · rw [upN_n (by omega)]; exact b9 q hq
theorem okv6 {v : Nat} (h : v ≤ 10) : okv 6 v := by refine ⟨?_, ?_, ?_, ?_, ?_, ?_, ?_, ?_⟩ <;> omega
theorem Sf_WB (hB : WB S) : ∀ {j}, j ≤ 30 → WB (Sf S j)
  | 0, _ => hB
  | j + 1, hj => by
    have ih := Sf_WB hB (j := j) (by omega)
    have h9 := hB.2.2.2.2.2.2.2.1
    have h7 := hB.2.2.2.2.2.1
    show WB (seat S (Sf S j) j)
    unfold seat
    by_cases e : finP S j = true
    · have := (laneN_in hB (finP_t.mp e).2).2.1
      rw [if_pos e]
      exact ih.upk (by omega) (by omega) (okv6 (by omega))
    · rw [if_neg e]
      by_cases e2 : rsvP S j = true
      · have := rsvP_t.mp e2
        rw [if_pos e2]
        exact ih.res (by omega) (by omega)
      · rw [if_neg e2]; exact ih
theorem Sf_trank (hB : WB S) {j k : Nat} (hj : j ≤ 30) (hk : k < 30) : trank (Sf S j) k = trank S k := trank_cg (fun q _ => Sf_n hB (by omega) hj) (fun q _ => Sf_n hB (by omega) hj) (Sf_n hB (by omega) hj) hB.1 hk
end SEATS
theorem ct_win (a b : Nat) : ∀ m, fb_ct (fun x => decide (a ≤ x ∧ x < a + b)) m = min b (m - a)
  | 0 => by simp [fb_ct]
  | m + 1 => by
    rw [fb_ct_succ, ct_win a b m]
    by_cases e : a ≤ m ∧ m < a + b
    · rw [if_pos (by simp [e])]; omega
    · rw [if_neg (by simpa using e)]; omega
theorem rsvP_ct {S : Nat → Nat} (hB : WB S) : fb_ct (rsvP S) (S 311) = min (S 319) (fb_ct (TN S) (S 311) - S 317) := by
  have hN := hB.1
  rw [← ct_win, ← ct_rank (U := TN S) (e := eT S) (N := S 311) (fun a b ha hb h => eT_inj hB (by omega) (by omega) h)]
  exact fb_ct_cong (fun q hq => by unfold rsvP; rw [trank_rk hB (by omega)])
theorem trank_n {S : Nat → Nat} (hB : WB S) {q : Nat} (hq : q < S 311) (ht : TN S q = true) : trank S q < fb_ct (TN S) (S 311) := by
  have hN := hB.1
  rw [trank_rk hB (by omega)]
  exact rk_n _ _ _ hq ht
theorem trank_surj {S : Nat → Nat} (hB : WB S) {x : Nat} (hx : x < fb_ct (TN S) (S 311)) : ∃ q, q < S 311 ∧ TN S q = true ∧ trank S q = x := by
  have hN := hB.1
  obtain ⟨q, h1, h2, h3⟩ := rk_surj (U := TN S) (e := eT S) (N := S 311) (fun a b ha hb h => eT_inj hB (by omega) (by omega) h) hx
  exact ⟨q, h1, h2, by rw [trank_rk hB (by omega)]; exact h3⟩
theorem trank_inj {S : Nat → Nat} (hB : WB S) {a b : Nat} (ha : a < S 311) (hb : b < S 311) (h1 : TN S a = true) (h2 : TN S b = true) (h : trank S a = trank S b) : a = b := by
  have hN := hB.1
  rw [trank_rk hB (by omega), trank_rk hB (by omega)] at h
  exact rk_inj _ _ _ (fun a b ha hb h => eT_inj hB (by omega) (by omega) h) ha hb h1 h2 h
