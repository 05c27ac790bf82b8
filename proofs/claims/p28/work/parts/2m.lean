/-! level 2: places and points -/
theorem CV.hi {c : Nat → Nat → Int32} {S : Nat → Nat} (hC : CV c S) (hN : S 311 ≤ 30) {t v : Nat} (ht : 300 ≤ t ∧ t < 310) : CV c (upN S t v) := by
  have g : ∀ q, 310 ≤ q ∨ q < 300 → upN S t v q = S q := fun q hq => upN_n (by omega)
  refine ⟨?_, fun q hq b hb => ?_⟩
  · rw [g 311 (by omega), g 310 (by omega), g 312 (by omega), g 316 (by omega), g 313 (by omega), g 314 (by omega), g 315 (by omega), g 317 (by omega), g 318 (by omega), g 319 (by omega)]
    exact hC.1
  · rw [g 311 (by omega)] at hq
    rw [g _ (by omega)]
    exact hC.2 q hq b hb
theorem WB.cl {S : Nat → Nat} (h : WB S) {c v : Nat} (hc : c < 6) : WB (upN S (300 + c) v) := by
  obtain ⟨b1, b2, b3, b4, b5, b6, b7, b8, b9, b10⟩ := h
  have hi : ∀ q, 306 ≤ q ∨ q < 300 → upN S (300 + c) v q = S q := fun q hq => upN_n (by omega)
  exact ⟨by rw [hi 311 (by omega)]; exact b1, by rw [hi 310 (by omega)]; exact b2, by rw [hi 312 (by omega)]; exact b3, by rw [hi 314 (by omega)]; exact b4, by rw [hi 315 (by omega)]; exact b5, by rw [hi 317 (by omega)]; exact b6, by rw [hi 318 (by omega)]; exact b7, by rw [hi 319 (by omega)]; exact b8, fun q hq => by rw [hi (306 + q) (by omega)]; exact b9 q hq, fun q hq a ha => by rw [hi _ (by omega)]; exact b10 q hq a ha⟩
def tm (S : Nat → Nat) (q : Nat) : Bool := decide (1 < S (10 * q + 7))
def pl (S : Nat → Nat) (j : Nat) : Nat := fb_ct (fun q => tm S q && decide (S (10 * q + 7) < S (10 * j + 7))) (S 311) + 1
def sh (S : Nat → Nat) (j : Nat) : Nat := fb_ct (fun q => decide (S (10 * q + 7) = S (10 * j + 7))) (S 311)
def wo (L x : Nat) : Nat := L - x + 1 + if x = 1 then 1 else 0
def sumw (L a n : Nat) : Nat := fb_sm (fun i => wo L (a + i)) n
def ptS (S : Nat → Nat) (j : Nat) : Nat := 2 * sumw (S 317) (pl S j) (sh S j) / sh S j
theorem tm_t {S : Nat → Nat} {q : Nat} : tm S q = true ↔ 1 < S (10 * q + 7) := by simp [tm]
section PLACES
variable {S : Nat → Nat}
theorem pl_sh {j : Nat} (ht : tm S j = true) : pl S j - 1 + sh S j ≤ fb_ct (tm S) (S 311) := by
  have h1 := tm_t.mp ht
  have := fb_ct_or (p := fun q => tm S q && decide (S (10 * q + 7) < S (10 * j + 7))) (q := fun q => decide (S (10 * q + 7) = S (10 * j + 7))) (n := S 311) (fun k hk hp => by
    have a := hp.1
    have b := hp.2
    simp at a b
    omega)
  unfold pl sh
  rw [Nat.add_sub_cancel, ← this]
  refine fb_ct_sub (fun k hk hp => ?_)
  simp at hp
  rcases hp with hp | hp
  · exact hp.1
  · exact tm_t.mpr (by omega)
theorem sh_pos {j : Nat} (hj : j < S 311) : 1 ≤ sh S j := fb_ct_pos.mpr ⟨j, hj, by simp⟩
theorem pl_le {j : Nat} (hj : j < S 311) (ht : tm S j = true) : 1 ≤ pl S j ∧ pl S j ≤ S 311 := by
  have h1 := pl_sh ht
  have h2 := sh_pos hj
  have h3 := fb_ct_le (tm S) (S 311)
  have : 1 ≤ pl S j := by unfold pl; omega
  omega
theorem wo_le {L x : Nat} (h : 1 ≤ x) (hx : x ≤ L) : wo L x ≤ L + 1 := by unfold wo; split <;> omega
theorem sumw_le {L a n : Nat} (ha : 1 ≤ a) (h : a + n ≤ L + 1) : sumw L a n ≤ n * (L + 1) := fb_sm_bound (fun k hk => wo_le (by omega) (by omega))
theorem ptS_le {j : Nat} (hj : j < S 311) (ht : tm S j = true) (hc : fb_ct (tm S) (S 311) ≤ S 317) : ptS S j ≤ 2 * (S 317 + 1) := by
  have h1 := pl_sh ht
  have h2 := pl_le hj ht
  have h3 := sh_pos (S := S) hj
  have h4 := sumw_le (L := S 317) (a := pl S j) (n := sh S j) h2.1 (by omega)
  unfold ptS
  refine (Nat.div_le_iff_le_mul_add_pred h3).mpr ?_
  have : 2 * sumw (S 317) (pl S j) (sh S j) ≤ sh S j * (2 * (S 317 + 1)) := by
    rw [Nat.mul_left_comm]
    exact Nat.mul_le_mul_left 2 h4
  omega
end PLACES
def Se (S : Nat → Nat) : Nat → Nat → Nat
  | 0 => S
  | j + 1 => if tm S j = true then upN (upN (upN (Se S j) (10 * j + 8) (pl S j)) (10 * j + 9) (S (10 * j + 9) + ptS S j)) (300 + S (10 * j)) (Se S j (300 + S (10 * j)) + ptS S j) else Se S j
section SE
variable {S : Nat → Nat}
theorem Se_n (hB : WB S) {t : Nat} (h : (t < 300 ∧ t % 10 < 8) ∨ 306 ≤ t) : ∀ {j}, j ≤ 30 → Se S j t = S t
  | 0, _ => rfl
  | j + 1, hj => by
    have hc := (hB.k (k := j) (by omega)).1
    have ih := Se_n hB h (j := j) (by omega)
    show (if tm S j = true then _ else _ : Nat → Nat) t = S t
    by_cases e : tm S j = true
    · rw [if_pos e, upN_n (by omega), upN_n (by omega), upN_n (by omega)]; exact ih
    · rw [if_neg e]; exact ih
theorem Se_8 (hB : WB S) {q : Nat} (hq : q < 30) : ∀ {j}, j ≤ 30 → Se S j (10 * q + 8) = if q < j ∧ tm S q = true then pl S q else S (10 * q + 8)
  | 0, _ => by rw [if_neg (fun z => absurd z.1 (Nat.not_lt_zero q))]; rfl
  | j + 1, hj => by
    have hc := (hB.k (k := j) (by omega)).1
    have ih := Se_8 hB hq (j := j) (by omega)
    have ih2 : q ≠ j ∨ ¬ tm S q = true → (if q < j ∧ tm S q = true then pl S q else S (10 * q + 8)) = if q < j + 1 ∧ tm S q = true then pl S q else S (10 * q + 8) := by
      intro hne
      by_cases z : q < j ∧ tm S q = true
      · rw [if_pos z, if_pos ⟨by omega, z.2⟩]
      · rw [if_neg z, if_neg (fun y => z ⟨by rcases hne with n | n; omega; exact absurd y.2 n, y.2⟩)]
    show (if tm S j = true then _ else _ : Nat → Nat) _ = _
    by_cases e : tm S j = true
    · rw [if_pos e]
      by_cases ej : q = j
      · subst ej
        rw [upN_n (by omega), upN_n (by omega), upN_s, if_pos ⟨by omega, e⟩]
      · rw [upN_n (by omega), upN_n (by omega), upN_n (by omega), ih, ih2 (Or.inl ej)]
    · rw [if_neg e, ih]
      by_cases ej : q = j
      · subst ej; exact ih2 (Or.inr e)
      · exact ih2 (Or.inl ej)
theorem Se_9 (hB : WB S) {q : Nat} (hq : q < 30) : ∀ {j}, j ≤ 30 → Se S j (10 * q + 9) = if q < j ∧ tm S q = true then S (10 * q + 9) + ptS S q else S (10 * q + 9)
  | 0, _ => by rw [if_neg (fun z => absurd z.1 (Nat.not_lt_zero q))]; rfl
  | j + 1, hj => by
    have hc := (hB.k (k := j) (by omega)).1
    have ih := Se_9 hB hq (j := j) (by omega)
    have ih2 : q ≠ j ∨ ¬ tm S q = true → (if q < j ∧ tm S q = true then S (10 * q + 9) + ptS S q else S (10 * q + 9)) = if q < j + 1 ∧ tm S q = true then S (10 * q + 9) + ptS S q else S (10 * q + 9) := by
      intro hne
      by_cases z : q < j ∧ tm S q = true
      · rw [if_pos z, if_pos ⟨by omega, z.2⟩]
      · rw [if_neg z, if_neg (fun y => z ⟨by rcases hne with n | n; omega; exact absurd y.2 n, y.2⟩)]
    show (if tm S j = true then _ else _ : Nat → Nat) _ = _
    by_cases e : tm S j = true
    · rw [if_pos e]
      by_cases ej : q = j
      · subst ej
        rw [upN_n (by omega), upN_s, if_pos ⟨by omega, e⟩]
      · rw [upN_n (by omega), upN_n (by omega), upN_n (by omega), ih, ih2 (Or.inl ej)]
    · rw [if_neg e, ih]
      by_cases ej : q = j
      · subst ej; exact ih2 (Or.inr e)
      · exact ih2 (Or.inl ej)
theorem Se_cl (hB : WB S) (hcl : ∀ q, q < 6 → S (300 + q) = clubSum S q (S 311)) {q : Nat} (hq : q < 6) : ∀ {j}, j ≤ S 311 → Se S j (300 + q) = clubSum (Se S j) q (S 311)
  | 0, _ => hcl q hq
  | j + 1, hj => by
    have hN := hB.1
    have hc := (hB.k (k := j) (by omega)).1
    have ih := Se_cl hB hcl hq (j := j) (by omega)
    by_cases e : tm S j = true
    · have e1 : Se S (j + 1) = upN (upN (upN (Se S j) (10 * j + 8) (pl S j)) (10 * j + 9) (S (10 * j + 9) + ptS S j)) (300 + S (10 * j)) (Se S j (300 + S (10 * j)) + ptS S j) := by show (if tm S j = true then _ else _ : Nat → Nat) = _; rw [if_pos e]
      have e0 : ∀ k, k < 30 → Se S (j + 1) (10 * k) = Se S j (10 * k) := fun k hk => by rw [e1, upN_n (by omega), upN_n (by omega), upN_n (by omega)]
      have e9 : ∀ k, k < 30 → Se S (j + 1) (10 * k + 9) = if k = j then S (10 * j + 9) + ptS S j else Se S j (10 * k + 9) := fun k hk => by
        rw [e1, upN_n (by omega)]
        by_cases z : k = j
        · subst z; rw [upN_s, if_pos rfl]
        · rw [upN_n (by omega), upN_n (by omega), if_neg z]
      have ec : Se S j (10 * j) = S (10 * j) := Se_n hB (by omega) (by omega)
      have e9j : Se S j (10 * j + 9) = S (10 * j + 9) := by rw [Se_9 hB (by omega) (by omega), if_neg (fun z => by omega)]
      unfold clubSum at ih ⊢
      have hu := fb_sm_upd (fun k => if Se S j (10 * k) = q then Se S j (10 * k + 9) else 0) (if S (10 * j) = q then S (10 * j + 9) + ptS S j else 0) (i := j) (n := S 311) (by omega)
      rw [fb_sm_cong (g := fun k => if k = j then (if S (10 * j) = q then S (10 * j + 9) + ptS S j else 0) else if Se S j (10 * k) = q then Se S j (10 * k + 9) else 0) (fun k hk => by
        rw [e0 k (by omega), e9 k (by omega)]
        by_cases z : k = j
        · subst z; rw [if_pos rfl, if_pos rfl, ec]
        · rw [if_neg z, if_neg z])]
      have hfj : (if Se S j (10 * j) = q then Se S j (10 * j + 9) else 0) = if S (10 * j) = q then S (10 * j + 9) else 0 := by
        rw [ec, e9j]
      rw [hfj, ← ih] at hu
      generalize hV : (if S (10 * j) = q then S (10 * j + 9) + ptS S j else 0) = V at hu ⊢
      generalize hW : (if S (10 * j) = q then S (10 * j + 9) else 0) = W at hu
      by_cases z : S (10 * j) = q
      · rw [if_pos z] at hV hW
        have : Se S (j + 1) (300 + q) = Se S j (300 + q) + ptS S j := by rw [e1, z, upN_s]
        omega
      · rw [if_neg z] at hV hW
        have : Se S (j + 1) (300 + q) = Se S j (300 + q) := by rw [e1, upN_n (by omega), upN_n (by omega), upN_n (by omega)]
        omega
    · have e1 : Se S (j + 1) = Se S j := by show (if tm S j = true then _ else _ : Nat → Nat) = _; rw [if_neg e]
      rw [e1]; exact ih
theorem okv8 {v : Nat} (h : v ≤ 30) : okv 8 v := by refine ⟨?_, ?_, ?_, ?_, ?_, ?_, ?_, ?_⟩ <;> omega
theorem okv9 {v : Nat} : okv 9 v := by refine ⟨?_, ?_, ?_, ?_, ?_, ?_, ?_, ?_⟩ <;> omega
theorem Se_WB (hB : WB S) : ∀ {j}, j ≤ S 311 → WB (Se S j)
  | 0, _ => hB
  | j + 1, hj => by
    have hN := hB.1
    have ih := Se_WB hB (j := j) (by omega)
    have hc := (hB.k (k := j) (by omega)).1
    show WB (if tm S j = true then _ else _)
    by_cases e : tm S j = true
    · rw [if_pos e]
      have := pl_le (S := S) (j := j) (by omega) e
      exact ((ih.upk (a := 8) (by omega) (by omega) (okv8 (by omega))).upk (a := 9) (by omega) (by omega) okv9).cl (by omega)
    · rw [if_neg e]; exact ih
end SE
