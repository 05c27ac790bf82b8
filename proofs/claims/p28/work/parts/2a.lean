/-! level 2: the whole relation, an order's two sides -/
def RV (c : Nat → Nat → Int32) (S : Nat → Nat) : Prop := ∃ (n : Nat) (q : Nat → Nat), n ≤ 4 ∧ c 0 6 = nI n ∧ (∀ p, p < n → c 3 p = nI (q p) ∧ q p < S 311 ∧ (S (306 + p) = 0 → S (10 * q p + 6) ≠ 0 ∨ S (10 * q p + 2) = 1) ∧ (S (306 + p) ≠ 0 → S (306 + p) = q p + 1 ∧ S (10 * q p + 6) = 0)) ∧
  (∀ p, n ≤ p → p < 4 → S (306 + p) = 0) ∧ (∀ p p', p < n → p' < n → q p = q p' → p = p') ∧ (S 310 ≤ 1 → n = 0)
def clubSum (S : Nat → Nat) (q n : Nat) : Nat := fb_sm (fun k => if S (10 * k) = q then S (10 * k + 9) else 0) n
def inF (S : Nat → Nat) (k : Nat) : Bool := decide (S (10 * k + 6) ≠ 0)
/-- who swims in the final -/
def IW (S : Nat → Nat) : Prop := S 310 = 2 → fb_ct (inF S) (S 311) ≤ S 317 ∧ ∀ k, k < S 311 → S (10 * k + 7) ≠ 0 → S (10 * k + 6) ≠ 0
theorem IW.no {S : Nat → Nat} (h : S 310 ≠ 2) : IW S := fun z => absurd z h
theorem IW.cg {S S' : Nat → Nat} (h : IW S) (h0 : S' 310 = S 310) (hN : S' 311 = S 311) (hL : S' 317 = S 317) (h6 : ∀ k, k < S 311 → S' (10 * k + 6) = S (10 * k + 6)) (h7 : ∀ k, k < S 311 → S' (10 * k + 7) = S (10 * k + 7)) : IW S' := by
  intro z
  rw [h0] at z
  obtain ⟨a, b⟩ := h z
  rw [hN, hL]
  refine ⟨?_, fun k hk => ?_⟩
  · rw [fb_ct_cong (q := inF S) (fun k hk => by unfold inF; rw [h6 k hk])]; exact a
  · rw [h6 k hk, h7 k hk]; exact b k hk
/-- what holds of the model's memory between the calls -/
def IV (EB : Nat) (S : Nat → Nat) : Prop := WB S ∧ (∀ k, S 311 ≤ k → k < 30 → ∀ a, 2 ≤ a → a < 10 → S (10 * k + a) = 0) ∧
  (S 310 = 0 → S 312 = 0 ∧ ∀ k, k < S 311 → ∀ a, 3 ≤ a → a < 9 → S (10 * k + a) = 0) ∧
  (S 310 = 1 → ∀ k, k < S 311 → (S (10 * k + 2) = 1 → S (10 * k + 3) = 0 ∧ S (10 * k + 5) = 0) ∧ S (10 * k + 6) = 0 ∧ S (10 * k + 7) = 0 ∧ S (10 * k + 8) = 0) ∧
  (S 310 = 2 → ∀ k, k < S 311 → (S (10 * k + 6) ≠ 0 → S (10 * k + 2) = 0) ∧ S (10 * k + 8) = 0) ∧
  (∀ q, q < 6 → S (300 + q) = clubSum S q (S 311)) ∧ (∀ k, k < S 311 → S (10 * k + 9) ≤ 120 * S 313) ∧ S 313 ≤ EB ∧ IW S
section IVP
variable {EB : Nat} {S : Nat → Nat}
theorem IV.wb (h : IV EB S) : WB S := h.1
theorem IV.out (h : IV EB S) {k a : Nat} (h1 : S 311 ≤ k) (h2 : k < 30) (h3 : 2 ≤ a) (h4 : a < 10) : S (10 * k + a) = 0 := h.2.1 k h1 h2 a h3 h4
theorem IV.s0 (h : IV EB S) (h0 : S 310 = 0) : S 312 = 0 ∧ ∀ k, k < S 311 → ∀ a, 3 ≤ a → a < 9 → S (10 * k + a) = 0 := h.2.2.1 h0
theorem IV.s1 (h : IV EB S) (h0 : S 310 = 1) : ∀ k, k < S 311 → (S (10 * k + 2) = 1 → S (10 * k + 3) = 0 ∧ S (10 * k + 5) = 0) ∧ S (10 * k + 6) = 0 ∧ S (10 * k + 7) = 0 ∧ S (10 * k + 8) = 0 := h.2.2.2.1 h0
theorem IV.s2 (h : IV EB S) (h0 : S 310 = 2) : ∀ k, k < S 311 → (S (10 * k + 6) ≠ 0 → S (10 * k + 2) = 0) ∧ S (10 * k + 8) = 0 := h.2.2.2.2.1 h0
theorem IV.cl (h : IV EB S) {q : Nat} (hq : q < 6) : S (300 + q) = clubSum S q (S 311) := h.2.2.2.2.2.1 q hq
theorem IV.pt (h : IV EB S) {k : Nat} (hk : k < S 311) : S (10 * k + 9) ≤ 120 * S 313 := h.2.2.2.2.2.2.1 k hk
theorem IV.eb (h : IV EB S) : S 313 ≤ EB := h.2.2.2.2.2.2.2.1
theorem IV.iw (h : IV EB S) : IW S := h.2.2.2.2.2.2.2.2
theorem IV.mono {EB' : Nat} (h : IV EB S) (he : EB ≤ EB') : IV EB' S := ⟨h.1, h.2.1, h.2.2.1, h.2.2.2.1, h.2.2.2.2.1, h.2.2.2.2.2.1, h.2.2.2.2.2.2.1, Nat.le_trans h.eb he, h.iw⟩
end IVP
/-- only the block i has changed -/
def agB (i : Nat) (w w' : gWd) : Prop := ∀ a, a ≠ i → w' a = w a
theorem agB.rf (i : Nat) (w : gWd) : agB i w w := fun _ _ => rfl
theorem agB.tr {i : Nat} {w w1 w2 : gWd} (h1 : agB i w w1) (h2 : agB i w1 w2) : agB i w w2 := fun a h => (h2 a h).trans (h1 a h)
theorem agB.up {i : Nat} {w : gWd} (r j : Nat) (v : Int32) : agB i w (up3 w i r j v) := fun a h => up3_b h
theorem agS.agB {i : Nat} {w w' : gWd} (h : agS i w w') : agB i w w' := h.1
theorem RV.cg {c c' : Nat → Nat → Int32} {S S' : Nat → Nat} (h : RV c S) (h6 : c' 0 6 = c 0 6) (h3 : c' 3 = c 3) (hN : S 311 ≤ S' 311) (hp : ∀ p, p < 4 → S' (306 + p) = S (306 + p)) (hk : ∀ k, k < S 311 → S' (10 * k + 6) = S (10 * k + 6) ∧ S' (10 * k + 2) = S (10 * k + 2)) (h310 : S' 310 ≤ 1 → S 310 ≤ 1) : RV c' S' := by
  obtain ⟨n, q, h1, h2, h4, h5, h7, h8⟩ := h
  refine ⟨n, q, h1, by rw [h6]; exact h2, fun p hpn => ?_, fun p a b => by rw [hp p b]; exact h5 p a b, h7, fun z => h8 (h310 z)⟩
  obtain ⟨a1, a2, a3, a4⟩ := h4 p hpn
  obtain ⟨b1, b2⟩ := hk _ a2
  rw [h3, hp p (by omega), b1, b2]
  exact ⟨a1, by omega, a3, a4⟩
/-! what the arguments are -/
theorem arg_lt {x : Int32} {n : Nat} (hn : n < 2 ^ 31) (h1 : ¬ x < 0) (h2 : ¬ nI n ≤ x) : ∃ k, k < n ∧ x = nI k := by
  rcases pk_ix x hn with h | h | ⟨j, hj, e⟩
  · exact absurd h h1
  · exact absurd h h2
  · exact ⟨j, hj, e⟩
theorem time_cases (x : Int32) : (∃ e, (e = 0 ∨ (100 ≤ e ∧ e ≤ 999)) ∧ x = nI e) ∨ (¬ x = 0 ∧ (x < 100 ∨ 999 < x)) := by
  by_cases h0 : x = 0
  · exact Or.inl ⟨0, Or.inl rfl, h0⟩
  · by_cases h1 : x < 100
    · exact Or.inr ⟨h0, Or.inl h1⟩
    · by_cases h2 : 999 < x
      · exact Or.inr ⟨h0, Or.inr h2⟩
      · refine Or.inl ?_
        rcases pk_ix x (n := 1000) (by omega) with h | h | ⟨j, hj, e⟩
        · exfalso
          apply h1
          rw [Int32.lt_iff_toInt_lt] at h ⊢
          have a : (0 : Int32).toInt = 0 := rfl
          have b : (100 : Int32).toInt = 100 := rfl
          omega
        · exfalso
          apply h2
          rw [Int32.lt_iff_toInt_lt]
          rw [Int32.le_iff_toInt_le, nI_toInt (by omega)] at h
          have b : (999 : Int32).toInt = 999 := rfl
          omega
        · refine ⟨j, ?_, e⟩
          subst e
          right
          have h3 : ¬ j < 100 := fun z => h1 (nI_lt (b := 100) z (by omega))
          omega
theorem C_time_t {w : gWd} {e : Nat} (h : e = 0 ∨ (100 ≤ e ∧ e ≤ 999)) : F_X1_isTimeOrZero w (nI e) = some 1 := by
  rw [C_time0]
  rcases h with rfl | ⟨h1, h2⟩
  · rfl
  · rw [if_neg (nI_ne0 (by omega) (by omega)), if_neg (show ¬ nI e < 100 from nI_nlt (b := 100) (by omega) (by omega)), if_neg (show ¬ 999 < nI e from nI_nlt (a := 999) (by omega) (by omega))]
theorem C_time_f {w : gWd} {x : Int32} (h : ¬ x = 0 ∧ (x < 100 ∨ 999 < x)) : F_X1_isTimeOrZero w x = some 0 := by
  rw [C_time0, if_neg h.1]
  by_cases h1 : x < 100
  · rw [if_pos h1]
  · rw [if_neg h1, if_pos (h.2.resolve_left h1)]
