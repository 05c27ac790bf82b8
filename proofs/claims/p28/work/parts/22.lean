/-! level 2: words -/
theorem gS_e {α β : Type} (v : α) (f : α → β) : gS v f = f v := rfl
theorem gP_s {α β : Type} (a : α) (f : α → Option β) : gP (some a) f = f a := rfl
theorem gC_s {α β : Type} (a : α) (w : gWd) (f : α → gWd → Option β) : gC (some (a, w)) f = f a w := rfl
theorem gB_n {α : Type} {k n : Nat} (f : Nat → Option α) (h : k < n) (hn : n < 2 ^ 31) : gB (nI k) n f = f k := by
  have h1 : ¬ (nI k < 0 ∨ n ≤ (nI k).toNatClampNeg) := by
    rw [nI_clamp (by omega)]
    intro q
    rcases q with q | q
    · exact nI_pos (by omega) q
    · omega
  unfold gB
  rw [if_neg h1, nI_clamp (by omega)]
theorem gM_t {α : Type} {i n : Nat} {f : Option α} (h : i < n) : gM i n f = f := by unfold gM; rw [if_pos h]
theorem gZ_0 {α : Type} {x : Option α} : gZ 0 x = x := by unfold gZ; rw [if_pos (Or.inl rfl)]
theorem gZ_1 {α : Type} {x : Option α} : gZ 1 x = x := by unfold gZ; rw [if_pos (Or.inr rfl)]
theorem gZ_n {α : Type} {a : Nat} {x : Option α} (h : a ≤ 1) : gZ (nI a) x = x := by
  have : a = 0 ∨ a = 1 := by omega
  rcases this with rfl | rfl
  · exact gZ_0
  · exact gZ_1
theorem gD_n {α : Type} {k : Nat} {x : Option α} (h : 0 < k) (hk : k < 2 ^ 31) : gD (nI k) x = x := by unfold gD; rw [if_neg (nI_ne0 h hk)]
theorem up3_s (w : gWd) (i r j : Nat) (v : Int32) : up3 w i r j v i r j = v := by simp [up3]
theorem up3_n {w : gWd} {i r j : Nat} {v : Int32} {a b c : Nat} (h : ¬ (a = i ∧ b = r ∧ c = j)) : up3 w i r j v a b c = w a b c := if_neg h
section IFS
variable {α : Sort _} {x y : α} {a b : Nat}
theorem iLe (ha : a < 2 ^ 31) (hb : b < 2 ^ 31) : (if nI a ≤ nI b then x else y) = if a ≤ b then x else y := by
  by_cases h : a ≤ b
  · rw [if_pos h, if_pos ((nI_leI ha hb).mpr h)]
  · rw [if_neg h, if_neg (fun q => h ((nI_leI ha hb).mp q))]
theorem iLt (ha : a < 2 ^ 31) (hb : b < 2 ^ 31) : (if nI a < nI b then x else y) = if a < b then x else y := by
  by_cases h : a < b
  · rw [if_pos h, if_pos ((nI_ltI ha hb).mpr h)]
  · rw [if_neg h, if_neg (fun q => h ((nI_ltI ha hb).mp q))]
theorem iEq (ha : a < 2 ^ 31) (hb : b < 2 ^ 31) : (if nI a = nI b then x else y) = if a = b then x else y := by
  by_cases h : a = b
  · rw [if_pos h, if_pos ((nI_eq ha hb).mpr h)]
  · rw [if_neg h, if_neg (fun q => h ((nI_eq ha hb).mp q))]
theorem iE0 (ha : a < 2 ^ 31) : (if nI a = 0 then x else y) = if a = 0 then x else y := iEq (b := 0) ha (by omega)
theorem iE1 (ha : a < 2 ^ 31) : (if nI a = 1 then x else y) = if a = 1 then x else y := iEq (b := 1) ha (by omega)
theorem iE2 (ha : a < 2 ^ 31) : (if nI a = 2 then x else y) = if a = 2 then x else y := iEq (b := 2) ha (by omega)
theorem iE3 (ha : a < 2 ^ 31) : (if nI a = 3 then x else y) = if a = 3 then x else y := iEq (b := 3) ha (by omega)
theorem iL0 (ha : a < 2 ^ 31) : (if nI a < 0 then x else y) = y := if_neg (nI_pos ha)
theorem iLe0 (ha : a < 2 ^ 31) : (if nI a ≤ 0 then x else y) = if a = 0 then x else y := by
  rw [show (0 : Int32) = nI 0 from rfl, iLe ha (by omega)]
  by_cases h : a = 0
  · rw [if_pos h, if_pos (by omega)]
  · rw [if_neg h, if_neg (by omega)]
theorem i0Lt (ha : a < 2 ^ 31) : (if 0 < nI a then x else y) = if 0 < a then x else y := iLt (a := 0) (by omega) ha
theorem i0Le (ha : a < 2 ^ 31) : (if 0 ≤ nI a then x else y) = x := if_pos (nI_pos' ha)
end IFS
theorem mT {a : Nat} (h : a < 2 ^ 30) : (nI a - 1).toInt = (a : Int) - 1 := pk_sub_toInt (b := 1) h (by omega)
section MFS
variable {α : Sort _} {x y : α} {a b : Nat}
theorem mN (ha : a < 2 ^ 30) (h : 1 ≤ a) : nI a - 1 = nI (a - 1) := pk_sub h
theorem mEN1 (ha : a < 2 ^ 30) : (nI a - 1 = -1) ↔ a = 0 := by
  rw [← Int32.toInt_inj, mT ha]
  have : (-1 : Int32).toInt = -1 := by decide
  rw [this]; omega
theorem mE (ha : a < 2 ^ 30) (hb : b < 2 ^ 30) : (nI a - 1 = nI b - 1) ↔ a = b := by
  rw [← Int32.toInt_inj, mT ha, mT hb]; omega
theorem mEn (ha : a < 2 ^ 30) (hb : b < 2 ^ 30) : (nI a - 1 = nI b) ↔ a = b + 1 := by
  rw [← Int32.toInt_inj, mT ha, nI_toInt (by omega)]; omega
theorem mLt (ha : a < 2 ^ 30) (hb : b < 2 ^ 30) : (nI a - 1 < nI b - 1) ↔ a < b := by
  rw [Int32.lt_iff_toInt_lt, mT ha, mT hb]; omega
theorem mLtn (ha : a < 2 ^ 30) (hb : b < 2 ^ 30) : (nI a - 1 < nI b) ↔ a < b + 1 := by
  rw [Int32.lt_iff_toInt_lt, mT ha, nI_toInt (by omega)]; omega
theorem mLen (ha : a < 2 ^ 30) (hb : b < 2 ^ 30) : (nI a - 1 ≤ nI b) ↔ a ≤ b + 1 := by
  rw [Int32.le_iff_toInt_le, mT ha, nI_toInt (by omega)]; omega
theorem mnLt (ha : a < 2 ^ 30) (hb : b < 2 ^ 30) : (nI b < nI a - 1) ↔ b + 1 < a := by
  rw [Int32.lt_iff_toInt_lt, mT ha, nI_toInt (by omega)]; omega
theorem mnLe (ha : a < 2 ^ 30) (hb : b < 2 ^ 30) : (nI b ≤ nI a - 1) ↔ b + 1 ≤ a := by
  rw [Int32.le_iff_toInt_le, mT ha, nI_toInt (by omega)]; omega
theorem mLe0 (ha : a < 2 ^ 30) : (nI a - 1 ≤ 0) ↔ a ≤ 1 := mLen (b := 0) ha (by omega)
theorem m0Lt (ha : a < 2 ^ 30) : (0 < nI a - 1) ↔ 1 < a := mnLt (b := 0) ha (by omega)
end MFS
/-- a loop over a counter -/
theorem loopI {σ ρ : Type} (F : Nat → σ → Nat → Option ρ) (N : Nat) (I : Nat → σ → Prop) (P : Option ρ → Prop) (hend : ∀ fu st, I N st → P (F (fu + 1) st N)) (hstep : ∀ fu st j, j < N → I j st → P (F (fu + 1) st j) ∨ ∃ st', I (j + 1) st' ∧ F (fu + 1) st j = F fu st' (j + 1)) : ∀ fu st j, j ≤ N → N - j < fu → I j st → P (F fu st j) := by
  intro fu
  induction fu with
  | zero => intro st j _ h; omega
  | succ fu ih =>
    intro st j hj hlt hI
    rcases Nat.lt_or_ge j N with h | h
    · rcases hstep fu st j h hI with h1 | ⟨st', h1, h2⟩
      · exact h1
      · rw [h2]; exact ih st' (j + 1) h (by omega) h1
    · have e : j = N := by omega
      subst e
      exact hend fu st hI
theorem gFU_lt {a b : Nat} (h : a < 2000) : a - b < gFU := by unfold gFU; omega
/-! the model's memory as naturals -/
def upN (S : Nat → Nat) (t v : Nat) : Nat → Nat := fun q => if q = t then v else S q
theorem upN_s (S : Nat → Nat) (t v : Nat) : upN S t v t = v := by simp [upN]
theorem upN_n {S : Nat → Nat} {t v q : Nat} (h : q ≠ t) : upN S t v q = S q := if_neg h
/-- what bounds a number of a swimmer -/
def okv (a v : Nat) : Prop := (a = 0 → v ≤ 5) ∧ (a = 1 → v ≤ 999) ∧ (a = 2 → v ≤ 1) ∧ (a = 3 → v ≤ 8) ∧ (a = 5 → v ≤ 1000) ∧ (a = 6 → v ≤ 10) ∧ (a = 7 → v ≤ 1000) ∧ (a = 8 → v ≤ 30)
/-- what bounds the model's memory -/
def WB (S : Nat → Nat) : Prop := S 311 ≤ 30 ∧ S 310 ≤ 3 ∧ S 312 ≤ 8 ∧ S 314 ≤ 999 ∧ S 315 ≤ 30 ∧ (4 ≤ S 317 ∧ S 317 ≤ 10) ∧ (1 ≤ S 318 ∧ S 318 ≤ 3) ∧ S 319 ≤ 4 ∧ (∀ p, p < 4 → S (306 + p) ≤ 30) ∧
  ∀ k, k < 30 → ∀ a, a < 10 → okv a (S (10 * k + a))
theorem WB.N {S : Nat → Nat} (h : WB S) : S 311 ≤ 30 := h.1
theorem WB.k {S : Nat → Nat} (h : WB S) {k : Nat} (hk : k < 30) : S (10 * k) ≤ 5 ∧ S (10 * k + 1) ≤ 999 ∧ S (10 * k + 2) ≤ 1 ∧ S (10 * k + 3) ≤ 8 ∧ True ∧ S (10 * k + 5) ≤ 1000 ∧ S (10 * k + 6) ≤ 10 ∧ S (10 * k + 7) ≤ 1000 ∧ S (10 * k + 8) ≤ 30 := by
  have g := fun a ha => h.2.2.2.2.2.2.2.2.2 k hk a ha
  exact ⟨(g 0 (by omega)).1 rfl, (g 1 (by omega)).2.1 rfl, (g 2 (by omega)).2.2.1 rfl, (g 3 (by omega)).2.2.2.1 rfl, trivial, (g 5 (by omega)).2.2.2.2.1 rfl, (g 6 (by omega)).2.2.2.2.2.1 rfl, (g 7 (by omega)).2.2.2.2.2.2.1 rfl, (g 8 (by omega)).2.2.2.2.2.2.2 rfl⟩
theorem WB.cg {S S' : Nat → Nat} (h : WB S) (hi : ∀ t, 300 ≤ t → S' t = S t) (hk : ∀ k, k < 30 → ∀ a, a < 10 → okv a (S' (10 * k + a))) : WB S' := by
  obtain ⟨h1, h2, h3, h4, h5, h6, h7, h8, h9, -⟩ := h
  refine ⟨by rw [hi 311 (by omega)]; exact h1, by rw [hi 310 (by omega)]; exact h2, by rw [hi 312 (by omega)]; exact h3, by rw [hi 314 (by omega)]; exact h4, by rw [hi 315 (by omega)]; exact h5, by rw [hi 317 (by omega)]; exact h6, by rw [hi 318 (by omega)]; exact h7, by rw [hi 319 (by omega)]; exact h8, fun p hp => by rw [hi (306 + p) (by omega)]; exact h9 p hp, hk⟩
theorem WB.a {S : Nat → Nat} (h : WB S) {k a : Nat} (hk : k < 30) (ha : a < 10) : okv a (S (10 * k + a)) := h.2.2.2.2.2.2.2.2.2 k hk a ha
def ek (S : Nat → Nat) (k : Nat) : Nat := 32 * (if S (10 * k + 1) = 0 then 1000 else S (10 * k + 1)) + k
def pres (S : Nat → Nat) (n : Nat) : Nat := fb_ct (fun k => decide (S (10 * k + 2) = 0)) n
def erank (S : Nat → Nat) (k : Nat) : Nat := fb_ct (fun q => decide (S (10 * q + 2) = 0 ∧ ek S q < ek S k)) (S 311)
def fast (S : Nat → Nat) (a b : Nat) : Prop := S (10 * a + 5) < S (10 * b + 5) ∨ (S (10 * a + 5) = S (10 * b + 5) ∧ ek S a < ek S b)
def fastB (S : Nat → Nat) (a b : Nat) : Bool := decide (S (10 * a + 5) < S (10 * b + 5) ∨ (S (10 * a + 5) = S (10 * b + 5) ∧ ek S a < ek S b))
def trank (S : Nat → Nat) (k : Nat) : Nat := fb_ct (fun q => decide (1 < S (10 * q + 5)) && fastB S q k) (S 311)
def laneI (S : Nat → Nat) (r : Nat) : Int32 := if r % 2 = 1 then nI ((S 317 + 1) / 2 + (r + 1) / 2) else nI ((S 317 + 1) / 2) - nI (r / 2)
def laneN (S : Nat → Nat) (r : Nat) : Nat := if r % 2 = 1 then (S 317 + 1) / 2 + (r + 1) / 2 else (S 317 + 1) / 2 - r / 2
theorem ek_lt {S : Nat → Nat} (h : WB S) {k : Nat} (hk : k < 30) : ek S k < 40000 := by
  have := (h.k hk).2.1
  unfold ek
  split <;> omega
theorem laneI_N {S : Nat → Nat} {r : Nat} (h : r / 2 ≤ (S 317 + 1) / 2) : laneI S r = nI (laneN S r) := by
  unfold laneI laneN
  split
  · rfl
  · exact pk_sub h
theorem laneN_in {S : Nat → Nat} (hB : WB S) {r : Nat} (h : r < S 317) : 1 ≤ laneN S r ∧ laneN S r ≤ S 317 ∧ r / 2 ≤ (S 317 + 1) / 2 := by
  have := hB.2.2.2.2.2.1
  unfold laneN
  split <;> omega
theorem ct_le (p : Nat → Bool) (n : Nat) : fb_ct p n ≤ n := fb_ct_le p n
