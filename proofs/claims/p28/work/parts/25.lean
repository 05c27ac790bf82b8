/-! level 2: writes -/
/-- one column of many swimmers -/
def bulk (S : Nat → Nat) (a : Nat) (f : Nat → Nat) (p : Nat → Bool) (j : Nat) : Nat → Nat := fun t => if t < 300 ∧ t % 10 = a ∧ t / 10 < j ∧ p (t / 10) = true then f (t / 10) else S t
theorem bulk_0 (S : Nat → Nat) (a : Nat) (f : Nat → Nat) (p : Nat → Bool) : bulk S a f p 0 = S := by
  funext t
  unfold bulk
  rw [if_neg (by omega)]
theorem bulk_at {S : Nat → Nat} {a : Nat} {f : Nat → Nat} {p : Nat → Bool} {j k : Nat} (ha : a < 10) (hk : k < 30) : bulk S a f p j (10 * k + a) = if k < j ∧ p k = true then f k else S (10 * k + a) := by
  have h1 : (10 * k + a) % 10 = a := by omega
  have h2 : (10 * k + a) / 10 = k := by omega
  unfold bulk
  rw [h1, h2]
  by_cases h : k < j ∧ p k = true
  · rw [if_pos h, if_pos ⟨by omega, rfl, h.1, h.2⟩]
  · rw [if_neg h, if_neg (fun q => h ⟨q.2.2.1, q.2.2.2⟩)]
theorem bulk_ne {S : Nat → Nat} {a b : Nat} {f : Nat → Nat} {p : Nat → Bool} {j k : Nat} (hb : b < 10) (h : b ≠ a) : bulk S a f p j (10 * k + b) = S (10 * k + b) := by
  have h1 : (10 * k + b) % 10 = b := by omega
  unfold bulk
  rw [h1, if_neg (fun q => h q.2.1)]
theorem bulk_hi {S : Nat → Nat} {a : Nat} {f : Nat → Nat} {p : Nat → Bool} {j t : Nat} (h : 300 ≤ t) : bulk S a f p j t = S t := by
  unfold bulk
  rw [if_neg (by omega)]
theorem bulk_t {S : Nat → Nat} {a : Nat} {f : Nat → Nat} {p : Nat → Bool} {j : Nat} (ha : a < 10) (hj : j < 30) (hp : p j = true) : bulk S a f p (j + 1) = upN (bulk S a f p j) (10 * j + a) (f j) := by
  funext t
  by_cases h : t = 10 * j + a
  · subst h
    rw [upN_s, bulk_at ha hj, if_pos ⟨by omega, hp⟩]
  · rw [upN_n h]
    unfold bulk
    by_cases h2 : t < 300 ∧ t % 10 = a ∧ t / 10 < j ∧ p (t / 10) = true
    · rw [if_pos h2, if_pos ⟨h2.1, h2.2.1, by omega, h2.2.2.2⟩]
    · rw [if_neg h2, if_neg]
      rintro ⟨q1, q2, q3, q4⟩
      exact h2 ⟨q1, q2, by omega, q4⟩
theorem bulk_f {S : Nat → Nat} {a : Nat} {f : Nat → Nat} {p : Nat → Bool} {j : Nat} (hp : p j = false) : bulk S a f p (j + 1) = bulk S a f p j := by
  funext t
  unfold bulk
  by_cases h2 : t < 300 ∧ t % 10 = a ∧ t / 10 < j ∧ p (t / 10) = true
  · rw [if_pos h2, if_pos ⟨h2.1, h2.2.1, by omega, h2.2.2.2⟩]
  · rw [if_neg h2, if_neg]
    rintro ⟨q1, q2, q3, q4⟩
    by_cases e : t / 10 = j
    · rw [e, hp] at q4; cases q4
    · exact h2 ⟨q1, q2, by omega, q4⟩
theorem WB.bulk {S : Nat → Nat} (h : WB S) {a : Nat} {f : Nat → Nat} {p : Nat → Bool} {j : Nat} (ha : a < 10) (hf : ∀ k, k < 30 → k < j → p k = true → okv a (f k)) : WB (bulk S a f p j) := by
  refine h.cg (fun t ht => bulk_hi ht) (fun k hk b hb => ?_)
  by_cases e : b = a
  · subst e
    rw [bulk_at ha hk]
    split
    · rename_i q; exact hf k hk q.1 q.2
    · exact h.a hk ha
  · rw [bulk_ne hb e]
    exact h.a hk hb
theorem WB.upk {S : Nat → Nat} (h : WB S) {k a v : Nat} (hk : k < 30) (ha : a < 10) (hv : okv a v) : WB (upN S (10 * k + a) v) := by
  refine h.cg (fun t ht => upN_n (by omega)) (fun q hq b hb => ?_)
  by_cases e : q = k ∧ b = a
  · obtain ⟨rfl, rfl⟩ := e
    rw [upN_s]; exact hv
  · rw [upN_n (by omega)]
    exact h.a hq hb
/-- every int is a natural's -/
def nOf (v : Int32) : Nat := v.toBitVec.toNat
theorem nI_nOf (v : Int32) : nI (nOf v) = v := by
  unfold nOf nI
  apply Int32.toBitVec_inj.mp
  simp
theorem CV.upk {w : gWd} {S : Nat → Nat} {i : Nat} (hC : CV (w i) S) {k a v : Nat} (hk : k < 30) (ha : a < 10) {x : Int32} (hx : x = enc a v) : CV (up3 w i (4 + k) (a + 1) x i) (upN S (10 * k + a) v) := by
  have r0 : ∀ j, up3 w i (4 + k) (a + 1) x i 0 j = w i 0 j := fun j => up3_n (by omega)
  have r1 : ∀ j, up3 w i (4 + k) (a + 1) x i 1 j = w i 1 j := fun j => up3_n (by omega)
  have hi : ∀ t, 300 ≤ t → upN S (10 * k + a) v t = S t := fun t ht => upN_n (by omega)
  refine ⟨?_, fun q hq b hb => ?_⟩
  · simp only [r0, r1, hi 311 (by omega), hi 310 (by omega), hi 312 (by omega), hi 313 (by omega), hi 314 (by omega), hi 315 (by omega), hi 316 (by omega), hi 317 (by omega), hi 318 (by omega), hi 319 (by omega)]
    exact hC.1
  · rw [hi 311 (by omega)] at hq
    by_cases e : q = k ∧ b = a
    · obtain ⟨rfl, rfl⟩ := e
      rw [up3_s, upN_s, hx]
    · rw [up3_n (by omega), upN_n (by omega)]
      exact hC.2 q hq b hb
/-- the other blocks stay -/
theorem up3_b {w : gWd} {i r j : Nat} {v : Int32} {a : Nat} (h : a ≠ i) : up3 w i r j v a = w a := by
  funext b c
  exact up3_n (fun z => h z.1)
theorem up3_r {w : gWd} {i r j : Nat} {v : Int32} {a b : Nat} (h : ¬ (a = i ∧ b = r)) : up3 w i r j v a b = w a b := by
  funext c
  exact up3_n (fun z => h ⟨z.1, z.2.1⟩)
theorem CV.cg {c c' : Nat → Nat → Int32} {S : Nat → Nat} (h : CV c S) (e : ∀ r j, r = 0 ∨ r = 1 ∨ 4 ≤ r → (r = 0 → j ≠ 6) → c' r j = c r j) : CV c' S := by
  refine ⟨?_, fun k hk a ha => ?_⟩
  · have e0 : ∀ j, j ≠ 6 → c' 0 j = c 0 j := fun j hj => e 0 j (Or.inl rfl) (fun _ => hj)
    have e1 : ∀ j, c' 1 j = c 1 j := fun j => e 1 j (Or.inr (Or.inl rfl)) (fun q => by omega)
    simp only [e0 3 (by omega), e0 4 (by omega), e0 5 (by omega), e0 7 (by omega), e0 8 (by omega), e0 9 (by omega), e0 10 (by omega), e1]
    exact h.1
  · rw [e (4 + k) (a + 1) (by omega) (by omega)]
    exact h.2 k hk a ha
/-- counts: strictly fewer -/
theorem ct_lt {p q : Nat → Bool} : ∀ {n : Nat}, (∀ k, k < n → p k = true → q k = true) → (∃ k, k < n ∧ p k = false ∧ q k = true) → fb_ct p n < fb_ct q n
  | 0, _, ⟨k, hk, _⟩ => absurd hk (Nat.not_lt_zero k)
  | n + 1, h, ⟨k, hk, h1, h2⟩ => by
    rw [fb_ct_succ, fb_ct_succ]
    have hle : fb_ct p n ≤ fb_ct q n := fb_ct_sub (fun j hj => h j (by omega))
    by_cases e : k = n
    · subst e
      rw [h1, h2]
      simp
      omega
    · have := ct_lt (n := n) (fun j hj => h j (by omega)) ⟨k, by omega, h1, h2⟩
      have h3 := h n (by omega)
      by_cases e2 : p n = true
      · rw [e2, h3 e2]; omega
      · have : p n = false := by cases hp : p n <;> simp_all
        rw [this]
        simp
        omega
theorem sm_ones : ∀ {f : Nat → Nat} {n : Nat}, (∀ k, k < n → f k ≤ 1) → fb_sm f n = n → ∀ k, k < n → f k = 1
  | _, 0, _, _, k, hk => absurd hk (Nat.not_lt_zero k)
  | f, n + 1, h, hs, k, hk => by
    rw [fb_sm_succ] at hs
    have h1 := h n (by omega)
    have h2 : fb_sm f n ≤ n := by
      have := fb_sm_bound (f := f) (c := 1) (n := n) (fun k hk => h k (by omega))
      omega
    by_cases e : k = n
    · subst e; omega
    · exact sm_ones (f := f) (n := n) (fun k hk => h k (by omega)) (by omega) k (by omega)
section RANKS
variable (U : Nat → Bool) (e : Nat → Nat) (N : Nat)
/-- the rank of a key among those who count -/
def rk (k : Nat) : Nat := fb_ct (fun q => U q && decide (e q < e k)) N
theorem rk_lt {a b : Nat} (ha : a < N) (hU : U a = true) (h : e a < e b) : rk U e N a < rk U e N b := by
  unfold rk
  refine ct_lt (fun k _ hk => ?_) ⟨a, ha, by simp, by simp [hU, h]⟩
  simp at hk ⊢
  exact ⟨hk.1, by omega⟩
theorem rk_n {a : Nat} (ha : a < N) (hU : U a = true) : rk U e N a < fb_ct U N := by
  unfold rk
  exact ct_lt (fun k _ hk => by simp at hk; exact hk.1) ⟨a, ha, by simp, hU⟩
theorem rk_inj (hinj : ∀ a b, a < N → b < N → e a = e b → a = b) {a b : Nat} (ha : a < N) (hb : b < N) (hUa : U a = true) (hUb : U b = true) (h : rk U e N a = rk U e N b) : a = b := by
  rcases Nat.lt_trichotomy (e a) (e b) with q | q | q
  · have := rk_lt U e N ha hUa q; omega
  · exact hinj a b ha hb q
  · have := rk_lt U e N hb hUb q; omega
theorem rk_iff (hinj : ∀ a b, a < N → b < N → e a = e b → a = b) {a b : Nat} (ha : a < N) (hb : b < N) (hUa : U a = true) (hUb : U b = true) : rk U e N a < rk U e N b ↔ e a < e b := by
  refine ⟨fun h => ?_, rk_lt U e N ha hUa⟩
  rcases Nat.lt_trichotomy (e a) (e b) with q | q | q
  · exact q
  · have := hinj a b ha hb q; subst this; omega
  · have := rk_lt U e N hb hUb q; omega
theorem ct_one {p : Nat → Bool} {n : Nat} (h : ∀ a b, a < n → b < n → p a = true → p b = true → a = b) : fb_ct p n ≤ 1 := by
  induction n with
  | zero => exact Nat.zero_le _
  | succ n ih =>
    rw [fb_ct_succ]
    by_cases e : p n = true
    · have : fb_ct p n = 0 := fb_ct_zero.mpr (fun k hk => by
        cases hp : p k with
        | false => rfl
        | true => have := h k n (by omega) (by omega) hp e; omega)
      rw [this, e]; simp
    · have : p n = false := by cases hp : p n <;> simp_all
      rw [this]
      have := ih (fun a b ha hb => h a b (by omega) (by omega))
      simpa using this
theorem rk_ex (r : Nat → Nat) (P : Nat → Bool) : ∀ n, fb_sm (fun x => if P x then fb_ct (fun q => U q && decide (r q = x)) N else 0) n = fb_ct (fun q => U q && (decide (r q < n) && P (r q))) N
  | 0 => by
    have : fb_ct (fun q => U q && (decide (r q < 0) && P (r q))) N = 0 := fb_ct_zero.mpr (fun k _ => by simp)
    rw [this]; rfl
  | n + 1 => by
    rw [fb_sm_succ, rk_ex r P n]
    by_cases hP : P n = true
    · rw [if_pos hP, ← fb_ct_or (p := fun q => U q && (decide (r q < n) && P (r q))) (q := fun q => U q && decide (r q = n)) (fun k _ => by simp; intros; omega)]
      refine fb_ct_cong (fun k _ => ?_)
      cases hU : U k
      · simp
      · simp
        rcases Nat.lt_trichotomy (r k) n with q | q | q
        · simp [q, Nat.lt_succ_of_lt q, Nat.ne_of_lt q]
        · simp [q, hP]
        · have h1 : ¬ r k < n := by omega
          have h2 : ¬ r k < n + 1 := by omega
          have h3 : ¬ r k = n := by omega
          simp [h1, h2, h3]
    · rw [if_neg hP, Nat.add_zero]
      refine fb_ct_cong (fun k _ => ?_)
      rcases Nat.lt_trichotomy (r k) n with q | q | q
      · simp [q, Nat.lt_succ_of_lt q]
      · have : P (r k) = false := by rw [q]; cases hp : P n <;> simp_all
        simp [this]
      · have h1 : ¬ r k < n := by omega
        have h2 : ¬ r k < n + 1 := by omega
        simp [h1, h2]
/-- counting those who count is counting ranks -/
theorem ct_rank (hinj : ∀ a b, a < N → b < N → e a = e b → a = b) (P : Nat → Bool) : fb_ct (fun q => U q && P (rk U e N q)) N = fb_ct P (fb_ct U N) := by
  have key : ∀ x, x < fb_ct U N → fb_ct (fun q => U q && decide (rk U e N q = x)) N = 1 := by
    refine sm_ones (fun x _ => ct_one (fun a b ha hb h1 h2 => ?_)) ?_
    · simp at h1 h2
      exact rk_inj U e N hinj ha hb h1.1 h2.1 (by omega)
    · have h := rk_ex U N (rk U e N) (fun _ => true) (fb_ct U N)
      simp only [if_true] at h
      rw [h]
      refine fb_ct_cong (fun k hk => ?_)
      cases hU : U k
      · rfl
      · simp [rk_n U e N hk hU]
  have h := rk_ex U N (rk U e N) P (fb_ct U N)
  have h2 : fb_ct (fun q => U q && (decide (rk U e N q < fb_ct U N) && P (rk U e N q))) N = fb_ct (fun q => U q && P (rk U e N q)) N := by
    refine fb_ct_cong (fun k hk => ?_)
    cases hU : U k
    · rfl
    · simp [rk_n U e N hk hU]
  rw [← h2, ← h]
  have h3 : ∀ n, n ≤ fb_ct U N → fb_sm (fun x => if P x then fb_ct (fun q => U q && decide (rk U e N q = x)) N else 0) n = fb_ct P n := by
    intro n
    induction n with
    | zero => intro _; rfl
    | succ n ih =>
      intro hn
      rw [fb_sm_succ, fb_ct_succ, ih (by omega)]
      congr 1
      by_cases hP : P n = true
      · rw [if_pos hP, if_pos hP, key n (by omega)]
      · rw [if_neg hP, if_neg hP]
  exact h3 _ (Nat.le_refl _)
end RANKS
theorem ek_cg {S S' : Nat → Nat} {k : Nat} (h : S' (10 * k + 1) = S (10 * k + 1)) : ek S' k = ek S k := by unfold ek; rw [h]
theorem erank_cg {S S' : Nat → Nat} (h1 : ∀ q, S' (10 * q + 1) = S (10 * q + 1)) (h2 : ∀ q, S' (10 * q + 2) = S (10 * q + 2)) (hN : S' 311 = S 311) (k : Nat) : erank S' k = erank S k := by
  unfold erank
  rw [hN]
  exact fb_ct_cong (fun q _ => by rw [h2 q, ek_cg (h1 q), ek_cg (h1 k)])
theorem laneI_cg {S S' : Nat → Nat} (h : S' 317 = S 317) (r : Nat) : laneI S' r = laneI S r := by unfold laneI; rw [h]
