/-! level 2: who scratches -/
theorem upN_comm {S : Nat → Nat} {a b u v : Nat} (h : a ≠ b) : upN (upN S a u) b v = upN (upN S b v) a u := by
  funext q
  unfold upN
  by_cases e : q = a
  · rw [if_pos e, if_neg (by omega), if_pos e]
  · rw [if_neg e, if_neg e]
def Sgo (S : Nat → Nat) (k : Nat) : Nat → Nat := upN S (10 * k + 2) 1
def Sgo1 (S : Nat → Nat) (k : Nat) : Nat → Nat := upN (upN (upN (Sgo S k) (10 * k + 3) 0) (10 * k + 4) 0) (10 * k + 5) 0
def Sgo2 (S : Nat → Nat) (k : Nat) : Nat → Nat := upN (upN (Sgo S k) (10 * k + 6) 0) (10 * k + 7) 0
def Sgo3 (S : Nat → Nat) (k p : Nat) : Nat → Nat := upN (upN (upN (Sgo2 S k) (306 + p) 0) 316 (S 316 + 1)) (10 * (S (306 + p) - 1) + 6) (S (10 * k + 6))
theorem okv2 {a : Nat} (h : 2 ≤ a) : okv a 0 := by refine ⟨?_, ?_, ?_, ?_, ?_, ?_, ?_, ?_⟩ <;> omega
theorem okv21 : okv 2 1 := by refine ⟨?_, ?_, ?_, ?_, ?_, ?_, ?_, ?_⟩ <;> omega
theorem Sgo1_IV {EB : Nat} {S : Nat → Nat} (hI : IV EB S) {k : Nat} (hk : k < S 311) (h1 : S 310 = 1) : IV EB (Sgo1 S k) := by
  have e : Sgo1 S k = upN (upN (upN (upN S (10 * k + 3) 0) (10 * k + 4) 0) (10 * k + 5) 0) (10 * k + 2) 1 := by
    unfold Sgo1 Sgo
    rw [upN_comm (a := 10 * k + 2) (b := 10 * k + 3) (by omega), upN_comm (a := 10 * k + 2) (b := 10 * k + 4) (by omega), upN_comm (a := 10 * k + 2) (b := 10 * k + 5) (by omega)]
  have hN := hI.wb.1
  rw [e]
  have i1 := IV_cell hI (k := k) (a := 3) (v := 0) hk (by omega) (okv2 (by omega)) (by omega) (by omega) (by omega) (by omega)
  have i2 := IV_cell i1 (k := k) (a := 4) (v := 0) (by rw [upN_n (by omega)]; exact hk) (by omega) (okv2 (by omega)) (by omega) (by omega) (by omega) (by omega)
  have i3 := IV_cell i2 (k := k) (a := 5) (v := 0) (by rw [upN_n (by omega), upN_n (by omega)]; exact hk) (by omega) (okv2 (by omega)) (by omega) (by omega) (by omega) (by omega)
  refine IV_cell i3 (k := k) (a := 2) (v := 1) (by rw [upN_n (by omega), upN_n (by omega), upN_n (by omega)]; exact hk) (by omega) okv21 (by omega) (fun _ => ⟨fun _ _ => ⟨?_, upN_s _ _ _⟩, by omega⟩) (fun z => ?_) (by omega)
  · rw [upN_n (by omega), upN_n (by omega), upN_s]
  · rw [upN_n (by omega), upN_n (by omega), upN_n (by omega)] at z
    omega
theorem Sgo_IV {EB : Nat} {S : Nat → Nat} (hI : IV EB S) {k : Nat} (hk : k < S 311) (h1 : S 310 ≠ 1) (h6 : S (10 * k + 6) = 0) : IV EB (Sgo S k) :=
  IV_cell hI (k := k) (a := 2) (v := 1) hk (by omega) okv21 (by omega) (fun z => absurd z h1) (fun _ => ⟨fun _ z => absurd h6 z, by omega, by omega⟩) (by omega)
theorem Sgo2_IV {EB : Nat} {S : Nat → Nat} (hI : IV EB S) {k : Nat} (hk : k < S 311) (h1 : S 310 ≠ 1) : IV EB (Sgo2 S k) := by
  have e : Sgo2 S k = upN (upN (upN S (10 * k + 7) 0) (10 * k + 6) 0) (10 * k + 2) 1 := by
    unfold Sgo2 Sgo
    rw [upN_comm (a := 10 * k + 2) (b := 10 * k + 6) (by omega), upN_comm (a := 10 * k + 2) (b := 10 * k + 7) (by omega), upN_comm (a := 10 * k + 6) (b := 10 * k + 7) (by omega)]
  have hN := hI.wb.1
  rw [e]
  have i1 := IV_cell hI (k := k) (a := 7) (v := 0) hk (by omega) (okv2 (by omega)) (by omega) (by omega) (by omega) (by omega)
  have i2 := IV_cell i1 (k := k) (a := 6) (v := 0) (by rw [upN_n (by omega)]; exact hk) (by omega) (okv2 (by omega)) (by omega) (by omega) (by omega) (fun _ => ⟨fun _ => ⟨by omega, fun _ => upN_s _ _ _⟩, by omega⟩)
  refine IV_cell i2 (k := k) (a := 2) (v := 1) (by rw [upN_n (by omega), upN_n (by omega)]; exact hk) (by omega) okv21 (by omega) (fun z => ?_) (fun _ => ⟨fun _ z => absurd ?_ z, by omega, by omega⟩) (by omega)
  · rw [upN_n (by omega), upN_n (by omega)] at z
    exact absurd z h1
  · rw [upN_s]
/-- who leaves the final leaves room -/
theorem Sgo2_room {S : Nat → Nat} {k : Nat} (hN : S 311 ≤ 30) (hk : k < S 311) (h6 : S (10 * k + 6) ≠ 0) : fb_ct (inF (Sgo2 S k)) (S 311) + 1 = fb_ct (inF S) (S 311) := by
  have e := fb_ct_upd (inF S) false (i := k) (n := S 311) hk
  have e1 : inF S k = true := decide_eq_true h6
  rw [fb_ct_cong (q := fun q => if q = k then false else inF S q) (fun q hq => by
    unfold inF Sgo2 Sgo
    by_cases e : q = k
    · subst e; rw [if_pos rfl, upN_n (by omega), upN_s]; rfl
    · rw [if_neg e, upN_n (by omega), upN_n (by omega), upN_n (by omega)])]
  rw [e1] at e
  exact e
theorem rsv_t {S : Nat → Nat} {p : Nat} (h : rsv S p = true) : S (306 + p) ≠ 0 ∧ S (10 * (S (306 + p) - 1) + 2) = 0 := of_decide_eq_true h
theorem rsv_cg {S S' : Nat → Nat} {p : Nat} (h : S' (306 + p) = S (306 + p)) (h2 : S' (10 * (S (306 + p) - 1) + 2) = S (10 * (S (306 + p) - 1) + 2)) : rsv S' p = rsv S p := by unfold rsv; rw [h, h2]
/-- a called reserve -/
theorem Scall_IV {EB : Nat} {S : Nat → Nat} (hI : IV EB S) (h2 : S 310 = 2) {p L c : Nat} (hp : p < 4) (hL : L ≤ 10) (hr : rsv S p = true) (hq : S (306 + p) - 1 < S 311) (hroom : fb_ct (inF S) (S 311) + 1 ≤ S 317) (h70 : L = 0 → S (10 * (S (306 + p) - 1) + 7) = 0) : IV EB (upN (upN (upN S (306 + p) 0) 316 c) (10 * (S (306 + p) - 1) + 6) L) := by
  have hN := hI.wb.1
  obtain ⟨r1, r2⟩ := rsv_t hr
  have i1 := IV_res hI hp (v := 0) (by omega)
  have i2 := IV_hi i1 (t := 316) (v := c) (by omega)
  have e0 : upN (upN S (306 + p) 0) 316 c 310 = 2 := by rw [upN_n (by omega), upN_n (by omega)]; exact h2
  refine IV_cell i2 (k := S (306 + p) - 1) (a := 6) (v := L) (by rw [upN_n (by omega), upN_n (by omega)]; exact hq) (by omega) (by refine ⟨?_, ?_, ?_, ?_, ?_, ?_, ?_, ?_⟩ <;> omega) (by omega) (by omega) (fun _ => ⟨by omega, fun _ _ => ?_, by omega⟩) (fun _ => ⟨fun _ => ⟨fun _ => ?_, fun z => ?_⟩, by omega⟩)
  · rw [upN_n (by omega), upN_n (by omega)]
    exact r2
  · rw [upN_n (t := 316) (by omega), upN_n (t := 306 + p) (by omega), upN_n (t := 316) (q := 317) (by omega), upN_n (t := 306 + p) (q := 317) (by omega)]
    rw [fb_ct_cong (q := inF S) (fun k hk => by unfold inF; rw [upN_n (by omega), upN_n (by omega)])]
    exact hroom
  · rw [upN_n (by omega), upN_n (by omega)]
    exact h70 z
/-- where the relation of the reserves is kept when one has gone, or is called -/
theorem RV.gone {c c' : Nat → Nat → Int32} {S S' : Nat → Nat} (h : RV c S) {k : Nat} (h6 : c' 0 6 = c 0 6) (h3 : c' 3 = c 3) (hN : S' 311 = S 311) (hs : S' 310 = S 310) (hp : ∀ p, p < 4 → S' (306 + p) = S (306 + p)) (hk : S' (10 * k + 2) = 1 ∧ (S' (10 * k + 6) = 0 ∨ S' (10 * k + 6) = S (10 * k + 6))) (ho : ∀ q, q ≠ k → S' (10 * q + 6) = S (10 * q + 6) ∧ S' (10 * q + 2) = S (10 * q + 2)) : RV c' S' := by
  obtain ⟨n, q, h1, h2, h4, h5, h7, h8⟩ := h
  refine ⟨n, q, h1, by rw [h6]; exact h2, fun p hpn => ?_, fun p a b => by rw [hp p b]; exact h5 p a b, h7, fun z => h8 (by rw [← hs]; exact z)⟩
  obtain ⟨a1, a2, a3, a4⟩ := h4 p hpn
  rw [h3, hp p (by omega), hN]
  refine ⟨a1, a2, fun z => ?_, fun z => ⟨(a4 z).1, ?_⟩⟩
  · by_cases e : q p = k
    · right; rw [e]; exact hk.1
    · rw [(ho _ e).1, (ho _ e).2]; exact a3 z
  · have := (a4 z).2
    by_cases e : q p = k
    · rw [e] at this ⊢
      rcases hk.2 with z1 | z1
      · exact z1
      · rw [z1]; exact this
    · rw [(ho _ e).1]; exact this
theorem RV.call {c c' : Nat → Nat → Int32} {S S' : Nat → Nat} (h : RV c S) (hN30 : S 311 ≤ 30) {p0 L : Nat} (hp0 : p0 < 4) (hr : rsv S p0 = true) (h6 : c' 0 6 = c 0 6) (h3 : c' 3 = c 3) (hN : S' 311 = S 311) (hs : S' 310 = S 310) (hL : L ≠ 0) (hp : ∀ p, p < 4 → S' (306 + p) = if p = p0 then 0 else S (306 + p)) (h62 : ∀ q, q < 30 → S' (10 * q + 2) = S (10 * q + 2)) (ho : ∀ q, q < 30 → S' (10 * q + 6) = if q = S (306 + p0) - 1 then L else S (10 * q + 6)) : RV c' S' := by
  obtain ⟨n, q, h1, h2, h4, h5, h7, h8⟩ := h
  have hr0 := (rsv_t hr).1
  have hp0n : p0 < n := by
    rcases Nat.lt_or_ge p0 n with z | z
    · exact z
    · exact absurd (h5 p0 z hp0) hr0
  have hq0 : S (306 + p0) - 1 = q p0 := by have := ((h4 p0 hp0n).2.2.2 hr0).1; omega
  rw [hq0] at ho
  refine ⟨n, q, h1, by rw [h6]; exact h2, fun p hpn => ?_, fun p a b => ?_, h7, fun z => h8 (by rw [← hs]; exact z)⟩
  · obtain ⟨a1, a2, a3, a4⟩ := h4 p hpn
    rw [h3, hp p (by omega), hN, ho _ (by omega), h62 _ (by omega)]
    by_cases e : p = p0
    · subst e
      rw [if_pos rfl, if_pos rfl]
      exact ⟨a1, a2, fun _ => Or.inl hL, fun z => absurd rfl z⟩
    · have hne : q p ≠ q p0 := fun z => e (h7 p p0 hpn hp0n z)
      rw [if_neg e, if_neg hne]
      exact ⟨a1, a2, a3, a4⟩
  · rw [hp p b, h5 p a b]
    split <;> rfl
