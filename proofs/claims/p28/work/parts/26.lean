/-! level 2: drawing the heats, the model's side -/
def UN (S : Nat → Nat) (q : Nat) : Bool := decide (S (10 * q + 2) = 0)
theorem erank_rk (S : Nat → Nat) (k : Nat) : erank S k = rk (UN S) (ek S) (S 311) k := by
  unfold erank rk UN
  exact fb_ct_cong (fun q _ => by simp)
theorem pres_ct (S : Nat → Nat) : pres S (S 311) = fb_ct (UN S) (S 311) := rfl
theorem ek_inj {S : Nat → Nat} {a b : Nat} (ha : a < 30) (hb : b < 30) (h : ek S a = ek S b) : a = b := by
  unfold ek at h
  omega
theorem erank_lt {S : Nat → Nat} {k : Nat} (hk : k < S 311) (hU : UN S k = true) : erank S k < pres S (S 311) := by
  rw [erank_rk, pres_ct]
  exact rk_n _ _ _ hk hU
theorem pres_le (S : Nat → Nat) (n : Nat) : pres S n ≤ n := fb_ct_le _ _
def nH (S : Nat → Nat) : Nat := (pres S (S 311) + S 317 - 1) / S 317
theorem nH_in {S : Nat → Nat} (hB : WB S) (h : 0 < pres S (S 311)) : 1 ≤ nH S ∧ nH S ≤ 8 ∧ pres S (S 311) ≤ nH S * S 317 := by
  have h1 := hB.1
  have h2 := hB.2.2.2.2.2.1
  have h3 := pres_le S (S 311)
  unfold nH
  generalize pres S (S 311) = n at *
  generalize hl : S 317 = L at *
  refine ⟨Nat.div_pos (by omega) (by omega), ?_, ?_⟩
  · rw [Nat.div_le_iff_le_mul_add_pred (by omega)]
    omega
  · have := Nat.div_add_mod (n + L - 1) L
    have h4 := Nat.mod_lt (n + L - 1) (show L > 0 by omega)
    rw [Nat.mul_comm]
    omega
/-- the heat of a rank before the first heat is filled -/
def h0 (L H r : Nat) : Nat := if H < 3 then (if H = 2 ∧ r % 2 = 0 then 1 else 0) else if r < 3 * L then H - 1 - r % 3 else H - 1 - r / L
theorem h0_le {L H r : Nat} (h : 1 ≤ H) : h0 L H r ≤ H - 1 := by
  unfold h0
  split
  · split <;> omega
  · split
    · exact Nat.sub_le _ _
    · exact Nat.sub_le _ _
theorem div_lt' {r H L : Nat} (hL : 0 < L) (h : r < H * L) : r / L < H := (Nat.div_lt_iff_lt_mul hL).mpr h
/-- the heat of a rank when those of heat 1 from the rank t on came into the heat 0 -/
def Dt (L H t r : Nat) : Nat := if h0 L H r = 1 ∧ t ≤ r then 0 else h0 L H r
def cg (L H n t : Nat) : Nat := fb_ct (fun r => decide (t ≤ r) && decide (h0 L H r = 1)) n
theorem Dt_le {L H t r : Nat} (h : 1 ≤ H) : Dt L H t r ≤ H - 1 := by
  have := h0_le (L := L) (r := r) h
  unfold Dt
  split <;> omega
theorem cg_n (L H n : Nat) : cg L H n n = 0 := fb_ct_zero.mpr (fun k hk => by simp; intro h; omega)
theorem Dt_n {L H n r : Nat} (h : r < n) : Dt L H n r = h0 L H r := by
  unfold Dt
  rw [if_neg (by omega)]
theorem cg_step {L H n t : Nat} (ht : t < n) : cg L H n t = cg L H n (t + 1) + if h0 L H t = 1 then 1 else 0 := by
  unfold cg
  have h := fb_ct_or (p := fun r => decide (t + 1 ≤ r) && decide (h0 L H r = 1)) (q := fun r => decide (r = t) && decide (h0 L H r = 1)) (n := n) (fun k _ => by simp; omega)
  have h2 : fb_ct (fun r => decide (t ≤ r) && decide (h0 L H r = 1)) n = fb_ct (fun r => (decide (t + 1 ≤ r) && decide (h0 L H r = 1)) || (decide (r = t) && decide (h0 L H r = 1))) n := fb_ct_cong (fun k _ => by
    rcases Nat.lt_trichotomy k t with q | q | q
    · have a1 : ¬ t ≤ k := by omega
      have a2 : ¬ t + 1 ≤ k := by omega
      have a3 : ¬ k = t := by omega
      simp [a1, a2, a3]
    · subst q; simp
    · have a1 : t ≤ k := by omega
      have a2 : t + 1 ≤ k := by omega
      have a3 : ¬ k = t := by omega
      simp [a1, a2, a3])
  rw [h2, h]
  congr 1
  by_cases e : h0 L H t = 1
  · rw [if_pos e]
    refine Nat.le_antisymm (ct_one (fun a b _ _ h1 h2 => by simp at h1 h2; omega)) ?_
    exact fb_ct_pos.mpr ⟨t, ht, by simp [e]⟩
  · rw [if_neg e]
    exact fb_ct_zero.mpr (fun k _ => by
      simp
      intro q
      subst q
      exact e)
theorem cg_mono {L H n a b : Nat} (h : a ≤ b) : cg L H n b ≤ cg L H n a := fb_ct_sub (fun k _ hk => by simp at hk ⊢; exact ⟨by omega, hk.2⟩)
/-- where as many came over, the same came over -/
theorem Dt_cg {L H n a b : Nat} (h : cg L H n a = cg L H n b) {r : Nat} (hr : r < n) : Dt L H a r = Dt L H b r := by
  have key : ∀ a b : Nat, a ≤ b → cg L H n a = cg L H n b → Dt L H a r = Dt L H b r := by
    intro a b hab h
    unfold Dt
    by_cases e : h0 L H r = 1 ∧ a ≤ r ∧ r < b
    · exfalso
      have : cg L H n b < cg L H n a := ct_lt (fun k _ hk => by simp at hk ⊢; exact ⟨by omega, hk.2⟩) ⟨r, hr, by simp; intro; omega, by simp [e.1, e.2.1]⟩
      omega
    · by_cases e1 : h0 L H r = 1 ∧ a ≤ r
      · rw [if_pos e1, if_pos ⟨e1.1, by omega⟩]
      · rw [if_neg e1, if_neg (fun q => e1 ⟨q.1, by omega⟩)]
  rcases Nat.le_total a b with q | q
  · exact key a b q h
  · exact (key b a q h.symm).symm
/-- how many are to come over, if there are as many -/
def nA (S : Nat → Nat) (H : Nat) : Int := if H < 4 then 0 else (S 318 : Int) - fb_ct (fun r => decide (h0 (S 317) H r = 0)) (pres S (S 311))
def nT (S : Nat → Nat) (H : Nat) : Nat := cg (S 317) H (pres S (S 311)) 0
/-- only the model's row of heats has changed -/
def ag5 (w w' : gWd) : Prop := ∀ a b, ¬ (a = 8 ∧ b = 5) → w' a b = w a b
theorem ag5.rf (w : gWd) : ag5 w w := fun _ _ _ => rfl
theorem ag5.tr {w w1 w2 : gWd} (h1 : ag5 w w1) (h2 : ag5 w1 w2) : ag5 w w2 := fun a b h => (h2 a b h).trans (h1 a b h)
theorem ag5.up {w : gWd} (j : Nat) (v : Int32) : ag5 w (up3 w 8 5 j v) := fun a b h => up3_r h
theorem ax1 {A : Int} {Ap a b : Nat} (h : A ≤ Ap) (e : ¬ A - (a : Int) ≤ 0) (hb : b = a + 1) : b ≤ Ap := by omega
theorem ax2 {A : Int} {a b : Nat} (hb : b = a + 1) : A - (a : Int) + -1 = A - (b : Int) := by omega
theorem ax3 {A z : Int} (h : A ≤ 30 ∧ -40 ≤ A) (h1 : 0 ≤ z) (h2 : z ≤ 30) : -2147483648 ≤ A - z + -1 ∧ A - z + -1 < 2147483648 := by omega
