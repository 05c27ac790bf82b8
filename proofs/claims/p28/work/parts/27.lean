/-! level 2: drawing the heats, the model's loop -/
/-- how many of a swimmer's heat are ahead -/
def hcn (S : Nat → Nat) (t k : Nat) : Nat := fb_ct (fun q => decide (Dt (S 317) (nH S) t q = Dt (S 317) (nH S) t (erank S k))) (erank S k)
def Sd (S : Nat → Nat) (t j : Nat) : Nat → Nat := bulk (bulk S 3 (fun k => Dt (S 317) (nH S) t (erank S k) + 1) (UN S) j) 4 (fun k => nOf (laneI S (hcn S t k))) (UN S) j
section SD
variable {S : Nat → Nat} {t j : Nat}
theorem Sd_hi {q : Nat} (h : 300 ≤ q) : Sd S t j q = S q := by unfold Sd; rw [bulk_hi h, bulk_hi h]
theorem Sd_ne {b k : Nat} (hb : b < 10) (h3 : b ≠ 3) (h4 : b ≠ 4) : Sd S t j (10 * k + b) = S (10 * k + b) := by unfold Sd; rw [bulk_ne hb h4, bulk_ne hb h3]
theorem Sd_3 {k : Nat} (hk : k < 30) : Sd S t j (10 * k + 3) = if k < j ∧ UN S k = true then Dt (S 317) (nH S) t (erank S k) + 1 else S (10 * k + 3) := by unfold Sd; rw [bulk_ne (by omega) (by omega), bulk_at (by omega) hk]
theorem Sd_4 {k : Nat} (hk : k < 30) : Sd S t j (10 * k + 4) = if k < j ∧ UN S k = true then nOf (laneI S (hcn S t k)) else S (10 * k + 4) := by unfold Sd; rw [bulk_at (by omega) hk, bulk_ne (by omega) (by omega)]
theorem Sd_0 : Sd S t 0 = S := by unfold Sd; rw [bulk_0, bulk_0]
theorem Sd_t (hj : j < 30) (hU : UN S j = true) : Sd S t (j + 1) = upN (upN (Sd S t j) (10 * j + 3) (Dt (S 317) (nH S) t (erank S j) + 1)) (10 * j + 4) (nOf (laneI S (hcn S t j))) := by
  have e3 : ∀ q, q ≠ 10 * j + 3 → bulk S 3 (fun k => Dt (S 317) (nH S) t (erank S k) + 1) (UN S) (j + 1) q = bulk S 3 (fun k => Dt (S 317) (nH S) t (erank S k) + 1) (UN S) j q := fun q hq => by rw [bulk_t (by omega) hj hU, upN_n hq]
  funext q
  by_cases h4 : q = 10 * j + 4
  · subst h4
    rw [upN_s, Sd_4 hj, if_pos ⟨by omega, hU⟩]
  · rw [upN_n h4]
    by_cases h3 : q = 10 * j + 3
    · subst h3
      rw [upN_s, Sd_3 hj, if_pos ⟨by omega, hU⟩]
    · rw [upN_n h3]
      show bulk (bulk S 3 _ (UN S) (j + 1)) 4 _ (UN S) (j + 1) q = bulk (bulk S 3 _ (UN S) j) 4 _ (UN S) j q
      rw [bulk_t (by omega) hj hU, upN_n h4]
      unfold bulk at e3 ⊢
      by_cases c : q < 300 ∧ q % 10 = 4 ∧ q / 10 < j ∧ UN S (q / 10) = true
      · rw [if_pos c, if_pos c]
      · rw [if_neg c, if_neg c]
        exact e3 q h3
theorem Sd_f (hU : UN S j = false) : Sd S t (j + 1) = Sd S t j := by
  unfold Sd
  rw [bulk_f hU, bulk_f hU]
theorem Sd_WB (hB : WB S) (hp : 0 < pres S (S 311)) : WB (Sd S t j) := by
  obtain ⟨hH1, hH8, hHL⟩ := nH_in hB hp
  refine WB.bulk (hB.bulk (by omega) (fun k _ _ _ => ?_)) (by omega) (fun k _ _ _ => ?_)
  · have := Dt_le (L := S 317) (t := t) (r := erank S k) hH1
    refine ⟨fun h => ?_, fun h => ?_, fun h => ?_, fun h => ?_, fun h => ?_, fun h => ?_, fun h => ?_, fun h => ?_⟩ <;> first | (exact absurd h (by decide)) | omega
  · refine ⟨fun h => ?_, fun h => ?_, fun h => ?_, fun h => ?_, fun h => ?_, fun h => ?_, fun h => ?_, fun h => ?_⟩ <;> exact absurd h (by decide)
theorem Sd_erank (k : Nat) : erank (Sd S t j) k = erank S k := erank_cg (fun q => Sd_ne (by omega) (by omega) (by omega)) (fun q => Sd_ne (by omega) (by omega) (by omega)) (Sd_hi (by omega)) k
end SD
/-- only the model's memory and its row of heats have changed -/
def ag1 (w w' : gWd) : Prop := ∀ a b, ¬ (a = 8 ∧ (b = 1 ∨ b = 5)) → w' a b = w a b
theorem ag1.rf (w : gWd) : ag1 w w := fun _ _ _ => rfl
theorem ag1.tr {w w1 w2 : gWd} (h1 : ag1 w w1) (h2 : ag1 w1 w2) : ag1 w w2 := fun a b h => (h2 a b h).trans (h1 a b h)
theorem ag1.up {w : gWd} (j : Nat) (v : Int32) : ag1 w (up3 w 8 1 j v) := fun a b h => up3_r (fun q => h ⟨q.1, Or.inl q.2⟩)
theorem ag5.ag1 {w w' : gWd} (h : ag5 w w') : ag1 w w' := fun a b q => h a b (fun z => q ⟨z.1, Or.inr z.2⟩)
def Sdraw (S : Nat → Nat) (t : Nat) : Nat → Nat := upN (upN (Sd S t (S 311)) 310 1) 312 (nH S)
