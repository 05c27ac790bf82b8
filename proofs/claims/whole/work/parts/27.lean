/-! level 2: drawing the heats, the model's loop -/
theorem M_laneIn {w : gWd} {S : Nat → Nat} (hS : SV w S) (hB : WB S) {d : Nat → Nat} {n r : Nat} (hn : n ≤ 30) (hr : r < n) (hd : ∀ q, q < n → w 8 5 q = nI (d q) ∧ d q < 1000) : F_X12_laneIn w (nI r) = some (laneI S (fb_ct (fun q => decide (d q = d r)) r)) := by
  have hc := fb_ct_le (fun q => decide (d q = d r)) r
  unfold F_X12_laneIn
  rw [gB_n _ (by omega) (by omega), (hd r hr).1, M_sizeOf (d := d) (by omega) (hd r hr).2 (fun q hq => hd q (by omega)), gP_s, M_laneOf hS hB (by omega), gP_s]
/-- how many of a swimmer's heat are ahead -/
def hcn (S : Nat → Nat) (t k : Nat) : Nat := fb_ct (fun q => decide (Dt (S 317) (nH S) t q = Dt (S 317) (nH S) t (erank S k))) (erank S k)
def Sd (S : Nat → Nat) (t j : Nat) : Nat → Nat := bulk (bulk S 3 (fun k => Dt (S 317) (nH S) t (erank S k) + 1) (UN S) j) 4 (fun k => nOf (laneI S (hcn S t k))) (UN S) j
section SD
variable {S : Nat → Nat} {t j : Nat}
theorem Sd_hi {q : Nat} (h : 300 ≤ q) : Sd S t j q = S q := by unfold Sd; rw [bulk_hi h, bulk_hi h]
theorem Sd_ne {b k : Nat} (hb : b < 10) (h3 : b ≠ 3) (h4 : b ≠ 4) : Sd S t j (10 * k + b) = S (10 * k + b) := by unfold Sd; rw [bulk_ne hb h4, bulk_ne hb h3]
theorem Sd_3 {k : Nat} (hk : k < 30) : Sd S t j (10 * k + 3) = if k < j ∧ UN S k = true then Dt (S 317) (nH S) t (erank S k) + 1 else S (10 * k + 3) := by unfold Sd; rw [bulk_ne (by omega) (by omega), bulk_at (by omega) hk]
theorem Sd_4 {k : Nat} (hk : k < 30) : Sd S t j (10 * k + 4) = if k < j ∧ UN S k = true then nOf (laneI S (hcn S t k)) else S (10 * k + 4) := by unfold Sd; rw [bulk_at (by omega) hk, bulk_ne (by omega) (by omega)]
theorem Sd_0 : Sd S t 0 = S := by unfold Sd; rw [bulk_0, bulk_0]
theorem Sd_t (hj : j < 30) (hU : UN S j = true) : Sd S t (j + 1) = upN (upN (Sd S t j) (10 * j + 3) (Dt (S 317) (nH S) t (erank S j) + 1)) (10 * j + 4) (nOf (laneI S (hcn S t j))) := by
  have e3 : ∀ q, q ≠ 10 * j + 3 → bulk S 3 (fun k => Dt (S 317) (nH S) t (erank S k) + 1) (UN S) (j + 1) q = bulk S 3 (fun k => Dt (S 317) (nH S) t (erank S k) + 1) (UN S) j q := fun q hq => by rw [bulk_t (by omega) hj hU, upN_n hq]
  funext q
  by_cases h4 : q = 10 * j + 4
  · subst h4
    rw [upN_s, Sd_4 hj, if_pos ⟨by omega, hU⟩]
  · rw [upN_n h4]
    by_cases h3 : q = 10 * j + 3
    · subst h3
      rw [upN_s, Sd_3 hj, if_pos ⟨by omega, hU⟩]
    · rw [upN_n h3]
      show bulk (bulk S 3 _ (UN S) (j + 1)) 4 _ (UN S) (j + 1) q = bulk (bulk S 3 _ (UN S) j) 4 _ (UN S) j q
      rw [bulk_t (by omega) hj hU, upN_n h4]
      unfold bulk at e3 ⊢
      by_cases c : q < 300 ∧ q % 10 = 4 ∧ q / 10 < j ∧ UN S (q / 10) = true
      · rw [if_pos c, if_pos c]
      · rw [if_neg c, if_neg c]
        exact e3 q h3
theorem Sd_f (hU : UN S j = false) : Sd S t (j + 1) = Sd S t j := by
  unfold Sd
  rw [bulk_f hU, bulk_f hU]
theorem Sd_WB (hB : WB S) (hp : 0 < pres S (S 311)) : WB (Sd S t j) := by
  obtain ⟨hH1, hH8, hHL⟩ := nH_in hB hp
  refine WB.bulk (hB.bulk (by omega) (fun k _ _ _ => ?_)) (by omega) (fun k _ _ _ => ?_)
  · have := Dt_le (L := S 317) (t := t) (r := erank S k) hH1
    refine ⟨fun h => ?_, fun h => ?_, fun h => ?_, fun h => ?_, fun h => ?_, fun h => ?_, fun h => ?_, fun h => ?_⟩ <;> first | (exact absurd h (by decide)) | omega
  · refine ⟨fun h => ?_, fun h => ?_, fun h => ?_, fun h => ?_, fun h => ?_, fun h => ?_, fun h => ?_, fun h => ?_⟩ <;> exact absurd h (by decide)
theorem Sd_erank (k : Nat) : erank (Sd S t j) k = erank S k := erank_cg (fun q => Sd_ne (by omega) (by omega) (by omega)) (fun q => Sd_ne (by omega) (by omega) (by omega)) (Sd_hi (by omega)) k
end SD
/-- only the model's memory and its row of heats have changed -/
def ag1 (w w' : gWd) : Prop := ∀ a b, ¬ (a = 8 ∧ (b = 1 ∨ b = 5)) → w' a b = w a b
theorem ag1.rf (w : gWd) : ag1 w w := fun _ _ _ => rfl
theorem ag1.tr {w w1 w2 : gWd} (h1 : ag1 w w1) (h2 : ag1 w1 w2) : ag1 w w2 := fun a b h => (h2 a b h).trans (h1 a b h)
theorem ag1.up {w : gWd} (j : Nat) (v : Int32) : ag1 w (up3 w 8 1 j v) := fun a b h => up3_r (fun q => h ⟨q.1, Or.inl q.2⟩)
theorem ag5.ag1 {w w' : gWd} (h : ag5 w w') : ag1 w w' := fun a b q => h a b (fun z => q ⟨z.1, Or.inr z.2⟩)
def Sdraw (S : Nat → Nat) (t : Nat) : Nat → Nat := upN (upN (Sd S t (S 311)) 310 1) 312 (nH S)
theorem M_draw32 {S : Nat → Nat} {t : Nat} (hB : WB S) (hp : 0 < pres S (S 311)) : ∀ (d fu : Nat) (w : gWd) (j : Nat), SV w (Sd S t j) → (∀ r, r < pres S (S 311) → w 8 5 r = nI (Dt (S 317) (nH S) t r)) → j + d = S 311 → d < fu →
    ∃ w', F_X12_draw_32 fu w (nI (nH S)) (nI j) = some (nI (nH S), w') ∧ ag1 w w' ∧ SV w' (Sdraw S t) := by
  have hN := hB.1
  have hn := pres_le S (S 311)
  obtain ⟨hH1, hH8, hHL⟩ := nH_in hB hp
  intro d
  induction d with
  | zero =>
    intro fu w j hS hd hj hfu
    obtain ⟨fu, rfl⟩ : ∃ f, fu = f + 1 := ⟨fu - 1, by omega⟩
    have e : j = S 311 := by omega
    subst e
    refine ⟨up3 (up3 w 8 1 310 (nI 1)) 8 1 312 (nI (nH S)), ?_, (ag1.up _ _).tr (ag1.up _ _), (hS.up 310 1).up 312 (nH S)⟩
    rw [F_X12_draw_32_s, hS 311 (by omega), Sd_hi (by omega), iLe (by omega) (by omega), if_pos (Nat.le_refl _)]
    rfl
  | succ d ih =>
    intro fu w j hS hd hj hfu
    obtain ⟨fu, rfl⟩ : ∃ f, fu = f + 1 := ⟨fu - 1, by omega⟩
    have hBj : WB (Sd S t j) := Sd_WB hB hp
    have hg := (hB.k (k := j) (by omega)).2.2.1
    rw [F_X12_draw_32_s, hS 311 (by omega), Sd_hi (by omega), iLe (by omega) (by omega), if_neg (by omega), M_isGone hS hBj (by omega), gP_s, Sd_ne (by omega) (by omega) (by omega), iE0 (by omega)]
    by_cases e : S (10 * j + 2) = 0
    · have hU : UN S j = true := by simp [UN, e]
      have hr := erank_lt (k := j) (by omega) hU
      have hDl := Dt_le (L := S 317) (t := t) (r := erank S j) hH1
      have hS3 := hS.up (10 * j + 3) (Dt (S 317) (nH S) t (erank S j) + 1)
      have hB3 : WB (upN (Sd S t j) (10 * j + 3) (Dt (S 317) (nH S) t (erank S j) + 1)) := hBj.upk (by omega) (by omega) (by refine ⟨fun h => ?_, fun h => ?_, fun h => ?_, fun h => ?_, fun h => ?_, fun h => ?_, fun h => ?_, fun h => ?_⟩ <;> first | (exact absurd h (by decide)) | omega)
      have hd3 : ∀ q, q < pres S (S 311) → up3 w 8 1 (10 * j + 3) (nI (Dt (S 317) (nH S) t (erank S j) + 1)) 8 5 q = nI (Dt (S 317) (nH S) t q) ∧ Dt (S 317) (nH S) t q < 1000 := fun q hq => ⟨by rw [up3_n (by omega)]; exact hd q hq, by have := Dt_le (L := S 317) (t := t) (r := q) hH1; omega⟩
      have e3 : F_X12_lay w (nI j) 3 (nI (Dt (S 317) (nH S) t (erank S j) + 1)) = some (up3 w 8 1 (10 * j + 3) (nI (Dt (S 317) (nH S) t (erank S j) + 1))) := M_lay (j := 3) (by omega) _
      have e4 : ∀ w1 v, F_X12_lay w1 (nI j) 4 v = some (up3 w1 8 1 (10 * j + 4) v) := fun w1 v => M_lay (j := 4) (by omega) _
      have hl : laneI (upN (Sd S t j) (10 * j + 3) (Dt (S 317) (nH S) t (erank S j) + 1)) (fb_ct (fun q => decide (Dt (S 317) (nH S) t q = Dt (S 317) (nH S) t (erank S j))) (erank S j)) = laneI S (hcn S t j) := laneI_cg (by rw [upN_n (by omega), Sd_hi (by omega)]) _
      rw [if_pos e, M_erank hS hBj (by omega), Sd_erank, gP_s, gB_n _ (by omega) (by omega), hd _ hr, nI_1, e3, gP_s, M_laneIn hS3 hB3 (by omega) hr hd3, gP_s, e4, gP_s, gS_e, nI_1, hl]
      rw [← nI_nOf (laneI S (hcn S t j))]
      have hS4 := hS3.up (10 * j + 4) (nOf (laneI S (hcn S t j)))
      rw [← Sd_t (by omega) hU] at hS4
      obtain ⟨w', g1, g2, g3⟩ := ih fu _ (j + 1) hS4 (fun r hr => by rw [up3_n (by omega)]; exact (hd3 r hr).1) (by omega) (by omega)
      exact ⟨w', g1, ((ag1.up _ _).tr (ag1.up _ _)).tr g2, g3⟩
    · have hU : UN S j = false := by simp [UN, e]
      rw [if_neg e, gS_e, nI_1]
      exact ih fu w (j + 1) (by rw [Sd_f hU]; exact hS) hd (by omega) (by omega)
