/-! level 2: no heat holds more than there are lanes; the draw -/
theorem ct_mod {b c : Nat} (hb : b = 2 ∨ b = 3) (hc : c < b) : ∀ r, fb_ct (fun q => decide (q % b = c)) r ≤ (r + (b - 1) - c) / b
  | 0 => Nat.zero_le _
  | r + 1 => by
    have ih := ct_mod hb hc r
    rw [fb_ct_succ]
    rcases hb with rfl | rfl
    · by_cases e : r % 2 = c
      · rw [if_pos (decide_eq_true e)]; omega
      · rw [if_neg (by simp [e])]; omega
    · by_cases e : r % 3 = c
      · rw [if_pos (decide_eq_true e)]; omega
      · rw [if_neg (by simp [e])]; omega
theorem ct_ge (a : Nat) : ∀ r, fb_ct (fun q => decide (a ≤ q)) r ≤ r - a
  | 0 => Nat.zero_le _
  | r + 1 => by
    have ih := ct_ge a r
    rw [fb_ct_succ]
    by_cases e : a ≤ r
    · rw [if_pos (decide_eq_true e)]; omega
    · rw [if_neg (by simp [e])]; omega
/-- so many are ahead in the same heat, before any comes over -/
theorem h0_room {L H r n : Nat} (hL : 4 ≤ L) (hH : 1 ≤ H) (hn : n ≤ H * L) (hr : r < n) : fb_ct (fun q => decide (h0 L H q = h0 L H r)) r < L := by
  by_cases c1 : H = 1
  · subst c1
    have := fb_ct_le (fun q => decide (h0 L 1 q = h0 L 1 r)) r
    omega
  by_cases c2 : H = 2
  · subst c2
    have h := ct_mod (b := 2) (c := r % 2) (Or.inl rfl) (by omega) r
    have h2 : fb_ct (fun q => decide (h0 L 2 q = h0 L 2 r)) r ≤ fb_ct (fun q => decide (q % 2 = r % 2)) r := fb_ct_sub (fun q _ hq => by
      have := of_decide_eq_true hq
      unfold h0 at this
      have h23 : (2 : Nat) < 3 := by decide
      rw [if_pos h23, if_pos h23] at this
      refine decide_eq_true ?_
      split at this <;> split at this <;> omega)
    omega
  have c3 : ¬ H < 3 := by omega
  by_cases c4 : r < 3 * L
  · have h := ct_mod (b := 3) (c := r % 3) (Or.inr rfl) (by omega) r
    have h2 : fb_ct (fun q => decide (h0 L H q = h0 L H r)) r ≤ fb_ct (fun q => decide (q % 3 = r % 3)) r := fb_ct_sub (fun q hq hp => by
      have := of_decide_eq_true hp
      unfold h0 at this
      rw [if_neg c3, if_neg c3, if_pos (by omega), if_pos c4] at this
      exact decide_eq_true (by omega))
    omega
  · have hd := div_lt' (r := r) (H := H) (L := L) (by omega) (by omega)
    have hd3 : 3 ≤ r / L := (Nat.le_div_iff_mul_le (by omega)).mpr (by omega)
    have hm := Nat.div_add_mod r L
    have hml := Nat.mod_lt r (show 0 < L by omega)
    have h := ct_ge (L * (r / L)) r
    have h2 : fb_ct (fun q => decide (h0 L H q = h0 L H r)) r ≤ fb_ct (fun q => decide (L * (r / L) ≤ q)) r := fb_ct_sub (fun q hq hp => by
      have := of_decide_eq_true hp
      unfold h0 at this
      rw [if_neg c3, if_neg c3, if_neg c4] at this
      by_cases c5 : q < 3 * L
      · rw [if_pos c5] at this
        omega
      · rw [if_neg c5] at this
        have hq2 := div_lt' (r := q) (H := H) (L := L) (by omega) (by omega)
        have hq3 := Nat.div_add_mod q L
        have e : q / L = r / L := by omega
        rw [e] at hq3
        exact decide_eq_true (by omega))
    omega
/-- so many are ahead in the same heat, when those who come over have come -/
theorem Dt_room {L H r n t F8 : Nat} {A : Int} (hL : 4 ≤ L) (hH : 1 ≤ H) (hn : n ≤ H * L) (hr : r < n) (hF8 : F8 ≤ 3) (hA : A = if H < 4 then 0 else (F8 : Int) - fb_ct (fun r => decide (h0 L H r = 0)) n) (ht : cg L H n t ≤ A.toNat) : fb_ct (fun q => decide (Dt L H t q = Dt L H t r)) r < L := by
  have hbase := h0_room hL hH hn hr
  by_cases c0 : cg L H n t = 0
  · -- nobody comes over
    have hDt : ∀ q, q < n → Dt L H t q = h0 L H q := fun q hq => by
      rw [Dt_cg (n := n) (a := t) (b := n) (by rw [c0, cg_n]) hq, Dt_n hq]
    rw [fb_ct_cong (q := fun q => decide (h0 L H q = h0 L H r)) (fun q hq => by rw [hDt q (by omega), hDt r hr])]
    exact hbase
  · have hH4 : ¬ H < 4 := fun z => by rw [if_pos z] at hA; rw [hA] at ht; exact c0 (by have : (0 : Int).toNat = 0 := rfl; omega)
    rw [if_neg hH4] at hA
    by_cases c1 : Dt L H t r = 0
    · -- the first heat: at most three in all
      have hall : fb_ct (fun q => decide (Dt L H t q = 0)) n ≤ fb_ct (fun q => decide (h0 L H q = 0)) n + cg L H n t := by
        unfold cg
        rw [← fb_ct_or (p := fun q => decide (h0 L H q = 0)) (q := fun q => decide (t ≤ q) && decide (h0 L H q = 1)) (fun k _ => by simp; omega)]
        refine fb_ct_sub (fun q _ hq => ?_)
        have := of_decide_eq_true hq
        unfold Dt at this
        by_cases z : h0 L H q = 1 ∧ t ≤ q
        · simp [z.1, z.2]
        · rw [if_neg z] at this
          simp [this]
      have hin : fb_ct (fun q => decide (Dt L H t q = 0)) r + 1 ≤ fb_ct (fun q => decide (Dt L H t q = 0)) n := by
        have := fb_ct_mono (fun q => decide (Dt L H t q = 0)) (m := r + 1) (n := n) (by omega)
        rw [fb_ct_succ, if_pos (decide_eq_true c1)] at this
        exact this
      rw [c1]
      omega
    · refine Nat.lt_of_le_of_lt (fb_ct_sub (fun q hq hp => ?_)) hbase
      have := of_decide_eq_true hp
      unfold Dt at this c1
      by_cases z : h0 L H r = 1 ∧ t ≤ r
      · rw [if_pos z] at c1; exact absurd rfl c1
      · rw [if_neg z] at this c1
        by_cases y : h0 L H q = 1 ∧ t ≤ q
        · rw [if_pos y] at this; exact absurd this.symm c1
        · rw [if_neg y] at this; exact decide_eq_true this
/-- who is in a heat has a lane, who is not has none -/
def HL (S : Nat → Nat) : Prop := ∀ k, k < S 311 → (S (10 * k + 3) = 0 → S (10 * k + 4) = 0) ∧ (S (10 * k + 3) ≠ 0 → 1 ≤ S (10 * k + 4) ∧ S (10 * k + 4) ≤ 10)
theorem nOf_nI {n : Nat} (h : n < 2 ^ 32) : nOf (nI n) = n := pk_tn h
theorem Sdraw_HL {S : Nat → Nat} {EB t : Nat} (hI : IV EB S) (hp : 0 < pres S (S 311)) (h0' : S 310 = 0) (ht : cg (S 317) (nH S) (pres S (S 311)) t = min (nA S (nH S)).toNat (nT S (nH S))) : HL (Sdraw S t) := by
  have hB := hI.wb
  have hN := hB.1
  have hl := hB.2.2.2.2.2.1
  have hf := hB.2.2.2.2.2.2.1
  obtain ⟨hH1, hH8, hHL⟩ := nH_in hB hp
  intro k hk
  have e11 : Sdraw S t 311 = S 311 := by unfold Sdraw; rw [upN_n (by omega), upN_n (by omega), Sd_hi (by omega)]
  rw [e11] at hk
  have e3 : Sdraw S t (10 * k + 3) = if k < S 311 ∧ UN S k = true then Dt (S 317) (nH S) t (erank S k) + 1 else S (10 * k + 3) := by unfold Sdraw; rw [upN_n (by omega), upN_n (by omega), Sd_3 (by omega)]
  have e4 : Sdraw S t (10 * k + 4) = if k < S 311 ∧ UN S k = true then nOf (laneI S (hcn S t k)) else S (10 * k + 4) := by unfold Sdraw; rw [upN_n (by omega), upN_n (by omega), Sd_4 (by omega)]
  rw [e3, e4]
  by_cases c : UN S k = true
  · rw [if_pos ⟨hk, c⟩, if_pos ⟨hk, c⟩]
    refine ⟨fun z => absurd z (by omega), fun _ => ?_⟩
    have hrm : hcn S t k < S 317 := Dt_room (F8 := S 318) (A := nA S (nH S)) hl.1 hH1 hHL (erank_lt hk c) hf.2 rfl (by rw [ht]; exact Nat.min_le_left _ _)
    have hin := laneN_in hB hrm
    rw [laneI_N hin.2.2, nOf_nI (by omega)]
    omega
  · rw [if_neg (fun z => c z.2), if_neg (fun z => c z.2)]
    have := (hI.s0 h0').2 k hk
    have a3 := this 3 (by omega) (by omega)
    have a4 := this 4 (by omega) (by omega)
    exact ⟨fun _ => a4, fun z => absurd a3 z⟩
theorem WB.h12 {S : Nat → Nat} (h : WB S) {v : Nat} (hv : v ≤ 8) : WB (upN S 312 v) := by
  obtain ⟨b1, b2, b3, b4, b5, b6, b7, b8, b9, b10⟩ := h
  exact ⟨by rw [upN_n (by omega)]; exact b1, by rw [upN_n (by omega)]; exact b2, by rw [upN_s]; exact hv, by rw [upN_n (by omega)]; exact b4, by rw [upN_n (by omega)]; exact b5, by rw [upN_n (by omega)]; exact b6, by rw [upN_n (by omega)]; exact b7, by rw [upN_n (by omega)]; exact b8, fun p hp => by rw [upN_n (by omega)]; exact b9 p hp, fun k hk a ha => by rw [upN_n (by omega)]; exact b10 k hk a ha⟩
theorem L_draw37 {S : Nat → Nat} {t : Nat} {x9 : Int32} (hB : WB S) (hN : S 311 ≤ 20) (hp : 0 < pres S (S 311)) : ∀ (d fu : Nat) (w : gWd) (j : Nat), j + d = S 311 → d < fu → LV w (upN (Sd S t j) 312 (nH S)) → (∀ r, r < pres S (S 311) → w 8 7 (20 + r) = nI (Dt (S 317) (nH S) t r)) → ∃ w', F_L_isStage_37 fu w x9 (nI j) = F_L_isStage_111 w' x9 ∧ agL w w' ∧ LV w' (Sdraw S t) := by
  have hl := hB.2.2.2.2.2.1
  have hpl := pres_le S (S 311)
  obtain ⟨hH1, hH8, hHL⟩ := nH_in hB hp
  intro d
  induction d with
  | zero =>
    intro fu w j hj hfu hS hd
    obtain ⟨fu, rfl⟩ : ∃ f, fu = f + 1 := ⟨fu - 1, by omega⟩
    obtain rfl : j = S 311 := by omega
    have e11 : upN (Sd S t (S 311)) 312 (nH S) 311 = S 311 := by rw [upN_n (by omega), Sd_hi (by omega)]
    have l1 := hS.ut (j := 0) (by omega) 1
    rw [upN_comm (by omega)] at l1
    refine ⟨up3 w 8 5 0 (nI 1), ?_, agL.up _ _ _, l1⟩
    rw [F_L_isStage_37_s, hS.N, e11, iLe (by omega) (by omega), if_pos (Nat.le_refl _), gS_e]
    rfl
  | succ d ih =>
    intro fu w j hj hfu hS hd
    obtain ⟨fu, rfl⟩ : ∃ f, fu = f + 1 := ⟨fu - 1, by omega⟩
    have hj2 : j < 20 := by omega
    have hg := (hB.k (k := j) (by omega)).2.2.1
    have e11 : upN (Sd S t j) 312 (nH S) 311 = S 311 := by rw [upN_n (by omega), Sd_hi (by omega)]
    have e17 : upN (Sd S t j) 312 (nH S) 317 = S 317 := by rw [upN_n (by omega), Sd_hi (by omega)]
    have e2 : upN (Sd S t j) 312 (nH S) (10 * j + 2) = S (10 * j + 2) := by rw [upN_n (by omega), Sd_ne (by omega) (by omega) (by omega)]
    have hB1 : WB (upN (Sd S t j) 312 (nH S)) := (Sd_WB hB hp).h12 hH8
    have her : erank (upN (Sd S t j) 312 (nH S)) j = erank S j := by rw [erank_up (by rw [Sd_hi (by omega)]; omega) (by omega), Sd_erank]
    rw [F_L_isStage_37_s, hS.N, e11, iLe (by omega) (by omega), if_neg (by omega), g32 hj2, hS.g2 hj2, e2, iE0 (by omega)]
    by_cases c : S (10 * j + 2) = 0
    · have hU : UN S j = true := UN_t.mpr c
      have hrk := erank_lt (S := S) (k := j) (by omega) hU
      have hDl := Dt_le (L := S 317) (H := nH S) (t := t) (r := erank S j) hH1
      rw [if_pos c, L_rank hS hB1 (by rw [e11]; exact hN) hj2, her, gP_s, n20, gB40 (by omega), hd _ hrk, g30 hj2, nI_1, gS_e]
      have hS1 := hS.u3 hj2 (Dt (S 317) (nH S) t (erank S j) + 1)
      have hd1 : ∀ q, q < pres S (S 311) → up3 w 8 1 (3 * j) (nI (Dt (S 317) (nH S) t (erank S j) + 1)) 8 7 (20 + q) = nI (Dt (S 317) (nH S) t q) ∧ Dt (S 317) (nH S) t q < 1000 := fun q hq => by
        have := Dt_le (L := S 317) (H := nH S) (t := t) (r := q) hH1
        rw [up3_n (by omega)]
        exact ⟨hd q hq, by omega⟩
      have hB2 : WB (upN (upN (Sd S t j) 312 (nH S)) (10 * j + 3) (Dt (S 317) (nH S) t (erank S j) + 1)) := hB1.upk (by omega) (by omega) (by
        refine ⟨fun h => ?_, fun h => ?_, fun h => ?_, fun h => ?_, fun h => ?_, fun h => ?_, fun h => ?_, fun h => ?_⟩ <;> first | (exact absurd h (by decide)) | omega)
      rw [L_planLane hS1 hB2 (n := pres S (S 311)) (by omega) hrk hd1, gP_s, g31 hj2]
      have eL : laneI (upN (upN (Sd S t j) 312 (nH S)) (10 * j + 3) (Dt (S 317) (nH S) t (erank S j) + 1)) (fb_ct (fun q => decide (Dt (S 317) (nH S) t q = Dt (S 317) (nH S) t (erank S j))) (erank S j)) = nI (nOf (laneI S (hcn S t j))) := by
        rw [nI_nOf, laneI_cg (S := S) (by rw [upN_n (by omega)]; exact e17)]
        rfl
      rw [eL, gS_e, nI_1, gS_e]
      have hS2 := hS1.u4 hj2 (nOf (laneI S (hcn S t j)))
      rw [upN_comm (a := 312) (b := 10 * j + 3) (by omega), upN_comm (a := 312) (b := 10 * j + 4) (by omega), ← Sd_t (by omega) hU] at hS2
      obtain ⟨w', f1, a1, l1⟩ := ih fu _ (j + 1) (by omega) (by omega) hS2 (fun r hr => by rw [up3_n (by omega)]; exact (hd1 r hr).1)
      exact ⟨w', f1, (agL.up _ _ _).tr ((agL.up _ _ _).tr a1), l1⟩
    · have hU : UN S j = false := by
        cases h : UN S j with
        | true => exact absurd (UN_t.mp h) c
        | false => rfl
      rw [if_neg c, nI_1, gS_e]
      rw [← Sd_f hU] at hS
      exact ih fu w (j + 1) (by omega) (by omega) hS hd
