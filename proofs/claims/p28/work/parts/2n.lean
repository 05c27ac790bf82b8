/-! level 2: end, both sides -/
theorem sumw_succ (L a n : Nat) : sumw L a (n + 1) = sumw L a n + wo L (a + n) := rfl
theorem C_shared {w : gWd} {L a n : Nat} (ha : 1 ≤ a) (hn : 1 ≤ n) (h : a + n ≤ L + 1) (hL : L ≤ 10) : F_X8_shared w (nI a) (nI n) (nI L) = some (nI (2 * sumw L a n / n)) := by
  unfold F_X8_shared
  have hs := sumw_le ha h
  have hs2 : n * (L + 1) ≤ 10 * 11 := Nat.mul_le_mul (by omega) (by omega)
  refine loopI (F := fun fu (acc : Nat) j => F_X8_shared_5 fu w (nI a) (nI n) (nI L) (nI acc) (nI j)) (a + n) (fun j acc => a ≤ j ∧ acc = sumw L a (j - a)) (fun r => r = some (nI (2 * sumw L a n / n))) ?_ ?_ gFU 0 a (by omega) (gFU_lt (by omega)) ⟨Nat.le_refl _, by rw [Nat.sub_self]; rfl⟩
  · intro fu acc hI
    obtain ⟨h1, h2⟩ := hI
    rw [Nat.add_sub_cancel_left] at h2
    show F_X8_shared_5 (fu + 1) w (nI a) (nI n) (nI L) (nI acc) (nI (a + n)) = _
    rw [F_X8_shared_5_s, nI_add, iLe (by omega) (by omega), if_pos (Nat.le_refl _), show (1 : Int32) = nI 1 from rfl, iLe (by omega) (by omega), if_pos hn, gD_n (by omega) (by omega), show (2 : Int32) = nI 2 from rfl, pk_mul, pk_div (by omega) (by omega) (by omega), h2]
  · intro fu acc j hj hI
    obtain ⟨h1, h2⟩ := hI
    right
    refine ⟨acc + wo L j, ⟨by omega, ?_⟩, ?_⟩
    · rw [show j + 1 - a = (j - a) + 1 by omega, sumw_succ, show a + (j - a) = j by omega, h2]
    show F_X8_shared_5 (fu + 1) w (nI a) (nI n) (nI L) (nI acc) (nI j) = F_X8_shared_5 fu w (nI a) (nI n) (nI L) (nI (acc + wo L j)) (nI (j + 1))
    rw [F_X8_shared_5_s, nI_add, iLe (by omega) (by omega), if_neg (by omega), iE1 (by omega), pk_sub (by omega)]
    unfold wo
    by_cases e : j = 1
    · rw [if_pos e, if_pos e]
      simp only [gS_e, nI_1, nI_add]
    · rw [if_neg e, if_neg e]
      simp only [gS_e, nI_1, nI_add, Nat.add_zero, Int32.add_zero]
section ENDS
variable {S : Nat → Nat} {j : Nat}
theorem Se_ctF (hB : WB S) (h2 : S 310 = 2) (hj : j < S 311) (ht : tm S j = true) : ctF (Se S j) (S (10 * j + 7) - 1) (S 311) = pl S j - 1 ∧ ctF (Se S j) (S (10 * j + 7) - 1 + 1) (S 311) = pl S j - 1 + sh S j := by
  have hN := hB.1
  have h1 := tm_t.mp ht
  have e : tcol (Se S j) = 7 := by unfold tcol; rw [Se_n hB (by omega) (by omega), if_neg (by omega)]
  have e7 : ∀ q, q < S 311 → Se S j (10 * q + 7) = S (10 * q + 7) := fun q hq => Se_n hB (by omega) (by omega)
  constructor
  · unfold ctF pl
    rw [Nat.add_sub_cancel, e]
    refine fb_ct_cong (fun q hq => ?_)
    rw [e7 q hq, show S (10 * j + 7) - 1 + 1 = S (10 * j + 7) by omega]
    rfl
  · have := fb_ct_or (p := fun q => tm S q && decide (S (10 * q + 7) < S (10 * j + 7))) (q := fun q => decide (S (10 * q + 7) = S (10 * j + 7))) (n := S 311) (fun k hk hp => by
      have a := hp.1
      have b := hp.2
      simp at a b
      omega)
    unfold ctF pl sh
    rw [Nat.add_sub_cancel, ← this, e]
    refine fb_ct_cong (fun q hq => ?_)
    rw [e7 q hq]
    unfold tm
    by_cases a : 1 < S (10 * q + 7)
    · rw [decide_eq_true a, Bool.true_and, Bool.true_and]
      by_cases b : S (10 * q + 7) < S (10 * j + 7)
      · rw [decide_eq_true b, Bool.true_or, decide_eq_true]; omega
      · rw [decide_eq_false b, Bool.false_or]
        by_cases d : S (10 * q + 7) = S (10 * j + 7)
        · rw [decide_eq_true d, decide_eq_true]; omega
        · rw [decide_eq_false d, decide_eq_false]; omega
    · rw [decide_eq_false a, Bool.false_and, Bool.false_and, Bool.false_or, eq_comm, decide_eq_false]; omega
theorem C_place {w : gWd} {i : Nat} (hB : WB S) (h2 : S 310 = 2) (hj : j < S 311) (hc : fb_ct (tm S) (S 311) ≤ S 317) (hC : CV (w i) (Se S j)) : F_X8_place w i i j = some (if tm S j = true then up3 (up3 w i (4 + j) 9 (nI (pl S j))) i (4 + j) 10 (nI (S (10 * j + 9) + ptS S j)) else w) := by
  have hN := hB.1
  have h7 := hB.2.2.2.2.2.1
  have hg := (hB.k (k := j) (by omega)).2.2.2.2.2.2.2.1
  have hT := Se_WB hB (j := j) (by omega)
  have e311 : Se S j 311 = S 311 := Se_n hB (by omega) (by omega)
  have e317 : Se S j 317 = S 317 := Se_n hB (by omega) (by omega)
  have e7 : Se S j (10 * j + 7) = S (10 * j + 7) := Se_n hB (by omega) (by omega)
  have e9 : Se S j (10 * j + 9) = S (10 * j + 9) := by rw [Se_9 hB (by omega) (by omega), if_neg (fun z => by omega)]
  have hj' : j < Se S j 311 := by rw [e311]; exact hj
  have h8w : w i (4 + j) 8 = nI (S (10 * j + 7)) - 1 := by rw [hC.f8 hj', e7]
  unfold F_X8_place
  rw [h8w]
  by_cases ht : tm S j = true
  · have h1 := tm_t.mp ht
    obtain ⟨c1, c2⟩ := Se_ctF hB h2 hj ht
    have hpl := pl_le hj ht
    have hps := pl_sh ht
    have hsh := sh_pos (S := S) hj
    have hC4 : CV (up3 w i (4 + j) 9 (nI (pl S j)) i) (upN (Se S j) (10 * j + 8) (pl S j)) := hC.upk (k := j) (a := 8) (by omega) (by omega) rfl
    have hB4 : WB (upN (Se S j) (10 * j + 8) (pl S j)) := hT.upk (by omega) (by omega) (okv8 (by omega))
    have e4 : up3 w i (4 + j) 9 (nI (pl S j)) i (4 + j) 8 = nI (S (10 * j + 7)) - 1 := by rw [up3_n (by omega)]; exact h8w
    have e410 : up3 w i (4 + j) 9 (nI (pl S j)) i (4 + j) 10 = nI (S (10 * j + 9)) := by rw [up3_n (by omega), hC.f10 hj', e9]
    have ecg : ∀ x, ctF (upN (Se S j) (10 * j + 8) (pl S j)) x (S 311) = ctF (Se S j) x (S 311) := fun x => by
      unfold ctF
      refine fb_ct_cong (fun q hq => ?_)
      have : tcol (upN (Se S j) (10 * j + 8) (pl S j)) = tcol (Se S j) := by unfold tcol; rw [upN_n (by omega)]
      have h57 := tcol_in (Se S j)
      rw [this, upN_n (by omega)]
    have f1 := C_faster (t := S (10 * j + 7) - 1) hC hT (by omega)
    have f2 := C_faster (t := S (10 * j + 7) - 1 + 1) hC4 hB4 (by omega)
    have f3 := C_faster (t := S (10 * j + 7) - 1) hC4 hB4 (by omega)
    rw [e311, c1] at f1
    rw [upN_n (by omega), e311, ecg, c2] at f2
    rw [upN_n (by omega), e311, ecg, c1] at f3
    have l4 := C_lanes hC4
    rw [upN_n (by omega), e317] at l4
    rw [if_pos ((m0Lt (by omega)).mpr h1), mN (by omega) (by omega), f1, gP_s, gS_e, nI_1, show pl S j - 1 + 1 = pl S j by omega, e4, mN (by omega) (by omega), nI_1, f2, gP_s, f3, gP_s, gS_e, pk_sub (by omega), show pl S j - 1 + sh S j - (pl S j - 1) = sh S j by omega, l4, gP_s, up3_s, C_shared hpl.1 hsh (by omega) (by omega), gP_s, gS_e, e410, nI_add, if_pos ht]
    rfl
  · rw [if_neg (fun z => ht (tm_t.mpr ((m0Lt (by omega)).mp z))), if_neg ht]
end ENDS
