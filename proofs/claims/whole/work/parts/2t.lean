/-! level 2: leader -/
def ahd (S : Nat → Nat) (c q : Nat) : Bool := decide (S (300 + c) < S (300 + q) ∨ (S (300 + q) = S (300 + c) ∧ q < c))
def crank (S : Nat → Nat) (c : Nat) : Nat := fb_ct (ahd S c) 6
def clE (S : Nat → Nat) (q : Nat) : Nat := 8 * (2 ^ 30 - S (300 + q)) + q
theorem clE_inj {S : Nat → Nat} {a b : Nat} (ha : a < 6) (hb : b < 6) (h : clE S a = clE S b) : a = b := by
  unfold clE at h
  omega
theorem crank_rk {S : Nat → Nat} (hP : ∀ q, q < 6 → S (300 + q) < 2 ^ 30) {c : Nat} (hc : c < 6) : crank S c = rk (fun _ => true) (clE S) 6 c := by
  unfold crank rk
  refine fb_ct_cong (fun q hq => ?_)
  have h1 := hP q hq
  have h2 := hP c hc
  unfold ahd clE
  rw [Bool.true_and]
  by_cases e : 8 * (2 ^ 30 - S (300 + q)) + q < 8 * (2 ^ 30 - S (300 + c)) + c
  · rw [decide_eq_true e, decide_eq_true]; omega
  · rw [decide_eq_false e, decide_eq_false]; omega
theorem clubs_lt {S : Nat → Nat} {EB : Nat} (hI : IV EB S) (hE : EB ≤ 100000) {q : Nat} (hq : q < 6) : S (300 + q) < 2 ^ 30 := by
  have hN := hI.wb.1
  rw [hI.cl hq]
  have h1 : clubSum S q (S 311) ≤ S 311 * (120 * EB) := fb_sm_bound (fun k hk => by
    have := hI.pt hk
    have h2 := hI.eb
    split
    · omega
    · exact Nat.zero_le _)
  have h2 : S 311 * (120 * EB) ≤ 30 * 12000000 := Nat.mul_le_mul hN (by omega)
  omega
theorem C_ahead {w : gWd} {S : Nat → Nat} {i EB c : Nat} (hI : IV EB S) (hE : EB ≤ 100000) (hC : CV (w i) S) (hc : c < 6) : F_X8_clubsAhead w i (nI c) = some (nI (crank S c)) := by
  have hB := hI.wb
  have hP : ∀ q, q < 6 → S (300 + q) < 2 ^ 30 := fun q hq => clubs_lt hI hE hq
  have h0 := hP c hc
  have hcl : ∀ q, q < 6 → F_X8_ofClub w i (nI q) = some (nI (S (300 + q))) := fun q hq => by rw [C_ofClub hC hB hq, hI.cl hq]
  unfold F_X8_clubsAhead
  rw [hcl c hc, gP_s]
  refine loopI (F := fun fu (acc : Nat) j => F_X8_clubsAhead_11 fu w i (nI c) (nI (S (300 + c))) (nI acc) (nI j)) 6 (fun j acc => acc = fb_ct (ahd S c) j) (fun r => r = some (nI (crank S c))) ?_ ?_ gFU 0 0 (by omega) (gFU_lt (by omega)) rfl
  · intro fu acc h
    show F_X8_clubsAhead_11 (fu + 1) w i (nI c) (nI (S (300 + c))) (nI acc) (nI 6) = _
    rw [F_X8_clubsAhead_11_s, if_pos (by decide), h]
    rfl
  · intro fu acc j hj h
    right
    refine ⟨_, rfl, ?_⟩
    show F_X8_clubsAhead_11 (fu + 1) w i (nI c) (nI (S (300 + c))) (nI acc) (nI j) = F_X8_clubsAhead_11 fu w i (nI c) (nI (S (300 + c))) _ (nI (j + 1))
    have h1 := hP j hj
    rw [F_X8_clubsAhead_11_s, show (6 : Int32) = nI 6 from rfl, iLe (by omega) (by omega), if_neg (by omega), hcl j hj, gP_s, iLt (by omega) (by omega), iEq (by omega) (by omega), iLe (by omega) (by omega), fb_ct_succ, h]
    unfold F_X8_clubsAhead_44
    by_cases e1 : S (300 + c) < S (300 + j)
    · rw [if_pos e1, if_pos (show ahd S c j = true by simp [ahd, e1])]
      simp only [gS_e, nI_1]
    · rw [if_neg e1]
      by_cases e2 : S (300 + j) = S (300 + c)
      · rw [if_pos e2]
        by_cases e3 : c ≤ j
        · rw [if_pos e3, if_neg (show ¬ ahd S c j = true by simp [ahd, e2]; omega)]
          simp only [gS_e, nI_1, Nat.add_zero]
        · rw [if_neg e3, if_pos (show ahd S c j = true by simp [ahd, e2]; omega)]
          simp only [gS_e, nI_1]
      · rw [if_neg e2, if_neg (show ¬ ahd S c j = true by simp [ahd, e2]; omega)]
        simp only [gS_e, nI_1, Nat.add_zero]
theorem M_leader28 {rec16 : gWd → Int32 → Int32 → Int32 → Option Int32} {w : gWd} {S : Nat → Nat} {EB c x : Nat} {x2 : Int32} (hI : IV EB S) (hE : EB ≤ 100000) (hS : SV w S) (hc : c < 6) (hx : x < 6) : F_X12_leader_28 rec16 gFU w (nI x) x2 (nI c) 0 0 = if crank S c = x then rec16 w (nI x) (nI c) (nI (c + 1)) else rec16 w (nI x) x2 (nI (c + 1)) := by
  have hP : ∀ q, q < 6 → S (300 + q) < 2 ^ 30 := fun q hq => clubs_lt hI hE hq
  have h0 := hP c hc
  have hr := fb_ct_le (ahd S c) 6
  refine loopI (F := fun fu (acc : Nat) j => F_X12_leader_28 rec16 fu w (nI x) x2 (nI c) (nI acc) (nI j)) 6 (fun j acc => acc = fb_ct (ahd S c) j) (fun r => r = if crank S c = x then rec16 w (nI x) (nI c) (nI (c + 1)) else rec16 w (nI x) x2 (nI (c + 1))) ?_ ?_ gFU 0 0 (by omega) (gFU_lt (by omega)) rfl
  · intro fu acc h
    show F_X12_leader_28 rec16 (fu + 1) w (nI x) x2 (nI c) (nI acc) (nI 6) = _
    rw [F_X12_leader_28_s, if_pos (by decide), h, iEq (by omega) (by omega)]
    show (if crank S c = x then _ else _) = _
    simp only [gS_e, nI_1]
  · intro fu acc j hj h
    right
    refine ⟨_, rfl, ?_⟩
    show F_X12_leader_28 rec16 (fu + 1) w (nI x) x2 (nI c) (nI acc) (nI j) = F_X12_leader_28 rec16 fu w (nI x) x2 (nI c) _ (nI (j + 1))
    have h1 := hP j hj
    have hs : (nI (S (300 + j)) - nI (S (300 + c))).toInt = (S (300 + j) : Int) - S (300 + c) := pk_sub_toInt (by omega) (by omega)
    have c1 : (0 < nI (S (300 + j)) - nI (S (300 + c))) ↔ S (300 + c) < S (300 + j) := by
      rw [Int32.lt_iff_toInt_lt, hs, show (0 : Int32).toInt = 0 from rfl]; omega
    have c2 : (nI (S (300 + j)) - nI (S (300 + c)) = 0) ↔ S (300 + j) = S (300 + c) := by
      rw [← Int32.toInt_inj, hs, show (0 : Int32).toInt = 0 from rfl]; omega
    rw [F_X12_leader_28_s, show (6 : Int32) = nI 6 from rfl, iLe (by omega) (by omega), if_neg (by omega), show (300 : Int32) = nI 300 from rfl, nI_add, nI_add, gB_n _ (by omega) (by omega), gB_n _ (by omega) (by omega), hS _ (by omega), hS _ (by omega), gS_e, iLe (by omega) (by omega), fb_ct_succ, h]
    unfold F_X12_leader_77 F_X12_leader_81
    by_cases e1 : S (300 + c) < S (300 + j)
    · rw [if_pos (c1.mpr e1), if_pos (show ahd S c j = true by simp [ahd, e1])]
      simp only [gS_e, nI_1]
    · rw [if_neg (fun z => e1 (c1.mp z))]
      by_cases e2 : S (300 + j) = S (300 + c)
      · rw [if_pos (c2.mpr e2)]
        by_cases e3 : c ≤ j
        · rw [if_pos e3, if_neg (show ¬ ahd S c j = true by simp [ahd, e2]; omega)]
          simp only [gS_e, nI_1, Nat.add_zero, Int32.add_zero]
        · rw [if_neg e3, if_pos (show ahd S c j = true by simp [ahd, e2]; omega)]
          simp only [gS_e, nI_1]
      · rw [if_neg (fun z => e2 (c2.mp z)), if_neg (show ¬ ahd S c j = true by simp [ahd, e2]; omega)]
        simp only [gS_e, nI_1, Nat.add_zero, Int32.add_zero]
theorem Q_leader {w : gWd} {S : Nat → Nat} {EB : Nat} (hI : IV EB S) (hE : EB ≤ 100000) (hC : CV (w 0) S) (hS : SV w S) (x : Int32) : QQ (F_X11_leader w x) (F_X12_leader w x) := by
  have hP : ∀ q, q < 6 → S (300 + q) < 2 ^ 30 := fun q hq => clubs_lt hI hE hq
  unfold F_X11_leader F_X11_leader_10 F_X12_leader
  by_cases a : x < 0
  · exact ⟨-1000001, by rw [if_pos a], by rw [M_in, if_pos a, gP_s, if_pos rfl]⟩
  · by_cases b : nI 6 ≤ x
    · refine ⟨-1000001, ?_, ?_⟩
      · rw [if_neg a, if_neg (show ¬ x < 6 from fun z => (fa_of_lt z).2.1 b)]
      · rw [show (5 : Int32) = nI 5 from rfl, M_in_f (n := 5) (by omega) (Or.inr b), gP_s, if_pos rfl]
    · obtain ⟨r, hr, rfl⟩ := arg_lt (n := 6) (by omega) a b
      obtain ⟨q0, hq0, -, hk⟩ := rk_surj (U := fun _ => true) (e := clE S) (N := 6) (fun a b ha hb h => clE_inj ha hb h) (x := r) hr
      have hrk : crank S q0 = r := (crank_rk hP hq0).trans hk
      have huni : ∀ c, c < 6 → crank S c = r → c = q0 := fun c hc h => rk_inj (fun _ => true) (clE S) 6 (fun a b ha hb h => clE_inj ha hb h) hc hq0 rfl rfl (by rw [← crank_rk hP hc, ← crank_rk hP hq0, h, hrk])
      refine ⟨nI q0, ?_, ?_⟩
      · rw [if_neg a, if_pos (show nI r < 6 from fa_of_nle b)]
        have : F_X8_clubAtRank w 0 (nI r) = some (nI q0) := by
          unfold F_X8_clubAtRank
          refine loopI (F := fun fu (_ : Unit) j => F_X8_clubAtRank_2 fu w 0 (nI r) (nI j)) 6 (fun j _ => j ≤ q0) (fun o => o = some (nI q0)) ?_ ?_ gFU () 0 (by omega) (gFU_lt (by omega)) (Nat.zero_le _)
          · intro fu _ h
            omega
          · intro fu _ j hj h
            have hcr := fb_ct_le (ahd S j) 6
            have e0 : F_X8_clubAtRank_2 (fu + 1) w 0 (nI r) (nI j) = if crank S j = r then some (nI j) else F_X8_clubAtRank_2 fu w 0 (nI r) (nI (j + 1)) := by
              rw [F_X8_clubAtRank_2_s, show (6 : Int32) = nI 6 from rfl, iLe (by omega) (by omega), if_neg (by omega), C_ahead hI hE hC hj, gP_s]
              unfold crank
              rw [iEq (by omega) (by omega)]
              simp only [gS_e, nI_1]
            by_cases e : crank S j = r
            · left
              show F_X8_clubAtRank_2 (fu + 1) w 0 (nI r) (nI j) = _
              rw [e0, if_pos e, huni j hj e]
            · right
              refine ⟨(), ?_, ?_⟩
              · rcases Nat.lt_or_ge j q0 with z | z
                · exact z
                · exact absurd (show crank S j = r by rw [show j = q0 by omega]; exact hrk) e
              · show F_X8_clubAtRank_2 (fu + 1) w 0 (nI r) (nI j) = F_X8_clubAtRank_2 fu w 0 (nI r) (nI (j + 1))
                rw [e0, if_neg e]
        rw [this, gP_s]
      · rw [show (5 : Int32) = nI 5 from rfl, M_in_t (by omega) (by omega), gP_s, if_neg (by decide)]
        refine loopI (F := fun fu (st : Nat) j => F_X12_leader_16 fu w (nI r) (nI st) (nI j)) 6 (fun j st => q0 < j → st = q0) (fun o => o = some (nI q0)) ?_ ?_ gFU 0 0 (by omega) (gFU_lt (by omega)) (fun h => absurd h (Nat.not_lt_zero _))
        · intro fu st h
          show F_X12_leader_16 (fu + 1) w (nI r) (nI st) (nI 6) = _
          rw [F_X12_leader_16_s, if_pos (by decide), h hq0]
        · intro fu st j hj h
          right
          have e0 : F_X12_leader_16 (fu + 1) w (nI r) (nI st) (nI j) = if crank S j = r then F_X12_leader_16 fu w (nI r) (nI j) (nI (j + 1)) else F_X12_leader_16 fu w (nI r) (nI st) (nI (j + 1)) := by
            rw [F_X12_leader_16_s, show (6 : Int32) = nI 6 from rfl, iLe (by omega) (by omega), if_neg (by omega), M_leader28 hI hE hS hj hr]
          show ∃ st', _ ∧ F_X12_leader_16 (fu + 1) w (nI r) (nI st) (nI j) = F_X12_leader_16 fu w (nI r) (nI st') (nI (j + 1))
          by_cases e : crank S j = r
          · exact ⟨j, fun _ => huni j hj e, by rw [e0, if_pos e]⟩
          · refine ⟨st, fun z => h ?_, by rw [e0, if_neg e]⟩
            rcases Nat.lt_or_ge q0 j with y | y
            · exact y
            · exact absurd (show crank S j = r by rw [show j = q0 by omega]; exact hrk) e
