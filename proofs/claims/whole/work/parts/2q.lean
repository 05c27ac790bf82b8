/-! level 2: questions -/
def QQ (a b : Option Int32) : Prop := ∃ r, a = some r ∧ b = some r
theorem arg_pos {x : Int32} (h : 0 ≤ x) : ∃ r, r < 2 ^ 31 ∧ x = nI r := by
  have h1 := fb_rng x
  rw [Int32.le_iff_toInt_le, show (0 : Int32).toInt = 0 from rfl] at h
  refine ⟨x.toInt.toNat, by omega, ?_⟩
  apply Int32.toInt_inj.mp
  rw [nI_toInt (by omega)]
  omega
theorem C_ofClub {w : gWd} {S : Nat → Nat} {i q : Nat} (hC : CV (w i) S) (hB : WB S) (hq : q < 6) : F_X8_ofClub w i (nI q) = some (nI (clubSum S q (S 311))) := by
  unfold F_X8_ofClub
  have hN := hB.1
  refine loopI (F := fun fu (acc : Nat) j => F_X8_ofClub_4 fu w i (nI q) (nI acc) (nI j)) (S 311) (fun j acc => acc = clubSum S q j) (fun r => r = some (nI (clubSum S q (S 311)))) ?_ ?_ gFU 0 0 (by omega) (gFU_lt (by omega)) rfl
  · intro fu acc hI
    show F_X8_ofClub_4 (fu + 1) w i (nI q) (nI acc) (nI (S 311)) = _
    rw [F_X8_ofClub_4_s, hC.sz, iLe (by omega) (by omega), if_pos (Nat.le_refl _), hI]
  · intro fu acc j hj hI
    right
    refine ⟨_, rfl, ?_⟩
    show F_X8_ofClub_4 (fu + 1) w i (nI q) (nI acc) (nI j) = F_X8_ofClub_4 fu w i (nI q) _ (nI (j + 1))
    have hc := (hB.k (k := j) (by omega)).1
    unfold clubSum at hI ⊢
    rw [F_X8_ofClub_4_s, hC.sz, iLe (by omega) (by omega), if_neg (by omega), gB_n _ (by omega) (by omega), hC.f1 hj, iEq (by omega) (by omega), gB_n _ (by omega) (by omega), hC.f10 hj, fb_sm_succ, hI]
    by_cases e : S (10 * j) = q
    · rw [if_pos e, if_pos e]
      simp only [gS_e, nI_1, nI_add]
    · rw [if_neg e, if_neg e]
      simp only [gS_e, nI_1, Nat.add_zero]
theorem Q_points {w : gWd} {S : Nat → Nat} {EB : Nat} (hI : IV EB S) (hC : CV (w 0) S) (hS : SV w S) (x : Int32) : QQ (F_X11_points w x) (F_X12_points w x) := by
  have hB := hI.wb
  unfold F_X11_points F_X12_points F_X11_points_10
  by_cases a : x < 0
  · exact ⟨-1000001, by rw [if_pos a], by rw [M_in, if_pos a, gP_s, if_pos rfl]⟩
  · by_cases b : nI 6 ≤ x
    · refine ⟨-1000001, ?_, ?_⟩
      · rw [if_neg a, if_neg (show ¬ x < 6 from fun z => (fa_of_lt z).2.1 b)]
      · rw [show (5 : Int32) = nI 5 from rfl, M_in_f (n := 5) (by omega) (Or.inr b), gP_s, if_pos rfl]
    · obtain ⟨q, hq, rfl⟩ := arg_lt (n := 6) (by omega) a b
      refine ⟨nI (clubSum S q (S 311)), ?_, ?_⟩
      · rw [if_neg a, if_pos (show nI q < 6 from fa_of_nle b), C_ofClub hC hB hq, gP_s]
      · rw [show (5 : Int32) = nI 5 from rfl, M_in_t (by omega) (by omega), gP_s, if_neg (by decide), show (300 : Int32) = nI 300 from rfl, nI_add, gB_n _ (by omega) (by omega), hS _ (by omega), hI.cl hq]
theorem kth_no {p : Nat → Bool} {n k r : Nat} (hk : k < n) (hp : p k = true) (hc : fb_ct p k = r) (h : fb_ct p n ≤ r) : False := by
  have := fb_ct_mono p (m := k + 1) (n := n) (by omega)
  rw [fb_ct_succ, if_pos hp] at this
  omega
theorem Q_missing {w : gWd} {S : Nat → Nat} {EB : Nat} (hI : IV EB S) (hC : CV (w 0) S) (hS : SV w S) (x : Int32) : QQ (F_X11_missing w x) (F_X12_missing w x) := by
  unfold F_X11_missing F_X12_missing
  by_cases a : 0 ≤ x
  · rw [if_pos a, if_pos a]
    obtain ⟨r, hr, rfl⟩ := arg_pos a
    rcases C_still (r := r) hI hC hr with ⟨k, h1, h2, h3, h4⟩ | ⟨h1, h2⟩
    · rcases M_missing11 (r := r) hS hI.wb hr with ⟨k', g1, g2, g3, g4⟩ | ⟨g1, g2⟩
      · have : k = k' := fb_ct_kth_one h2 g2 (by omega)
        subst this
        exact ⟨nI k, by rw [h4, gP_s], g4⟩
      · exact (kth_no h1 h2 h3 g1).elim
    · rcases M_missing11 (r := r) hS hI.wb hr with ⟨k', g1, g2, g3, g4⟩ | ⟨g1, g2⟩
      · exact (kth_no g1 g2 g3 h1).elim
      · exact ⟨-1000004, by rw [h2, gP_s], g2⟩
  · exact ⟨-1000001, by rw [if_neg a], by rw [if_neg a]⟩
theorem Q_why {w : gWd} {S : Nat → Nat} {EB : Nat} (hI : IV EB S) (hC : CV (w 0) S) (hS : SV w S) : QQ (F_X11_why w) (F_X12_why w) := by
  unfold F_X11_why
  exact ⟨nI (whyN S), by rw [C_why hI hC, gP_s], M_why hS hI.wb⟩
theorem M_res11 {w : gWd} {S : Nat → Nat} {r : Nat} (hS : SV w S) (hB : WB S) (hr : r < 2 ^ 31) : (∃ p, p < 4 ∧ rsv S p = true ∧ fb_ct (rsv S) p = r ∧ F_X12_reserve_11 gFU w (nI r) 0 0 = some (nI (S (306 + p) - 1))) ∨ (fb_ct (rsv S) 4 ≤ r ∧ F_X12_reserve_11 gFU w (nI r) 0 0 = some (-1000004)) := by
  refine loopI (F := fun fu (acc : Nat) j => F_X12_reserve_11 fu w (nI r) (nI acc) (nI j)) 4 (fun j acc => acc = fb_ct (rsv S) j ∧ acc ≤ r ∧ acc ≤ j) (fun o => (∃ p, p < 4 ∧ rsv S p = true ∧ fb_ct (rsv S) p = r ∧ o = some (nI (S (306 + p) - 1))) ∨ (fb_ct (rsv S) 4 ≤ r ∧ o = some (-1000004))) ?_ ?_ gFU 0 0 (by omega) (gFU_lt (by omega)) ⟨rfl, by omega, by omega⟩
  · intro fu acc hI
    right
    refine ⟨by omega, ?_⟩
    show F_X12_reserve_11 (fu + 1) w (nI r) (nI acc) (nI 4) = _
    rw [F_X12_reserve_11_s]
    rfl
  · intro fu acc j hj hI
    have hb := hB.r hj
    have e0 : F_X12_reserve_11 (fu + 1) w (nI r) (nI acc) (nI j) = if rsv S j = true then (if acc = r then some (nI (S (306 + j) - 1)) else F_X12_reserve_11 fu w (nI r) (nI (acc + 1)) (nI (j + 1))) else F_X12_reserve_11 fu w (nI r) (nI acc) (nI (j + 1)) := by
      rw [F_X12_reserve_11_s, show (4 : Int32) = nI 4 from rfl, iLe (by omega) (by omega), if_neg (by omega), show (306 : Int32) = nI 306 from rfl, nI_add, gB_n _ (by omega) (by omega), gB_n _ (by omega) (by omega), gB_n _ (by omega) (by omega), hS _ (by omega), iLe0 (by omega)]
      by_cases e : S (306 + j) = 0
      · rw [if_pos e, if_neg (show ¬ rsv S j = true by simp [rsv, e])]
        simp only [gS_e, nI_1]
      · have hg := (hB.k (k := S (306 + j) - 1) (by omega)).2.2.1
        rw [if_neg e, mN (by omega) (by omega), M_isGone hS hB (by omega), gP_s, iE0 (by omega), iEq (by omega) (by omega)]
        by_cases e2 : S (10 * (S (306 + j) - 1) + 2) = 0
        · rw [if_pos e2, if_pos (show rsv S j = true by simp [rsv, e, e2])]
          simp only [gS_e, nI_1]
        · rw [if_neg e2, if_neg (show ¬ rsv S j = true by simp [rsv, e2])]
          simp only [gS_e, nI_1]
    show (_ ∨ ∃ st', _ ∧ F_X12_reserve_11 (fu + 1) w (nI r) (nI acc) (nI j) = F_X12_reserve_11 fu w (nI r) (nI st') (nI (j + 1)))
    by_cases e : rsv S j = true
    · by_cases e2 : acc = r
      · left
        left
        refine ⟨j, hj, e, by omega, ?_⟩
        show F_X12_reserve_11 (fu + 1) w (nI r) (nI acc) (nI j) = _
        rw [e0, if_pos e, if_pos e2]
      · right
        refine ⟨acc + 1, ⟨by rw [fb_ct_succ, if_pos e]; omega, by omega, by omega⟩, ?_⟩
        rw [e0, if_pos e, if_neg e2]
    · right
      refine ⟨acc, ⟨by rw [fb_ct_succ, if_neg e]; omega, by omega, by omega⟩, ?_⟩
      rw [e0, if_neg e]
theorem Q_reserve {w : gWd} {S : Nat → Nat} {EB : Nat} (hI : IV EB S) (hC : CV (w 0) S) (hR : RV (w 0) S) (hS : SV w S) (x : Int32) : QQ (F_X11_reserve w x) (F_X12_reserve w x) := by
  unfold F_X11_reserve F_X12_reserve
  by_cases a : 0 ≤ x
  · rw [if_pos a, if_pos a]
    obtain ⟨r, hr, rfl⟩ := arg_pos a
    obtain ⟨h1, h2⟩ := C_free (r := r) hC hR hI.wb hr
    rcases M_res11 (r := r) hS hI.wb hr with ⟨p, g1, g2, g3, g4⟩ | ⟨g1, g2⟩
    · exact ⟨_, by rw [h1 p g1 g2 g3, gP_s], g4⟩
    · exact ⟨-1000004, by rw [h2 g1, gP_s], g2⟩
  · exact ⟨-1000001, by rw [if_neg a], by rw [if_neg a]⟩
theorem M_rankOf {w : gWd} {S : Nat → Nat} (hS : SV w S) (hB : WB S) {x r0 : Nat} (h1 : r0 < S 317) (h2 : laneN S r0 = x) (h3 : ∀ r, r < r0 → laneN S r ≠ x) : F_X12_rankOf w (nI x) = some (nI r0) := by
  have h7 := hB.2.2.2.2.2.1
  have hb := laneN_in hB h1
  unfold F_X12_rankOf
  refine loopI (F := fun fu (_ : Unit) j => F_X12_rankOf_2 fu w (nI x) (nI j)) r0 (fun _ _ => True) (fun o => o = some (nI r0)) ?_ ?_ gFU () 0 (by omega) (gFU_lt (by omega)) trivial
  · intro fu _ _
    show F_X12_rankOf_2 (fu + 1) w (nI x) (nI r0) = _
    rw [F_X12_rankOf_2_s, M_laneOf hS hB (by omega), gP_s, laneI_N hb.2.2, h2, if_pos rfl]
  · intro fu _ j hj _
    right
    refine ⟨(), trivial, ?_⟩
    show F_X12_rankOf_2 (fu + 1) w (nI x) (nI j) = F_X12_rankOf_2 fu w (nI x) (nI (j + 1))
    have hbj := laneN_in hB (r := j) (by omega)
    rw [F_X12_rankOf_2_s, M_laneOf hS hB (by omega), gP_s, laneI_N hbj.2.2, iEq (by omega) (by omega), if_neg (h3 j hj), gS_e, nI_1]
theorem Q_lane {w : gWd} {S : Nat → Nat} {EB : Nat} (hI : IV EB S) (hC : CV (w 0) S) (hS : SV w S) (x y : Int32) : QQ (F_X11_lane w x y) (F_X12_lane w x y) := by
  have hB := hI.wb
  have h7 := hB.2.2.2.2.2.1
  have e1 : nI (S 317) - 1 = nI (S 317 - 1) := mN (by omega) (by omega)
  unfold F_X11_lane F_X12_lane
  rw [C_lanes hC, gP_s, gP_s, gP_s, M_lanes hS, gP_s, e1]
  by_cases a : x < 0
  · exact ⟨-1000001, by rw [if_pos a], by rw [M_in_f (by omega) (Or.inl a), gP_s, if_pos rfl]⟩
  · by_cases b : nI (S 317) ≤ x
    · exact ⟨-1000001, by rw [if_neg a, if_pos b], by rw [M_in_f (n := S 317 - 1) (by omega) (Or.inr (by rw [show S 317 - 1 + 1 = S 317 by omega]; exact b)), gP_s, if_pos rfl]⟩
    · obtain ⟨r, hr, rfl⟩ := arg_lt (n := S 317) (by omega) a b
      rw [if_neg a, if_neg b, M_in_t (by omega) (by omega), gP_s, if_neg (show ¬ (1 : Int32) = 0 by decide)]
      by_cases c : y < 0
      · exact ⟨-1000001, by rw [if_pos c], by rw [show F_X12_in w y 0 1 = F_X12_in w y 0 (nI 1) from rfl, M_in_f (by omega) (Or.inl c), gP_s, if_pos rfl]⟩
      · by_cases d : nI 2 ≤ y
        · refine ⟨-1000001, ?_, ?_⟩
          · rw [if_neg c, if_neg]
            intro z
            rw [Int32.le_iff_toInt_le] at z d
            have k1 : (nI 2).toInt = 2 := by decide
            have k2 : (1 : Int32).toInt = 1 := by decide
            omega
          · rw [show F_X12_in w y 0 1 = F_X12_in w y 0 (nI 1) from rfl, M_in_f (n := 1) (by omega) (Or.inr d), gP_s, if_pos rfl]
        · obtain ⟨q, hq, rfl⟩ := arg_lt (n := 2) (by omega) c d
          rw [if_neg c, if_pos (show nI q ≤ 1 from (nI_leI (b := 1) (by omega) (by omega)).mpr (by omega)), show F_X12_in w (nI q) 0 1 = F_X12_in w (nI q) 0 (nI 1) from rfl, M_in_t (by omega) (by omega), gP_s, if_neg (show ¬ (1 : Int32) = 0 by decide), iE0 (by omega), iE0 (by omega)]
          by_cases e : q = 0
          · rw [if_pos e, if_pos e, C_ofRank hB (by omega), gP_s, M_laneOf hS hB (by omega), gP_s]
            exact ⟨_, rfl, rfl⟩
          · rw [if_neg e, if_neg e, nI_1]
            unfold F_X4_rankOf
            rw [gS_e, nI_1, show (2 : Int32) = nI 2 from rfl, pk_div (by omega) (by omega) (by omega), iLe (by omega) (by omega)]
            by_cases f : r + 1 ≤ (S 317 + 1) / 2
            · rw [if_pos f, pk_sub f, pk_mul, gP_s, M_rankOf hS hB (r0 := 2 * ((S 317 + 1) / 2 - (r + 1))) (by omega) (by unfold laneN; rw [if_neg (by omega)]; omega) (fun r' hr' => by unfold laneN; split <;> omega), gP_s]
              exact ⟨_, rfl, rfl⟩
            · rw [if_neg f, pk_sub (by omega), pk_mul, mN (by omega) (by omega), gP_s, M_rankOf hS hB (r0 := 2 * (r + 1 - (S 317 + 1) / 2) - 1) (by omega) (by unfold laneN; rw [if_pos (by omega)]; omega) (fun r' hr' => by unfold laneN; split <;> omega), gP_s]
              exact ⟨_, rfl, rfl⟩
