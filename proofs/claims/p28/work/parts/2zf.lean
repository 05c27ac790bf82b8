/-! level 2: what the law does to its own arrays: the next event -/
section LNEXT
variable {w : gWd} {rec6 : gWd → Int32 → Int32 → Option (Int32 × gWd)} {x5 : Int32} {j : Nat}
theorem L_nx72 (hj : j < 20) {e t : Nat} (he : e ≤ 999) (ht : t ≤ 1000) (h : w 8 2 (3 * j + 1) = nI t) : F_L_next_72 rec6 w x5 (nI j) (nI e) = F_L_next_121 rec6 w x5 (nI j) (nI (btr e t)) := by
  unfold F_L_next_72 F_L_next_119 F_L_next_106 btr
  rw [g31 hj, h, iLe1 (by omega), iE0 (by omega), g31 hj, h, g31 hj, h]
  by_cases c1 : t ≤ 1
  · rw [if_pos c1, if_pos c1]
  · rw [if_neg c1, if_neg c1, mN (by omega) (by omega)]
    by_cases c2 : e = 0
    · rw [if_pos c2, if_pos c2]
    · rw [if_neg c2, if_neg c2, iLe (by omega) (by omega)]; split <;> rfl
theorem L_nx6 (hj : j < 20) {e t : Nat} (he : e ≤ 999) (ht : t ≤ 1000) (h : w 8 1 (3 * j + 2) = nI t) : (if (w 8 1 (3 * j + 2)) ≤ 1 then (F_L_next_70 rec6 w x5 (nI j) (nI e)) else (if nI e = 0 then (F_L_next_57 rec6 w x5 (nI j)) else (gB (((3 * nI j) + 2)) 60 (fun k_10 => if nI e ≤ ((w 8 1 k_10) - 1) then (F_L_next_70 rec6 w x5 (nI j) (nI e)) else (F_L_next_57 rec6 w x5 (nI j)))))) = F_L_next_72 rec6 w x5 (nI j) (nI (btr e t)) := by
  unfold F_L_next_70 F_L_next_57 btr
  rw [h, iLe1 (by omega), iE0 (by omega), g32 hj, h, g32 hj, h]
  by_cases c1 : t ≤ 1
  · rw [if_pos c1, if_pos c1]
  · rw [if_neg c1, if_neg c1, mN (by omega) (by omega)]
    by_cases c2 : e = 0
    · rw [if_pos c2, if_pos c2]
    · rw [if_neg c2, if_neg c2, iLe (by omega) (by omega)]; split <;> rfl
theorem L_nx171 {T : Nat → Nat} (hS : LV w T) (hj : j < 20) (fu : Nat) : ∃ w', F_L_next_171 rec6 (fu + 1 + 1 + 1 + 1) w x5 (nI j) (nI (3 * j)) = rec6 w' x5 (nI (j + 1)) ∧ agL w w' ∧ LV w' (upN (upN (upN (upN (upN (upN T (10 * j + 3) 0) (10 * j + 6) 0) (10 * j + 4) 0) (10 * j + 7) 0) (10 * j + 5) 0) (10 * j + 8) 0) := by
  have e3 : (3 : Int32) * nI j + 3 = nI (3 * j + 3) := by rw [show (3 : Int32) = nI 3 from rfl, pk_mul, nI_add]
  refine ⟨_, ?_, (agL.up 1 (3 * j) (nI 0)).tr ((agL.up 2 (3 * j) (nI 0)).tr ((agL.up 1 (3 * j + 1) (nI 0)).tr ((agL.up 2 (3 * j + 1) (nI 0)).tr ((agL.up 1 (3 * j + 2) (nI 0)).tr (agL.up 2 (3 * j + 2) (nI 0)))))), (((((hS.u3 hj 0).u6 hj 0).u4 hj 0).u7 hj 0).u5 hj 0).u8 hj 0⟩
  rw [F_L_next_171_s, e3, iLe (by omega) (by omega), if_neg (by omega), gB_n _ (show 3 * j < 60 by omega) (by omega), gS_e, gB_n _ (show 3 * j < 60 by omega) (by omega), gS_e, nI_1, gS_e]
  rw [F_L_next_171_s, e3, iLe (by omega) (by omega), if_neg (by omega), gB_n _ (show 3 * j + 1 < 60 by omega) (by omega), gS_e, gB_n _ (show 3 * j + 1 < 60 by omega) (by omega), gS_e, nI_1, gS_e]
  rw [F_L_next_171_s, e3, iLe (by omega) (by omega), if_neg (by omega), gB_n _ (show 3 * j + 1 + 1 < 60 by omega) (by omega), gS_e, gB_n _ (show 3 * j + 1 + 1 < 60 by omega) (by omega), gS_e, nI_1, gS_e]
  rw [F_L_next_171_s, e3, iLe (by omega) (by omega), if_pos (by omega), nI_1, gS_e]
  rfl
theorem L_nx207 {T : Nat → Nat} (hS : LV w T) (fu : Nat) : ∃ w', F_L_next_207 (fu + 1 + 1 + 1 + 1 + 1) w x5 0 = some (x5, w') ∧ agL w w' ∧ LV w' (upN (upN (upN (upN (upN (upN T 306 0) 307 0) 308 0) 309 0) 310 0) 312 0) := by
  refine ⟨_, ?_, (agL.up 4 0 (nI 0)).tr ((agL.up 4 1 (nI 0)).tr ((agL.up 4 2 (nI 0)).tr ((agL.up 4 3 (nI 0)).tr ((agL.up 5 0 (nI 0)).tr (agL.up 5 2 (nI 0)))))), (((((hS.uv (j := 0) (by omega) 0).uv (j := 1) (by omega) 0).uv (j := 2) (by omega) 0).uv (j := 3) (by omega) 0).ut (j := 0) (by omega) 0).ut (j := 2) (by omega) 0⟩
  rw [F_L_next_207_s, if_neg (by decide), show (0 : Int32) = nI 0 from rfl, gB4 (by omega), gS_e, nI_1, gS_e]
  rw [F_L_next_207_s, if_neg (by decide), gB4 (by omega), gS_e, nI_1, gS_e]
  rw [F_L_next_207_s, if_neg (by decide), gB4 (by omega), gS_e, nI_1, gS_e]
  rw [F_L_next_207_s, if_neg (by decide), gB4 (by omega), gS_e, nI_1, gS_e]
  rw [F_L_next_207_s, if_pos (by decide), gS_e, gS_e]
  rfl
end LNEXT
section LNEXT2
variable {S : Nat → Nat}
theorem L_next6 (hB : WB S) (hN : S 311 ≤ 20) : ∀ (d fu : Nat) (w : gWd) (j : Nat), j + d = S 311 → d < fu → LV w (Sn S j) → ∃ w', F_L_next_6 fu w (nI (fb_ct (chg S) j)) (nI j) = some (nI (fb_ct (chg S) (S 311)), w') ∧ agL w w' ∧ LV w' (Snext S) := by
  intro d
  induction d with
  | zero =>
    intro fu w j hj hfu hS
    obtain ⟨fu, rfl⟩ : ∃ f, fu = f + 1 := ⟨fu - 1, by omega⟩
    obtain rfl : j = S 311 := by omega
    have e11 : Sn S (S 311) 311 = S 311 := Sn_hi (by omega)
    obtain ⟨w', f1, a1, l1⟩ := L_nx207 (x5 := nI (fb_ct (chg S) (S 311))) hS 1995
    refine ⟨w', ?_, a1, l1⟩
    rw [F_L_next_6_s, hS.N, e11, iLe (by omega) (by omega), if_pos (Nat.le_refl _)]
    exact f1
  | succ d ih =>
    intro fu w j hj hfu hS
    obtain ⟨fu, rfl⟩ : ∃ f, fu = f + 1 := ⟨fu - 1, by omega⟩
    have hj2 : j < 20 := by omega
    have h := hB.k (k := j) (by omega)
    have e11 : Sn S j 311 = S 311 := Sn_hi (by omega)
    have eh : ∀ t, 10 * j ≤ t → Sn S j t = S t := fun t ht => Sn_hi ht
    have r1 : w 8 0 (3 * j + 1) = nI (S (10 * j + 1)) := by rw [hS.g1 hj2, eh _ (by omega)]
    have r5 : w 8 1 (3 * j + 2) = nI (S (10 * j + 5)) := by rw [hS.g5 hj2, eh _ (by omega)]
    have r7 : w 8 2 (3 * j + 1) = nI (S (10 * j + 7)) := by rw [hS.g7 hj2, eh _ (by omega)]
    have hb1 := btr_le (e := S (10 * j + 1)) (t := S (10 * j + 5)) h.2.1 h.2.2.2.2.2.1
    have hbst := best_le hB (k := j) (by omega)
    have hF : F_L_next_6 (fu + 1) w (nI (fb_ct (chg S) j)) (nI j) = F_L_next_121 (F_L_next_6 fu) w (nI (fb_ct (chg S) j)) (nI j) (nI (best S j)) := by
      rw [F_L_next_6_s, hS.N, e11, iLe (by omega) (by omega), if_neg (by omega), g31 hj2, r1, gS_e, g32 hj2]
      refine (L_nx6 (rec6 := F_L_next_6 fu) (w := w) (j := j) (x5 := nI (fb_ct (chg S) j)) hj2 h.2.1 h.2.2.2.2.2.1 r5).trans ?_
      exact L_nx72 hj2 hb1 h.2.2.2.2.2.2.2.1 r7
    have hS1 := (hS.u1 hj2 (best S j)).u2 hj2 0
    obtain ⟨w', f1, a1, l1⟩ := L_nx171 (rec6 := F_L_next_6 fu) (x5 := nI (fb_ct (chg S) (j + 1))) hS1 hj2 1996
    have l2 : LV w' (Sn S (j + 1)) := by
      refine l1.cg (fun t _ => ?_)
      rw [Sn_st]
      by_cases c1 : t = 10 * j + 1
      · rw [if_pos c1, upN_n (by omega), upN_n (by omega), upN_n (by omega), upN_n (by omega), upN_n (by omega), upN_n (by omega), upN_n (by omega), c1, upN_s]
      · rw [if_neg c1]
        by_cases c2 : 10 * j + 2 ≤ t ∧ t < 10 * j + 9
        · rw [if_pos c2]
          have : t = 10 * j + 2 ∨ t = 10 * j + 3 ∨ t = 10 * j + 4 ∨ t = 10 * j + 5 ∨ t = 10 * j + 6 ∨ t = 10 * j + 7 ∨ t = 10 * j + 8 := by omega
          unfold upN
          rcases this with rfl | rfl | rfl | rfl | rfl | rfl | rfl
          · rw [if_neg (by omega), if_neg (by omega), if_neg (by omega), if_neg (by omega), if_neg (by omega), if_neg (by omega), if_pos rfl]
          · rw [if_neg (by omega), if_neg (by omega), if_neg (by omega), if_neg (by omega), if_neg (by omega), if_pos rfl]
          · rw [if_neg (by omega), if_neg (by omega), if_neg (by omega), if_pos rfl]
          · rw [if_neg (by omega), if_pos rfl]
          · rw [if_neg (by omega), if_neg (by omega), if_neg (by omega), if_neg (by omega), if_pos rfl]
          · rw [if_neg (by omega), if_neg (by omega), if_pos rfl]
          · rw [if_pos rfl]
        · rw [if_neg c2, upN_n (by omega), upN_n (by omega), upN_n (by omega), upN_n (by omega), upN_n (by omega), upN_n (by omega), upN_n (by omega), upN_n (by omega)]
    obtain ⟨w2, f2, a2, l3⟩ := ih fu w' (j + 1) (by omega) (by omega) l2
    refine ⟨w2, ?_, ((agL.up _ _ _).tr (agL.up _ _ _)).tr (a1.tr a2), l3⟩
    rw [hF, ← f2, ← f1]
    have e143 : ∀ b : Nat, F_L_next_143 (F_L_next_6 fu) w (nI j) (nI (best S j)) (nI b) (nI (fb_ct (chg S) j)) = F_L_next_171 (F_L_next_6 fu) gFU (up3 (up3 w 8 0 (3 * j + 1) (nI (best S j))) 8 0 (3 * j + 2) (nI 0)) (nI (fb_ct (chg S) j + b)) (nI j) (nI (3 * j)) := by
      intro b
      unfold F_L_next_143
      rw [nI_add, gS_e, g31 hj2, gS_e, g32 hj2, gS_e, gS_e, show (3 : Int32) = nI 3 from rfl, pk_mul]
      rfl
    unfold F_L_next_121
    rw [g31 hj2, r1, iEq (by omega) (by omega), fb_ct_succ]
    unfold chg
    by_cases c : best S j = S (10 * j + 1)
    · rw [if_pos c, if_neg (by simp [c])]
      exact e143 0
    · rw [if_neg c, if_pos (by simp [c])]
      exact e143 1
theorem L_next {w : gWd} {EB : Nat} (hI : IV EB S) (hS : LV w S) (hN : S 311 ≤ 20) : ∃ w', F_L_next w = some (nI (fb_ct (chg S) (S 311)), w') ∧ agL w w' ∧ LV w' (Snext S) :=
  L_next6 hI.wb hN (S 311) gFU w 0 (by omega) (by unfold gFU; omega) (hS.cg (fun t _ => Sn_hi (by omega)))
end LNEXT2
