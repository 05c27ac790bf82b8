/-! level 2: all that the law asks of the swimmers is answered as it has it -/
theorem shl_0 {n : Nat} (h : n < 30) : (0 : Int32) <<< (nI n &&& 31) = 0 := by
  have : ∀ m : Fin 30, (0 : Int32) <<< (nI m.1 &&& 31) = 0 := by decide
  exact this ⟨n, h⟩
section ARESW
variable {w : gWd} {S : Nat → Nat} {EB j : Nat} {rec44 : gWd → Int32 → Int32 → Int32 → Int32 → Int32 → Option Int32} {x6 x7 x8 : Int32}
theorem S_440 (hC : CV (w 0) S) (hB : WB S) (hS : LV w S) (hN : S 311 ≤ 20) (hj : j < S 311) (v : Int32) : F_L_areSwimmers_440 rec44 w x6 x7 x8 (nI j) v v = rec44 w x6 x7 x8 1 (nI (j + 1)) := by
  have hj2 : j < 20 := by omega
  unfold F_L_areSwimmers_440
  rw [if_pos rfl, A_sw10 hC hB hj, gP_s, g32 hj2, hS.g2 hj2, if_pos rfl, A_sw11 hC hB hj, gP_s, gB_n _ hj2 (by omega), hS.g9 hj2, if_pos rfl, nI_1, gS_e]
theorem S_405 (hC : CV (w 0) S) (hB : WB S) (hS : LV w S) (hN : S 311 ≤ 20) (hj : j < S 311) (v : Int32) : F_L_areSwimmers_405 rec44 w x6 x7 x8 (nI j) v v = rec44 w x6 x7 x8 1 (nI (j + 1)) := by
  have hj2 : j < 20 := by omega
  unfold F_L_areSwimmers_405
  rw [if_pos rfl, A_sw9 hC hB hj, gP_s, g32 hj2, hS.g8 hj2, g32 hj2, hS.g8 hj2]
  by_cases c : nI (S (10 * j + 8)) ≤ 0
  · rw [if_pos c, if_pos c]; exact S_440 hC hB hS hN hj _
  · rw [if_neg c, if_neg c]; exact S_440 hC hB hS hN hj _
theorem S_368 (hC : CV (w 0) S) (hB : WB S) (hS : LV w S) (hN : S 311 ≤ 20) (hj : j < S 311) (v : Int32) : F_L_areSwimmers_368 rec44 w x6 x7 x8 (nI j) v v = rec44 w x6 x7 x8 1 (nI (j + 1)) := by
  have hj2 : j < 20 := by omega
  have h := hB.k (k := j) (by omega)
  unfold F_L_areSwimmers_368
  rw [if_pos rfl, A_sw8 hC hB hj, gP_s, g31 hj2, hS.g7 hj2, iLe0 (by omega), g31 hj2, hS.g7 hj2]
  by_cases c : S (10 * j + 7) = 0
  · rw [if_pos c, if_pos c]; exact S_405 hC hB hS hN hj _
  · rw [if_neg c, if_neg c]; exact S_405 hC hB hS hN hj _
theorem S_337 (hC : CV (w 0) S) (hB : WB S) (hS : LV w S) (hN : S 311 ≤ 20) (hj : j < S 311) (v : Int32) : F_L_areSwimmers_337 rec44 w x6 x7 x8 (nI j) v v = rec44 w x6 x7 x8 1 (nI (j + 1)) := by
  have hj2 : j < 20 := by omega
  unfold F_L_areSwimmers_337
  rw [if_pos rfl, A_sw7 hC hB hj, gP_s, g30 hj2, hS.g6 hj2, g30 hj2, hS.g6 hj2]
  by_cases c : nI (S (10 * j + 6)) ≤ 0
  · rw [if_pos c, if_pos c]; exact S_368 hC hB hS hN hj _
  · rw [if_neg c, if_neg c]; exact S_368 hC hB hS hN hj _
theorem S_300 (hC : CV (w 0) S) (hB : WB S) (hS : LV w S) (hN : S 311 ≤ 20) (hj : j < S 311) (v : Int32) : F_L_areSwimmers_300 rec44 w x6 x7 x8 (nI j) v v = rec44 w x6 x7 x8 1 (nI (j + 1)) := by
  have hj2 : j < 20 := by omega
  have h := hB.k (k := j) (by omega)
  unfold F_L_areSwimmers_300
  rw [if_pos rfl, A_sw6 hC hB hj, gP_s, g32 hj2, hS.g5 hj2, iLe1 (by omega), L_timeRank hS hB hN hj2, gP_s]
  by_cases c : S (10 * j + 5) ≤ 1
  · rw [if_pos c, if_pos c]; exact S_337 hC hB hS hN hj _
  · rw [if_neg c, if_neg c]; exact S_337 hC hB hS hN hj _
theorem S_264 (hC : CV (w 0) S) (hB : WB S) (hS : LV w S) (hN : S 311 ≤ 20) (hj : j < S 311) (v : Int32) : F_L_areSwimmers_264 rec44 w x6 x7 x8 (nI j) v v = rec44 w x6 x7 x8 1 (nI (j + 1)) := by
  have hj2 : j < 20 := by omega
  have h := hB.k (k := j) (by omega)
  unfold F_L_areSwimmers_264
  rw [if_pos rfl, A_sw5 hC hB hj, gP_s, g32 hj2, hS.g5 hj2, iLe0 (by omega), g32 hj2, hS.g5 hj2]
  by_cases c : S (10 * j + 5) = 0
  · rw [if_pos c, if_pos c]; exact S_300 hC hB hS hN hj _
  · rw [if_neg c, if_neg c]; exact S_300 hC hB hS hN hj _
theorem S_232 (hH : HL S) (hC : CV (w 0) S) (hB : WB S) (hS : LV w S) (hN : S 311 ≤ 20) (hj : j < S 311) (v : Int32) : F_L_areSwimmers_232 rec44 w x6 x7 x8 (nI j) v v = rec44 w x6 x7 x8 1 (nI (j + 1)) := by
  have hj2 : j < 20 := by omega
  have h := hB.k (k := j) (by omega)
  obtain ⟨h1, h2⟩ := hH j hj
  unfold F_L_areSwimmers_232
  rw [if_pos rfl, A_sw4 hC hB hj, gP_s, g30 hj2, hS.g3 hj2, iLe0 (by omega), g31 hj2, hS.g4 hj2]
  by_cases c : S (10 * j + 3) = 0
  · rw [if_pos c, h1 c, if_pos (show nI 0 ≤ 0 by decide)]; exact S_264 hC hB hS hN hj _
  · obtain ⟨a, b⟩ := h2 c
    have hne : ¬ nI (S (10 * j + 4)) ≤ 0 := fun z => absurd ((nI_leI (a := S (10 * j + 4)) (b := 0) (by omega) (by omega)).mp z) (by omega)
    rw [if_neg c, if_neg hne]; exact S_264 hC hB hS hN hj _
theorem S_200 (hH : HL S) (hC : CV (w 0) S) (hB : WB S) (hS : LV w S) (hN : S 311 ≤ 20) (hj : j < S 311) (v : Int32) : F_L_areSwimmers_200 rec44 w x6 x7 x8 (nI j) v v = rec44 w x6 x7 x8 1 (nI (j + 1)) := by
  have hj2 : j < 20 := by omega
  have h := hB.k (k := j) (by omega)
  unfold F_L_areSwimmers_200
  rw [if_pos rfl, A_sw3 hC hB hj, gP_s, g30 hj2, hS.g3 hj2, iLe0 (by omega), g30 hj2, hS.g3 hj2]
  by_cases c : S (10 * j + 3) = 0
  · rw [if_pos c, if_pos c]; exact S_232 hH hC hB hS hN hj _
  · rw [if_neg c, if_neg c]; exact S_232 hH hC hB hS hN hj _
theorem S_130 (hH : HL S) (hC : CV (w 0) S) (hB : WB S) (hS : LV w S) (hN : S 311 ≤ 20) (hj : j < S 311) (a b c : Nat) : F_L_areSwimmers_130 rec44 w x6 x7 (nI j) (nI a) (nI b) (nI c) = rec44 w x6 x7 (nI (c + (b + a))) 1 (nI (j + 1)) := by
  have hj2 : j < 20 := by omega
  have h := hB.k (k := j) (by omega)
  unfold F_L_areSwimmers_130
  rw [nI_add, nI_add, gS_e, A_sw0 hC hB hj, gP_s, g30 hj2, hS.g0 hj2, if_pos rfl, A_sw1 hC hB hj, gP_s, g31 hj2, hS.g1 hj2, if_pos rfl, A_sw2 hC hB hj, gP_s, g32 hj2, hS.g2 hj2, iE1 (by omega), L_rank hS hB hN hj2, gP_s]
  by_cases c : S (10 * j + 2) = 0
  · rw [if_neg (by omega), if_pos c]; exact S_200 hH hC hB hS hN hj _
  · rw [if_pos (by omega), if_neg c]; exact S_200 hH hC hB hS hN hj _
theorem S_93 (hH : HL S) (hC : CV (w 0) S) (hB : WB S) (hS : LV w S) (hN : S 311 ≤ 20) (hj : j < S 311) (c : Nat) (xs0 xs1 : Int32) : F_L_areSwimmers_93 rec44 w x6 (nI c) (nI j) xs0 xs1 = rec44 w x6 (xs1 ||| xs0) (nI (c + tms S j)) 1 (nI (j + 1)) := by
  have hj2 : j < 20 := by omega
  have h := hB.k (k := j) (by omega)
  have e114 : ∀ (y : Int32) (a : Nat), F_L_areSwimmers_114 rec44 w x6 y (nI j) (nI a) (nI c) = rec44 w x6 y (nI (c + (a + if S (10 * j + 7) = 0 then 0 else 1))) 1 (nI (j + 1)) := by
    intro y a
    unfold F_L_areSwimmers_114
    rw [g31 hj2, hS.g7 hj2, iLe0 (by omega)]
    by_cases c7 : S (10 * j + 7) = 0
    · rw [if_pos c7, if_pos c7]; exact S_130 hH hC hB hS hN hj 0 a c
    · rw [if_neg c7, if_neg c7]; exact S_130 hH hC hB hS hN hj 1 a c
  unfold F_L_areSwimmers_93 tms
  rw [gS_e, g32 hj2, hS.g5 hj2, iLe0 (by omega)]
  by_cases c5 : S (10 * j + 5) = 0
  · rw [if_pos c5, if_pos c5]; exact e114 _ 0
  · rw [if_neg c5, if_neg c5]; exact e114 _ 1
theorem S_491 (hC : CV (w 0) S) (hB : WB S) (hS : LV w S) : F_L_areSwimmers_491 w (nI (bn (gn S) (S 311))) (nI (bn (inF S) (S 311))) (nI (fb_sm (tms S) (S 311))) 1 = some 1 := by
  have e623 : ∀ v : Int32, F_L_areSwimmers_623 w v v = some 1 := by
    intro v
    unfold F_L_areSwimmers_623
    rw [if_pos rfl, A_c10 hC, gP_s, hS.ca, if_pos rfl, A_c20 hC, gP_s, hS.la, if_pos rfl, A_c21 hC, gP_s, hS.fe, if_pos rfl, A_c22 hC, gP_s, hS.re, if_pos rfl]
  have e598 : ∀ v : Int32, F_L_areSwimmers_598 w v v = some 1 := by
    intro v
    unfold F_L_areSwimmers_598
    rw [if_pos rfl, A_c9 hC, gP_s, hS.rc, hS.rs]
    by_cases c : nI (S 314) ≤ 0
    · rw [if_pos c, if_pos c]; exact e623 _
    · rw [if_neg c, if_neg c]; exact e623 _
  unfold F_L_areSwimmers_491
  rw [if_neg (by decide), A_c0 hC, gP_s, hS.st, if_pos rfl, A_c1 hC, gP_s, hS.N, if_pos rfl, A_c2 hC hB, gP_s, if_pos rfl, A_c3 hC, gP_s, hS.ht, if_pos rfl, A_c4 hC hB, gP_s, if_pos rfl, A_c6 hC hB, gP_s, if_pos rfl, A_c7 hC, gP_s, hS.ev, if_pos rfl, A_c8 hC, gP_s, hS.rc]
  by_cases c : nI (S 314) ≤ 0
  · rw [if_pos c, if_pos c]; exact e598 _
  · rw [if_neg c, if_neg c]; exact e598 _
theorem S_all (hR : RS w EB S) : F_L_areSwimmers w = some 1 := by
  obtain ⟨hI, hH, hN, hC, hRV, hHC, hS⟩ := hR
  have hB := hI.wb
  unfold F_L_areSwimmers
  rw [hS.N, A_swN hC, gP_s, if_pos rfl, A_swM hC, gP_s, if_pos rfl]
  refine loopI (F := fun fu (st : Nat × Nat × Nat) j => F_L_areSwimmers_44 fu w (nI st.1) (nI st.2.1) (nI st.2.2) 1 (nI j)) (S 311) (fun j st => st = (bn (gn S) j, bn (inF S) j, fb_sm (tms S) j)) (fun r => r = some 1) ?_ ?_ gFU (0, 0, 0) 0 (by omega) (gFU_lt (by omega)) rfl
  · intro fu st hI'
    subst hI'
    show F_L_areSwimmers_44 (fu + 1) w (nI (bn (gn S) (S 311))) (nI (bn (inF S) (S 311))) (nI (fb_sm (tms S) (S 311))) 1 (nI (S 311)) = _
    rw [F_L_areSwimmers_44_s, hS.N, iLe (by omega) (by omega), if_pos (Nat.le_refl _)]
    exact S_491 hC hB hS
  · intro fu st j hj hI'
    right
    refine ⟨_, rfl, ?_⟩
    subst hI'
    have hj2 : j < 20 := by omega
    have h := hB.k (k := j) (by omega)
    show F_L_areSwimmers_44 (fu + 1) w (nI (bn (gn S) j)) (nI (bn (inF S) j)) (nI (fb_sm (tms S) j)) 1 (nI j) = F_L_areSwimmers_44 fu w (nI (bn (gn S) (j + 1))) (nI (bn (inF S) (j + 1))) (nI (fb_sm (tms S) (j + 1))) 1 (nI (j + 1))
    have eg : nI (bn (gn S) j) ||| (nI (S (10 * j + 2)) <<< (nI j &&& 31)) = nI (bn (gn S) (j + 1)) := by
      have : S (10 * j + 2) = 0 ∨ S (10 * j + 2) = 1 := by omega
      rcases this with e | e
      · rw [e, show nI 0 = (0 : Int32) from rfl, shl_0 (by omega), Int32.or_zero, bs_f (p := gn S) (n := j) (by simp [gn, e])]
      · rw [e, show nI 1 = (1 : Int32) from rfl, bs_t (by omega) (by simp [gn, e])]
    rw [F_L_areSwimmers_44_s, hS.N, iLe (by omega) (by omega), if_neg (by omega), if_neg (by decide), g32 hj2, hS.g2 hj2, eg, gS_e, g30 hj2, hS.g6 hj2, iLe0 (by omega), S_93 hH hC hB hS hN hj, S_93 hH hC hB hS hN hj, fb_sm_succ]
    by_cases c : S (10 * j + 6) = 0
    · rw [if_pos c, Int32.or_zero, bs_f (p := inF S) (n := j) (by simp [inF, c])]
    · rw [if_neg c, bs_t (by omega) (by simp [inF, c])]
end ARESW
/-! and all the rest -/
section AREREST
variable {w : gWd} {S : Nat → Nat} {EB : Nat}
theorem R_191 (hI : IV EB S) (hC : CV (w 0) S) (hRV : RV (w 0) S) (hS : LV w S) : F_L_areRest_191 gFU w (nI (fb_ct (rsv S) 4)) (nI (fb_ct (mis S) (S 311))) 0 1 0 = some 1 := by
  have hB := hI.wb
  refine loopI (F := fun fu (acc : Nat) q => F_L_areRest_191 fu w (nI (fb_ct (rsv S) 4)) (nI (fb_ct (mis S) (S 311))) (nI acc) 1 (nI q)) 6 (fun q acc => acc = fb_sm (fun q => S (300 + q)) q) (fun r => r = some 1) ?_ ?_ gFU 0 0 (by omega) (gFU_lt (by omega)) rfl
  · intro fu acc hI'
    subst hI'
    show F_L_areRest_191 (fu + 1) w (nI (fb_ct (rsv S) 4)) (nI (fb_ct (mis S) (S 311))) (nI (fb_sm (fun q => S (300 + q)) 6)) 1 (nI 6) = _
    rw [F_L_areRest_191_s, if_pos (by decide), if_neg (by decide), A_reserveN hC hRV hB, gP_s, if_pos rfl, A_missingN hI hC, gP_s, if_pos rfl, A_c5 hC hRV hB, gP_s, if_pos rfl, A_c11 hI hC, gP_s, if_pos rfl, A_pointsE, gP_s, if_pos rfl]
  · intro fu acc q hq hI'
    right
    refine ⟨_, rfl, ?_⟩
    show F_L_areRest_191 (fu + 1) w (nI (fb_ct (rsv S) 4)) (nI (fb_ct (mis S) (S 311))) (nI acc) 1 (nI q) = F_L_areRest_191 fu w (nI (fb_ct (rsv S) 4)) (nI (fb_ct (mis S) (S 311))) (nI (fb_sm (fun q => S (300 + q)) (q + 1))) 1 (nI (q + 1))
    have g6 : ∀ {α : Type} (f : Nat → Option α), gB (nI q) 6 f = f q := fun f => gB_n f hq (by omega)
    rw [F_L_areRest_191_s, show (6 : Int32) = nI 6 from rfl, iLe (by omega) (by omega), if_neg (by omega), g6, hS.gq hq, nI_add, gS_e, if_neg (by decide), A_points hI hC hq, gP_s, g6, hS.gq hq, if_pos rfl, nI_1, gS_e, fb_sm_succ, hI']
theorem R_122 (hI : IV EB S) (hC : CV (w 0) S) (hRV : RV (w 0) S) (hS : LV w S) (hN : S 311 ≤ 20) : F_L_areRest_122 gFU w (nI (fb_ct (rsv S) 4)) 0 0 1 0 = some 1 := by
  have hB := hI.wb
  refine loopI (F := fun fu (acc : Nat) j => F_L_areRest_122 fu w (nI (fb_ct (rsv S) 4)) (nI acc) 0 1 (nI j)) (S 311) (fun j acc => acc = fb_ct (mis S) j) (fun r => r = some 1) ?_ ?_ gFU 0 0 (by omega) (gFU_lt (by omega)) rfl
  · intro fu acc hI'
    subst hI'
    show F_L_areRest_122 (fu + 1) w (nI (fb_ct (rsv S) 4)) (nI (fb_ct (mis S) (S 311))) 0 1 (nI (S 311)) = _
    rw [F_L_areRest_122_s, hS.N, iLe (by omega) (by omega), if_pos (Nat.le_refl _)]
    exact R_191 hI hC hRV hS
  · intro fu acc j hj hI'
    right
    refine ⟨_, rfl, ?_⟩
    show F_L_areRest_122 (fu + 1) w (nI (fb_ct (rsv S) 4)) (nI acc) 0 1 (nI j) = F_L_areRest_122 fu w (nI (fb_ct (rsv S) 4)) (nI (fb_ct (mis S) (j + 1))) 0 1 (nI (j + 1))
    have hj2 : j < 20 := by omega
    have ht := tcol_le hB (k := j) (by omega)
    have m : mis S j = (askB S j && decide (S (10 * j + tcol S) = 0)) := rfl
    rw [F_L_areRest_122_s, hS.N, iLe (by omega) (by omega), if_neg (by omega), L_isAsked hS hB hj2, gP_s, fb_ct_succ (mis S) j, nI_1, gS_e, L_time hS hB hj2, gP_s]
    unfold F_L_areRest_177
    by_cases c1 : askB S j = true
    · rw [if_pos c1, if_neg (by decide), iE0 (by omega)]
      by_cases c2 : S (10 * j + tcol S) = 0
      · have hm : mis S j = true := by rw [m]; simp [c1, c2]
        rw [if_pos c2, if_neg (by decide), A_missing hI hC hj hm hI'.symm, gP_s, if_pos rfl, nI_1, gS_e, nI_1, gS_e, if_pos hm, hI']
      · have hm : ¬ mis S j = true := by rw [m]; simp [c2]
        rw [if_neg c2, if_neg hm, hI']; rfl
    · have hm : ¬ mis S j = true := by rw [m]; simp [c1]
      rw [if_neg c1, if_pos (by rfl), if_neg hm, hI']; rfl
theorem R_54 (hI : IV EB S) (hC : CV (w 0) S) (hRV : RV (w 0) S) (hS : LV w S) (hN : S 311 ≤ 20) : F_L_areRest_54 gFU w 0 0 0 1 0 = some 1 := by
  have hB := hI.wb
  refine loopI (F := fun fu (acc : Nat) j => F_L_areRest_54 fu w (nI acc) 0 0 1 (nI j)) 4 (fun j acc => acc = fb_ct (rsv S) j) (fun r => r = some 1) ?_ ?_ gFU 0 0 (by omega) (gFU_lt (by omega)) rfl
  · intro fu acc hI'
    subst hI'
    show F_L_areRest_54 (fu + 1) w (nI (fb_ct (rsv S) 4)) 0 0 1 (nI 4) = _
    rw [F_L_areRest_54_s, if_pos (by decide)]
    exact R_122 hI hC hRV hS hN
  · intro fu acc j hj hI'
    right
    refine ⟨_, rfl, ?_⟩
    show F_L_areRest_54 (fu + 1) w (nI acc) 0 0 1 (nI j) = F_L_areRest_54 fu w (nI (fb_ct (rsv S) (j + 1))) 0 0 1 (nI (j + 1))
    have hrj := hRV.le hj
    have h4 : ¬ (4 : Int32) ≤ nI j := fun z => absurd ((nI_leI (a := 4) (b := j) (by omega) (by omega)).mp z) (by omega)
    rw [F_L_areRest_54_s, if_neg h4, gB4 hj, hS.gv hj, iLe0 (by omega), nI_1, gS_e, fb_ct_succ]
    by_cases c : S (306 + j) = 0
    · rw [if_pos c, if_neg (by simp [rsv, c]), hI']; rfl
    · obtain ⟨q, hq⟩ : ∃ q, S (306 + j) = q + 1 := ⟨S (306 + j) - 1, by omega⟩
      have hq20 : q < 20 := by omega
      have hg := (hB.k (k := q) (by omega)).2.2.1
      have hix : (3 : Int32) * nI (q + 1) - 1 = nI (3 * q + 2) := by
        rw [show (3 : Int32) = nI 3 from rfl, pk_mul, show (1 : Int32) = nI 1 from rfl, pk_sub (by omega), show 3 * (q + 1) - 1 = 3 * q + 2 by omega]
      rw [if_neg c, gB4 hj, hS.gv hj, hq, hix, gB_n _ (by omega) (by omega), hS.g2 hq20, iE0 (by omega)]
      by_cases c2 : S (10 * q + 2) = 0
      · have hrs : rsv S j = true := by unfold rsv; rw [hq]; exact decide_eq_true ⟨by omega, by rw [Nat.add_sub_cancel]; exact c2⟩
        unfold F_L_areRest_108
        rw [if_pos c2, if_neg (by decide), A_reserve hC hRV hB hj hrs hI'.symm, gP_s, gB4 hj, hS.gv hj, hq, nI_pred, Nat.add_sub_cancel, if_pos rfl, nI_1, gS_e, nI_1, gS_e, if_pos hrs, hI']
      · have hrs : ¬ rsv S j = true := by unfold rsv; rw [hq, Nat.add_sub_cancel]; simp [c2]
        rw [if_neg c2, if_neg hrs, hI']; rfl
theorem R_all (hR : RS w EB S) : F_L_areRest w = some 1 := by
  obtain ⟨hI, hH, hN, hC, hRV, hHC, hS⟩ := hR
  unfold F_L_areRest
  rw [A_why hI hC, gP_s, L_why hS hI.wb hN, gP_s, if_pos rfl, A_reserveE, gP_s, if_pos rfl, A_missingE, gP_s, if_pos rfl]
  exact R_54 hI hC hRV hS hN
end AREREST
