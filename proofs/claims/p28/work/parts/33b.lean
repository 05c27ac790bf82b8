/-! the start: the machine's tables, the first world -/
theorem lw_K {s : State} {b L : Nat} {xs : Nat → Int32} (hX : va_X b L xs s s.heap) (hbl : b < s.heap.size) (hts : ∀ w ∈ lw_tbl, w.before #[Value.ref b] s = true) (hgv : (Jvm.Cond.and given_1 narrow_1).before #[Value.ref b] s = true) : gKx s ∧ ∃ X : gX, X.B = s.heap.size ∧ X.H0 = s.heap ∧ X.sB = b ∧ X.sL = L ∧ X.sx = xs ∧ gKt X s := by
  have ht : ∀ w ∈ wsL_law, w.before #[Value.ref b] s = true := fun w h => hts w (wsL_law_in w h)
  have hs := flat_of_before _ hgv
  refine ⟨⟨⟨va_AO.of (hts _ (tT1 _ (List.mem_of_getElem? (i := 28) rfl))), va_AO.of (hts _ (tT1 _ (List.mem_of_getElem? (i := 168) rfl)))⟩, va_Nw.of rfl (hts _ (tT1 _ (List.mem_of_getElem? (i := 29) rfl))), va_Nw.of rfl (hts _ (tT1 _ (List.mem_of_getElem? (i := 180) rfl))), va_Nw.of rfl (hts _ (tT1 _ (List.mem_of_getElem? (i := 205) rfl)))⟩, ?_⟩
  obtain ⟨c0, i0, k0⟩ := u_known (C := RX3) (T := TX3) (N := 2) (n := 2) ht inlX3 (ht _ (inR1 _ (List.mem_of_getElem? (i := 17) rfl)))
  obtain ⟨c1, i1, k1⟩ := u_known (C := RX5) (T := TX5) (N := 11) (n := 11) ht inlX5 (ht _ (inR1 _ (List.mem_of_getElem? (i := 12) rfl)))
  obtain ⟨c2, i2, k2⟩ := u_known (C := RX6) (T := TX6) (N := 8) (n := 8) ht inlX6 (ht _ (inR1 _ (List.mem_of_getElem? (i := 21) rfl)))
  obtain ⟨c3, i3, k3⟩ := u_known (C := RX7) (T := TX7) (N := 4) (n := 4) ht inlX7 (ht _ (inR2 _ (List.mem_of_getElem? (i := 1) rfl)))
  obtain ⟨c4, i4, k4⟩ := u_known (C := RX10) (T := TX10) (N := 11) (n := 11) ht inlX10 (ht _ (inR2 _ (List.mem_of_getElem? (i := 12) rfl)))
  obtain ⟨c5, i5, k5⟩ := u_known (C := RX11) (T := TX11) (N := 5) (n := 5) ht inlX11 (ht _ (inR1 _ (List.mem_of_getElem? (i := 1) rfl)))
  obtain ⟨dC, dI, hKc⟩ : ∃ (dC : Nat → ClassId) (dI : Nat → Nat → Nat), ∀ (k : Nat) (q : vw_C), vwCl[k]? = some q → u_Kn s q.1 q.2.1 q.2.2 (dC k) (dI k) := by
    refine ⟨fun k => match k with | 0 => c0 | 1 => c1 | 2 => c2 | 3 => c3 | 4 => c4 | _ => c5, fun k => match k with | 0 => i0 | 1 => i1 | 2 => i2 | 3 => i3 | 4 => i4 | _ => i5, ?_⟩
    intro k q hq
    match k, hq with
    | 0, hq => cases hq; exact k0
    | 1, hq => cases hq; exact k1
    | 2, hq => cases hq; exact k2
    | 3, hq => cases hq; exact k3
    | 4, hq => cases hq; exact k4
    | 5, hq => cases hq; exact k5
    | k + 6, hq => simp [vwCl] at hq
  obtain ⟨cI, kI, mI, a1, a2, a3⟩ := Cond.arrayClass_spec (type := .int) (ht (Cond.arrayClass .int) (inR1 _ (List.mem_of_getElem? (i := 3) rfl)))
  obtain ⟨mS, cS, kS, b1, -, b2, b3, b4⟩ := Cond.arrayOver_spec (n := RX10) (hts (Cond.arrayOver (.object RX10)) (tT1 _ (List.mem_of_getElem? (i := 28) rfl)))
  obtain ⟨mM, cM, kM, d1, -, d2, d3, d4⟩ := Cond.arrayOver_spec (n := RX5) (hts (Cond.arrayOver (.object RX5)) (tT1 _ (List.mem_of_getElem? (i := 168) rfl)))
  have hA : ∀ a : Nat, a < s.heap.size → ¬ (fun q : Nat => s.heap.size ≤ q) a := fun a h => Nat.not_le.mpr h
  have hini : (Cond.initialized RX9).before #[Value.ref b] s = true := hts _ (tT1 _ (List.mem_of_getElem? (i := 3) rfl))
  obtain ⟨tF, eF, hF⟩ := va_Tof (args := #[.ref b]) (tm := .static "GalaHeats$Settings" "FIRST" "[I") (ty := .int) (N := 3) (f := fun j => .int (gFirst j)) (A := fun q : Nat => s.heap.size ≤ q) (by decide) (hs (.arrayOf (.static "GalaHeats$Settings" "FIRST" "[I") .int) (by decide +kernel)) (va_eqt (hs (.eq (.length (.static "GalaHeats$Settings" "FIRST" "[I")) (.int 3)) (by decide +kernel)))
    (fun j hj => by
      rcases (show j = 0 ∨ j = 1 ∨ j = 2 by omega) with rfl | rfl | rfl
      · exact va_eqt (hs (.eq (.elem (.static "GalaHeats$Settings" "FIRST" "[I") (.int 0)) (.int 8)) (by decide +kernel))
      · exact va_eqt (hs (.eq (.elem (.static "GalaHeats$Settings" "FIRST" "[I") (.int 1)) (.int 3)) (by decide +kernel))
      · exact va_eqt (hs (.eq (.elem (.static "GalaHeats$Settings" "FIRST" "[I") (.int 2)) (.int 2)) (by decide +kernel))) hA
  obtain ⟨tL, eL, hL⟩ := va_Tof (args := #[.ref b]) (tm := .static "GalaHeats$Settings" "LEAST" "[I") (ty := .int) (N := 3) (f := fun j => .int (gLeast j)) (A := fun q : Nat => s.heap.size ≤ q) (by decide) (hs (.arrayOf (.static "GalaHeats$Settings" "LEAST" "[I") .int) (by decide +kernel)) (va_eqt (hs (.eq (.length (.static "GalaHeats$Settings" "LEAST" "[I")) (.int 3)) (by decide +kernel)))
    (fun j hj => by
      rcases (show j = 0 ∨ j = 1 ∨ j = 2 by omega) with rfl | rfl | rfl
      · exact va_eqt (hs (.eq (.elem (.static "GalaHeats$Settings" "LEAST" "[I") (.int 0)) (.int 4)) (by decide +kernel))
      · exact va_eqt (hs (.eq (.elem (.static "GalaHeats$Settings" "LEAST" "[I") (.int 1)) (.int 1)) (by decide +kernel))
      · exact va_eqt (hs (.eq (.elem (.static "GalaHeats$Settings" "LEAST" "[I") (.int 2)) (.int 0)) (by decide +kernel))) hA
  obtain ⟨tG, eG, hG⟩ := va_Tof (args := #[.ref b]) (tm := .static "GalaHeats$Settings" "GREATEST" "[I") (ty := .int) (N := 3) (f := fun j => .int (gGreat j)) (A := fun q : Nat => s.heap.size ≤ q) (by decide) (hs (.arrayOf (.static "GalaHeats$Settings" "GREATEST" "[I") .int) (by decide +kernel)) (va_eqt (hs (.eq (.length (.static "GalaHeats$Settings" "GREATEST" "[I")) (.int 3)) (by decide +kernel)))
    (fun j hj => by
      rcases (show j = 0 ∨ j = 1 ∨ j = 2 by omega) with rfl | rfl | rfl
      · exact va_eqt (hs (.eq (.elem (.static "GalaHeats$Settings" "GREATEST" "[I") (.int 0)) (.int 10)) (by decide +kernel))
      · exact va_eqt (hs (.eq (.elem (.static "GalaHeats$Settings" "GREATEST" "[I") (.int 1)) (.int 3)) (by decide +kernel))
      · exact va_eqt (hs (.eq (.elem (.static "GalaHeats$Settings" "GREATEST" "[I") (.int 2)) (.int 4)) (by decide +kernel))) hA
  refine ⟨((dC, dI), s.heap.size, s.heap, (cI, cS, cM), (tF, tL, tG), (b, L, xs)), rfl, rfl, rfl, rfl, rfl, ⟨hKc, fun k q hq => ?_⟩, ⟨va_Zof (hts _ (tT1 _ (List.mem_of_getElem? (i := 30) rfl))) hini eF hA, hF⟩, ⟨va_Zof (hts _ (tT2 _ (List.mem_of_getElem? (i := 221) rfl))) hini eL hA, hL⟩, ⟨va_Zof (hts _ (tT2 _ (List.mem_of_getElem? (i := 223) rfl))) hini eG hA, hG⟩, hX, hbl⟩
  match k, hq with
  | 0, hq => cases hq; exact ⟨fun n z => ⟨fun k h => (by cases h), kI, a2, mI, a3⟩, a1⟩
  | 1, hq => cases hq; exact ⟨fun n z => ⟨fun k h => (by cases h), kS, b2, mS, b3⟩, kS, mS, b2, b3, b1, b4⟩
  | 2, hq => cases hq; exact ⟨fun n z => ⟨fun k h => (by cases h), kM, d2, mM, d3⟩, kM, mM, d2, d3, d1, d4⟩
  | k + 3, hq => simp at hq
