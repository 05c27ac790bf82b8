/-! level 2: undo, the typed text, in the whole relation -/
theorem REL_undo {w : gWd} {EB : Nat} (hW : REL w EB) : ∃ r w' w'', F_X11_undo w = some (r, w') ∧ F_X12_undo w' = some (r, w'') ∧ REL w'' EB := by
  obtain ⟨S, K, ρ, R, T, hI, hC, hR, hS, h04, ⟨hH, hp, hk⟩, hT⟩ := hW
  by_cases e : K = 0
  · subst e
    refine ⟨-1000002, w, w, ?_, M_undo0 hp, S, 0, ρ, R, T, hI, hC, hR, hS, h04, ⟨hH, hp, hk⟩, hT⟩
    unfold F_X11_undo
    rw [C_undo0 hH, gC_s]
  · obtain ⟨K', rfl⟩ : ∃ k, K = k + 1 := ⟨K - 1, by omega⟩
    obtain ⟨a1, a2, a3, a4⟩ := hk K' (by omega)
    have h1 := hH.1
    obtain ⟨w', f1, f2, f3, f4, f5, f6⟩ := C_undo hH a1 a2 a3.wb
    have e8 : w' 8 = w 8 := f2 8 (by omega) (by omega)
    obtain ⟨w'', g1, g2, g3, g4⟩ := M_undo (w := w') (K := K') (by omega) (by rw [e8]; exact hp)
    have qa : ∀ a, a ≠ 8 → w'' a = w' a := fun a ha => funext fun b => funext fun c => g3 a b c (fun z => ha z.1)
    refine ⟨nI K', w', w'', ?_, g1, R K', K', ρ, R, T, a3, by rw [qa 0 (by omega)]; exact f5, by rw [qa 0 (by omega)]; exact f6, fun t ht => ?_, ?_, ⟨?_, g2, fun j hj => ?_⟩, ?_⟩
    · unfold F_X11_undo
      rw [f1, gC_s]
    · rw [g4 t ht, e8]; exact a4 t ht
    · rw [g3 8 0 4 (by omega), e8]; exact h04
    · obtain ⟨x1, x2, x3, x4⟩ := f4
      exact ⟨x1, by rw [qa 7 (by omega)]; exact x2, by rw [qa 7 (by omega)]; exact x3, x4⟩
    · obtain ⟨y1, y2, y3⟩ := hH.2.2.1 j (by omega)
      obtain ⟨b1, b2, b3, b4⟩ := hk j (by omega)
      have eb : w'' (ρ j) = w (ρ j) := by rw [qa _ (by omega), f2 _ (by omega) (by omega)]
      refine ⟨by rw [eb]; exact b1, by rw [eb]; exact b2, b3, fun t ht => ?_⟩
      rw [g3 8 2 _ (by omega), e8]; exact b4 t ht
    · have c73 : w' 7 3 = w 7 3 := by funext c; rw [f3 3 c (by omega)]
      have c74 : w' 7 4 = w 7 4 := by funext c; rw [f3 4 c (by omega)]
      have c84 : w'' 8 4 = w 8 4 := by funext c; rw [g3 8 4 c (by omega), e8]
      exact hT.of (by rw [qa 7 (by omega), c73]) (by rw [g3 8 0 6 (by omega), e8]) (by rw [qa 7 (by omega), c74]) c84
/-- the text's steps keep all else -/
theorem REL_T {w w'' : gWd} {EB T' : Nat} (hW : REL w EB) (h : agT w w'') (hT' : TV w'' T') : REL w'' EB := by
  obtain ⟨S, K, ρ, R, T, hI, hC, hR, hS, h04, ⟨hH, hp, hk⟩, hT⟩ := hW
  have hb : ∀ a, a < 7 → w'' a = w a := fun a ha => funext fun b => funext fun c => h a b c (by omega)
  refine ⟨S, K, ρ, R, T', hI, by rw [hb 0 (by omega)]; exact hC, by rw [hb 0 (by omega)]; exact hR, fun t ht => by rw [h 8 1 t (by omega)]; exact hS t ht, by rw [h 8 0 4 (by omega)]; exact h04, ⟨?_, by rw [h 8 0 3 (by omega)]; exact hp, fun j hj => ?_⟩, hT'⟩
  · obtain ⟨x1, x2, x3, x4⟩ := hH
    exact ⟨x1, by rw [h 7 1 1 (by omega)]; exact x2, fun j hj => by rw [h 7 2 j (by omega)]; exact x3 j hj, x4⟩
  · have h1 := hH.1
    obtain ⟨y1, y2, y3⟩ := hH.2.2.1 j (by omega)
    obtain ⟨b1, b2, b3, b4⟩ := hk j hj
    exact ⟨by rw [hb _ (by omega)]; exact b1, by rw [hb _ (by omega)]; exact b2, b3, fun t ht => by rw [h 8 2 _ (by omega)]; exact b4 t ht⟩
theorem REL_type {w : gWd} {EB : Nat} (hW : REL w EB) (x : Int32) : ∃ r w' w'', F_X11_type w x = some (r, w') ∧ F_X12_type w' x = some (r, w'') ∧ REL w'' EB := by
  have hW2 := hW
  obtain ⟨S, K, ρ, R, T, hI, hC, hR, hS, h04, hK, hT⟩ := hW
  obtain ⟨r, w', w'', T', f1, f2, f3, f4, f5⟩ := OK_type hT x
  exact ⟨r, w', w'', f1, f2, REL_T hW2 f4 f5⟩
theorem REL_clear {w : gWd} {EB : Nat} (hW : REL w EB) : ∃ r w' w'', F_X11_clearText w = some (r, w') ∧ F_X12_clearText w' = some (r, w'') ∧ REL w'' EB := by
  have hW2 := hW
  obtain ⟨S, K, ρ, R, T, hI, hC, hR, hS, h04, hK, hT⟩ := hW
  obtain ⟨r, w', w'', T', f1, f2, f3, f4, f5⟩ := OK_clear hT
  exact ⟨r, w', w'', f1, f2, REL_T hW2 f4 f5⟩
/-- ifDrawn in the whole relation -/
theorem REL_ifDrawn {w : gWd} {EB : Nat} (hW : REL w EB) (x y : Int32) : ∃ r w' w'', F_X11_ifDrawn w x y = some (r, w') ∧ F_X12_ifDrawn w' x y = some (r, w'') ∧ REL w'' EB := by
  obtain ⟨S, K, ρ, R, T, hI, hC, hR, hS, h04, ⟨hH, hp, hk⟩, hT⟩ := hW
  obtain ⟨r, hc, hm⟩ := Q_ifDrawn hI x y
  obtain ⟨w', f1, f2⟩ := hc w hC hR
  have e8 : w' 8 = w 8 := f2 8 (by omega)
  have e7 : w' 7 = w 7 := f2 7 (by omega)
  obtain ⟨w'', g1, g2⟩ := hm w' (hS.of (by rw [e8]))
  have qa : ∀ a, a ≠ 8 → w'' a = w' a := fun a ha => funext fun b => g2 a b (fun z => ha z.1)
  have q8 : ∀ b, b ≠ 5 → w'' 8 b = w 8 b := fun b hb => by rw [g2 8 b (fun z => hb z.2), e8]
  have q7 : w'' 7 = w 7 := by rw [qa 7 (by omega), e7]
  have q0 : w'' 0 = w 0 := by rw [qa 0 (by omega), f2 0 (by omega)]
  refine ⟨r, w', w'', f1, g1, S, K, ρ, R, T, hI, by rw [q0]; exact hC, by rw [q0]; exact hR, hS.of (q8 1 (by omega)), by rw [q8 0 (by omega)]; exact h04, ⟨?_, by rw [q8 0 (by omega)]; exact hp, fun j hj => ?_⟩, hT.of (by rw [q7]) (by rw [q8 0 (by omega)]) (by rw [q7]) (q8 4 (by omega))⟩
  · obtain ⟨x1, x2, x3, x4⟩ := hH
    exact ⟨x1, by rw [q7]; exact x2, by rw [q7]; exact x3, x4⟩
  · have h1 := hH.1
    obtain ⟨y1, y2, y3⟩ := hH.2.2.1 j (by omega)
    obtain ⟨b1, b2, b3, b4⟩ := hk j hj
    have eb : w'' (ρ j) = w (ρ j) := by rw [qa _ (by omega), f2 _ (by omega)]
    exact ⟨by rw [eb]; exact b1, by rw [eb]; exact b2, b3, fun t ht => by rw [q8 2 (by omega)]; exact b4 t ht⟩
