/-! level 2: the text is tried, by both -/
def PCT (T : Nat) (c : Nat → Nat) (S : Nat → Nat) (fl pos : Nat) (cause : Int32) (n : Nat) (S' : Nat → Nat) : Prop := ∀ w : gWd, TX w T c → CV (w 0) S → RV (w 0) S → ∃ w', F_X7_tryOrders w 0 1 = some w' ∧ agQ w w' ∧ CV (w' 1) S' ∧ RV (w' 1) S' ∧ w' 7 5 2 = nI fl ∧ (fl ≠ 0 → w' 7 5 1 = nI pos ∧ w' 7 5 3 = cause) ∧ (fl = 0 → w' 7 5 0 = nI n)
def PMT (T : Nat) (c : Nat → Nat) (S : Nat → Nat) (fl pos : Nat) (cause : Int32) (n : Nat) (S' : Nat → Nat) : Prop := ∀ w : gWd, TX w T c → SV w S → ∃ w', F_X12_plays w = some (if fl = 0 then 1 else 0, w') ∧ agN w w' ∧ SV w' S' ∧ w' 8 0 4 = 0 ∧ (fl ≠ 0 → w' 8 0 9 = nI pos ∧ w' 8 0 10 = nI fl ∧ w' 8 0 11 = cause) ∧ (fl = 0 → w' 8 0 12 = nI n)
theorem PLAY {T : Nat} {c : Nat → Nat} {S : Nat → Nat} {EB : Nat} (hT : T ≤ 60) (hI : IV EB S) (hc : ∃ cc : Nat → Nat → Int32, CV cc S ∧ RV cc S) : ∃ fl pos cause n S', fl ≤ 2 ∧ n ≤ 60 ∧ IV (EB + 60) S' ∧ PCT T c S fl pos cause n S' ∧ PMT T c S fl pos cause n S' := by
  obtain ⟨fl, pos, cause, n, S', i1, i0, i2, i3, i4, i5⟩ := PLAYS (T := T) (c := c) hT T 0 0 S EB (by omega) (by omega) (by omega) (by omega) hI hc
  refine ⟨fl, pos, cause, n, S', i1, by omega, i2.mono (by omega), ?_, ?_⟩
  · intro w hX hC hR
    obtain ⟨w1, f1, f2, f3, f4⟩ := C_copy (i0 := 1) (i1 := 0) (by omega) hC hR hI.wb
    have h1 : agQ w w1 := fun a b e he => by rw [f2 a (by omega)]
    have h3 : agQ w (up3 (up3 (up3 w1 7 5 0 0) 7 5 2 0) 7 3 3 0) := ((h1.tr agQ.up).tr agQ.up).tr (fun a b e he => up3_n (by omega))
    have e1 : up3 (up3 (up3 w1 7 5 0 0) 7 5 2 0) 7 3 3 0 1 = w1 1 := by rw [up3_b (by omega), up3_b (by omega), up3_b (by omega)]
    obtain ⟨w', m1, m2, m3, m4, m5, m6, m7⟩ := i4 (up3 (up3 (up3 w1 7 5 0 0) 7 5 2 0) 7 3 3 0) gFU (h3.tx hX) (up3_s _ _ _ _ _) (by rw [up3_n (by omega), up3_s]) (by rw [up3_n (by omega), up3_n (by omega), up3_s]; rfl) (CV.b e1 f3) (RV.b e1 f4) (by unfold gFU; omega)
    refine ⟨w', ?_, h3.tr m2, m3, m4, m5, m6, m7⟩
    unfold F_X7_tryOrders F_X6_rewind
    rw [f1, gP_s, gS_e, gS_e, gS_e, gP_s]
    exact m1
  · intro w hX hS
    have h3 : agN w (up3 (up3 (up3 (up3 w 8 0 4 1) 8 0 8 0) 8 0 9 0) 8 0 12 0) := ((((agN.up (by omega)).tr (agN.up (by omega))).tr (agN.up (by omega))).tr (agN.up (by omega)))
    obtain ⟨w', m1, m2, m3, m4, m5, m6⟩ := i5 (up3 (up3 (up3 (up3 w 8 0 4 1) 8 0 8 0) 8 0 9 0) 8 0 12 0) gFU (h3.tx hX) (by rw [up3_n (by omega), up3_n (by omega), up3_s]; rfl) (by rw [up3_n (by omega), up3_n (by omega), up3_n (by omega), up3_s]) (up3_s _ _ _ _ _) (hS.of (by rw [up3_r (by omega), up3_r (by omega), up3_r (by omega), up3_r (by omega)])) (by unfold gFU; omega)
    refine ⟨w', ?_, h3.tr m2, m3, m4, m5, m6⟩
    unfold F_X12_plays
    rw [gS_e, gS_e, gS_e, gS_e]
    exact m1
theorem TV.tx {w : gWd} {T : Nat} (h : TV w T) : ∃ c, TX w T c := by
  obtain ⟨t1, t2, t3, t4⟩ := h
  refine ⟨fun k => if hk : k < T then Classical.choose (t4 k hk) else 0, t1, t2, t3, fun k hk => ?_⟩
  show 32 ≤ (if hk : k < T then Classical.choose (t4 k hk) else 0) ∧ _
  simp only [dif_pos hk]
  exact Classical.choose_spec (t4 k hk)
/-- fault and play change only the rehearsal, the readers and the model's own memory -/
def agF (w w' : gWd) : Prop := ∀ a b e, ¬ (a = 1 ∨ (a = 7 ∧ ((b = 3 ∧ 2 ≤ e) ∨ b = 5)) ∨ (a = 8 ∧ ((b = 0 ∧ (e = 4 ∨ 8 ≤ e)) ∨ b = 1 ∨ b = 3 ∨ b = 5 ∨ b = 6))) → w' a b e = w a b e
theorem agF.rf (w : gWd) : agF w w := fun _ _ _ _ => rfl
theorem agF.tr {w w1 w2 : gWd} (h1 : agF w w1) (h2 : agF w1 w2) : agF w w2 := fun a b c h => (h2 a b c h).trans (h1 a b c h)
theorem agQ.f {w w' : gWd} (h : agQ w w') : agF w w' := fun a b e he => h a b e (by omega)
theorem agN.f {w w' : gWd} (h : agN w w') : agF w w' := fun a b e he => h a b e (by omega)
theorem agF.tx {w w' : gWd} {T : Nat} {c : Nat → Nat} (h : agF w w') (hT : TX w T c) : TX w' T c := by
  obtain ⟨t1, t2, t3, t4⟩ := hT
  exact ⟨t1, by rw [h 7 3 1 (by omega)]; exact t2, by rw [h 8 0 6 (by omega)]; exact t3, fun k hk => by rw [h 7 4 k (by omega), h 8 4 k (by omega)]; exact t4 k hk⟩
theorem agF.tv {w w' : gWd} {T : Nat} (h : agF w w') (hT : TV w T) : TV w' T := by
  obtain ⟨t1, t2, t3, t4⟩ := hT
  exact ⟨t1, by rw [h 7 3 1 (by omega)]; exact t2, by rw [h 8 0 6 (by omega)]; exact t3, fun k hk => by rw [h 7 4 k (by omega), h 8 4 k (by omega)]; exact t4 k hk⟩
theorem agF.blk {w w' : gWd} (h : agF w w') {i : Nat} (h1 : i ≠ 1) (h7 : i < 7) : w' i = w i := funext fun b => funext fun e => h i b e (by omega)
/-- the model tries the text: its memory is as before -/
theorem M_tries {w : gWd} {T : Nat} {c : Nat → Nat} {S S' : Nat → Nat} {fl pos n : Nat} {cause : Int32} (hX : TX w T c) (hS : SV w S) (hp : PMT T c S fl pos cause n S') : ∃ w5 w8 w10, F_X12_copies w 1 3 = some w5 ∧ F_X12_plays w5 = some (if fl = 0 then 1 else 0, w8) ∧ F_X12_copies w8 3 1 = some w10 ∧ agF w w10 ∧ SV w10 S ∧ w10 8 0 4 = 0 ∧ (∀ a, a ≠ 8 → w10 a = w a) ∧ (fl ≠ 0 → w10 8 0 9 = nI pos ∧ w10 8 0 10 = nI fl ∧ w10 8 0 11 = cause) := by
  obtain ⟨w5, f1, f2, f3⟩ := M_copies (w := w) (r0 := 1) (r1 := 3) (by omega)
  have h5 : agF w w5 := fun a b e he => by rw [f2 a b (by omega)]
  have hS5 : SV w5 S := fun t ht => by rw [f2 8 1 (by omega)]; exact hS t ht
  obtain ⟨w8, g1, g2, g3, g4, g5, g6⟩ := hp w5 (h5.tx hX) hS5
  obtain ⟨w10, k1, k2, k3⟩ := M_copies (w := w8) (r0 := 3) (r1 := 1) (by omega)
  have h10 : agF w8 w10 := fun a b e he => by rw [k2 a b (by omega)]
  refine ⟨w5, w8, w10, f1, g1, k1, (h5.tr g2.f).tr h10, fun t ht => ?_, ?_, fun a ha => ?_, fun z => ?_⟩
  · rw [k3 t ht, g2 8 3 t (by omega), f3 t ht]; exact hS t ht
  · rw [k2 8 0 (by omega)]; exact g4
  · funext b e
    rw [k2 a b (by omega), g2 a b e (by omega), f2 a b (by omega)]
  · obtain ⟨a1, a2, a3⟩ := g5 z
    rw [k2 8 0 (by omega)]
    exact ⟨a1, a2, a3⟩
/-- what fault leaves -/
theorem REL_F {w w'' : gWd} {EB : Nat} {S : Nat → Nat} {K : Nat} {ρ : Nat → Nat} {R : Nat → Nat → Nat} {T : Nat} (hI : IV EB S) (hC : CV (w 0) S) (hR : RV (w 0) S) (hK : HK w EB K ρ R) (hT : TV w T) (h : agF w w'') (hS : SV w'' S) (h4 : w'' 8 0 4 = 0) : REL w'' EB := by
  obtain ⟨hH, hp, hk⟩ := hK
  have h0 : w'' 0 = w 0 := h.blk (by omega) (by omega)
  refine ⟨S, K, ρ, R, T, hI, CV.b h0 hC, RV.b h0 hR, hS, h4, ⟨?_, by rw [h 8 0 3 (by omega)]; exact hp, fun j hj => ?_⟩, h.tv hT⟩
  · obtain ⟨x1, x2, x3, x4⟩ := hH
    exact ⟨x1, by rw [h 7 1 1 (by omega)]; exact x2, fun j hj => by rw [h 7 2 j (by omega)]; exact x3 j hj, x4⟩
  · have h1 := hH.1
    obtain ⟨y1, y2, y3⟩ := hH.2.2.1 j (by omega)
    obtain ⟨b1, b2, b3, b4⟩ := hk j hj
    have eb : w'' (ρ j) = w (ρ j) := h.blk (by omega) (by omega)
    exact ⟨CV.b eb b1, RV.b eb b2, b3, fun t ht => by rw [h 8 2 _ (by omega)]; exact b4 t ht⟩
theorem REL_fault {w : gWd} {EB : Nat} (hW : REL w EB) (x : Int32) : ∃ r w' w'', F_X11_fault w x = some (r, w') ∧ F_X12_fault w' x = some (r, w'') ∧ REL w'' EB := by
  have hW2 := hW
  obtain ⟨S, K, ρ, R, T, hI, hC, hR, hS, h04, hK, hT⟩ := hW
  by_cases a : x < 0
  · refine ⟨-1000001, w, w, ?_, ?_, hW2⟩
    · unfold F_X11_fault
      rw [if_pos a]
    · unfold F_X12_fault
      rw [M_in, if_pos a, gP_s, if_pos rfl]
  by_cases b : nI 3 ≤ x
  · refine ⟨-1000001, w, w, ?_, ?_, hW2⟩
    · unfold F_X11_fault
      rw [if_neg a, if_neg]
      intro z
      rw [Int32.le_iff_toInt_le, nI_toInt (by omega)] at b
      rw [Int32.le_iff_toInt_le, show (2 : Int32).toInt = 2 from rfl] at z
      omega
    · unfold F_X12_fault
      rw [show F_X12_in w x 0 2 = some 0 from M_in_f (n := 2) (by omega) (Or.inr b), gP_s, if_pos rfl]
  obtain ⟨k, hk, rfl⟩ := arg_lt (x := x) (n := 3) (by omega) a b
  obtain ⟨c, hX⟩ := hT.tx
  obtain ⟨fl, pos, cause, n, S', q1, q2, q3, q4, q5⟩ := PLAY (c := c) hT.1 hI ⟨_, hC, hR⟩
  obtain ⟨w4, f1, f2, f3, f4, f5, f6, f7⟩ := q4 w hX hC hR
  have hS4 : SV w4 S := hS.of (funext fun e => f2 8 1 e (by omega))
  obtain ⟨w5, w8, w10, g1, g2, g3, g4, g5, g6, g7, g8⟩ := M_tries (f2.tx hX) hS4 q5
  refine ⟨if fl = 0 then -1000004 else if k = 0 then nI pos else if k = 1 then nI fl else cause, w4, w10, ?_, ?_, REL_F hI hC hR hK hT (f2.f.tr g4) g5 g6⟩
  · unfold F_X11_fault
    rw [if_neg a, show (2 : Int32) = nI 2 from rfl, iLe (by omega) (by omega), if_pos (by omega), f1, gP_s, f5, iE0 (by omega), iE0 (by omega), iE1 (by omega)]
    by_cases e : fl = 0
    · rw [if_pos e, if_pos e]
    · obtain ⟨z1, z2⟩ := f6 e
      rw [if_neg e, if_neg e]
      rcases (show k = 0 ∨ k = 1 ∨ k = 2 by omega) with rfl | rfl | rfl
      · rw [if_pos rfl, if_pos rfl, z1]
      · rw [if_neg (by omega), if_pos rfl, if_neg (by omega), if_pos rfl]
      · rw [if_neg (by omega), if_neg (by omega), if_neg (by omega), if_neg (by omega), z2]
  · unfold F_X12_fault
    rw [show F_X12_in w4 (nI k) 0 2 = some 1 from M_in_t (n := 2) (by omega) (by omega), gP_s, if_neg (by decide), g1, gP_s, g2, gC_s, g3, gP_s, iE0 (by omega), iE1 (by omega)]
    by_cases e : fl = 0
    · rw [if_pos e, if_pos e, if_neg (by decide)]
    · obtain ⟨z1, z2, z3⟩ := g8 e
      rw [if_neg e, if_neg e, if_pos rfl]
      rcases (show k = 0 ∨ k = 1 ∨ k = 2 by omega) with rfl | rfl | rfl
      · rw [if_pos rfl, if_pos rfl, z1]
      · rw [if_neg (by omega), if_pos rfl, if_neg (by omega), if_pos rfl, z2]
      · rw [if_neg (by omega), if_neg (by omega), if_neg (by omega), if_neg (by omega), z3]
