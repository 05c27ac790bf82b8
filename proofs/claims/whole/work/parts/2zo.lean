/-! level 2: play in the whole relation -/
theorem REL_play {w : gWd} {EB : Nat} (hW : REL w EB) : ∃ r w' w'', F_X11_play w = some (r, w') ∧ F_X12_play w' = some (r, w'') ∧ REL w'' (EB + 60) := by
  obtain ⟨S, K, ρ, R, T, hI, hC, hR, hS, h04, ⟨hH, hp, hk⟩, hT⟩ := hW
  obtain ⟨c, hX⟩ := hT.tx
  obtain ⟨fl, pos, cause, n, S', q1, q2, hI', q4, q5⟩ := PLAY (c := c) hT.1 hI ⟨_, hC, hR⟩
  obtain ⟨w1, f1, f2, f3, f4, f5, f6, f7⟩ := q4 w hX hC hR
  have hS1 : SV w1 S := hS.of (funext fun e => f2 8 1 e (by omega))
  have hB := hI.wb
  by_cases e : fl = 0
  rotate_left
  · -- it fails
    obtain ⟨w5, w8, w10, g1, g2, g3, g4, g5, g6, g7, g8⟩ := M_tries (f2.tx hX) hS1 q5
    refine ⟨-1000002, w1, w10, ?_, ?_, (REL_F hI hC hR ⟨hH, hp, hk⟩ hT (f2.f.tr g4) g5 g6).mono (by omega)⟩
    · unfold F_X11_play
      rw [f1, gP_s, f5, iE0 (by omega), if_neg e]
    · unfold F_X12_play
      rw [g1, gP_s, g2, gC_s, g3, gP_s, if_neg e, if_pos rfl]
  have hb1 : ∀ a, a ≠ 1 → a < 7 → w1 a = w a := fun a h h7 => funext fun b => funext fun x => f2 a b x (by omega)
  have e18 : w1 8 = w 8 := funext fun b => funext fun x => f2 8 b x (by omega)
  have hH1 : HC w1 K ρ := by
    obtain ⟨x1, x2, x3, x4⟩ := hH
    exact ⟨x1, by rw [f2 7 1 1 (by omega)]; exact x2, fun j hj => by rw [f2 7 2 j (by omega)]; exact x3 j hj, x4⟩
  obtain ⟨h1, h2, h3, h4⟩ := hH1
  obtain ⟨g1, g2, g3⟩ := h3 K (by omega)
  obtain ⟨w2, p1, p2, p3, p4⟩ := C_prepare ⟨h1, h2, h3, h4⟩ (CV.b (hb1 0 (by omega) (by omega)) hC) (RV.b (hb1 0 (by omega) (by omega)) hR) hB
  have e1 : w2 1 = w1 1 := p2 1 (by omega)
  have e7 : w2 7 = w1 7 := p2 7 (by omega)
  have e8 : w2 8 = w1 8 := p2 8 (by omega)
  have hρ : ∀ j, j < K → ρ j ≠ ρ K := fun j hj z => by have := h4 j K (by omega) (by omega) z; omega
  have hk2 : ∀ j, j < K → w2 (ρ j) = w (ρ j) := fun j hj => by
    obtain ⟨y1, y2, y3⟩ := h3 j (by omega)
    rw [p2 _ (hρ j hj), hb1 _ (by omega) (by omega)]
  obtain ⟨w5, c1, c2, c3, c4⟩ := C_copy (w := w2) (i0 := 0) (i1 := 1) (by omega) (CV.b e1 f3) (RV.b e1 f4) hI'.wb
  have k7 : w5 7 = w1 7 := by rw [c2 7 (by omega), e7]
  have k8 : w5 8 = w 8 := by rw [c2 8 (by omega), e8, e18]
  have h750 : w5 7 5 0 = nI n := by rw [k7]; exact f7 e
  have hH5 : HC w5 K ρ := ⟨h1, by rw [k7]; exact h2, by rw [k7]; exact h3, h4⟩
  obtain ⟨w8, d1, d2, d3⟩ := C_keep (v := nI n) hH5 (nI_pos' (by omega))
  have n8 : ∀ a, a ≠ 7 → w8 a = w5 a := fun a ha => funext fun b => funext fun x => d2 a b x (fun z => ha z.1)
  have hw8 : w8 8 = w 8 := by rw [n8 8 (by omega), k8]
  have hS8 : SV w8 S := hS.of (by rw [hw8])
  have hX8 : TX w8 T c := by
    obtain ⟨t1, t2, t3, t4⟩ := hX
    exact ⟨t1, by rw [d2 7 3 1 (by omega), k7, f2 7 3 1 (by omega)]; exact t2, by rw [hw8]; exact t3, fun k hk => by rw [d2 7 4 k (by omega), k7, f2 7 4 k (by omega), hw8]; exact t4 k hk⟩
  obtain ⟨v5, v8, v10, m1, m2, m3, m4, m5, m6, m7, m8⟩ := M_tries hX8 hS8 q5
  obtain ⟨wc, u1, u2, u3, u4, u5⟩ := M_changes (w := v10) (K := K) h1 m6 (by rw [m4 8 0 3 (by omega), hw8]; exact hp)
  have hSc : SV wc S := m5.of (funext fun x => u2 8 1 x (by omega))
  have hXc : TX wc T c := by
    obtain ⟨t1, t2, t3, t4⟩ := m4.tx hX8
    exact ⟨t1, by rw [u2 7 3 1 (by omega)]; exact t2, by rw [u2 8 0 6 (by omega)]; exact t3, fun k hk => by rw [u2 7 4 k (by omega), u2 8 4 k (by omega)]; exact t4 k hk⟩
  obtain ⟨w'', o1, o2, o3, o4, o5, o6⟩ := q5 wc hXc hSc
  have q8 : ∀ a b x, ¬ (a = 8 ∧ ((b = 0 ∧ (x = 3 ∨ x = 4 ∨ 8 ≤ x)) ∨ b = 1 ∨ b = 2 ∨ b = 3 ∨ b = 5 ∨ b = 6)) → w'' a b x = v10 a b x := fun a b x h => by
    rw [o2 a b x (by omega), u2 a b x (by omega)]
  have qa : ∀ a, a ≠ 8 → w'' a = w8 a := fun a ha => by
    rw [← m7 a ha]
    exact funext fun b => funext fun x => q8 a b x (by omega)
  have q2' : ∀ x, w'' 8 2 x = wc 8 2 x := fun x => o2 8 2 x (by omega)
  have v2 : ∀ x, v10 8 2 x = w 8 2 x := fun x => by rw [m4 8 2 x (by omega), hw8]
  refine ⟨nI n, w8, w'', ?_, ?_, S', if K = 4 then 4 else K + 1, if K = 4 then rot ρ else ρ, fun j => if j = (if K = 4 then 3 else K) then S else if K = 4 then R (j + 1) else R j, T, hI', ?_, ?_, o3, o4, ⟨?_, ?_, fun j hj => ?_⟩, ?_⟩
  · unfold F_X11_play
    rw [f1, gP_s, f5, iE0 (by omega), if_pos e, p1, gP_s, c1, gP_s, h750, d1, gC_s]
  · unfold F_X12_play
    rw [m1, gP_s, m2, gC_s, m3, gP_s, if_pos e, if_neg (by decide), u1, gP_s, o1, gC_s, if_pos e, if_neg (by decide), o6 e]
  · rw [qa 0 (by omega), n8 0 (by omega)]; exact c3
  · rw [qa 0 (by omega), n8 0 (by omega)]; exact c4
  · obtain ⟨x1, x2, x3, x4⟩ := d3
    exact ⟨x1, by rw [qa 7 (by omega)]; exact x2, by rw [qa 7 (by omega)]; exact x3, x4⟩
  · rw [o2 8 0 3 (by omega)]; exact u3
  · have hblk : ∀ b, 2 ≤ b → b ≤ 6 → w'' b = w2 b := fun b h1 h2 => by rw [qa b (by omega), n8 b (by omega), c2 b (by omega)]
    show CV (w'' ((if K = 4 then rot ρ else ρ) j)) (if j = (if K = 4 then 3 else K) then S else if K = 4 then R (j + 1) else R j) ∧ RV (w'' ((if K = 4 then rot ρ else ρ) j)) (if j = (if K = 4 then 3 else K) then S else if K = 4 then R (j + 1) else R j) ∧ IV (EB + 60) (if j = (if K = 4 then 3 else K) then S else if K = 4 then R (j + 1) else R j) ∧ ∀ t, t < 320 → w'' 8 2 (320 * j + t) = nI ((if j = (if K = 4 then 3 else K) then S else if K = 4 then R (j + 1) else R j) t)
    by_cases e : K = 4
    · rw [if_pos e] at hj u4 u5
      rw [if_pos e, if_pos e, if_pos e]
      have er : rot ρ j = ρ (j + 1) := by unfold rot; rw [if_pos hj]
      obtain ⟨y1, y2, y3⟩ := h3 (j + 1) (by omega)
      rw [er, hblk _ y2 y3]
      by_cases ej : j = 3
      · rw [if_pos ej]
        have : ρ (j + 1) = ρ K := by rw [ej, e]
        rw [this]
        refine ⟨p3, p4, hI.mono (by omega), fun t ht => ?_⟩
        rw [q2', ej, u4 t ht, m5 t (by omega)]
      · rw [if_neg ej, hk2 (j + 1) (by omega)]
        obtain ⟨a1, a2, a3, a4⟩ := hk (j + 1) (by omega)
        refine ⟨a1, a2, a3.mono (by omega), fun t ht => ?_⟩
        have := u5 (320 * j + t) (by omega)
        rw [if_pos e] at this
        rw [q2', this, v2, show 320 * j + t + 320 = 320 * (j + 1) + t by omega]
        exact a4 t ht
    · rw [if_neg e] at hj u4 u5
      rw [if_neg e, if_neg e, if_neg e]
      obtain ⟨y1, y2, y3⟩ := h3 j (by omega)
      rw [hblk _ y2 y3]
      by_cases ej : j = K
      · rw [if_pos ej, ej]
        refine ⟨p3, p4, hI.mono (by omega), fun t ht => ?_⟩
        rw [q2', u4 t ht, m5 t (by omega)]
      · rw [if_neg ej, hk2 j (by omega)]
        obtain ⟨a1, a2, a3, a4⟩ := hk j (by omega)
        refine ⟨a1, a2, a3.mono (by omega), fun t ht => ?_⟩
        have := u5 (320 * j + t) (by omega)
        rw [if_neg e] at this
        rw [q2', this, v2]
        exact a4 t ht
  · obtain ⟨t1, t2, t3, t4⟩ := m4.tv (w := w8) (T := T) ⟨hX8.1, hX8.2.1, hX8.2.2.1, fun k hk => ⟨c k, hX8.2.2.2 k hk⟩⟩
    exact ⟨t1, by rw [q8 7 3 1 (by omega)]; exact t2, by rw [q8 8 0 6 (by omega)]; exact t3, fun k hk => by rw [q8 7 4 k (by omega), q8 8 4 k (by omega)]; exact t4 k hk⟩
