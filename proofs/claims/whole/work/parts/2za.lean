/-! level 2: the whole relation, a changing order -/
/-- what is kept -/
def HK (w : gWd) (EB K : Nat) (ρ : Nat → Nat) (R : Nat → Nat → Nat) : Prop := HC w K ρ ∧ w 8 0 3 = nI K ∧ ∀ j, j < K → CV (w (ρ j)) (R j) ∧ RV (w (ρ j)) (R j) ∧ IV EB (R j) ∧ ∀ t, t < 320 → w 8 2 (320 * j + t) = nI (R j t)
def REL (w : gWd) (EB : Nat) : Prop := ∃ S K ρ R T, IV EB S ∧ CV (w 0) S ∧ RV (w 0) S ∧ SV w S ∧ w 8 0 4 = 0 ∧ HK w EB K ρ R ∧ TV w T
theorem M_changes {w : gWd} {K : Nat} (hK : K ≤ 4) (h0 : w 8 0 4 = 0) (hp : w 8 0 3 = nI K) : ∃ wc, F_X12_changes w = some wc ∧ agH2 w wc ∧ wc 8 0 3 = nI (if K = 4 then 4 else K + 1) ∧ (∀ t, t < 320 → wc 8 2 (320 * (if K = 4 then 3 else K) + t) = w 8 1 t) ∧ ∀ q, q < 320 * (if K = 4 then 3 else K) → wc 8 2 q = w 8 2 (if K = 4 then q + 320 else q) := by
  unfold F_X12_changes
  rw [if_pos h0, hp, show (4 : Int32) = nI 4 from rfl, iEq (by omega) (by omega)]
  by_cases e : K = 4
  · subst e
    simp only [if_pos]
    exact M_ch18 hp
  · simp only [if_neg e]
    exact M_ch59 (by omega) hp
theorem TV.of {w w' : gWd} {T : Nat} (h : TV w T) (h1 : w' 7 3 1 = w 7 3 1) (h2 : w' 8 0 6 = w 8 0 6) (h3 : w' 7 4 = w 7 4) (h4 : w' 8 4 = w 8 4) : TV w' T := by
  obtain ⟨t1, t2, t3, t4⟩ := h
  exact ⟨t1, by rw [h1]; exact t2, by rw [h2]; exact t3, fun k hk => by rw [h3, h4]; exact t4 k hk⟩
/-- the class's way through its history -/
def FCC (FC : gWd → Option (Int32 × gWd)) (w : gWd) : Option (Int32 × gWd) := gP (F_X3_prepare w 0) (fun w_2 => gC (FC w_2) (fun v_4 w_5 => gC (F_X3_keepUnlessError w_5 v_4) (fun v_7 w_8 => some (v_7, w_8))))
theorem REL_op {FC FM : gWd → Option (Int32 × gWd)} {w : gWd} {EB : Nat} (hW : REL w EB) (hok : ∀ S, IV EB S → (∃ c : Nat → Nat → Int32, RV c S) → OK2 0 FC FM EB S) : ∃ r w' w'', FCC FC w = some (r, w') ∧ FM w' = some (r, w'') ∧ REL w'' (EB + 1) := by
  obtain ⟨S, K, ρ, R, T, hI, hC, hR, hS, h04, ⟨hH, hp, hk⟩, hT⟩ := hW
  have hB := hI.wb
  obtain ⟨h1, h2, h3, h4⟩ := hH
  obtain ⟨g1, g2, g3⟩ := h3 K (by omega)
  obtain ⟨w2, p1, p2, p3, p4⟩ := C_prepare ⟨h1, h2, h3, h4⟩ hC hR hB
  have e0 : w2 0 = w 0 := p2 0 (by omega)
  have e7 : w2 7 = w 7 := p2 7 (by omega)
  have e8 : w2 8 = w 8 := p2 8 (by omega)
  have hρ : ∀ j, j < K → ρ j ≠ ρ K := fun j hj z => by have := h4 j K (by omega) (by omega) z; omega
  have hk2 : ∀ j, j < K → w2 (ρ j) = w (ρ j) := fun j hj => p2 _ (hρ j hj)
  rcases hok S hI ⟨w 0, hR⟩ with ⟨r, ⟨hr, oc, om⟩ | ⟨hr, S', hI', oc, om⟩⟩
  · have hS2 : SV w2 S := hS.of (by rw [e8])
    refine ⟨r, w2, w2, ?_, om w2 hS2, S, K, ρ, R, T, hI.mono (by omega), by rw [e0]; exact hC, by rw [e0]; exact hR, hS2, by rw [e8]; exact h04, ⟨⟨h1, by rw [e7]; exact h2, by rw [e7]; exact h3, h4⟩, by rw [e8]; exact hp, fun j hj => ?_⟩, hT.of (by rw [e7]) (by rw [e8]) (by rw [e7]) (by rw [e8])⟩
    · unfold FCC
      rw [p1, gP_s, oc w2 (by rw [e0]; exact hC) (by rw [e0]; exact hR), gC_s, C_keepE hr, gC_s]
    · obtain ⟨a1, a2, a3, a4⟩ := hk j hj
      exact ⟨by rw [hk2 j hj]; exact a1, by rw [hk2 j hj]; exact a2, a3.mono (by omega), by rw [e8]; exact a4⟩
  · obtain ⟨w5, f1, f2, f3, f4⟩ := oc w2 (by rw [e0]; exact hC) (by rw [e0]; exact hR)
    have k7 : w5 7 = w 7 := by rw [f2 7 (by omega), e7]
    have k8 : w5 8 = w 8 := by rw [f2 8 (by omega), e8]
    have hH5 : HC w5 K ρ := ⟨h1, by rw [k7]; exact h2, by rw [k7]; exact h3, h4⟩
    obtain ⟨w8, c1, c2, c3⟩ := C_keep hH5 hr
    have n8 : ∀ a, a ≠ 7 → w8 a = w5 a := fun a ha => funext fun b => funext fun c => c2 a b c (fun z => ha z.1)
    have hS8 : SV w8 S := hS.of (by rw [n8 8 (by omega), k8])
    obtain ⟨wc, d1, d2, d3, d4, d5⟩ := M_changes (w := w8) (K := K) h1 (by rw [n8 8 (by omega), k8]; exact h04) (by rw [n8 8 (by omega), k8]; exact hp)
    obtain ⟨w'', m1, m2, m3⟩ := om w8 wc hS8 d1 d2.agH
    have q8 : ∀ a b c, ¬ (a = 8 ∧ ((b = 0 ∧ c = 3) ∨ b = 1 ∨ b = 2 ∨ b = 5)) → w'' a b c = w8 a b c := fun a b c h => by
      rw [m2 a b (fun z => h (by omega)), d2 a b c (fun z => h (by omega))]
    have qa : ∀ a, a ≠ 8 → w'' a = w8 a := fun a ha => funext fun b => funext fun c => q8 a b c (fun z => ha z.1)
    have q2 : w'' 8 2 = wc 8 2 := m2 8 2 (by omega)
    have q03 : w'' 8 0 3 = wc 8 0 3 := by rw [m2 8 0 (by omega)]
    refine ⟨r, w8, w'', ?_, m1, S', if K = 4 then 4 else K + 1, if K = 4 then rot ρ else ρ, fun j => if j = (if K = 4 then 3 else K) then S else if K = 4 then R (j + 1) else R j, T, hI', ?_, ?_, m3, ?_, ⟨?_, ?_, fun j hj => ?_⟩, ?_⟩
    · unfold FCC
      rw [p1, gP_s, f1, gC_s, c1, gC_s]
    · rw [qa 0 (by omega), n8 0 (by omega)]; exact f3
    · rw [qa 0 (by omega), n8 0 (by omega)]; exact f4
    · rw [q8 8 0 4 (by omega), n8 8 (by omega), k8]; exact h04
    · obtain ⟨x1, x2, x3, x4⟩ := c3
      exact ⟨x1, by rw [qa 7 (by omega)]; exact x2, by rw [qa 7 (by omega)]; exact x3, x4⟩
    · rw [q03]; exact d3
    · have hblk : ∀ b, 2 ≤ b → b ≤ 6 → w'' b = w2 b := fun b h1 h2 => by rw [qa b (by omega), n8 b (by omega), f2 b (by omega)]
      show CV (w'' ((if K = 4 then rot ρ else ρ) j)) (if j = (if K = 4 then 3 else K) then S else if K = 4 then R (j + 1) else R j) ∧ RV (w'' ((if K = 4 then rot ρ else ρ) j)) (if j = (if K = 4 then 3 else K) then S else if K = 4 then R (j + 1) else R j) ∧ IV (EB + 1) (if j = (if K = 4 then 3 else K) then S else if K = 4 then R (j + 1) else R j) ∧ ∀ t, t < 320 → w'' 8 2 (320 * j + t) = nI ((if j = (if K = 4 then 3 else K) then S else if K = 4 then R (j + 1) else R j) t)
      rw [q2]
      by_cases e : K = 4
      · rw [if_pos e] at hj d4 d5
        rw [if_pos e, if_pos e, if_pos e]
        have er : rot ρ j = ρ (j + 1) := by unfold rot; rw [if_pos hj]
        obtain ⟨y1, y2, y3⟩ := h3 (j + 1) (by omega)
        rw [er, hblk _ y2 y3]
        by_cases ej : j = 3
        · rw [if_pos ej]
          have : ρ (j + 1) = ρ K := by rw [ej, e]
          rw [this]
          refine ⟨p3, p4, hI.mono (by omega), fun t ht => ?_⟩
          rw [ej, d4 t ht, n8 8 (by omega), k8, hS t (by omega)]
        · rw [if_neg ej, hk2 (j + 1) (by omega)]
          obtain ⟨a1, a2, a3, a4⟩ := hk (j + 1) (by omega)
          refine ⟨a1, a2, a3.mono (by omega), fun t ht => ?_⟩
          have := d5 (320 * j + t) (by omega)
          rw [if_pos e] at this
          rw [this, n8 8 (by omega), k8, show 320 * j + t + 320 = 320 * (j + 1) + t by omega]
          exact a4 t ht
      · rw [if_neg e] at hj d4 d5
        rw [if_neg e, if_neg e, if_neg e]
        obtain ⟨y1, y2, y3⟩ := h3 j (by omega)
        rw [hblk _ y2 y3]
        by_cases ej : j = K
        · rw [if_pos ej, ej]
          refine ⟨p3, p4, hI.mono (by omega), fun t ht => ?_⟩
          rw [d4 t ht, n8 8 (by omega), k8, hS t (by omega)]
        · rw [if_neg ej, hk2 j (by omega)]
          obtain ⟨a1, a2, a3, a4⟩ := hk j (by omega)
          refine ⟨a1, a2, a3.mono (by omega), fun t ht => ?_⟩
          have := d5 (320 * j + t) (by omega)
          rw [if_neg e] at this
          rw [this, n8 8 (by omega), k8]
          exact a4 t ht
    · have c73 : w8 7 3 = w 7 3 := by funext c; rw [c2 7 3 c (by omega), k7]
      have c74 : w8 7 4 = w 7 4 := by funext c; rw [c2 7 4 c (by omega), k7]
      have c84 : w'' 8 4 = w 8 4 := by funext c; rw [q8 8 4 c (by omega), n8 8 (by omega), k8]
      exact hT.of (by rw [qa 7 (by omega), c73]) (by rw [q8 8 0 6 (by omega), n8 8 (by omega), k8]) (by rw [qa 7 (by omega), c74]) c84
