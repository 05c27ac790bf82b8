/-! level 2: the model reads an order -/
def agr (w w' : gWd) : Prop := ∀ a b e, ¬ (a = 8 ∧ ((b = 0 ∧ (e = 8 ∨ e = 13)) ∨ b = 6)) → w' a b e = w a b e
theorem agr.rf (w : gWd) : agr w w := fun _ _ _ _ => rfl
theorem agr.tr {w w1 w2 : gWd} (h1 : agr w w1) (h2 : agr w1 w2) : agr w w2 := fun a b c h => (h2 a b c h).trans (h1 a b c h)
theorem agr.up {w : gWd} {j : Nat} {v : Int32} (h : j = 8 ∨ j = 13) : agr w (up3 w 8 0 j v) := fun a b c h' => up3_n (fun z => h' (by omega))
theorem agr.tx {w w' : gWd} {T : Nat} {c : Nat → Nat} (h : agr w w') (hT : TX w T c) : TX w' T c := by
  obtain ⟨t1, t2, t3, t4⟩ := hT
  exact ⟨t1, by rw [h 7 3 1 (by omega)]; exact t2, by rw [h 8 0 6 (by omega)]; exact t3, fun k hk => by rw [h 7 4 k (by omega), h 8 4 k (by omega)]; exact t4 k hk⟩
section RDM
variable {w : gWd} {T p : Nat} {c : Nat → Nat}
theorem M_69 {n e : Nat} (h : TX w T c) (hp : w 8 0 8 = nI e) (hp2 : e ≤ 400) (hn : n ≤ 2) : ∃ w', F_X12_reads_64 w (nI n) = some (nI (if n ≤ 1 then tl T c e else if sg T c e = 44 then (if dl T c (e + 1) = 0 then (0, e + 1) else tl T c (e + 1 + dl T c (e + 1))) else (0, e)).1, w') ∧ (∀ a b x, ¬ (a = 8 ∧ ((b = 0 ∧ x = 8) ∨ (b = 6 ∧ x = 1))) → w' a b x = w a b x) ∧ w' 8 0 8 = nI (if n ≤ 1 then tl T c e else if sg T c e = 44 then (if dl T c (e + 1) = 0 then (0, e + 1) else tl T c (e + 1 + dl T c (e + 1))) else (0, e)).2 ∧ ((if n ≤ 1 then tl T c e else if sg T c e = 44 then (if dl T c (e + 1) = 0 then (0, e + 1) else tl T c (e + 1 + dl T c (e + 1))) else (0, e)).1 = 1 → 2 ≤ n → w' 8 6 1 = nI (num T c (e + 1) (dl T c (e + 1)))) := by
  unfold F_X12_reads_64 F_X12_reads_69 F_X12_reads_109
  rw [if_neg (show ¬ (1 : Int32) = 0 by decide), show (2 : Int32) = nI 2 from rfl, iLt (by omega) (by omega)]
  by_cases e1 : n ≤ 1
  · simp only [if_pos e1]
    rw [if_pos (show n < 2 by omega), M_tail h hp (by omega)]
    exact ⟨_, rfl, fun a b x hx => up3_n (by omega), up3_s _ _ _ _ _, fun _ z => absurd z (by omega)⟩
  · simp only [if_neg e1]
    rw [if_neg (show ¬ n < 2 by omega), show (44 : Int32) = nI 44 from rfl, M_sign h hp (by omega) (by omega), gC_s]
    by_cases e2 : sg T c e = 44
    · simp only [if_pos e2]
      rw [if_neg (show ¬ nI 1 = 0 by decide)]
      have h1 : agr w (up3 w 8 0 8 (nI (e + 1))) := agr.up (by omega)
      obtain ⟨w2, g1, g2, g3, g4⟩ := M_number' (q := 1) (h1.tx h) (up3_s _ _ _ _ _) (by omega) (by omega)
      rw [show (1 : Int32) = nI 1 from rfl, g1, gC_s]
      have h2 : agr w w2 := h1.tr (fun a b x hx => g2 a b x (by omega))
      have d3 := dl_le T c (e + 1)
      by_cases e3 : dl T c (e + 1) = 0
      · simp only [if_pos e3]
        refine ⟨w2, by simp only [if_pos]; rfl, fun a b x hx => ?_, by rw [g3, e3], fun z => absurd z (by show ¬ 0 = 1; omega)⟩
        rw [g2 a b x (by omega), up3_n (by omega)]
      · simp only [if_neg e3]
        rw [if_neg (show ¬ (1 : Int32) = 0 by decide), M_tail (h2.tx h) g3 (by omega)]
        refine ⟨_, rfl, fun a b x hx => ?_, up3_s _ _ _ _ _, fun _ _ => by rw [up3_n (by omega)]; exact g4⟩
        rw [up3_n (by omega), g2 a b x (by omega), up3_n (by omega)]
    · simp only [if_neg e2]
      rw [if_pos (show nI 0 = 0 from rfl)]
      exact ⟨_, rfl, fun a b x hx => up3_n (by omega), up3_s _ _ _ _ _, fun z => absurd z (by show ¬ 0 = 1; omega)⟩
theorem M_read25 {s : Nat} (hs : s < 1000) (hnm : nm s = nm (sg T c p)) (hs2 : (rd T c p).1 = 1 → s = sg T c p) (h : TX w T c) (hp : w 8 0 8 = nI p) (hp2 : p ≤ 200) : ∃ w', F_X12_reads_25 w (nI s) = some (nI (rd T c p).1, w') ∧ agr w w' ∧ w' 8 0 8 = nI (rd T c p).2 ∧ ((rd T c p).1 = 1 → w' 8 0 13 = nI (sg T c p) ∧ (1 ≤ nm (sg T c p) → w' 8 6 0 = nI (na T c p)) ∧ (2 ≤ nm (sg T c p) → w' 8 6 1 = nI (nb T c p))) := by
  unfold F_X12_reads_25
  rw [gS_e, up3_s, M_numbersOf _ hs, gP_s, hnm]
  have h2 : agr w (up3 w 8 0 13 (nI s)) := agr.up (by omega)
  have v3 : up3 w 8 0 13 (nI s) 8 0 8 = nI p := by rw [up3_n (by omega)]; exact hp
  have v4 : (rd T c p).1 = 1 → up3 w 8 0 13 (nI s) 8 0 13 = nI (sg T c p) := fun z => by rw [up3_s, hs2 z]
  generalize up3 w 8 0 13 (nI s) = w2 at h2 v3 v4 ⊢
  unfold rd at v4 ⊢
  by_cases a : nm (sg T c p) = 3
  · simp only [if_pos a]
    refine ⟨w2, by rw [if_neg (show ¬ (0 : Int32) ≤ -1000004 by decide)]; rfl, h2, v3, fun z => absurd z (by show ¬ 0 = 1; omega)⟩
  · simp only [if_neg a] at v4 ⊢
    have hn3 := nm_in (sg T c p)
    rw [i0Le (by omega), gS_e, v3, nI_1, iE0 (by omega)]
    have h3 : agr w (up3 w2 8 0 8 (nI (p + 1))) := h2.tr (agr.up (by omega))
    have u3 : up3 w2 8 0 8 (nI (p + 1)) 8 0 8 = nI (p + 1) := up3_s _ _ _ _ _
    have u4 : up3 w2 8 0 8 (nI (p + 1)) 8 0 13 = w2 8 0 13 := by rw [up3_n (by omega)]
    generalize up3 w2 8 0 8 (nI (p + 1)) = w3 at h3 u3 u4 ⊢
    by_cases b : nm (sg T c p) = 0
    · simp only [if_pos b] at v4 ⊢
      obtain ⟨w', f1, f2, f3, f5⟩ := M_69 (n := nm (sg T c p)) (h3.tx h) u3 (by omega) (by omega)
      simp only [if_pos (show nm (sg T c p) ≤ 1 by omega)] at f1 f3
      exact ⟨w', f1, h3.tr (fun a b x hx => f2 a b x (by omega)), f3, fun z => ⟨by rw [f2 8 0 13 (by omega), u4]; exact v4 z, fun z => absurd z (by omega), fun z => absurd z (by omega)⟩⟩
    · simp only [if_neg b] at v4 ⊢
      obtain ⟨w4, g1, g2, g3, g4⟩ := M_number' (q := 0) (h3.tx h) u3 (by omega) (by omega)
      rw [show F_X12_numbered w3 0 = _ from g1, gC_s]
      have h4 : agr w w4 := h3.tr (fun a b x hx => g2 a b x (by omega))
      have t4 : w4 8 0 13 = w2 8 0 13 := by rw [g2 8 0 13 (by omega)]; exact u4
      have d3 := dl_le T c (p + 1)
      by_cases d : dl T c (p + 1) = 0
      · simp only [if_pos d]
        refine ⟨w4, ?_, h4, by rw [g3, d], fun z => absurd z (by show ¬ 0 = 1; omega)⟩
        rw [if_pos trivial]
        unfold F_X12_reads_69
        rw [if_pos rfl]
        rfl
      · simp only [if_neg d] at v4 ⊢
        rw [if_neg (show ¬ (1 : Int32) = 0 by decide)]
        obtain ⟨w', f1, f2, f3, f5⟩ := M_69 (n := nm (sg T c p)) (h4.tx h) g3 (by omega) (by omega)
        by_cases f : nm (sg T c p) = 1
        · simp only [if_pos (show nm (sg T c p) ≤ 1 by omega)] at f1 f3
          simp only [if_pos f] at v4 ⊢
          exact ⟨w', f1, h4.tr (fun a b x hx => f2 a b x (by omega)), f3, fun z => ⟨by rw [f2 8 0 13 (by omega), t4]; exact v4 z, fun _ => by rw [f2 8 6 0 (by omega), g4]; rfl, fun z => absurd z (by omega)⟩⟩
        · simp only [if_neg (show ¬ nm (sg T c p) ≤ 1 by omega)] at f1 f3 f5
          simp only [if_neg f] at v4 ⊢
          exact ⟨w', f1, h4.tr (fun a b x hx => f2 a b x (by omega)), f3, fun z => ⟨by rw [f2 8 0 13 (by omega), t4]; exact v4 z, fun _ => by rw [f2 8 6 0 (by omega), g4]; rfl, fun z2 => f5 z z2⟩⟩
theorem M_read (h : TX w T c) (hp : w 8 0 8 = nI p) (hp2 : p ≤ 200) : ∃ w', F_X12_reads w = some (nI (rd T c p).1, w') ∧ agr w w' ∧ w' 8 0 8 = nI (rd T c p).2 ∧ ((rd T c p).1 = 1 → w' 8 0 13 = nI (sg T c p) ∧ (1 ≤ nm (sg T c p) → w' 8 6 0 = nI (na T c p)) ∧ (2 ≤ nm (sg T c p) → w' 8 6 1 = nI (nb T c p))) := by
  unfold F_X12_reads
  have hat := M_isAt (a := 33) (b := 126) h hp (by omega) (by omega) (by omega)
  rw [show F_X12_isAt w 33 126 = _ from hat, gP_s]
  by_cases e : 33 ≤ sg T c p ∧ sg T c p ≤ 126
  · have hT : p < T := by
      rcases Nat.lt_or_ge p T with z | z
      · exact z
      · unfold sg at e; rw [if_neg (by omega)] at e; omega
    have h60 := h.1
    have hs : sg T c p = c p := if_pos hT
    rw [if_pos e, if_neg (show ¬ nI 1 = 0 by decide), hp, gB_n _ (by omega) (by omega), (h.2.2.2 p hT).2.2.2, ← hs]
    exact M_read25 (sg_lt h) rfl (fun _ => rfl) h hp hp2
  · rw [if_neg e, if_pos (show nI 0 = 0 from rfl)]
    have h3 : nm (sg T c p) = 3 := by
      have : sg T c p < 33 := by
        rcases Nat.lt_or_ge p T with z | z
        · have := (h.2.2.2 p z)
          have hs : sg T c p = c p := if_pos z
          omega
        · have hs : sg T c p = 0 := if_neg (by omega)
          omega
      unfold nm
      rw [if_neg (by omega), if_neg (by omega), if_neg (by omega), if_neg (by omega), if_neg (by omega), if_neg (by omega), if_neg (by omega)]
    refine M_read25 (s := 0) (by omega) (by rw [h3]; rfl) (fun z => ?_) h hp hp2
    exact absurd h3 ((rd_in T c p).2.2.2 z).2
end RDM
