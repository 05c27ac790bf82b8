/-! level 2: both sides read an order -/
section RDO
variable {w : gWd} {T p : Nat} {c : Nat → Nat}
theorem C_tail (h : TX w T c) (hp : w 7 3 3 = nI p) (hp2 : p ≤ 500) : ∃ w', F_X6_readOrder_85 w = some (nI (tl T c p).1, w') ∧ (∀ a b e, ¬ (a = 7 ∧ b = 3 ∧ (e = 3 ∨ e = 6)) → w' a b e = w a b e) ∧ w' 7 3 3 = nI (tl T c p).2 ∧ w' 7 3 6 = w 7 3 7 := by
  unfold F_X6_readOrder_85
  rw [gS_e, show (59 : Int32) = nI 59 from rfl]
  have hu : ag7 w (up3 w 7 3 6 (w 7 3 7)) := ag7.up (by omega)
  obtain ⟨w', f1, f2, f3⟩ := C_readSign (x := 59) (hu.tx h) (by rw [up3_n (by omega)]; exact hp) hp2 (by omega)
  refine ⟨w', ?_, fun a b e he => ?_, ?_, ?_⟩
  · rw [f1, gC_s]
    unfold tl
    by_cases e : sg T c p = 59
    · rw [if_pos e, if_pos e, gZ_n (by omega)]
    · rw [if_neg e, if_neg e, gZ_n (by omega)]
  · rw [f2 a b e (by omega), up3_n (by omega)]
  · rw [f3]
    unfold tl
    by_cases e : sg T c p = 59
    · rw [if_pos e, if_pos e]
    · rw [if_neg e, if_neg e]
  · rw [f2 7 3 6 (by omega), up3_s]
theorem M_tail (h : TX w T c) (hp : w 8 0 8 = nI p) (hp2 : p ≤ 500) : F_X12_reads_96 w = some (nI (tl T c p).1, up3 w 8 0 8 (nI (tl T c p).2)) := by
  unfold F_X12_reads_96 F_X12_reads_109 tl
  rw [show (59 : Int32) = nI 59 from rfl, M_sign h hp hp2 (by omega), gC_s]
  by_cases e : sg T c p = 59
  · rw [if_pos e, if_pos e, if_pos e, if_neg (show ¬ nI 1 = 0 by decide)]; rfl
  · rw [if_neg e, if_neg e, if_neg e, if_pos (show nI 0 = 0 from rfl)]; rfl
theorem C_number' (h : TX w T c) (hp : w 7 3 3 = nI p) (hp2 : p ≤ 500) : ∃ w', F_X6_readNumber w = some (if dl T c p = 0 then 0 else 1, w') ∧ (∀ a b e, ¬ (a = 7 ∧ b = 3 ∧ (e = 3 ∨ e = 7)) → w' a b e = w a b e) ∧ w' 7 3 3 = nI (p + dl T c p) ∧ w' 7 3 7 = nI (num T c p (dl T c p)) := C_number h hp hp2 (dl_le T c p) (dl_1 T c p) (dl_2 T c p)
theorem M_number' {q : Nat} (h : TX w T c) (hp : w 8 0 8 = nI p) (hp2 : p ≤ 500) (hq : q < 2) : ∃ w', F_X12_numbered w (nI q) = some (if dl T c p = 0 then 0 else 1, w') ∧ (∀ a b e, ¬ (a = 8 ∧ ((b = 0 ∧ e = 8) ∨ (b = 6 ∧ e = q))) → w' a b e = w a b e) ∧ w' 8 0 8 = nI (p + dl T c p) ∧ w' 8 6 q = nI (num T c p (dl T c p)) := M_number h hp hp2 hq (dl_le T c p) (dl_1 T c p) (dl_2 T c p)
theorem C_numbersOf (s : Nat) (hs : s < 1000) : F_X6_numbersOf w (nI s) = some (if nm s = 3 then -1 else nI (nm s)) := by
  unfold F_X6_numbersOf nm
  rw [show (100 : Int32) = nI 100 from rfl, show (101 : Int32) = nI 101 from rfl, show (102 : Int32) = nI 102 from rfl, show (110 : Int32) = nI 110 from rfl, show (111 : Int32) = nI 111 from rfl, show (115 : Int32) = nI 115 from rfl, show (120 : Int32) = nI 120 from rfl, iEq (by omega) (by omega), iEq (by omega) (by omega), iEq (by omega) (by omega), iEq (by omega) (by omega), iEq (by omega) (by omega), iEq (by omega) (by omega), iEq (by omega) (by omega)]
  repeat' split
  all_goals first | rfl | omega
theorem M_numbersOf (s : Nat) (hs : s < 1000) : F_X12_numbersOf w (nI s) = some (if nm s = 3 then -1000004 else nI (nm s)) := by
  unfold F_X12_numbersOf nm
  rw [show (100 : Int32) = nI 100 from rfl, show (101 : Int32) = nI 101 from rfl, show (102 : Int32) = nI 102 from rfl, show (110 : Int32) = nI 110 from rfl, show (111 : Int32) = nI 111 from rfl, show (115 : Int32) = nI 115 from rfl, show (120 : Int32) = nI 120 from rfl, iEq (by omega) (by omega), iEq (by omega) (by omega), iEq (by omega) (by omega), iEq (by omega) (by omega), iEq (by omega) (by omega), iEq (by omega) (by omega), iEq (by omega) (by omega)]
  repeat' split
  all_goals first | rfl | omega
theorem nm_in (s : Nat) : nm s ≤ 3 := by
  unfold nm; repeat' split
  all_goals omega
/-- the first number -/
def na (T : Nat) (c : Nat → Nat) (p : Nat) : Nat := num T c (p + 1) (dl T c (p + 1))
def nb (T : Nat) (c : Nat → Nat) (p : Nat) : Nat := num T c (e1 T c p + 1) (dl T c (e1 T c p + 1))
/-- from the first number on, with n numbers -/
theorem C_54 {n e : Nat} (h : TX w T c) (hp : w 7 3 3 = nI e) (hp2 : e ≤ 400) (hn : n ≤ 2) : ∃ w', F_X6_readOrder_54 w (nI n) = some (nI (if n ≤ 1 then tl T c e else if sg T c e = 44 then (if dl T c (e + 1) = 0 then (0, e + 1) else tl T c (e + 1 + dl T c (e + 1))) else (0, e)).1, w') ∧ (∀ a b x, ¬ (a = 7 ∧ b = 3 ∧ (x = 3 ∨ x = 5 ∨ x = 6 ∨ x = 7)) → w' a b x = w a b x) ∧ w' 7 3 3 = nI (if n ≤ 1 then tl T c e else if sg T c e = 44 then (if dl T c (e + 1) = 0 then (0, e + 1) else tl T c (e + 1 + dl T c (e + 1))) else (0, e)).2 ∧ w' 7 3 5 = w 7 3 7 ∧ ((if n ≤ 1 then tl T c e else if sg T c e = 44 then (if dl T c (e + 1) = 0 then (0, e + 1) else tl T c (e + 1 + dl T c (e + 1))) else (0, e)).1 = 1 → 2 ≤ n → w' 7 3 6 = nI (num T c (e + 1) (dl T c (e + 1)))) := by
  unfold F_X6_readOrder_54
  rw [gS_e, show (1 : Int32) = nI 1 from rfl, iLe (by omega) (by omega)]
  have hu : ag7 w (up3 w 7 3 5 (w 7 3 7)) := ag7.up (by omega)
  have hp1 : up3 w 7 3 5 (w 7 3 7) 7 3 3 = nI e := by rw [up3_n (by omega)]; exact hp
  by_cases e1 : n ≤ 1
  · simp only [if_pos e1]
    obtain ⟨w', f1, f2, f3, f4⟩ := C_tail (hu.tx h) hp1 (by omega)
    exact ⟨w', f1, fun a b x hx => by rw [f2 a b x (by omega), up3_n (by omega)], f3, by rw [f2 7 3 5 (by omega), up3_s], fun _ z => absurd z (by omega)⟩
  · simp only [if_neg e1]
    obtain ⟨w1, f1, f2, f3⟩ := C_readSign (x := 44) (hu.tx h) hp1 (by omega) (by omega)
    rw [show (44 : Int32) = nI 44 from rfl, f1, gC_s]
    have h1 : ag7 w w1 := hu.tr (fun a b x hx => f2 a b x (by omega))
    by_cases e2 : sg T c e = 44
    · simp only [if_pos e2] at f3 ⊢
      rw [if_neg (show ¬ nI 1 = 0 by decide)]
      obtain ⟨w2, g1, g2, g3, g4⟩ := C_number' (h1.tx h) f3 (by omega)
      rw [g1, gC_s]
      have h2 : ag7 w w2 := h1.tr (fun a b x hx => g2 a b x (by omega))
      have d3 := dl_le T c (e + 1)
      by_cases e3 : dl T c (e + 1) = 0
      · simp only [if_pos e3]
        refine ⟨w2, by simp only [if_pos]; rfl, fun a b x hx => ?_, by rw [g3, e3], ?_, fun z => absurd z (by show ¬ 0 = 1; omega)⟩
        · rw [g2 a b x (by omega), f2 a b x (by omega), up3_n (by omega)]
        · rw [g2 7 3 5 (by omega), f2 7 3 5 (by omega), up3_s]
      · simp only [if_neg e3]
        rw [if_neg (show ¬ (1 : Int32) = 0 by decide)]
        obtain ⟨w', k1, k2, k3, k4⟩ := C_tail (h2.tx h) g3 (by omega)
        refine ⟨w', k1, fun a b x hx => ?_, k3, ?_, fun _ _ => by rw [k4, g4]⟩
        · rw [k2 a b x (by omega), g2 a b x (by omega), f2 a b x (by omega), up3_n (by omega)]
        · rw [k2 7 3 5 (by omega), g2 7 3 5 (by omega), f2 7 3 5 (by omega), up3_s]
    · simp only [if_neg e2] at f3 ⊢
      rw [if_pos (show nI 0 = 0 from rfl)]
      refine ⟨w1, rfl, fun a b x hx => ?_, f3, ?_, fun z => absurd z (by show ¬ 0 = 1; omega)⟩
      · rw [f2 a b x (by omega), up3_n (by omega)]
      · rw [f2 7 3 5 (by omega), up3_s]
theorem C_read (h : TX w T c) (hp : w 7 3 3 = nI p) (hp2 : p ≤ 200) : ∃ w', F_X6_readOrder w = some (nI (rd T c p).1, w') ∧ ag7 w w' ∧ w' 7 3 2 = nI p ∧ w' 7 3 3 = nI (rd T c p).2 ∧ ((rd T c p).1 = 1 → w' 7 3 4 = nI (sg T c p) ∧ (1 ≤ nm (sg T c p) → w' 7 3 5 = nI (na T c p)) ∧ (2 ≤ nm (sg T c p) → w' 7 3 6 = nI (nb T c p))) := by
  have hs := sg_lt (p := p) h
  unfold F_X6_readOrder
  rw [gS_e]
  have h1 : ag7 w (up3 w 7 3 2 (w 7 3 3)) := ag7.up (by omega)
  rw [C_signHere (h1.tx h) (by rw [up3_n (by omega)]; exact hp) (by omega), gP_s, gS_e, up3_s, C_numbersOf _ hs, gP_s]
  have h2 : ag7 w (up3 (up3 w 7 3 2 (w 7 3 3)) 7 3 4 (nI (sg T c p))) := h1.tr (ag7.up (by omega))
  have v2 : up3 (up3 w 7 3 2 (w 7 3 3)) 7 3 4 (nI (sg T c p)) 7 3 2 = nI p := by rw [up3_n (by omega), up3_s, hp]
  have v3 : up3 (up3 w 7 3 2 (w 7 3 3)) 7 3 4 (nI (sg T c p)) 7 3 3 = nI p := by rw [up3_n (by omega), up3_n (by omega), hp]
  have v4 : up3 (up3 w 7 3 2 (w 7 3 3)) 7 3 4 (nI (sg T c p)) 7 3 4 = nI (sg T c p) := up3_s _ _ _ _ _
  generalize up3 (up3 w 7 3 2 (w 7 3 3)) 7 3 4 (nI (sg T c p)) = w2 at h2 v2 v3 v4 ⊢
  unfold rd
  by_cases a : nm (sg T c p) = 3
  · simp only [if_pos a]
    refine ⟨w2, by rw [if_neg (show ¬ (0 : Int32) ≤ -1 by decide)]; rfl, h2, v2, v3, fun z => absurd z (by show ¬ 0 = 1; omega)⟩
  · simp only [if_neg a]
    have hn3 := nm_in (sg T c p)
    rw [i0Le (by omega), gS_e, v3, nI_1, iLe0 (by omega)]
    have h3 : ag7 w (up3 w2 7 3 3 (nI (p + 1))) := h2.tr (ag7.up (by omega))
    have u2 : up3 w2 7 3 3 (nI (p + 1)) 7 3 2 = nI p := by rw [up3_n (by omega)]; exact v2
    have u3 : up3 w2 7 3 3 (nI (p + 1)) 7 3 3 = nI (p + 1) := up3_s _ _ _ _ _
    have u4 : up3 w2 7 3 3 (nI (p + 1)) 7 3 4 = nI (sg T c p) := by rw [up3_n (by omega)]; exact v4
    generalize up3 w2 7 3 3 (nI (p + 1)) = w3 at h3 u2 u3 u4 ⊢
    by_cases b : nm (sg T c p) = 0
    · simp only [if_pos b]
      obtain ⟨w', f1, f2, f3, f4, f5⟩ := C_54 (n := nm (sg T c p)) (h3.tx h) u3 (by omega) (by omega)
      simp only [if_pos (show nm (sg T c p) ≤ 1 by omega)] at f1 f3
      exact ⟨w', f1, h3.tr (fun a b x hx => f2 a b x (by omega)), by rw [f2 7 3 2 (by omega)]; exact u2, f3, fun _ => ⟨by rw [f2 7 3 4 (by omega)]; exact u4, fun z => absurd z (by omega), fun z => absurd z (by omega)⟩⟩
    · simp only [if_neg b]
      obtain ⟨w4, g1, g2, g3, g4⟩ := C_number' (h3.tx h) u3 (by omega)
      rw [g1, gC_s]
      have h4 : ag7 w w4 := h3.tr (fun a b x hx => g2 a b x (by omega))
      have t2 : w4 7 3 2 = nI p := by rw [g2 7 3 2 (by omega)]; exact u2
      have t4 : w4 7 3 4 = nI (sg T c p) := by rw [g2 7 3 4 (by omega)]; exact u4
      have d3 := dl_le T c (p + 1)
      by_cases d : dl T c (p + 1) = 0
      · simp only [if_pos d]
        refine ⟨w4, by simp only [if_pos]; rfl, h4, t2, by rw [g3, d], fun z => absurd z (by show ¬ 0 = 1; omega)⟩
      · simp only [if_neg d]
        rw [if_neg (show ¬ (1 : Int32) = 0 by decide)]
        obtain ⟨w', f1, f2, f3, f4, f5⟩ := C_54 (n := nm (sg T c p)) (h4.tx h) g3 (by omega) (by omega)
        by_cases f : nm (sg T c p) = 1
        · simp only [if_pos (show nm (sg T c p) ≤ 1 by omega)] at f1 f3
          simp only [if_pos f]
          exact ⟨w', f1, h4.tr (fun a b x hx => f2 a b x (by omega)), by rw [f2 7 3 2 (by omega)]; exact t2, f3, fun _ => ⟨by rw [f2 7 3 4 (by omega)]; exact t4, fun _ => by rw [f4, g4]; rfl, fun z => absurd z (by omega)⟩⟩
        · simp only [if_neg (show ¬ nm (sg T c p) ≤ 1 by omega)] at f1 f3 f5
          simp only [if_neg f]
          exact ⟨w', f1, h4.tr (fun a b x hx => f2 a b x (by omega)), by rw [f2 7 3 2 (by omega)]; exact t2, f3, fun z => ⟨by rw [f2 7 3 4 (by omega)]; exact t4, fun _ => by rw [f4, g4]; rfl, fun z2 => f5 z z2⟩⟩
end RDO
