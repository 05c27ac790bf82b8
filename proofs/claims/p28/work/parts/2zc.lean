/-! level 2: the law's own arrays, read as the memory S -/
def lr (t : Nat) : Nat := if t < 300 then (if t % 10 = 9 then 3 else t % 10 / 3) else if t < 306 then 6 else if t < 310 then 4 else 5
def lc (t : Nat) : Nat := if t < 300 then (if t % 10 = 9 then t / 10 else 3 * (t / 10) + t % 10 % 3) else if t < 306 then t - 300 else if t < 310 then t - 306 else t - 310
def vt (t : Nat) : Prop := t < 200 ∨ (300 ≤ t ∧ t < 320)
def LV (w : gWd) (S : Nat → Nat) : Prop := ∀ t, vt t → w 8 (lr t) (lc t) = nI (S t)
theorem lrc_inj {t u : Nat} (h1 : vt t) (h2 : vt u) (a : lr t = lr u) (b : lc t = lc u) : t = u := by
  unfold vt at h1 h2
  unfold lr at a
  unfold lc at b
  by_cases c1 : t < 300
  · by_cases c2 : u < 300
    · rw [if_pos c1, if_pos c2] at a b
      by_cases d1 : t % 10 = 9
      · by_cases d2 : u % 10 = 9
        · rw [if_pos d1, if_pos d2] at b
          omega
        · rw [if_pos d1, if_neg d2] at a
          omega
      · by_cases d2 : u % 10 = 9
        · rw [if_neg d1, if_pos d2] at a
          omega
        · rw [if_neg d1, if_neg d2] at a b
          omega
    · rw [if_pos c1, if_neg c2] at a
      (repeat' split at a) <;> omega
  · by_cases c2 : u < 300
    · rw [if_neg c1, if_pos c2] at a
      (repeat' split at a) <;> omega
    · rw [if_neg c1, if_neg c2] at a b
      by_cases d1 : t < 306
      · by_cases d2 : u < 306
        · rw [if_pos d1, if_pos d2] at b
          omega
        · rw [if_pos d1, if_neg d2] at a
          split at a <;> omega
      · by_cases d2 : u < 306
        · rw [if_neg d1, if_pos d2] at a
          split at a <;> omega
        · rw [if_neg d1, if_neg d2] at a b
          by_cases f1 : t < 310
          · by_cases f2 : u < 310
            · rw [if_pos f1, if_pos f2] at b
              omega
            · rw [if_pos f1, if_neg f2] at a
              omega
          · by_cases f2 : u < 310
            · rw [if_neg f1, if_pos f2] at a
              omega
            · rw [if_neg f1, if_neg f2] at b
              omega
theorem LV.up {w : gWd} {S : Nat → Nat} (h : LV w S) {t : Nat} (ht : vt t) (v : Nat) : LV (up3 w 8 (lr t) (lc t) (nI v)) (upN S t v) := by
  intro q hq
  by_cases e : q = t
  · subst e; rw [up3_s, upN_s]
  · rw [up3_n (fun z => e (lrc_inj hq ht z.2.1 z.2.2)), upN_n e]; exact h q hq
theorem LV.of {w w' : gWd} {S : Nat → Nat} (h : LV w S) (e : w' 8 = w 8) : LV w' S := fun t ht => by rw [e]; exact h t ht
theorem LV.cg {w : gWd} {S S' : Nat → Nat} (h : LV w S) (e : ∀ t, vt t → S' t = S t) : LV w S' := fun t ht => by rw [e t ht]; exact h t ht
theorem lr_lt (t : Nat) : lr t < 7 := by
  unfold lr
  (repeat' split) <;> omega
theorem LV.w7 {w : gWd} {S : Nat → Nat} (h : LV w S) (j : Nat) (v : Int32) : LV (up3 w 8 7 j v) S := fun t ht => by
  have := lr_lt t
  rw [up3_n (by omega)]
  exact h t ht
theorem lrk0 {k : Nat} (hk : k < 20) : lr (10 * k) = 0 := by
  unfold lr
  rw [if_pos (by omega), if_neg (by omega)]
  omega
theorem lck0 {k : Nat} (hk : k < 20) : lc (10 * k) = 3 * k := by
  unfold lc
  rw [if_pos (by omega), if_neg (by omega)]
  omega
theorem LV.g0 {w : gWd} {S : Nat → Nat} (h : LV w S) {k : Nat} (hk : k < 20) : w 8 0 (3 * k) = nI (S (10 * k)) := by
  have := h (10 * k) (Or.inl (by omega))
  rw [lrk0 hk, lck0 hk] at this
  exact this
theorem LV.u0 {w : gWd} {S : Nat → Nat} (h : LV w S) {k : Nat} (hk : k < 20) (v : Nat) : LV (up3 w 8 0 (3 * k) (nI v)) (upN S (10 * k) v) := by
  have := h.up (t := 10 * k) (Or.inl (by omega)) v
  rw [lrk0 hk, lck0 hk] at this
  exact this
theorem lrk1 {k : Nat} (hk : k < 20) : lr (10 * k + 1) = 0 := by
  unfold lr
  rw [if_pos (by omega), if_neg (by omega)]
  omega
theorem lck1 {k : Nat} (hk : k < 20) : lc (10 * k + 1) = 3 * k + 1 := by
  unfold lc
  rw [if_pos (by omega), if_neg (by omega)]
  omega
theorem LV.g1 {w : gWd} {S : Nat → Nat} (h : LV w S) {k : Nat} (hk : k < 20) : w 8 0 (3 * k + 1) = nI (S (10 * k + 1)) := by
  have := h (10 * k + 1) (Or.inl (by omega))
  rw [lrk1 hk, lck1 hk] at this
  exact this
theorem LV.u1 {w : gWd} {S : Nat → Nat} (h : LV w S) {k : Nat} (hk : k < 20) (v : Nat) : LV (up3 w 8 0 (3 * k + 1) (nI v)) (upN S (10 * k + 1) v) := by
  have := h.up (t := 10 * k + 1) (Or.inl (by omega)) v
  rw [lrk1 hk, lck1 hk] at this
  exact this
theorem lrk2 {k : Nat} (hk : k < 20) : lr (10 * k + 2) = 0 := by
  unfold lr
  rw [if_pos (by omega), if_neg (by omega)]
  omega
theorem lck2 {k : Nat} (hk : k < 20) : lc (10 * k + 2) = 3 * k + 2 := by
  unfold lc
  rw [if_pos (by omega), if_neg (by omega)]
  omega
theorem LV.g2 {w : gWd} {S : Nat → Nat} (h : LV w S) {k : Nat} (hk : k < 20) : w 8 0 (3 * k + 2) = nI (S (10 * k + 2)) := by
  have := h (10 * k + 2) (Or.inl (by omega))
  rw [lrk2 hk, lck2 hk] at this
  exact this
theorem LV.u2 {w : gWd} {S : Nat → Nat} (h : LV w S) {k : Nat} (hk : k < 20) (v : Nat) : LV (up3 w 8 0 (3 * k + 2) (nI v)) (upN S (10 * k + 2) v) := by
  have := h.up (t := 10 * k + 2) (Or.inl (by omega)) v
  rw [lrk2 hk, lck2 hk] at this
  exact this
theorem lrk3 {k : Nat} (hk : k < 20) : lr (10 * k + 3) = 1 := by
  unfold lr
  rw [if_pos (by omega), if_neg (by omega)]
  omega
theorem lck3 {k : Nat} (hk : k < 20) : lc (10 * k + 3) = 3 * k := by
  unfold lc
  rw [if_pos (by omega), if_neg (by omega)]
  omega
theorem LV.g3 {w : gWd} {S : Nat → Nat} (h : LV w S) {k : Nat} (hk : k < 20) : w 8 1 (3 * k) = nI (S (10 * k + 3)) := by
  have := h (10 * k + 3) (Or.inl (by omega))
  rw [lrk3 hk, lck3 hk] at this
  exact this
theorem LV.u3 {w : gWd} {S : Nat → Nat} (h : LV w S) {k : Nat} (hk : k < 20) (v : Nat) : LV (up3 w 8 1 (3 * k) (nI v)) (upN S (10 * k + 3) v) := by
  have := h.up (t := 10 * k + 3) (Or.inl (by omega)) v
  rw [lrk3 hk, lck3 hk] at this
  exact this
theorem lrk4 {k : Nat} (hk : k < 20) : lr (10 * k + 4) = 1 := by
  unfold lr
  rw [if_pos (by omega), if_neg (by omega)]
  omega
theorem lck4 {k : Nat} (hk : k < 20) : lc (10 * k + 4) = 3 * k + 1 := by
  unfold lc
  rw [if_pos (by omega), if_neg (by omega)]
  omega
theorem LV.g4 {w : gWd} {S : Nat → Nat} (h : LV w S) {k : Nat} (hk : k < 20) : w 8 1 (3 * k + 1) = nI (S (10 * k + 4)) := by
  have := h (10 * k + 4) (Or.inl (by omega))
  rw [lrk4 hk, lck4 hk] at this
  exact this
theorem LV.u4 {w : gWd} {S : Nat → Nat} (h : LV w S) {k : Nat} (hk : k < 20) (v : Nat) : LV (up3 w 8 1 (3 * k + 1) (nI v)) (upN S (10 * k + 4) v) := by
  have := h.up (t := 10 * k + 4) (Or.inl (by omega)) v
  rw [lrk4 hk, lck4 hk] at this
  exact this
theorem lrk5 {k : Nat} (hk : k < 20) : lr (10 * k + 5) = 1 := by
  unfold lr
  rw [if_pos (by omega), if_neg (by omega)]
  omega
theorem lck5 {k : Nat} (hk : k < 20) : lc (10 * k + 5) = 3 * k + 2 := by
  unfold lc
  rw [if_pos (by omega), if_neg (by omega)]
  omega
theorem LV.g5 {w : gWd} {S : Nat → Nat} (h : LV w S) {k : Nat} (hk : k < 20) : w 8 1 (3 * k + 2) = nI (S (10 * k + 5)) := by
  have := h (10 * k + 5) (Or.inl (by omega))
  rw [lrk5 hk, lck5 hk] at this
  exact this
theorem LV.u5 {w : gWd} {S : Nat → Nat} (h : LV w S) {k : Nat} (hk : k < 20) (v : Nat) : LV (up3 w 8 1 (3 * k + 2) (nI v)) (upN S (10 * k + 5) v) := by
  have := h.up (t := 10 * k + 5) (Or.inl (by omega)) v
  rw [lrk5 hk, lck5 hk] at this
  exact this
theorem lrk6 {k : Nat} (hk : k < 20) : lr (10 * k + 6) = 2 := by
  unfold lr
  rw [if_pos (by omega), if_neg (by omega)]
  omega
theorem lck6 {k : Nat} (hk : k < 20) : lc (10 * k + 6) = 3 * k := by
  unfold lc
  rw [if_pos (by omega), if_neg (by omega)]
  omega
theorem LV.g6 {w : gWd} {S : Nat → Nat} (h : LV w S) {k : Nat} (hk : k < 20) : w 8 2 (3 * k) = nI (S (10 * k + 6)) := by
  have := h (10 * k + 6) (Or.inl (by omega))
  rw [lrk6 hk, lck6 hk] at this
  exact this
theorem LV.u6 {w : gWd} {S : Nat → Nat} (h : LV w S) {k : Nat} (hk : k < 20) (v : Nat) : LV (up3 w 8 2 (3 * k) (nI v)) (upN S (10 * k + 6) v) := by
  have := h.up (t := 10 * k + 6) (Or.inl (by omega)) v
  rw [lrk6 hk, lck6 hk] at this
  exact this
theorem lrk7 {k : Nat} (hk : k < 20) : lr (10 * k + 7) = 2 := by
  unfold lr
  rw [if_pos (by omega), if_neg (by omega)]
  omega
theorem lck7 {k : Nat} (hk : k < 20) : lc (10 * k + 7) = 3 * k + 1 := by
  unfold lc
  rw [if_pos (by omega), if_neg (by omega)]
  omega
theorem LV.g7 {w : gWd} {S : Nat → Nat} (h : LV w S) {k : Nat} (hk : k < 20) : w 8 2 (3 * k + 1) = nI (S (10 * k + 7)) := by
  have := h (10 * k + 7) (Or.inl (by omega))
  rw [lrk7 hk, lck7 hk] at this
  exact this
theorem LV.u7 {w : gWd} {S : Nat → Nat} (h : LV w S) {k : Nat} (hk : k < 20) (v : Nat) : LV (up3 w 8 2 (3 * k + 1) (nI v)) (upN S (10 * k + 7) v) := by
  have := h.up (t := 10 * k + 7) (Or.inl (by omega)) v
  rw [lrk7 hk, lck7 hk] at this
  exact this
theorem lrk8 {k : Nat} (hk : k < 20) : lr (10 * k + 8) = 2 := by
  unfold lr
  rw [if_pos (by omega), if_neg (by omega)]
  omega
theorem lck8 {k : Nat} (hk : k < 20) : lc (10 * k + 8) = 3 * k + 2 := by
  unfold lc
  rw [if_pos (by omega), if_neg (by omega)]
  omega
theorem LV.g8 {w : gWd} {S : Nat → Nat} (h : LV w S) {k : Nat} (hk : k < 20) : w 8 2 (3 * k + 2) = nI (S (10 * k + 8)) := by
  have := h (10 * k + 8) (Or.inl (by omega))
  rw [lrk8 hk, lck8 hk] at this
  exact this
theorem LV.u8 {w : gWd} {S : Nat → Nat} (h : LV w S) {k : Nat} (hk : k < 20) (v : Nat) : LV (up3 w 8 2 (3 * k + 2) (nI v)) (upN S (10 * k + 8) v) := by
  have := h.up (t := 10 * k + 8) (Or.inl (by omega)) v
  rw [lrk8 hk, lck8 hk] at this
  exact this
theorem lrk9 {k : Nat} (hk : k < 20) : lr (10 * k + 9) = 3 := by
  unfold lr
  rw [if_pos (by omega), if_pos (by omega)]
theorem lck9 {k : Nat} (hk : k < 20) : lc (10 * k + 9) = k := by
  unfold lc
  rw [if_pos (by omega), if_pos (by omega)]
  omega
theorem LV.g9 {w : gWd} {S : Nat → Nat} (h : LV w S) {k : Nat} (hk : k < 20) : w 8 3 (k) = nI (S (10 * k + 9)) := by
  have := h (10 * k + 9) (Or.inl (by omega))
  rw [lrk9 hk, lck9 hk] at this
  exact this
theorem LV.u9 {w : gWd} {S : Nat → Nat} (h : LV w S) {k : Nat} (hk : k < 20) (v : Nat) : LV (up3 w 8 3 (k) (nI v)) (upN S (10 * k + 9) v) := by
  have := h.up (t := 10 * k + 9) (Or.inl (by omega)) v
  rw [lrk9 hk, lck9 hk] at this
  exact this
theorem lrv {j : Nat} (hj : j < 4) : lr (306 + j) = 4 ∧ lc (306 + j) = j := by
  unfold lr lc
  rw [if_neg (by omega), if_neg (by omega), if_pos (by omega), if_neg (by omega), if_neg (by omega), if_pos (by omega)]
  exact ⟨rfl, by omega⟩
theorem LV.gv {w : gWd} {S : Nat → Nat} (h : LV w S) {j : Nat} (hj : j < 4) : w 8 4 j = nI (S (306 + j)) := by
  have := h (306 + j) (Or.inr (by omega))
  rw [(lrv hj).1, (lrv hj).2] at this
  exact this
theorem LV.uv {w : gWd} {S : Nat → Nat} (h : LV w S) {j : Nat} (hj : j < 4) (v : Nat) : LV (up3 w 8 4 j (nI v)) (upN S (306 + j) v) := by
  have := h.up (t := 306 + j) (Or.inr (by omega)) v
  rw [(lrv hj).1, (lrv hj).2] at this
  exact this
theorem lrq {j : Nat} (hj : j < 6) : lr (300 + j) = 6 ∧ lc (300 + j) = j := by
  unfold lr lc
  rw [if_neg (by omega), if_pos (by omega), if_neg (by omega), if_pos (by omega)]
  exact ⟨rfl, by omega⟩
theorem LV.gq {w : gWd} {S : Nat → Nat} (h : LV w S) {j : Nat} (hj : j < 6) : w 8 6 j = nI (S (300 + j)) := by
  have := h (300 + j) (Or.inr (by omega))
  rw [(lrq hj).1, (lrq hj).2] at this
  exact this
theorem LV.uq {w : gWd} {S : Nat → Nat} (h : LV w S) {j : Nat} (hj : j < 6) (v : Nat) : LV (up3 w 8 6 j (nI v)) (upN S (300 + j) v) := by
  have := h.up (t := 300 + j) (Or.inr (by omega)) v
  rw [(lrq hj).1, (lrq hj).2] at this
  exact this
theorem lrt {j : Nat} (hj : j < 10) : lr (310 + j) = 5 ∧ lc (310 + j) = j := by
  unfold lr lc
  rw [if_neg (by omega), if_neg (by omega), if_neg (by omega), if_neg (by omega), if_neg (by omega), if_neg (by omega)]
  exact ⟨rfl, by omega⟩
theorem LV.gt {w : gWd} {S : Nat → Nat} (h : LV w S) {j : Nat} (hj : j < 10) : w 8 5 j = nI (S (310 + j)) := by
  have := h (310 + j) (Or.inr (by omega))
  rw [(lrt hj).1, (lrt hj).2] at this
  exact this
theorem LV.ut {w : gWd} {S : Nat → Nat} (h : LV w S) {j : Nat} (hj : j < 10) (v : Nat) : LV (up3 w 8 5 j (nI v)) (upN S (310 + j) v) := by
  have := h.up (t := 310 + j) (Or.inr (by omega)) v
  rw [(lrt hj).1, (lrt hj).2] at this
  exact this
theorem LV.st {w : gWd} {S : Nat → Nat} (h : LV w S) : w 8 5 0 = nI (S 310) := h.gt (j := 0) (by omega)
theorem LV.N {w : gWd} {S : Nat → Nat} (h : LV w S) : w 8 5 1 = nI (S 311) := h.gt (j := 1) (by omega)
theorem LV.ht {w : gWd} {S : Nat → Nat} (h : LV w S) : w 8 5 2 = nI (S 312) := h.gt (j := 2) (by omega)
theorem LV.ev {w : gWd} {S : Nat → Nat} (h : LV w S) : w 8 5 3 = nI (S 313) := h.gt (j := 3) (by omega)
theorem LV.rc {w : gWd} {S : Nat → Nat} (h : LV w S) : w 8 5 4 = nI (S 314) := h.gt (j := 4) (by omega)
theorem LV.rs {w : gWd} {S : Nat → Nat} (h : LV w S) : w 8 5 5 = nI (S 315) := h.gt (j := 5) (by omega)
theorem LV.ca {w : gWd} {S : Nat → Nat} (h : LV w S) : w 8 5 6 = nI (S 316) := h.gt (j := 6) (by omega)
theorem LV.la {w : gWd} {S : Nat → Nat} (h : LV w S) : w 8 5 7 = nI (S 317) := h.gt (j := 7) (by omega)
theorem LV.fe {w : gWd} {S : Nat → Nat} (h : LV w S) : w 8 5 8 = nI (S 318) := h.gt (j := 8) (by omega)
theorem LV.re {w : gWd} {S : Nat → Nat} (h : LV w S) : w 8 5 9 = nI (S 319) := h.gt (j := 9) (by omega)
theorem g30 {α : Type} {k : Nat} (hk : k < 20) (f : Nat → Option α) : gB (3 * nI k) 60 f = f (3 * k) := by
  rw [show (3 : Int32) = nI 3 from rfl, pk_mul, gB_n _ (by omega) (by omega)]
theorem g31 {α : Type} {k : Nat} (hk : k < 20) (f : Nat → Option α) : gB (3 * nI k + 1) 60 f = f (3 * k + 1) := by
  rw [show (3 : Int32) = nI 3 from rfl, pk_mul, nI_1, gB_n _ (by omega) (by omega)]
theorem g32 {α : Type} {k : Nat} (hk : k < 20) (f : Nat → Option α) : gB (3 * nI k + 2) 60 f = f (3 * k + 2) := by
  rw [show (3 : Int32) = nI 3 from rfl, pk_mul, show (2 : Int32) = nI 2 from rfl, nI_add, gB_n _ (by omega) (by omega)]
theorem iLe1 {α : Type} {a : Nat} {x y : α} (ha : a < 2 ^ 31) : (if nI a ≤ 1 then x else y) = if a ≤ 1 then x else y := iLe (b := 1) ha (by omega)
def xk (S : Nat → Nat) (k : Nat) : Nat := if S (10 * k + 1) = 0 then 9999 else S (10 * k + 1)
section LREADS
variable {w : gWd} {S : Nat → Nat}
theorem xk_ek (hB : WB S) {a b : Nat} (ha : a < 20) (hb : b < 20) : (xk S a < xk S b ∨ (xk S a = xk S b ∧ a < b)) ↔ ek S a < ek S b := by
  have h1 := (hB.k (k := a) (by omega)).2.1
  have h2 := (hB.k (k := b) (by omega)).2.1
  unfold xk ek
  split <;> split <;> omega
theorem L_ahead (hS : LV w S) (hB : WB S) {a b : Nat} (ha : a < 20) (hb : b < 20) : F_L_isAhead w (nI a) (nI b) = some (nI (if ek S a < ek S b then 1 else 0)) := by
  have h1 := (hB.k (k := a) (by omega)).2.1
  have h2 := (hB.k (k := b) (by omega)).2.1
  have e47 : ∀ x y : Nat, x ≤ 9999 → y ≤ 9999 → F_L_isAhead_47 w (nI a) (nI b) (nI x) (nI y) = some (nI (if x < y ∨ (x = y ∧ a < b) then 1 else 0)) := by
    intro x y hx hy
    unfold F_L_isAhead_47 F_L_isAhead_66 F_L_isAhead_70
    rw [iLt (by omega) (by omega), iEq (by omega) (by omega), iLe (by omega) (by omega)]
    by_cases c1 : x < y
    · rw [if_pos c1, if_pos (Or.inl c1)]; rfl
    · rw [if_neg c1]
      by_cases c2 : x = y
      · rw [if_pos c2]
        by_cases c3 : b ≤ a
        · rw [if_pos c3, if_neg (by omega)]; rfl
        · rw [if_neg c3, if_pos (by omega)]; rfl
      · rw [if_neg c2, if_neg (by omega)]; rfl
  have e23 : ∀ x : Nat, x ≤ 9999 → F_L_isAhead_23 w (nI a) (nI b) (nI x) = some (nI (if x < xk S b ∨ (x = xk S b ∧ a < b) then 1 else 0)) := by
    intro x hx
    unfold F_L_isAhead_23 xk
    rw [g31 hb, hS.g1 hb, iE0 (by omega), g31 hb, hS.g1 hb]
    by_cases c : S (10 * b + 1) = 0
    · rw [if_pos c, if_pos c]; exact e47 x 9999 hx (by omega)
    · rw [if_neg c, if_neg c]; exact e47 x _ hx (by omega)
  have e : F_L_isAhead w (nI a) (nI b) = F_L_isAhead_23 w (nI a) (nI b) (nI (xk S a)) := by
    unfold F_L_isAhead xk
    rw [g31 ha, hS.g1 ha, iE0 (by omega), g31 ha, hS.g1 ha]
    by_cases c : S (10 * a + 1) = 0
    · rw [if_pos c, if_pos c]; rfl
    · rw [if_neg c, if_neg c]
  have hx : xk S a ≤ 9999 := by unfold xk; split <;> omega
  rw [e, e23 _ hx]
  have := xk_ek hB ha hb
  by_cases c : ek S a < ek S b
  · rw [if_pos c, if_pos (this.mpr c)]
  · rw [if_neg c, if_neg (fun z => c (this.mp z))]
theorem L_rank (hS : LV w S) (hB : WB S) (hN : S 311 ≤ 20) {k : Nat} (h : k < 20) : F_L_rank w (nI k) = some (nI (erank S k)) := by
  unfold F_L_rank
  refine loopI (F := fun fu (acc : Nat) j => F_L_rank_5 fu w (nI k) (nI acc) (nI j)) (S 311) (fun j acc => acc = fb_ct (fun q => decide (S (10 * q + 2) = 0 ∧ ek S q < ek S k)) j) (fun r => r = some (nI (erank S k))) ?_ ?_ gFU 0 0 (by omega) (gFU_lt (by omega)) rfl
  · intro fu acc hI
    show F_L_rank_5 (fu + 1) w (nI k) (nI acc) (nI (S 311)) = _
    rw [F_L_rank_5_s, hS.N, iLe (by omega) (by omega), if_pos (Nat.le_refl _), hI]
    rfl
  · intro fu acc j hj hI
    right
    refine ⟨_, rfl, ?_⟩
    show F_L_rank_5 (fu + 1) w (nI k) (nI acc) (nI j) = F_L_rank_5 fu w (nI k) _ (nI (j + 1))
    have hg := (hB.k (k := j) (by omega)).2.2.1
    rw [F_L_rank_5_s, hS.N, iLe (by omega) (by omega), if_neg (by omega), g32 (by omega), hS.g2 (by omega), iE0 (by omega), fb_ct_succ, hI]
    by_cases e : S (10 * j + 2) = 0
    · rw [if_pos e, L_ahead hS hB (by omega) h, gP_s]
      by_cases e2 : ek S j < ek S k
      · rw [if_pos e2, if_neg (by decide), if_pos (by simp [e, e2])]
        simp only [gS_e, nI_1]
      · rw [if_neg e2, if_pos (by rfl), if_neg (by simp; omega)]
        unfold F_L_rank_39
        simp only [gS_e, Int32.add_zero, Nat.add_zero, nI_1]
    · rw [if_neg e, if_neg (by simp [e])]
      unfold F_L_rank_39
      simp only [gS_e, Int32.add_zero, Nat.add_zero, nI_1]
theorem L_timeRank (hS : LV w S) (hB : WB S) (hN : S 311 ≤ 20) {k : Nat} (h : k < 20) : F_L_timeRank w (nI k) = some (nI (trank S k)) := by
  unfold F_L_timeRank
  refine loopI (F := fun fu (acc : Nat) j => F_L_timeRank_6 fu w (nI k) (nI acc) (nI j)) (S 311) (fun j acc => acc = fb_ct (fun q => decide (1 < S (10 * q + 5)) && fastB S q k) j) (fun r => r = some (nI (trank S k))) ?_ ?_ gFU 0 0 (by omega) (gFU_lt (by omega)) rfl
  · intro fu acc hI
    show F_L_timeRank_6 (fu + 1) w (nI k) (nI acc) (nI (S 311)) = _
    rw [F_L_timeRank_6_s, hS.N, iLe (by omega) (by omega), if_pos (Nat.le_refl _), hI]
    rfl
  · intro fu acc j hj hI
    right
    refine ⟨_, rfl, ?_⟩
    show F_L_timeRank_6 (fu + 1) w (nI k) (nI acc) (nI j) = F_L_timeRank_6 fu w (nI k) _ (nI (j + 1))
    have h1 := (hB.k (k := j) (by omega)).2.2.2.2.2.1
    have h2 := (hB.k (k := k) (by omega)).2.2.2.2.2.1
    have e65 : ∀ b : Bool, F_L_timeRank_65 (F_L_timeRank_6 fu) w (nI k) (nI acc) (nI j) (nI (if b = true then 1 else 0)) = F_L_timeRank_6 fu w (nI k) (nI (acc + if (decide (1 < S (10 * j + 5)) && b) = true then 1 else 0)) (nI (j + 1)) := by
      intro b
      unfold F_L_timeRank_65 F_L_timeRank_90
      rw [g32 (by omega), hS.g5 (by omega), iLe1 (by omega)]
      by_cases c : S (10 * j + 5) ≤ 1
      · rw [if_pos c, if_neg (by simp; omega)]
        simp only [gS_e, Int32.add_zero, Nat.add_zero, nI_1]
      · rw [if_neg c]
        cases b with
        | true =>
          rw [if_neg (by decide), if_pos (by simp; omega)]
          simp only [gS_e, nI_1]
        | false =>
          rw [if_pos (by rfl), if_neg (by simp)]
          simp only [gS_e, Int32.add_zero, Nat.add_zero, nI_1]
    have e60 := e65 true
    have e64 := e65 false
    rw [F_L_timeRank_6_s, hS.N, iLe (by omega) (by omega), if_neg (by omega), g32 (by omega), g32 h, hS.g5 (by omega), hS.g5 h, iLt (by omega) (by omega), g32 (by omega), g32 h, hS.g5 (by omega), hS.g5 h, iEq (by omega) (by omega), L_ahead hS hB (by omega) h, gP_s, fb_ct_succ, ← hI]
    unfold F_L_timeRank_60 F_L_timeRank_64 fastB
    by_cases c1 : S (10 * j + 5) < S (10 * k + 5)
    · rw [if_pos c1]
      refine e60.trans ?_
      rw [show decide (S (10 * j + 5) < S (10 * k + 5) ∨ (S (10 * j + 5) = S (10 * k + 5) ∧ ek S j < ek S k)) = true from decide_eq_true (Or.inl c1)]
    · rw [if_neg c1]
      by_cases c2 : S (10 * j + 5) = S (10 * k + 5)
      · rw [if_pos c2]
        by_cases c3 : ek S j < ek S k
        · rw [if_pos c3, if_neg (by decide)]
          refine e60.trans ?_
          rw [show decide (S (10 * j + 5) < S (10 * k + 5) ∨ (S (10 * j + 5) = S (10 * k + 5) ∧ ek S j < ek S k)) = true from decide_eq_true (Or.inr ⟨c2, c3⟩)]
        · rw [if_neg c3, if_pos (by rfl)]
          refine e64.trans ?_
          rw [show decide (S (10 * j + 5) < S (10 * k + 5) ∨ (S (10 * j + 5) = S (10 * k + 5) ∧ ek S j < ek S k)) = false from decide_eq_false (by omega)]
      · rw [if_neg c2]
        refine e64.trans ?_
        rw [show decide (S (10 * j + 5) < S (10 * k + 5) ∨ (S (10 * j + 5) = S (10 * k + 5) ∧ ek S j < ek S k)) = false from decide_eq_false (by omega)]
/-- the lanes from the middle outward, step by step -/
theorem lane_step (S : Nat → Nat) (j : Nat) : laneI S (j + 1) = if (j + 1) % 2 = 1 then laneI S j + nI (j + 1) else laneI S j + -nI (j + 1) := by
  unfold laneI
  by_cases c : (j + 1) % 2 = 1
  · rw [if_pos c, if_pos c, if_neg (by omega)]
    have e : nI (j + 1) = nI (j / 2) + nI (j / 2 + 1) := by rw [nI_add]; congr 1; omega
    rw [e, ← Int32.add_assoc, Int32.sub_add_cancel, nI_add]
    congr 1
    omega
  · rw [if_neg c, if_neg c, if_pos (by omega)]
    have e : nI (j + 1) = nI ((j + 1) / 2) + nI ((j + 1) / 2) := by rw [nI_add]; congr 1; omega
    rw [← Int32.sub_eq_add_neg, e, ← nI_add]
    have z : ∀ a b : Int32, a - b = a + b - (b + b) := by
      intro a b
      rw [← Int32.sub_sub, Int32.add_sub_cancel]
    exact z _ _
theorem L_lane {r : Nat} (hr : r < 1000) (hL : S 317 ≤ 10) : F_L_lane w (nI (S 317)) (nI r) = some (laneI S r) := by
  unfold F_L_lane
  rw [nI_1, show (2 : Int32) = nI 2 from rfl, pk_div (by omega) (by omega) (by omega), gS_e]
  have h0 : nI ((S 317 + 1) / 2) = laneI S 0 := by
    unfold laneI
    rw [if_neg (by omega)]
    exact (pk_sub (b := 0) (Nat.zero_le _)).symm
  rw [h0]
  refine loopI (F := fun fu (acc : Int32) j => F_L_lane_8 fu w (nI r) acc (nI (j + 1))) r (fun j acc => acc = laneI S j) (fun o => o = some (laneI S r)) ?_ ?_ gFU (laneI S 0) 0 (by omega) (gFU_lt (by omega)) rfl
  · intro fu acc hI
    show F_L_lane_8 (fu + 1) w (nI r) acc (nI (r + 1)) = _
    rw [F_L_lane_8_s, iLt (by omega) (by omega), if_pos (by omega), hI]
  · intro fu acc j hj hI
    right
    refine ⟨_, rfl, ?_⟩
    show F_L_lane_8 (fu + 1) w (nI r) acc (nI (j + 1)) = F_L_lane_8 fu w (nI r) _ (nI (j + 1 + 1))
    rw [F_L_lane_8_s, iLt (by omega) (by omega), if_neg (by omega), show (2 : Int32) = nI 2 from rfl, pk_rem (by omega) (by omega) (by omega), iE1 (by omega), hI, lane_step S j]
    simp only [gS_e, nI_1]
    split <;> rfl
theorem L_isAsked (hS : LV w S) (hB : WB S) {k : Nat} (hk : k < 20) : F_L_isAsked w (nI k) = some (nI (if askB S k = true then 1 else 0)) := by
  have hst := hB.2.1
  have h := hB.k (k := k) (by omega)
  unfold F_L_isAsked F_L_isAsked_27 F_L_isAsked_43 F_L_isAsked_47
  rw [g32 hk, hS.g2 hk, iE0 (by omega), hS.st, iE1 (by omega), iE2 (by omega), g30 hk, hS.g3 hk, i0Lt (by omega), g30 hk, hS.g6 hk, iLe0 (by omega)]
  unfold askB
  by_cases c1 : S (10 * k + 2) = 0
  · rw [if_pos c1]
    by_cases c2 : S 310 = 1
    · rw [if_pos c2]
      by_cases c3 : 0 < S (10 * k + 3)
      · rw [if_pos c3, if_pos (decide_eq_true ⟨c1, Or.inl ⟨c2, c3⟩⟩)]; rfl
      · rw [if_neg c3, if_neg (by omega), if_neg (by simp; omega)]; rfl
    · rw [if_neg c2]
      by_cases c4 : S 310 = 2
      · rw [if_pos c4]
        by_cases c5 : S (10 * k + 6) = 0
        · rw [if_pos c5, if_neg (by simp; omega)]; rfl
        · rw [if_neg c5, if_pos (decide_eq_true ⟨c1, Or.inr ⟨c4, by omega⟩⟩)]; rfl
      · rw [if_neg c4, if_neg (by simp; omega)]; rfl
  · rw [if_neg c1, if_neg (by simp [c1])]; rfl
theorem L_time (hS : LV w S) (hB : WB S) {k : Nat} (hk : k < 20) : F_L_time w (nI k) = some (nI (S (10 * k + tcol S))) := by
  have hst := hB.2.1
  unfold F_L_time tcol
  rw [hS.st, iE1 (by omega), g32 hk, hS.g5 hk, g31 hk, hS.g7 hk]
  split <;> rfl
theorem L_why (hS : LV w S) (hB : WB S) (hN : S 311 ≤ 20) : F_L_why w = some (nI (whyN S)) := by
  have hst := hB.2.1
  unfold F_L_why
  refine loopI (F := fun fu (st : Nat × Nat × Nat) j => F_L_why_12 fu w (nI st.1) (nI st.2.1) (nI st.2.2) (nI j)) (S 311) (fun j st => st = (pres S j, fb_ct (mis S) j, fb_ct (TN S) j)) (fun r => r = some (nI (whyN S))) ?_ ?_ gFU (0, 0, 0) 0 (by omega) (gFU_lt (by omega)) rfl
  · intro fu st hI
    have p1 := fb_ct_le (mis S) (S 311)
    have p2 := fb_ct_le (TN S) (S 311)
    have p3 := pres_le S (S 311)
    subst hI
    show F_L_why_12 (fu + 1) w (nI (pres S (S 311))) (nI (fb_ct (mis S) (S 311))) (nI (fb_ct (TN S) (S 311))) (nI (S 311)) = _
    rw [F_L_why_12_s, hS.N, iLe (by omega) (by omega), if_pos (Nat.le_refl _), hS.st, iE0 (by omega), iLe0 (by omega), iE3 (by omega), iLe0 (by omega), iE1 (by omega), iE0 (by omega)]
    unfold whyN F_L_why_151
    by_cases c0 : S 310 = 0
    · rw [if_pos c0, if_pos c0]
      split <;> rfl
    · rw [if_neg c0, if_neg c0]
      by_cases c3 : S 310 = 3
      · rw [if_pos c3, mis_3 c3, if_pos rfl, if_neg (by omega)]; rfl
      · rw [if_neg c3]
        by_cases c4 : fb_ct (mis S) (S 311) = 0
        · rw [if_pos c4, if_pos c4]
          by_cases c1 : S 310 = 1
          · rw [if_pos c1]
            by_cases c5 : fb_ct (TN S) (S 311) = 0
            · rw [if_pos c5, if_pos ⟨c1, c5⟩]; rfl
            · rw [if_neg c5, if_neg (fun z => c5 z.2)]; rfl
          · rw [if_neg c1, if_neg (fun z => c1 z.1)]; rfl
        · rw [if_neg c4, if_neg c4]; rfl
  · intro fu st j hj hI
    right
    refine ⟨_, rfl, ?_⟩
    subst hI
    have h := hB.k (k := j) (by omega)
    have ht := tcol_le hB (k := j) (by omega)
    have p1 := fb_ct_le (mis S) j
    have p2 := fb_ct_le (TN S) j
    have p3 := pres_le S j
    show F_L_why_12 (fu + 1) w (nI (pres S j)) (nI (fb_ct (mis S) j)) (nI (fb_ct (TN S) j)) (nI j) = F_L_why_12 fu w (nI (pres S (j + 1))) (nI (fb_ct (mis S) (j + 1))) (nI (fb_ct (TN S) (j + 1))) (nI (j + 1))
    have e65 : ∀ b : Nat, F_L_why_65 (F_L_why_12 fu) w (nI (pres S (j + 1))) (nI (fb_ct (TN S) j)) (nI j) (nI b) (nI (fb_ct (mis S) j)) = F_L_why_12 fu w (nI (pres S (j + 1))) (nI (fb_ct (mis S) j + b)) (nI (fb_ct (TN S) (j + 1))) (nI (j + 1)) := by
      intro b
      unfold F_L_why_65
      rw [nI_add, gS_e, g32 (by omega), hS.g5 (by omega), iLe1 (by omega), fb_ct_succ (TN S)]
      unfold TN
      by_cases c : S (10 * j + 5) ≤ 1
      · rw [if_pos c, if_neg (by simp; omega)]
        simp only [gS_e, Int32.add_zero, Nat.add_zero, nI_1]
      · rw [if_neg c, if_pos (by simp; omega)]
        simp only [gS_e, nI_1]
    have hp : nI (pres S j) + (1 - nI (S (10 * j + 2))) = nI (pres S (j + 1)) := by
      unfold pres
      rw [fb_ct_succ]
      have : S (10 * j + 2) = 0 ∨ S (10 * j + 2) = 1 := by omega
      rcases this with e | e
      · rw [if_pos (by simp [e]), e]; rw [show (1 : Int32) - nI 0 = 1 from rfl, nI_1]
      · rw [if_neg (by simp [e]), e]; rw [show (1 : Int32) - nI 1 = 0 from rfl, Int32.add_zero, Nat.add_zero]
    rw [F_L_why_12_s, hS.N, iLe (by omega) (by omega), if_neg (by omega), g32 (by omega), hS.g2 (by omega), hp, gS_e, L_isAsked hS hB (by omega), gP_s, L_time hS hB (by omega), gP_s, fb_ct_succ (mis S)]
    unfold F_L_why_64
    have m : mis S j = (askB S j && decide (S (10 * j + tcol S) = 0)) := rfl
    rw [m]
    by_cases c1 : askB S j = true
    · rw [if_pos c1, if_neg (by decide), iE0 (by omega)]
      by_cases c2 : S (10 * j + tcol S) = 0
      · rw [if_pos c2, if_pos (by simp [c1, c2])]; exact e65 1
      · rw [if_neg c2, if_neg (by simp [c2])]; exact e65 0
    · rw [if_neg c1, if_pos (by rfl), if_neg (by simp [c1])]; exact e65 0
end LREADS
