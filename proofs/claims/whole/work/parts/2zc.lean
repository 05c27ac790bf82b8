/-! level 2: all the calls in the whole relation, but mean, fault, play -/
section RELS
variable {w : gWd} {EB : Nat}
theorem REL_enter (hW : REL w EB) (x y : Int32) : ∃ r w' w'', F_X11_enter w x y = some (r, w') ∧ F_X12_enter w' x y = some (r, w'') ∧ REL w'' (EB + 1) :=
  REL_op (FC := fun w => F_X1_addSwimmer w 0 x y) (FM := fun w => F_X12_enter w x y) hW (fun S hI _ => OK_enter hI x y)
theorem REL_scratch (hW : REL w EB) (x : Int32) : ∃ r w' w'', F_X11_scratch w x = some (r, w') ∧ F_X12_scratch w' x = some (r, w'') ∧ REL w'' (EB + 1) :=
  REL_op (FC := fun w => F_X1_withdraw w 0 x) (FM := fun w => F_X12_scratch w x) hW (fun S hI hR => OK_scratch hI hR x)
theorem REL_set (hW : REL w EB) (x y : Int32) : ∃ r w' w'', F_X11_set w x y = some (r, w') ∧ F_X12_set w' x y = some (r, w'') ∧ REL w'' (EB + 1) :=
  REL_op (FC := fun w => F_X1_changeSetting w 0 x y) (FM := fun w => F_X12_set w x y) hW (fun S hI _ => OK_set hI x y)
theorem REL_draw (hW : REL w EB) : ∃ r w' w'', F_X11_draw w = some (r, w') ∧ F_X12_draw w' = some (r, w'') ∧ REL w'' (EB + 1) :=
  REL_op (FC := fun w => F_X1_drawHeats w 0) (FM := F_X12_draw) hW (fun S hI _ => OK_draw hI)
theorem REL_swim (hW : REL w EB) (x y : Int32) : ∃ r w' w'', F_X11_swim w x y = some (r, w') ∧ F_X12_swim w' x y = some (r, w'') ∧ REL w'' (EB + 1) :=
  REL_op (FC := fun w => F_X1_giveTime w 0 x y) (FM := fun w => F_X12_swim w x y) hW (fun S hI _ => OK_swim hI x y)
theorem REL_finals (hW : REL w EB) : ∃ r w' w'', F_X11_finals w = some (r, w') ∧ F_X12_finals w' = some (r, w'') ∧ REL w'' (EB + 1) :=
  REL_op (FC := fun w => F_X1_drawFinal w 0) (FM := F_X12_finals) hW (fun S hI _ => OK_finals hI)
theorem REL_end (hW : REL w EB) : ∃ r w' w'', F_X11_end w = some (r, w') ∧ F_X12_end w' = some (r, w'') ∧ REL w'' (EB + 1) :=
  REL_op (FC := fun w => F_X1_endEvent w 0) (FM := F_X12_end) hW (fun S hI _ => OK_end hI)
theorem REL_next (hW : REL w EB) : ∃ r w' w'', F_X11_next w = some (r, w') ∧ F_X12_next w' = some (r, w'') ∧ REL w'' (EB + 1) :=
  REL_op (FC := fun w => F_X1_beginNextEvent w 0) (FM := F_X12_next) hW (fun S hI _ => OK_next hI)
theorem REL.mono {EB' : Nat} (hW : REL w EB) (h : EB ≤ EB') : REL w EB' := by
  obtain ⟨S, K, ρ, R, T, hI, hC, hR, hS, h04, ⟨hH, hp, hk⟩, hT⟩ := hW
  exact ⟨S, K, ρ, R, T, hI.mono h, hC, hR, hS, h04, ⟨hH, hp, fun j hj => ⟨(hk j hj).1, (hk j hj).2.1, (hk j hj).2.2.1.mono h, (hk j hj).2.2.2⟩⟩, hT⟩
theorem REL_points (hW : REL w EB) (x : Int32) : QQ (F_X11_points w x) (F_X12_points w x) := by
  obtain ⟨S, K, ρ, R, T, hI, hC, hR, hS, h04, hK, hT⟩ := hW
  exact Q_points hI hC hS x
theorem REL_missing (hW : REL w EB) (x : Int32) : QQ (F_X11_missing w x) (F_X12_missing w x) := by
  obtain ⟨S, K, ρ, R, T, hI, hC, hR, hS, h04, hK, hT⟩ := hW
  exact Q_missing hI hC hS x
theorem REL_why (hW : REL w EB) : QQ (F_X11_why w) (F_X12_why w) := by
  obtain ⟨S, K, ρ, R, T, hI, hC, hR, hS, h04, hK, hT⟩ := hW
  exact Q_why hI hC hS
theorem REL_reserve (hW : REL w EB) (x : Int32) : QQ (F_X11_reserve w x) (F_X12_reserve w x) := by
  obtain ⟨S, K, ρ, R, T, hI, hC, hR, hS, h04, hK, hT⟩ := hW
  exact Q_reserve hI hC hR hS x
theorem REL_lane (hW : REL w EB) (x y : Int32) : QQ (F_X11_lane w x y) (F_X12_lane w x y) := by
  obtain ⟨S, K, ρ, R, T, hI, hC, hR, hS, h04, hK, hT⟩ := hW
  exact Q_lane hI hC hS x y
theorem REL_swimmer (hW : REL w EB) (x y : Int32) : QQ (F_X11_swimmer w x y) (F_X12_swimmer w x y) := by
  obtain ⟨S, K, ρ, R, T, hI, hC, hR, hS, h04, hK, hT⟩ := hW
  exact Q_swimmer hI hC hS x y
theorem REL_at (hW : REL w EB) (x y : Int32) : QQ (F_X11_at w x y) (F_X12_at w x y) := by
  obtain ⟨S, K, ρ, R, T, hI, hC, hR, hS, h04, hK, hT⟩ := hW
  exact Q_at hI hC hS x y
theorem REL_heat (hW : REL w EB) (x y : Int32) : QQ (F_X11_heat w x y) (F_X12_heat w x y) := by
  obtain ⟨S, K, ρ, R, T, hI, hC, hR, hS, h04, hK, hT⟩ := hW
  exact Q_heat hI hC hS x y
theorem REL_leader (hE : EB ≤ 100000) (hW : REL w EB) (x : Int32) : QQ (F_X11_leader w x) (F_X12_leader w x) := by
  obtain ⟨S, K, ρ, R, T, hI, hC, hR, hS, h04, hK, hT⟩ := hW
  exact Q_leader hI hE hC hS x
theorem REL_count (hW : REL w EB) (x : Int32) : QQ (F_X11_count w x) (F_X12_count w x) := by
  obtain ⟨S, K, ρ, R, T, hI, hC, hR, hS, h04, hK, hT⟩ := hW
  exact Q_count hI hC hR hS (hK.1.2.1.trans hK.2.1.symm) (hT.2.1.trans hT.2.2.1.symm) x
end RELS
