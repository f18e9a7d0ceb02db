/-! the states at the beginning -/
def fC0 : List (List Int32) := [[0, 0, 0, 0, 0, 0, 0, 0], [0, 0, 0, 0, 0, 0, 0, 0, 1], [], [], [0, -1, 0, 0], [], [0, 0, 0], [], [], [0, 1, 2, 1, 0], [0, 1, 2, 1, 0], [0, 1, 2, 1, 0], [0, 1, 2, 1, 0], [0, 1, 2, 1, 0], [0, 1, 2, 1, 0], [0, 1, 1], [0, 1, 1], [0, 1, 1], [0, 1, 1], [0, 1, 1], [0, -1, 0, 0], [0, -1, 0, 0], [0, -1, 0, 0], [0, -1, 0, 0], [0, -1, 0, 0], [0, -1, 0, 0], [0, -1, 0, 0], [0, -1, 0, 0], [0, 0, 0, 0, 0, 0, 0, 0, 1], [], [], [0, -1, 0, 0], [], [0, 0, 0], [], [], [0, 1, 2, 1, 0], [0, 1, 2, 1, 0], [0, 1, 2, 1, 0], [0, 1, 2, 1, 0], [0, 1, 2, 1, 0], [0, 1, 2, 1, 0], [0, 1, 1], [0, 1, 1], [0, 1, 1], [0, 1, 1], [0, 1, 1], [0, -1, 0, 0], [0, -1, 0, 0], [0, -1, 0, 0], [0, -1, 0, 0], [0, -1, 0, 0], [0, -1, 0, 0], [0, -1, 0, 0], [0, -1, 0, 0], [0, 0, 0, 0, 0, 0, 0], [], [], [], [0, 1, 2, 1, 0], [0, 1, 2, 1, 0], [0, 1, 2, 1, 0], [0, 1, 2, 1, 0], [0, 1, 2, 1, 0], [0, 1, 2, 1, 0], [0, 1, 1], [0, 1, 1], [0, 1, 1], [0, 1, 1], [0, 1, 1], [0, 0, 0, -4, 0, 0], [], [], [], [0, 0, 0, 0, 0], [], [], [], [], [], [], [], [], [], [], [0, 0, 0, 0, 0, 0], [], [], [], [0, 0, 0, 0], [], [0, 0, 0, 0], [], [0, 0, 0, 0], [], [0, 0, 0, 0], []]
def fM0 : List Int32 := [0, 0, 0, 0, 0, 1, 0, 0, 0, 0, 0, 0, 0, 0, 0, 0, 0, 0, 0, 0, 0, 0, 0, 0, 0, 0, 0, 0, 0, 0, 0, 0, 0, 0]
def gC0 : cr_S := (fun o k => (fC0.getD o []).getD k 0, fun _ _ => 0, fun _ _ => 0)
def gM0 : cr_S := (fun _ k => fM0.getD k 0, fun o => if o = 3 then (upd (fun _ => 0) 1 (-4)) else if o = 13 then (upd (upd (upd (upd (fun _ => 0) 0 (-1)) 1 (-1)) 2 (-1)) 3 (-1)) else fun _ => 0, fun _ _ => 0)
set_option maxRecDepth 100000 in
set_option maxHeartbeats 4000000 in
theorem rC_eq {cA : Nat → ClassId} {a : Nat} : rX10 cA a = cr_L sfC 97 a cA gC0 := by
  unfold rX10
  simp only [Nat.add_assoc]
  rfl
set_option maxRecDepth 100000 in
set_option maxHeartbeats 4000000 in
theorem rM_eq {cA : Nat → ClassId} {a : Nat} : rX11 cA a = cr_L sfM 17 a cA gM0 := rfl
theorem Inv_0 : Inv gC0 gM0 := by
  refine ⟨⟨0, 0, 0, 0, fun _ _ => 0, fun _ _ => 0, ⟨by decide, by decide, by decide⟩, ⟨by decide, by decide, by decide⟩, by decide, ⟨by decide, by decide, by decide⟩, ⟨by decide, by decide, by decide⟩, fun k hk => absurd hk (by omega), fun k hk => absurd hk (by omega), ⟨0, 0, by omega, by omega, by decide, by decide, by decide, by decide, by decide, Or.inl ⟨by decide, by decide⟩⟩, fun k hk => absurd hk (by omega), fun k hk => absurd hk (by omega)⟩, Or.inl ⟨by decide, by decide⟩, ⟨0, by omega, by decide, by decide, fun k hk => absurd hk (by omega)⟩, fun k hk => Or.inl ?_⟩
  rcases (show k = 0 ∨ k = 1 ∨ k = 2 ∨ k = 3 by omega) with rfl | rfl | rfl | rfl <;> exact ⟨by decide, by decide⟩
