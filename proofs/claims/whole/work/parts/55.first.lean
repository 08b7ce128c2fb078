/-! ===== the first memories ===== -/
def c00 (f1 f3 f6 : Nat → Int32) : jx_M := fun o k => if o = 0 ∧ k = 11 then fun _ => -9 else if o = 1 ∧ k = 0 then f1 else if o = 3 ∧ k = 3 then f3 else if o = 6 ∧ k = 3 then f6 else fun _ => 0
def m00 : jx_M := fun o k => if o = 8 ∧ k = 38 then upd (upd (upd (upd (fun _ => 0) 0 (-1)) 1 (-1)) 2 (-1)) 3 (-1) else fun _ => 0
def g00 : sG := fun k => if k = 10 then fun _ => 40 else fun _ => 0
theorem Inv_first {f1 f3 f6 : Nat → Int32} (h1 : ∀ j, j < 4 → f1 j = -9) (h3 : ∀ j, j < 4 → f3 j = 40) : Inv (c00 f1 f3 f6) m00 := by
  refine ⟨g00, 0, fun _ => 0, fun _ => 0, fun _ => 0, ⟨⟨Nat.zero_le _, Nat.zero_le _, fun p hp => absurd hp (Nat.not_lt_zero p), by decide, by decide, fun j hj => ?_, by decide, fun j hj => absurd hj (Nat.not_lt_zero j)⟩, by decide, ?_⟩, ?_, ?_, ?_, ?_, ?_, ⟨rfl, rfl⟩, ?_⟩
  · show (40 : Nat) ≤ 40; decide
  · exact ⟨fun _ => rfl, fun _ => rfl⟩
  · exact ⟨rfl, rfl, fun p hp => absurd hp (Nat.not_lt_zero p), rfl, rfl, fun j hj => absurd hj (Nat.not_lt_zero j), rfl, fun j hj => absurd hj (Nat.not_lt_zero j)⟩
  · exact ⟨rfl, rfl, fun p hp => absurd hp (Nat.not_lt_zero p)⟩
  · exact ⟨rfl, rfl, rfl, fun j hj => h3 j hj, fun j hj => absurd hj (Nat.not_lt_zero j)⟩
  · exact ⟨Nat.zero_le _, rfl, rfl, fun x hx => absurd hx (Nat.not_lt_zero x)⟩
  · intro k hk
    refine Or.inl ⟨h1 k hk, ?_⟩
    have : k = 0 ∨ k = 1 ∨ k = 2 ∨ k = 3 := by omega
    rcases this with e | e | e | e <;> subst e <;> rfl
  · exact ⟨Or.inl rfl, Or.inl rfl, Or.inl rfl⟩
