def LC (ci : ClassId) (A : Nat → Nat) (f1 f3 f6 : Nat → Int32) : va_W := [(A 0, .inr (5, [.ref (A 7), .ref (A 1), .ref (A 11), .ref (A 16), .ref (A 20), .ref (A 29), .ref (A 34), .ref (A 43), .int 0, .int 0, .int 0, .int (-9), .int 0, .int 0, .int 0])), (A 1, .inr (1, [.int 0, .int 0, .ref (A 2), .ref (A 3), .ref (A 4), .ref (A 5), .ref (A 6)])), (A 2, .inl (ci, 6, .inl fun _ => 0)), (A 3, .inl (ci, 6, .inl fun _ => 0)), (A 4, .inl (ci, 6, .inl fun _ => 0)), (A 5, .inl (ci, 6, .inl fun _ => 0)), (A 6, .inl (ci, 6, .inl fun _ => 0)), (A 7, .inr (4, [.ref (A 10), .ref (A 8), .ref (A 9)])), (A 8, .inl (ci, 4, .inl fun _ => 0)), (A 9, .inl (ci, 240, .inl fun _ => 0)), (A 10, .inl (ci, 4, .inl f1)), (A 11, .inr (2, [.int 0, .int 0, .int 0, .ref (A 15), .ref (A 12), .ref (A 13), .ref (A 14)])), (A 12, .inl (ci, 7, .inl fun _ => 0)), (A 13, .inl (ci, 7, .inl fun _ => 0)), (A 14, .inl (ci, 7, .inl fun _ => 0)), (A 15, .inl (ci, 4, .inl f3)), (A 16, .inr (3, [.int 0, .ref (A 17), .ref (A 18), .ref (A 19)])), (A 17, .inl (ci, 8, .inl fun _ => 0)), (A 18, .inl (ci, 8, .inl fun _ => 0)), (A 19, .inl (ci, 8, .inl fun _ => 0)), (A 20, .inr (0, [.ref (A 21), .int 0, .int 0, .ref (A 1), .ref (A 22), .ref (A 23), .ref (A 24), .ref (A 25), .ref (A 26), .ref (A 27), .ref (A 28), .int 0, .int 0, .int 0])), (A 21, .inl (ci, 40, .inl fun _ => 0)), (A 22, .inl (ci, 160, .inl fun _ => 0)), (A 23, .inl (ci, 160, .inl fun _ => 0)), (A 24, .inl (ci, 240, .inl fun _ => 0)), (A 25, .inl (ci, 240, .inl fun _ => 0)), (A 26, .inl (ci, 4, .inl fun _ => 0)), (A 27, .inl (ci, 4, .inl fun _ => 0)), (A 28, .inl (ci, 6, .inl fun _ => 0)), (A 29, .inr (2, [.int 0, .int 0, .int 0, .ref (A 33), .ref (A 30), .ref (A 31), .ref (A 32)])), (A 30, .inl (ci, 7, .inl fun _ => 0)), (A 31, .inl (ci, 7, .inl fun _ => 0)), (A 32, .inl (ci, 7, .inl fun _ => 0)), (A 33, .inl (ci, 4, .inl f6)), (A 34, .inr (0, [.ref (A 35), .int 0, .int 0, .ref (A 1), .ref (A 36), .ref (A 37), .ref (A 38), .ref (A 39), .ref (A 40), .ref (A 41), .ref (A 42), .int 0, .int 0, .int 0])), (A 35, .inl (ci, 40, .inl fun _ => 0)), (A 36, .inl (ci, 160, .inl fun _ => 0)), (A 37, .inl (ci, 160, .inl fun _ => 0)), (A 38, .inl (ci, 240, .inl fun _ => 0)), (A 39, .inl (ci, 240, .inl fun _ => 0)), (A 40, .inl (ci, 4, .inl fun _ => 0)), (A 41, .inl (ci, 4, .inl fun _ => 0)), (A 42, .inl (ci, 6, .inl fun _ => 0)), (A 43, .inl (ci, 64, .inl fun _ => 0))]
def LM (ci : ClassId) (A : Nat → Nat) : va_W := [(A 0, .inr (6, [.int 0, .int 0, .int 0, .ref (A 1), .ref (A 2), .ref (A 3), .ref (A 4), .ref (A 5), .int 0, .int 0, .ref (A 6), .int 0, .int 0, .int 0, .ref (A 7), .ref (A 8), .ref (A 9), .ref (A 10), .ref (A 11), .int 0, .ref (A 12), .ref (A 13), .ref (A 14), .ref (A 15), .ref (A 16), .ref (A 17), .ref (A 18), .ref (A 19), .int 0, .int 0, .int 0, .ref (A 20), .ref (A 21), .ref (A 22), .int 0, .ref (A 23), .ref (A 24), .ref (A 25), .ref (A 26), .ref (A 27), .ref (A 28), .ref (A 29), .int 0])), (A 1, .inl (ci, 6, .inl (fun _ => 0))), (A 2, .inl (ci, 6, .inl (fun _ => 0))), (A 3, .inl (ci, 6, .inl (fun _ => 0))), (A 4, .inl (ci, 6, .inl (fun _ => 0))), (A 5, .inl (ci, 6, .inl (fun _ => 0))), (A 6, .inl (ci, 4, .inl (fun _ => 0))), (A 7, .inl (ci, 6, .inl (fun _ => 0))), (A 8, .inl (ci, 6, .inl (fun _ => 0))), (A 9, .inl (ci, 6, .inl (fun _ => 0))), (A 10, .inl (ci, 6, .inl (fun _ => 0))), (A 11, .inl (ci, 6, .inl (fun _ => 0))), (A 12, .inl (ci, 7, .inl (fun _ => 0))), (A 13, .inl (ci, 7, .inl (fun _ => 0))), (A 14, .inl (ci, 7, .inl (fun _ => 0))), (A 15, .inl (ci, 6, .inl (fun _ => 0))), (A 16, .inl (ci, 6, .inl (fun _ => 0))), (A 17, .inl (ci, 6, .inl (fun _ => 0))), (A 18, .inl (ci, 6, .inl (fun _ => 0))), (A 19, .inl (ci, 4, .inl (fun _ => 0))), (A 20, .inl (ci, 6, .inl (fun _ => 0))), (A 21, .inl (ci, 6, .inl (fun _ => 0))), (A 22, .inl (ci, 6, .inl (fun _ => 0))), (A 23, .inl (ci, 8, .inl (fun _ => 0))), (A 24, .inl (ci, 8, .inl (fun _ => 0))), (A 25, .inl (ci, 8, .inl (fun _ => 0))), (A 26, .inl (ci, 4, .inl (upd (upd (upd (upd (fun _ => 0) 0 (-1)) 1 (-1)) 2 (-1)) 3 (-1)))), (A 27, .inl (ci, 4, .inl (fun _ => 0))), (A 28, .inl (ci, 240, .inl (fun _ => 0))), (A 29, .inl (ci, 60, .inl (fun _ => 0)))]
def ixC (o j : Nat) : Nat := match o, j with
  | 0, 0 => 0
  | 0, 8 => 43
  | 1, 0 => 7
  | 1, 1 => 10
  | 1, 2 => 8
  | 1, 3 => 9
  | 2, 0 => 1
  | 2, 3 => 2
  | 2, 4 => 3
  | 2, 5 => 4
  | 2, 6 => 5
  | 2, 7 => 6
  | 3, 0 => 11
  | 3, 4 => 15
  | 3, 5 => 12
  | 3, 6 => 13
  | 3, 7 => 14
  | 4, 0 => 16
  | 4, 2 => 17
  | 4, 3 => 18
  | 4, 4 => 19
  | 5, 0 => 20
  | 5, 1 => 21
  | 5, 5 => 22
  | 5, 6 => 23
  | 5, 7 => 24
  | 5, 8 => 25
  | 5, 9 => 26
  | 5, 10 => 27
  | 5, 11 => 28
  | 6, 0 => 29
  | 6, 4 => 33
  | 6, 5 => 30
  | 6, 6 => 31
  | 6, 7 => 32
  | 7, 0 => 34
  | 7, 1 => 35
  | 7, 5 => 36
  | 7, 6 => 37
  | 7, 7 => 38
  | 7, 8 => 39
  | 7, 9 => 40
  | 7, 10 => 41
  | 7, 11 => 42
  | _, _ => 0
def ixM (o j : Nat) : Nat := match o, j with
  | 8, 0 => 0
  | 8, 4 => 1
  | 8, 5 => 2
  | 8, 6 => 3
  | 8, 7 => 4
  | 8, 8 => 5
  | 8, 11 => 6
  | 8, 15 => 7
  | 8, 16 => 8
  | 8, 17 => 9
  | 8, 18 => 10
  | 8, 19 => 11
  | 8, 21 => 12
  | 8, 22 => 13
  | 8, 23 => 14
  | 8, 24 => 15
  | 8, 25 => 16
  | 8, 26 => 17
  | 8, 27 => 18
  | 8, 28 => 19
  | 8, 32 => 20
  | 8, 33 => 21
  | 8, 34 => 22
  | 8, 36 => 23
  | 8, 37 => 24
  | 8, 38 => 25
  | 8, 39 => 26
  | 8, 40 => 27
  | 8, 41 => 28
  | 8, 42 => 29
  | _, _ => 0
def jvd (o j : Nat) : Bool := match j with
  | 0 => true
  | k + 1 => decide (k < jx_n (jx_c o)) && decide (jx_k (jx_c o) k = 1)
theorem jvd_of {E : jx_E} {o j : Nat} (h : jvld E o j) : jB E o ∧ jvd o j = true := by
  obtain ⟨hB, h | ⟨k, rfl, h1, h2⟩⟩ := h
  · subst h; exact ⟨hB, rfl⟩
  · refine ⟨hB, ?_⟩
    show (decide _ && decide _) = true
    rw [decide_eq_true h1, decide_eq_true h2]; rfl
theorem ixC_inj : ∀ o : Fin 8, ∀ j : Fin 16, jvd o j = true → ixC o j < 44 ∧ ∀ o' : Fin 8, ∀ j' : Fin 16, jvd o' j' = true → ixC o j = ixC o' j' → o = o' ∧ j = j' := by decide +kernel
theorem ixM_inj : ∀ j : Fin 44, jvd 8 j = true → ixM 8 j < 30 ∧ ∀ j' : Fin 44, jvd 8 j' = true → ixM 8 j = ixM 8 j' → j = j' := by decide +kernel
theorem jvd_lt : ∀ o : Fin 8, jx_n (jx_c o) ≤ 15 := by decide +kernel
theorem jvd_le {o j : Nat} (h : jvd o j = true) : j ≤ jx_n (jx_c o) := by
  cases j with
  | zero => exact Nat.zero_le _
  | succ k =>
    have : (decide (k < jx_n (jx_c o)) && decide (jx_k (jx_c o) k = 1)) = true := h
    simp only [Bool.and_eq_true, decide_eq_true_eq] at this
    omega
theorem LC_at (ci : ClassId) (A : Nat → Nat) (f1 f3 f6 : Nat → Int32) : ∀ i, i < 44 → ∃ e, (LC ci A f1 f3 f6)[i]? = some (A i, e) := by
  intro i hi
  match i, hi with
  | 0, _ => exact ⟨_, rfl⟩
  | 1, _ => exact ⟨_, rfl⟩
  | 2, _ => exact ⟨_, rfl⟩
  | 3, _ => exact ⟨_, rfl⟩
  | 4, _ => exact ⟨_, rfl⟩
  | 5, _ => exact ⟨_, rfl⟩
  | 6, _ => exact ⟨_, rfl⟩
  | 7, _ => exact ⟨_, rfl⟩
  | 8, _ => exact ⟨_, rfl⟩
  | 9, _ => exact ⟨_, rfl⟩
  | 10, _ => exact ⟨_, rfl⟩
  | 11, _ => exact ⟨_, rfl⟩
  | 12, _ => exact ⟨_, rfl⟩
  | 13, _ => exact ⟨_, rfl⟩
  | 14, _ => exact ⟨_, rfl⟩
  | 15, _ => exact ⟨_, rfl⟩
  | 16, _ => exact ⟨_, rfl⟩
  | 17, _ => exact ⟨_, rfl⟩
  | 18, _ => exact ⟨_, rfl⟩
  | 19, _ => exact ⟨_, rfl⟩
  | 20, _ => exact ⟨_, rfl⟩
  | 21, _ => exact ⟨_, rfl⟩
  | 22, _ => exact ⟨_, rfl⟩
  | 23, _ => exact ⟨_, rfl⟩
  | 24, _ => exact ⟨_, rfl⟩
  | 25, _ => exact ⟨_, rfl⟩
  | 26, _ => exact ⟨_, rfl⟩
  | 27, _ => exact ⟨_, rfl⟩
  | 28, _ => exact ⟨_, rfl⟩
  | 29, _ => exact ⟨_, rfl⟩
  | 30, _ => exact ⟨_, rfl⟩
  | 31, _ => exact ⟨_, rfl⟩
  | 32, _ => exact ⟨_, rfl⟩
  | 33, _ => exact ⟨_, rfl⟩
  | 34, _ => exact ⟨_, rfl⟩
  | 35, _ => exact ⟨_, rfl⟩
  | 36, _ => exact ⟨_, rfl⟩
  | 37, _ => exact ⟨_, rfl⟩
  | 38, _ => exact ⟨_, rfl⟩
  | 39, _ => exact ⟨_, rfl⟩
  | 40, _ => exact ⟨_, rfl⟩
  | 41, _ => exact ⟨_, rfl⟩
  | 42, _ => exact ⟨_, rfl⟩
  | 43, _ => exact ⟨_, rfl⟩
  | i + 44, h => exact absurd h (by omega)
theorem LM_at (ci : ClassId) (A : Nat → Nat) : ∀ i, i < 30 → ∃ e, (LM ci A)[i]? = some (A i, e) := by
  intro i hi
  match i, hi with
  | 0, _ => exact ⟨_, rfl⟩
  | 1, _ => exact ⟨_, rfl⟩
  | 2, _ => exact ⟨_, rfl⟩
  | 3, _ => exact ⟨_, rfl⟩
  | 4, _ => exact ⟨_, rfl⟩
  | 5, _ => exact ⟨_, rfl⟩
  | 6, _ => exact ⟨_, rfl⟩
  | 7, _ => exact ⟨_, rfl⟩
  | 8, _ => exact ⟨_, rfl⟩
  | 9, _ => exact ⟨_, rfl⟩
  | 10, _ => exact ⟨_, rfl⟩
  | 11, _ => exact ⟨_, rfl⟩
  | 12, _ => exact ⟨_, rfl⟩
  | 13, _ => exact ⟨_, rfl⟩
  | 14, _ => exact ⟨_, rfl⟩
  | 15, _ => exact ⟨_, rfl⟩
  | 16, _ => exact ⟨_, rfl⟩
  | 17, _ => exact ⟨_, rfl⟩
  | 18, _ => exact ⟨_, rfl⟩
  | 19, _ => exact ⟨_, rfl⟩
  | 20, _ => exact ⟨_, rfl⟩
  | 21, _ => exact ⟨_, rfl⟩
  | 22, _ => exact ⟨_, rfl⟩
  | 23, _ => exact ⟨_, rfl⟩
  | 24, _ => exact ⟨_, rfl⟩
  | 25, _ => exact ⟨_, rfl⟩
  | 26, _ => exact ⟨_, rfl⟩
  | 27, _ => exact ⟨_, rfl⟩
  | 28, _ => exact ⟨_, rfl⟩
  | 29, _ => exact ⟨_, rfl⟩
  | i + 30, h => exact absurd h (by omega)
