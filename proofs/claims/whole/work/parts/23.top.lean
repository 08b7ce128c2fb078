/-! ===== what holds between the component's memory c and the model's memory m ===== -/
theorem jlt0 (x : Int32) : x < 0 ↔ x.toInt < 0 := by rw [Int32.lt_iff_toInt_lt, Int32.toInt_zero]
theorem jge0 (x : Int32) : 0 ≤ x ↔ 0 ≤ x.toInt := by rw [Int32.le_iff_toInt_le, Int32.toInt_zero]
theorem jleN (x : Int32) {n : Nat} (hn : n < 2 ^ 31) : nI n ≤ x ↔ (n : Int) ≤ x.toInt := by rw [Int32.le_iff_toInt_le, nI_toInt hn]
theorem jltN (x : Int32) {n : Nat} (hn : n < 2 ^ 31) : x < nI n ↔ x.toInt < (n : Int) := by rw [Int32.lt_iff_toInt_lt, nI_toInt hn]
theorem jleN' (x : Int32) {n : Nat} (hn : n < 2 ^ 31) : x ≤ nI n ↔ x.toInt ≤ (n : Int) := by rw [Int32.le_iff_toInt_le, nI_toInt hn]
theorem jeqN (x : Int32) {n : Nat} (hn : n < 2 ^ 31) : x = nI n ↔ x.toInt = (n : Int) := by rw [← Int32.toInt_inj, nI_toInt hn]
theorem jbet {α : Type} (x : Int32) {n : Nat} (hn : n < 2 ^ 31) (a b : α) : (if x < 0 then a else if nI n ≤ x then a else b) = if 0 ≤ x.toInt ∧ x.toInt < n then b else a := by
  simp only [jlt0 x, jleN x hn]
  by_cases h1 : x.toInt < 0
  · rw [if_pos h1, if_neg (by omega)]
  · rw [if_neg h1]
    by_cases h2 : (n : Int) ≤ x.toInt
    · rw [if_pos h2, if_neg (by omega)]
    · rw [if_neg h2, if_pos (by omega)]
theorem C_isPost {x : Int32} {n : Nat} {c : jx_M} (h : c 2 0 0 = nI n) (hn : n < 2 ^ 31) : F_X5_isPost x c = some (if 0 ≤ x.toInt ∧ x.toInt < n then 1 else 0, c) := by
  unfold F_X5_isPost; rw [h, jbet x hn]; split <;> rfl
theorem C_isPerson {x : Int32} {n : Nat} {c : jx_M} (h : c 2 1 0 = nI n) (hn : n < 2 ^ 31) : F_X5_isPerson x c = some (if 0 ≤ x.toInt ∧ x.toInt < n then 1 else 0, c) := by
  unfold F_X5_isPerson; rw [h, jbet x hn]; split <;> rfl
theorem C_isDecade (x : Int32) (c : jx_M) : F_X5_isDecade x c = some (if 0 ≤ x.toInt ∧ x.toInt < 40 then 1 else 0, c) := by
  unfold F_X5_isDecade; rw [show (40 : Int32) = nI 40 from rfl, jbet x (by decide)]; simp only [show ((40 : Nat) : Int) = 40 from rfl]; split <;> rfl
theorem C_isSheet (x : Int32) (c : jx_M) : F_X5_isSheet x c = some (if 0 ≤ x.toInt ∧ x.toInt < 4 then 1 else 0, c) := by
  unfold F_X5_isSheet; rw [show (4 : Int32) = nI 4 from rfl, jbet x (by decide)]; simp only [show ((4 : Nat) : Int) = 4 from rfl]; split <;> rfl
theorem C_isLane (x : Int32) (c : jx_M) : F_X5_isLane x c = some (if 0 ≤ x.toInt ∧ x.toInt < 3 then 1 else 0, c) := by
  unfold F_X5_isLane; rw [show (3 : Int32) = nI 3 from rfl, jbet x (by decide)]; simp only [show ((3 : Nat) : Int) = 3 from rfl]; split <;> rfl
theorem C_isLand {n : Nat} {c : jx_M} (h : c 2 0 0 = nI n) (hn : n < 2 ^ 31) : F_X5_isLand c = some (if n = 0 then 0 else 1, c) := by
  unfold F_X5_isLand
  rw [h]
  by_cases h0 : n = 0
  · subst h0; rw [if_pos (by decide), if_pos rfl]
  · rw [if_neg (nI_nle (by omega) hn), if_neg h0]
def TW (g : sG) : Prop := GW g ∧ g 19 0 ≤ 6 ∧ (g 1 0 = 0 ↔ g 2 0 = 0)
/-- the land and orders, if one field were otherwise -/
def gs (g : sG) (k : Nat) (f : Nat → Nat) : sG := fun k' => if k' = k then f else g k'
def RDG (g : sG) (nr : Nat) (ra ri : Nat → Nat) (rw : Nat → Int32) (c m : jx_M) : Prop := nr ≤ 8 ∧ c 4 0 0 = nI nr ∧ m 8 34 0 = nI nr ∧ ∀ x, x < nr → ra x < g 1 0 ∧ ri x < 40 ∧ c 4 1 x = nI (ra x) ∧ m 8 35 x = nI (ra x) ∧ c 4 2 x = nI (ri x) ∧ m 8 36 x = nI (ri x) ∧ c 4 3 x = rw x ∧ m 8 37 x = rw x
def SHT (c m : jx_M) : Prop := ∀ k, k < 4 → (c 1 0 k = -9 ∧ m 8 38 k = -1) ∨ ∃ l n, l < 3 ∧ n ≤ 60 ∧ c 1 0 k = nI l ∧ m 8 39 k = nI l ∧ c 1 1 k = nI n ∧ m 8 38 k = nI n ∧ ∀ i, i < n → c 1 2 (k * 60 + i) = m 8 40 (60 * k + i)
/-- the model's way to the will that helps most -/
def s_aw (g : sG) (post p d : Nat) : sG := gs (gs (gs (gs g 20 (nu (g 20) (g 19 0) post)) 21 (nu (g 21) (g 19 0) p)) 22 (nu (g 22) (g 19 0) d)) 19 (fun _ => g 19 0 + 1)
def s_hlp (g : sG) : Nat → Int32 × Nat
  | 0 => (-9, s_E g 40)
  | x + 1 => if s_E (s_aw g (x / 40 / g 2 0) (x / 40 % g 2 0) (x % 40)) 40 < (s_hlp g x).2 then (nI (1000 * (x / 40 / g 2 0) + 100 * (x / 40 % g 2 0) + x % 40), s_E (s_aw g (x / 40 / g 2 0) (x / 40 % g 2 0) (x % 40)) 40) else s_hlp g x
def CCH (g : sG) (c : jx_M) : Prop := (c 0 8 0 = 0 ∨ (c 0 8 0 = 1 ∧ RR g 5 40 c ∧ c 5 1 0 = nI (s_E g 40))) ∧ (c 0 9 0 = 0 ∨ (c 0 9 0 = 1 ∧ ∀ s, s < 2 ^ g 2 0 → ∃ f, f ≤ 40 ∧ c 0 7 s = nI f ∧ ∀ d, d < 40 → (d < f ↔ s_E (gs g 8 (fun _ => 2 ^ g 2 0 - 1 - s)) (d + 1) = 0))) ∧ (c 0 10 0 = 0 ∨ (c 0 10 0 = 1 ∧ c 0 11 0 = (s_hlp g (g 1 0 * g 2 0 * 40)).1 ∧ c 0 12 0 = nI (s_hlp g (g 1 0 * g 2 0 * 40)).2))
def IV (g : sG) (nr : Nat) (ra ri : Nat → Nat) (rw : Nat → Int32) (c m : jx_M) : Prop := TW g ∧ RM g m ∧ RLa g c ∧ RO g 3 c ∧ RDG g nr ra ri rw c m ∧ SHT c m ∧ (c 0 13 0 = m 8 0 0 ∧ c 0 14 0 = m 8 42 0) ∧ CCH g c
def Inv (c m : jx_M) : Prop := ∃ g nr ra ri rw, IV g nr ra ri rw c m
abbrev KSC : List Nat := [11, 12, 13, 14, 15, 16, 17, 18, 23, 24, 25, 26, 27, 28, 29, 30, 31, 32, 33, 41]
theorem RM.ks {g : sG} {M M' : jx_M} (h : RM g M) (hf : FK KSC M M') : RM g M' := by
  unfold RM at h ⊢
  rw [hf.at 1 (by decide), hf.at 2 (by decide), hf.at 3 (by decide), hf.at 4 (by decide), hf.at 5 (by decide), hf.at 6 (by decide), hf.at 7 (by decide), hf.at 8 (by decide), hf.at 9 (by decide), hf.at 10 (by decide), hf.at 19 (by decide), hf.at 20 (by decide), hf.at 21 (by decide), hf.at 22 (by decide)]
  exact h
/-- the component's scratch and the model's scratch are free -/
theorem IV.fr {g : sG} {nr : Nat} {ra ri : Nat → Nat} {rw : Nat → Int32} {c m c' m' : jx_M} (h : IV g nr ra ri rw c m) (hc : ∀ o, o < 6 → c' o = c o) (hm : FK KSC m m') : IV g nr ra ri rw c' m' := by
  obtain ⟨h1, h2, h3, h4, h5, h6, h7, h8⟩ := h
  refine ⟨h1, h2.ks hm, h3.fr (hc 2 (by decide)), h4.fr (hc 3 (by decide)), ?_, ?_, ?_, ?_⟩
  · unfold RDG at h5 ⊢
    rw [hc 4 (by decide), hm.at 34 (by decide), hm.at 35 (by decide), hm.at 36 (by decide), hm.at 37 (by decide)]; exact h5
  · unfold SHT at h6 ⊢
    rw [hc 1 (by decide), hm.at 38 (by decide), hm.at 39 (by decide), hm.at 40 (by decide)]; exact h6
  · rw [hc 0 (by decide), hm.at 0 (by decide), hm.at 42 (by decide)]; exact h7
  · unfold CCH RR at h8 ⊢
    rw [hc 0 (by decide), hc 5 (by decide)]; exact h8
/-- a call of both -/
def jSt {α : Type} (fc fm : jx_M → Option (α × jx_M)) : Prop := ∀ c m, Inv c m → ∃ r c' m', fc c = some (r, c') ∧ fm m = some (r, m') ∧ Inv c' m'
theorem st_trace : jSt F_X5_trace F_X6_trace := by
  intro c m h
  obtain ⟨g, nr, ra, ri, rw, h0⟩ := id h
  refine ⟨m 8 42 0, c, m, ?_, rfl, h⟩
  unfold F_X5_trace
  rw [h0.2.2.2.2.2.2.1.2]
theorem st_fault : jSt F_X5_fault F_X6_fault := by
  intro c m h
  obtain ⟨g, nr, ra, ri, rw, h0⟩ := id h
  refine ⟨m 8 0 0, c, m, ?_, rfl, h⟩
  unfold F_X5_fault
  rw [h0.2.2.2.2.2.2.1.1]
theorem sw_lt {α : Type} (x : Int32) (n : Nat) (hn : n < 2 ^ 31) (a b : α) : (if x < 0 then a else if x < nI n then b else a) = if 0 ≤ x.toInt ∧ x.toInt < n then b else a := by
  simp only [jlt0 x, jltN x hn]
  by_cases h1 : x.toInt < 0
  · rw [if_pos h1, if_neg (by omega)]
  · rw [if_neg h1]
    by_cases h2 : x.toInt < (n : Int)
    · rw [if_pos h2, if_pos (by omega)]
    · rw [if_neg h2, if_neg (by omega)]
theorem sw_le {α : Type} (x : Int32) (n : Nat) (hn : n < 2 ^ 31) (a b : α) : (if x < 0 then a else if x ≤ nI n then b else a) = if 0 ≤ x.toInt ∧ x.toInt < n + 1 then b else a := by
  simp only [jlt0 x, jleN' x hn]
  by_cases h1 : x.toInt < 0
  · rw [if_pos h1, if_neg (by omega)]
  · rw [if_neg h1]
    by_cases h2 : x.toInt ≤ (n : Int)
    · rw [if_pos h2, if_pos (by omega)]
    · rw [if_neg h2, if_neg (by omega)]
theorem st_many (a : Int32) : jSt (F_X5_many a) (F_X6_many a) := by
  intro c m h
  obtain ⟨g, nr, ra, ri, rw, h1, h2, h3, h4, h5, h6, h7, h8⟩ := id h
  have e1 : c 2 1 0 = m 8 2 0 := by rw [h3.2.1, h2.2.1]
  have e2 : c 2 0 0 = m 8 1 0 := by rw [h3.1, h2.1]
  have e3 : c 3 2 0 = m 8 19 0 := by rw [h4.2.2.1, h2.2.2.2.2.2.2.1]
  have e4 : c 4 0 0 = m 8 34 0 := by rw [h5.2.1, h5.2.2.1]
  have e5 : c 3 0 0 = m 8 9 0 := by rw [h4.1, h2.2.2.2.2.1]
  unfold F_X5_many F_X6_many
  rw [show (5 : Int32) = nI 5 from rfl, sw_lt a 5 (by decide), e1, e2, e3, e4, e5]
  by_cases ha : 0 ≤ a.toInt ∧ a.toInt < ((5 : Nat) : Int)
  · rw [if_pos ha]
    obtain ⟨j, hj, rfl⟩ := jof_e (x := a) (n := 5) ha (by decide)
    rcases (show j = 0 ∨ j = 1 ∨ j = 2 ∨ j = 3 ∨ j = 4 by omega) with rfl | rfl | rfl | rfl | rfl <;> exact ⟨_, c, m, rfl, rfl, h⟩
  · rw [if_neg ha]
    have hne : ∀ k : Nat, k < 5 → ¬ a = nI k := fun k hk e => ha (by rw [e, nI_toInt (by omega)]; omega)
    refine ⟨-2, c, m, rfl, ?_, h⟩
    rw [if_neg (show ¬ a = 0 from hne 0 (by decide)), if_neg (show ¬ a = 1 from hne 1 (by decide)), if_neg (show ¬ a = 2 from hne 2 (by decide)), if_neg (show ¬ a = 3 from hne 3 (by decide)), if_neg (show ¬ a = 4 from hne 4 (by decide))]
