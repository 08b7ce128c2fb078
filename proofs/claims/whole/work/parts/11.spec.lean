/-! ===== the document's course of decades, over plain numbers. g: land and orders by the model's field numbers: 1 posts, 2 persons, 3 kind, 4 home, 5 born, 6 lives, 7 nap, 8 who refuses (a set), 9 law, 10 given up from, 19 how many wills, 20 21 22 a will's post, person, decade ===== -/
abbrev sG : Type := Nat → Nat → Nat
def nu {α : Type} (f : Nat → α) (k : Nat) (v : α) : Nat → α := fun j => if j = k then v else f j
theorem nu_s {α : Type} (f : Nat → α) (k : Nat) (v : α) : nu f k v k = v := by simp [nu]
theorem nu_n {α : Type} {f : Nat → α} {k j : Nat} {v : α} (h : j ≠ k) : nu f k v j = f j := by simp [nu, h]
/-- how, age, wakes in, guards, slept, empty posts (a set), empty decades -/
abbrev sS : Type := (Nat → Nat) × (Nat → Nat) × (Nat → Nat) × (Nat → Option Nat) × (Nat → Nat) × Nat × Nat
abbrev s_h (t : sS) : Nat → Nat := t.1
abbrev s_a (t : sS) : Nat → Nat := t.2.1
abbrev s_w (t : sS) : Nat → Nat := t.2.2.1
abbrev s_g (t : sS) : Nat → Option Nat := t.2.2.2.1
abbrev s_l (t : sS) : Nat → Nat := t.2.2.2.2.1
abbrev s_e (t : sS) : Nat := t.2.2.2.2.2.1
abbrev s_c (t : sS) : Nat := t.2.2.2.2.2.2
def s_slp (g : sG) (p : Nat) : Nat := if g 3 p = 0 then g 7 p else if g 3 p = 1 then g 7 p + 2 else 2 * (g 7 p + 2)
def s_cnd (g : sG) (H : Nat → Nat) (wo : Nat → Bool) (p : Nat) : Bool := decide (H p = 1) && !wo p && !(g 8 0).testBit p
def s_fw (g : sG) (post d : Nat) (c : Nat → Bool) : Nat → Nat → Option Nat
  | 0, _ => none
  | m + 1, j => if g 20 j = post ∧ g 22 j = d ∧ c (g 21 j) = true then some (g 21 j) else s_fw g post d c m (j + 1)
def s_dst (g : sG) (post p : Nat) : Nat := if g 4 p ≤ post then post - g 4 p else g 4 p - post
def s_rth (g : sG) (post : Nat) (age : Nat → Nat) (p b : Nat) : Bool := if g 9 0 = 1 then decide (age b < age p) else if g 9 0 = 2 then decide (s_dst g post p < s_dst g post b) else false
def s_lb (g : sG) (post : Nat) (age : Nat → Nat) (c : Nat → Bool) : Nat → Option Nat
  | 0 => none
  | p + 1 => if c p = true then (match s_lb g post age c p with
    | none => some p
    | some b => if s_rth g post age p b = true then some p else some b) else s_lb g post age c p
def s_lie (g : sG) (post d : Nat) (age : Nat → Nat) (c : Nat → Bool) : Option Nat := match s_fw g post d c (g 19 0) 0 with
  | some p => some p
  | none => s_lb g post age c (g 2 0)
/-- who wakes, post by post: guards, how, who has waked -/
def s_wk (d : Nat) (w : Nat → Nat) (G : Nat → Option Nat) (H : Nat → Nat) : Nat → (Nat → Option Nat) × (Nat → Nat) × (Nat → Bool)
  | 0 => (G, H, fun _ => false)
  | j + 1 => match (s_wk d w G H j).1 j with
    | none => s_wk d w G H j
    | some p => if w p = d then (nu (s_wk d w G H j).1 j none, nu (s_wk d w G H j).2.1 p 1, nu (s_wk d w G H j).2.2 p true) else s_wk d w G H j
/-- who lies down, post by post: guards, how, wakes in, empty -/
abbrev sF : Type := (Nat → Option Nat) × (Nat → Nat) × (Nat → Nat) × Nat
def s_fs (g : sG) (d : Nat) (age : Nat → Nat) (wo : Nat → Bool) (j : Nat) (s : sF) : sF := if s.1 j = none ∧ d < g 10 j then (match s_lie g j d age (s_cnd g s.2.1 wo) with
    | none => (s.1, s.2.1, s.2.2.1, s.2.2.2 ||| 2 ^ j)
    | some p => (nu s.1 j (some p), nu s.2.1 p 2, nu s.2.2.1 p (d + s_slp g p), s.2.2.2)) else s
def s_fil (g : sG) (d : Nat) (age : Nat → Nat) (wo : Nat → Bool) (s : sF) : Nat → sF
  | 0 => s
  | j + 1 => s_fs g d age wo j (s_fil g d age wo s j)
def pop (x : Nat) : Nat := (x.testBit 0).toNat + (x.testBit 1).toNat + (x.testBit 2).toNat + (x.testBit 3).toNat + (x.testBit 4).toNat + (x.testBit 5).toNat
def s_h1 (g : sG) (d : Nat) (t : sS) : Nat → Nat := fun p => if g 5 p = d then 1 else if s_h t p = 1 ∧ g 6 p ≤ s_a t p then 3 else s_h t p
def s_W (g : sG) (d : Nat) (t : sS) : (Nat → Option Nat) × (Nat → Nat) × (Nat → Bool) := s_wk d (s_w t) (s_g t) (s_h1 g d t) (g 1 0)
def s_F (g : sG) (d : Nat) (t : sS) (j : Nat) : sF := s_fil g d (s_a t) (s_W g d t).2.2 ((s_W g d t).1, (s_W g d t).2.1, s_w t, 0) j
def s_go (g : sG) (d : Nat) (t : sS) : sS := ((s_F g d t (g 1 0)).2.1, s_a t, (s_F g d t (g 1 0)).2.2.1, (s_F g d t (g 1 0)).1, (fun p => s_l t p + if (s_F g d t (g 1 0)).2.1 p = 2 then 1 else 0), (s_F g d t (g 1 0)).2.2.2, s_c t + pop (s_F g d t (g 1 0)).2.2.2)
def s_end (t : sS) : sS := (s_h t, (fun p => s_a t p + if s_h t p = 1 then 1 else 0), s_w t, s_g t, s_l t, s_e t, s_c t)
def s_0 : sS := (fun _ => 0, fun _ => 0, fun _ => 0, fun _ => none, fun _ => 0, 0, 0)
/-- the state ahead of decade d -/
def s_pre (g : sG) : Nat → sS
  | 0 => s_0
  | d + 1 => s_end (s_go g d (s_pre g d))
/-- the state in decade d, behind who lies down -/
def s_at (g : sG) (d : Nat) : sS := s_go g d (s_pre g d)
/-! what is told is as it must be -/
def GW (g : sG) : Prop := g 1 0 ≤ 4 ∧ g 2 0 ≤ 6 ∧ (∀ p, p < g 2 0 → g 3 p ≤ 2 ∧ g 4 p < g 1 0 ∧ g 5 p ≤ 9 ∧ (1 ≤ g 6 p ∧ g 6 p ≤ 9) ∧ 1 ≤ g 7 p ∧ g 7 p ≤ 9) ∧ g 8 0 < 64 ∧ g 9 0 ≤ 2 ∧ (∀ j, j < 4 → g 10 j ≤ 40) ∧ g 19 0 ≤ 7 ∧ ∀ j, j < g 19 0 → g 20 j < g 1 0 ∧ g 21 j < g 2 0 ∧ g 22 j < 40
/-- ahead of decade d -/
def SI (g : sG) (d : Nat) (t : sS) : Prop := (∀ p, p < g 2 0 → s_h t p ≤ 3 ∧ s_a t p ≤ d ∧ s_l t p ≤ d ∧ (s_h t p = 0 ↔ d ≤ g 5 p)) ∧ (∀ j, j < g 1 0 → ∀ p, s_g t j = some p → p < g 2 0 ∧ s_h t p = 2 ∧ d ≤ s_w t p ∧ s_w t p ≤ d + 22) ∧ (∀ i j, i < g 1 0 → j < g 1 0 → ∀ p, s_g t i = some p → s_g t j = some p → i = j) ∧ s_c t ≤ 6 * d
theorem pop_le (x : Nat) : pop x ≤ 6 := by
  unfold pop
  have h : ∀ b : Bool, b.toNat ≤ 1 := by decide
  have := h (x.testBit 0); have := h (x.testBit 1); have := h (x.testBit 2); have := h (x.testBit 3); have := h (x.testBit 4); have := h (x.testBit 5)
  omega
theorem s_slp_in {g : sG} (hg : GW g) {p : Nat} (hp : p < g 2 0) : 1 ≤ s_slp g p ∧ s_slp g p ≤ 22 := by
  obtain ⟨-, -, h, -⟩ := hg
  obtain ⟨h1, h2, h3, h4, h5⟩ := h p hp
  unfold s_slp
  split
  · omega
  · split <;> omega
theorem s_fw_in {g : sG} {post d : Nat} {c : Nat → Bool} : ∀ (m j p : Nat), s_fw g post d c m j = some p → c p = true ∧ ∃ i, j ≤ i ∧ i < j + m ∧ p = g 21 i := by
  intro m
  induction m with
  | zero => intro j p h; cases h
  | succ m ih =>
    intro j p h
    unfold s_fw at h
    split at h
    · rename_i hc
      cases h
      exact ⟨hc.2.2, j, by omega, by omega, rfl⟩
    · obtain ⟨h1, i, h2, h3, h4⟩ := ih _ _ h
      exact ⟨h1, i, by omega, by omega, h4⟩
theorem s_lb_in {g : sG} {post : Nat} {age : Nat → Nat} {c : Nat → Bool} : ∀ (n p : Nat), s_lb g post age c n = some p → c p = true ∧ p < n := by
  intro n
  induction n with
  | zero => intro p h; cases h
  | succ n ih =>
    intro p h
    unfold s_lb at h
    split at h
    · rename_i hc
      split at h
      · cases h; exact ⟨hc, by omega⟩
      · rename_i b hb
        split at h
        · cases h; exact ⟨hc, by omega⟩
        · cases h
          obtain ⟨h1, h2⟩ := ih _ hb
          exact ⟨h1, by omega⟩
    · obtain ⟨h1, h2⟩ := ih _ h
      exact ⟨h1, by omega⟩
theorem s_lie_in {g : sG} (hg : GW g) {post d : Nat} {age : Nat → Nat} {c : Nat → Bool} {p : Nat} (h : s_lie g post d age c = some p) : c p = true ∧ p < g 2 0 := by
  unfold s_lie at h
  split at h
  · rename_i q hq
    cases h
    obtain ⟨h1, i, h2, h3, h4⟩ := s_fw_in _ _ _ hq
    obtain ⟨-, -, -, -, -, -, -, hw⟩ := hg
    rw [h4]
    exact ⟨by rw [← h4]; exact h1, (hw i (by omega)).2.1⟩
  · exact s_lb_in _ _ h
