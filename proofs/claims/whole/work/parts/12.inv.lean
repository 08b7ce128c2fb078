/-! ===== what stays true of the course ===== -/
theorem s_wk_inv {d : Nat} {w : Nat → Nat} {G : Nat → Option Nat} {H : Nat → Nat} : ∀ j : Nat,
    (∀ i p, (s_wk d w G H j).1 i = some p → G i = some p ∧ (i < j → w p ≠ d)) ∧ (∀ i, j ≤ i → (s_wk d w G H j).1 i = G i) ∧
    (∀ p, (s_wk d w G H j).2.2 p = true → (∃ i, i < j ∧ G i = some p ∧ w p = d) ∧ (s_wk d w G H j).2.1 p = 1) ∧ (∀ p, (s_wk d w G H j).2.2 p = false → (s_wk d w G H j).2.1 p = H p) := by
  intro j
  induction j with
  | zero =>
    refine ⟨fun i p h => ⟨h, fun q => absurd q (by omega)⟩, fun i _ => rfl, fun p h => ?_, fun p _ => rfl⟩
    exact absurd h (by simp [s_wk])
  | succ j ih =>
    obtain ⟨a, b, c, e⟩ := ih
    unfold s_wk
    cases hj : (s_wk d w G H j).1 j with
    | none =>
      refine ⟨fun i p h => ⟨(a i p h).1, fun q => ?_⟩, fun i q => b i (by omega), fun p h => ?_, e⟩
      · rcases Nat.lt_or_ge i j with z | z
        · exact (a i p h).2 z
        · have : i = j := by omega
          subst this
          dsimp only at h
          rw [hj] at h
          cases h
      · obtain ⟨⟨i, h1, h2⟩, h3⟩ := c p h
        exact ⟨⟨i, by omega, h2⟩, h3⟩
    | some q =>
      have hG : G j = some q := by rw [← b j (Nat.le_refl j)]; exact hj
      dsimp only
      by_cases hw : w q = d
      · rw [if_pos hw]
        dsimp only
        refine ⟨fun i p h => ?_, fun i z => ?_, fun p h => ?_, fun p h => ?_⟩
        · by_cases hi : i = j
          · subst hi; rw [nu_s] at h; cases h
          · rw [nu_n hi] at h
            exact ⟨(a i p h).1, fun z => (a i p h).2 (by omega)⟩
        · rw [nu_n (by omega)]; exact b i (by omega)
        · by_cases hp : p = q
          · subst hp
            exact ⟨⟨j, by omega, hG, hw⟩, nu_s _ _ _⟩
          · rw [nu_n hp] at h
            obtain ⟨⟨i, h1, h2⟩, h3⟩ := c p h
            exact ⟨⟨i, by omega, h2⟩, by rw [nu_n hp]; exact h3⟩
        · by_cases hp : p = q
          · subst hp; rw [nu_s] at h; cases h
          · rw [nu_n hp] at h ⊢
            exact e p h
      · rw [if_neg hw]
        refine ⟨fun i p h => ⟨(a i p h).1, fun z => ?_⟩, fun i z => b i (by omega), fun p h => ?_, e⟩
        · rcases Nat.lt_or_ge i j with z | z
          · exact (a i p h).2 z
          · have : i = j := by omega
            subst this
            rw [hj] at h
            cases h
            exact hw
        · obtain ⟨⟨i, h1, h2⟩, h3⟩ := c p h
          exact ⟨⟨i, by omega, h2⟩, h3⟩
theorem s_h1_2 {g : sG} {d : Nat} {t : sS} (hI : SI g d t) {p : Nat} (hp : p < g 2 0) (h : s_h t p = 2) : s_h1 g d t p = 2 := by
  obtain ⟨h1, h2, h3, h4⟩ := hI.1 p hp
  unfold s_h1
  rw [if_neg (by omega), if_neg (by omega)]
  exact h
/-- behind who wakes -/
theorem s_W_inv {g : sG} {d : Nat} {t : sS} (hI : SI g d t) :
    (∀ j, j < g 1 0 → ∀ p, (s_W g d t).1 j = some p → s_g t j = some p ∧ p < g 2 0 ∧ (s_W g d t).2.1 p = 2 ∧ (s_W g d t).2.2 p = false ∧ d + 1 ≤ s_w t p ∧ s_w t p ≤ d + 22) ∧
    (∀ p, p < g 2 0 → (s_W g d t).2.1 p ≤ 3 ∧ ((s_W g d t).2.1 p = 0 ↔ d < g 5 p) ∧ ((s_W g d t).2.2 p = false → (s_W g d t).2.1 p = s_h1 g d t p) ∧ ((s_W g d t).2.2 p = true → s_h1 g d t p = 2 ∧ (s_W g d t).2.1 p = 1)) := by
  obtain ⟨a, b, c, e⟩ := s_wk_inv (d := d) (w := s_w t) (G := s_g t) (H := s_h1 g d t) (g 1 0)
  have key : ∀ p, (s_W g d t).2.2 p = true → p < g 2 0 ∧ s_h1 g d t p = 2 ∧ (s_W g d t).2.1 p = 1 ∧ s_w t p = d := by
    intro p h
    obtain ⟨⟨i, h1, h2, h3⟩, h4⟩ := c p h
    obtain ⟨q1, q2, q3, q4⟩ := hI.2.1 i h1 p h2
    exact ⟨q1, s_h1_2 hI q1 q2, h4, h3⟩
  refine ⟨fun j hj p h => ?_, fun p hp => ?_⟩
  · obtain ⟨h1, h2⟩ := a j p h
    have h3 := h2 hj
    obtain ⟨q1, q2, q3, q4⟩ := hI.2.1 j hj p h1
    have hf : (s_W g d t).2.2 p = false := by
      cases hz : (s_W g d t).2.2 p with
      | false => rfl
      | true => exact absurd (key p hz).2.2.2 h3
    exact ⟨h1, q1, by rw [show (s_W g d t).2.1 p = s_h1 g d t p from e p hf]; exact s_h1_2 hI q1 q2, hf, by omega, q4⟩
  · have h1 : s_h1 g d t p ≤ 3 ∧ (s_h1 g d t p = 0 ↔ d < g 5 p) := by
      obtain ⟨z1, z2, z3, z4⟩ := hI.1 p hp
      unfold s_h1
      split
      · omega
      · split <;> omega
    cases hz : (s_W g d t).2.2 p with
    | false =>
      have := e p hz
      refine ⟨by rw [show (s_W g d t).2.1 p = _ from this]; exact h1.1, by rw [show (s_W g d t).2.1 p = _ from this]; exact h1.2, fun _ => this, fun h => by cases h⟩
    | true =>
      obtain ⟨k1, k2, k3, k4⟩ := key p hz
      refine ⟨by omega, by rw [← h1.2]; omega, fun h => (by cases h), fun _ => ⟨k2, k3⟩⟩
/-- while they lie down -/
def FI (g : sG) (d : Nat) (s : sF) : Prop := (∀ j, j < g 1 0 → ∀ p, s.1 j = some p → p < g 2 0 ∧ s.2.1 p = 2 ∧ d + 1 ≤ s.2.2.1 p ∧ s.2.2.1 p ≤ d + 22) ∧ (∀ i j, i < g 1 0 → j < g 1 0 → ∀ p, s.1 i = some p → s.1 j = some p → i = j) ∧ (∀ p, p < g 2 0 → s.2.1 p ≤ 3 ∧ (s.2.1 p = 0 ↔ d < g 5 p)) ∧ s.2.2.2 < 64
theorem s_cnd_e {g : sG} {H : Nat → Nat} {wo : Nat → Bool} {p : Nat} (h : s_cnd g H wo p = true) : H p = 1 ∧ wo p = false ∧ (g 8 0).testBit p = false := by
  simp only [s_cnd, Bool.and_eq_true, decide_eq_true_eq, Bool.not_eq_true'] at h
  exact ⟨h.1.1, h.1.2, h.2⟩
theorem s_fs_inv {g : sG} (hg : GW g) {d : Nat} {age : Nat → Nat} {wo : Nat → Bool} {j : Nat} (hj : j < g 1 0) {s : sF} (h : FI g d s) : FI g d (s_fs g d age wo j s) := by
  obtain ⟨h1, h2, h3, h4⟩ := h
  unfold s_fs
  split
  · rename_i hc
    split
    · refine ⟨h1, h2, h3, ?_⟩
      have := hg.1
      exact jb_ol2 ⟨_, h4⟩ ⟨j, by omega⟩
    · rename_i p hp
      obtain ⟨k1, k2⟩ := s_lie_in hg hp
      obtain ⟨k3, k4, k5⟩ := s_cnd_e k1
      have hsl := s_slp_in hg k2
      have hne : ∀ i, i < g 1 0 → ∀ q, s.1 i = some q → q ≠ p := by
        intro i hi q hq e
        have := (h1 i hi q hq).2.1
        rw [e] at this
        omega
      refine ⟨fun i hi q hq => ?_, fun i i' hi hi' q hq hq' => ?_, fun q hq => ?_, h4⟩
      · dsimp only at hq ⊢
        by_cases hij : i = j
        · subst hij
          rw [nu_s] at hq
          cases hq
          rw [nu_s, nu_s]
          exact ⟨k2, rfl, by omega, by omega⟩
        · rw [nu_n hij] at hq
          have hqp := hne i hi q hq
          rw [nu_n hqp, nu_n hqp]
          exact h1 i hi q hq
      · dsimp only at hq hq'
        by_cases hij : i = j
        · by_cases hij' : i' = j
          · rw [hij, hij']
          · subst hij
            rw [nu_s] at hq
            cases hq
            rw [nu_n hij'] at hq'
            exact absurd rfl (hne i' hi' _ hq')
        · by_cases hij' : i' = j
          · subst hij'
            rw [nu_s] at hq'
            cases hq'
            rw [nu_n hij] at hq
            exact absurd rfl (hne i hi _ hq)
          · rw [nu_n hij] at hq
            rw [nu_n hij'] at hq'
            exact h2 i i' hi hi' q hq hq'
      · dsimp only
        by_cases hqp : q = p
        · subst hqp
          rw [nu_s]
          have := (h3 q hq).2
          omega
        · rw [nu_n hqp]
          exact h3 q hq
  · exact ⟨h1, h2, h3, h4⟩
theorem s_F_inv {g : sG} (hg : GW g) {d : Nat} {t : sS} (hI : SI g d t) : ∀ j, j ≤ g 1 0 → FI g d (s_F g d t j) := by
  intro j
  induction j with
  | zero =>
    intro _
    obtain ⟨a, b⟩ := s_W_inv hI
    refine ⟨fun i hi p hp => ?_, fun i i' hi hi' p hp hp' => ?_, fun p hp => ⟨(b p hp).1, (b p hp).2.1⟩, (by show (0 : Nat) < 64; decide)⟩
    · obtain ⟨q1, q2, q3, q4, q5, q6⟩ := a i hi p hp
      exact ⟨q2, q3, q5, q6⟩
    · exact hI.2.2.1 i i' hi hi' p (a i hi p hp).1 (a i' hi' p hp').1
  | succ j ih =>
    intro hj
    exact s_fs_inv hg (by omega) (ih (by omega))
/-- in the decade, behind who lies down -/
def SJ (g : sG) (d : Nat) (t : sS) : Prop := (∀ p, p < g 2 0 → s_h t p ≤ 3 ∧ s_a t p ≤ d ∧ s_l t p ≤ d + 1 ∧ (s_h t p = 0 ↔ d < g 5 p)) ∧ (∀ j, j < g 1 0 → ∀ p, s_g t j = some p → p < g 2 0 ∧ s_h t p = 2 ∧ d + 1 ≤ s_w t p ∧ s_w t p ≤ d + 22) ∧ (∀ i j, i < g 1 0 → j < g 1 0 → ∀ p, s_g t i = some p → s_g t j = some p → i = j) ∧ s_c t ≤ 6 * (d + 1) ∧ s_e t < 64
theorem s_go_inv {g : sG} (hg : GW g) {d : Nat} {t : sS} (hI : SI g d t) : SJ g d (s_go g d t) := by
  obtain ⟨h1, h2, h3, h4⟩ := s_F_inv hg hI (g 1 0) (Nat.le_refl _)
  refine ⟨fun p hp => ?_, h1, h2, ?_, h4⟩
  · obtain ⟨k1, k2, k3, k4⟩ := hI.1 p hp
    obtain ⟨k5, k6⟩ := h3 p hp
    refine ⟨k5, k2, ?_, k6⟩
    show s_l t p + (if _ then 1 else 0) ≤ d + 1
    split <;> omega
  · have := pop_le (s_F g d t (g 1 0)).2.2.2
    have := hI.2.2.2
    show s_c t + pop (s_F g d t (g 1 0)).2.2.2 ≤ 6 * (d + 1)
    omega
theorem s_end_inv {g : sG} {d : Nat} {t : sS} (h : SJ g d t) : SI g (d + 1) (s_end t) := by
  obtain ⟨h1, h2, h3, h4, h5⟩ := h
  refine ⟨fun p hp => ?_, fun j hj p hp => ?_, h3, h4⟩
  · obtain ⟨k1, k2, k3, k4⟩ := h1 p hp
    refine ⟨k1, ?_, k3, by show s_h t p = 0 ↔ _; rw [k4]; omega⟩
    show s_a t p + (if _ then 1 else 0) ≤ d + 1
    split <;> omega
  · obtain ⟨k1, k2, k3, k4⟩ := h2 j hj p hp
    exact ⟨k1, k2, k3, by show s_w t p ≤ _; omega⟩
theorem s_pre_inv {g : sG} (hg : GW g) : ∀ d, SI g d (s_pre g d) := by
  intro d
  induction d with
  | zero =>
    refine ⟨fun p _ => ⟨Nat.zero_le _, Nat.zero_le _, Nat.zero_le _, ?_⟩, fun j _ p h => ?_, fun i j _ _ p h => ?_, Nat.zero_le _⟩
    · show (0 : Nat) = 0 ↔ _; omega
    · cases h
    · cases h
  | succ d ih => exact s_end_inv (s_go_inv hg ih)
theorem s_at_inv {g : sG} (hg : GW g) (d : Nat) : SJ g d (s_at g d) := s_go_inv hg (s_pre_inv hg d)
