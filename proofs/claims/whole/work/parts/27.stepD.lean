theorem st_how (a b : Int32) : jSt (F_X5_how a b) (F_X6_how a b) := by
  intro c m h
  obtain ⟨g, nr, ra, ri, rw, hI⟩ := id h
  obtain ⟨h1, h2, h3, h4, h5, h6, h7, h8⟩ := id hI
  have g2 := h1.1.2.1
  unfold F_X5_how F_X6_how
  rw [C_isPerson h3.2.1 (by omega), F_noPerson h2.2.1 (by omega), jbd_s, jbd_s]
  by_cases ha : 0 ≤ a.toInt ∧ a.toInt < ((g 2 0 : Nat) : Int)
  · rw [if_pos ha, if_neg (by decide), if_pos ha, if_pos rfl, C_isDecade, F_isDecade, jbd_s, jbd_s]
    by_cases hb : 0 ≤ b.toInt ∧ b.toInt < 40
    · rw [if_pos hb, if_neg (show ¬ (1 : Int32) = 0 by decide), if_neg (show ¬ (1 : Int32) = 0 by decide)]
      obtain ⟨j, hj, rfl⟩ := jof_e ha (by omega)
      obtain ⟨d, hd, rfl⟩ := jof_e (n := 40) hb (by omega)
      obtain ⟨c1, q1, q2, q3, q4, q5, q6⟩ := C_asItGoes hI
      obtain ⟨m1, p1, p2, p3, p4⟩ := F_goTo h1.1 hd h2
      unfold F_X0_stateAt
      rw [q1, jbd_s, p1, jbd_s, jix6, jin_n (by omega) (by omega), jck_t, jr_n _ _ _ (by omega), jbd_s, jin_n (by omega) (by omega), jck_t, jr_n _ _ _ (by omega), ((q3 d hd).2.2.2 j hj).1, (p3.1 j hj).1]
      exact ⟨_, _, _, rfl, rfl, g, nr, ra, ri, rw, q2.fr (fun _ _ => rfl) (p2.mono KS_in)⟩
    · rw [if_neg hb, if_pos rfl, if_pos rfl]
      exact ⟨_, c, m, rfl, rfl, h⟩
  · rw [if_neg ha, if_pos rfl, if_neg ha, if_neg (by decide)]
    exact ⟨_, c, m, rfl, rfl, h⟩
theorem st_age (a b : Int32) : jSt (F_X5_age a b) (F_X6_age a b) := by
  intro c m h
  obtain ⟨g, nr, ra, ri, rw, hI⟩ := id h
  obtain ⟨h1, h2, h3, h4, h5, h6, h7, h8⟩ := id hI
  have g2 := h1.1.2.1
  unfold F_X5_age F_X6_age
  rw [C_isPerson h3.2.1 (by omega), F_noPerson h2.2.1 (by omega), jbd_s, jbd_s]
  by_cases ha : 0 ≤ a.toInt ∧ a.toInt < ((g 2 0 : Nat) : Int)
  · rw [if_pos ha, if_neg (by decide), if_pos ha, if_pos rfl, C_isDecade, F_isDecade, jbd_s, jbd_s]
    by_cases hb : 0 ≤ b.toInt ∧ b.toInt < 40
    · rw [if_pos hb, if_neg (show ¬ (1 : Int32) = 0 by decide), if_neg (show ¬ (1 : Int32) = 0 by decide)]
      obtain ⟨j, hj, rfl⟩ := jof_e ha (by omega)
      obtain ⟨d, hd, rfl⟩ := jof_e (n := 40) hb (by omega)
      obtain ⟨c1, q1, q2, q3, q4, q5, q6⟩ := C_asItGoes hI
      obtain ⟨m1, p1, p2, p3, p4⟩ := F_goTo h1.1 hd h2
      obtain ⟨m2, z1, z2, z3⟩ := F_endDecade h1.1 (s_at_inv h1.1 d) (h2.fr p2) p3
      unfold F_X0_agedAt
      rw [q1, jbd_s, p1, jbd_s, z1, jbd_s, jix6, jin_n (by omega) (by omega), jck_t, jr_n _ _ _ (by omega), jbd_s, jin_n (by omega) (by omega), jck_t, jr_n _ _ _ (by omega), ((q3 d hd).2.2.2 j hj).2, (z3.1 j hj).2.1]
      exact ⟨_, _, _, rfl, rfl, g, nr, ra, ri, rw, q2.fr (fun _ _ => rfl) ((p2.tr (z2.mono (by decide))).mono KS_in)⟩
    · rw [if_neg hb, if_pos rfl, if_pos rfl]
      exact ⟨_, c, m, rfl, rfl, h⟩
  · rw [if_neg ha, if_pos rfl, if_neg ha, if_neg (by decide)]
    exact ⟨_, c, m, rfl, rfl, h⟩
/-- the refusals of a decade, and of no land -/
theorem F_refusedFor {g : sG} {m : jx_M} (h : m 8 2 0 = nI (g 2 0)) (hn : g 2 0 ≤ 6) (x : Int32) : F_X6_refusedFor x m = some (if 0 ≤ x.toInt ∧ x.toInt < 40 then (if g 2 0 = 0 then -3 else 0) else -2, m) := by
  unfold F_X6_refusedFor
  rw [F_isDecade, jbd_s]
  by_cases hx : 0 ≤ x.toInt ∧ x.toInt < 40
  · rw [if_pos hx, if_neg (by decide), if_pos hx, h]
    by_cases h0 : g 2 0 = 0
    · rw [if_pos h0, if_pos (by rw [h0]; rfl)]
    · rw [if_neg h0, if_neg (nI_ne0 (by omega) (by omega))]
  · rw [if_neg hx, if_pos rfl, if_neg hx]
/-- a question of a decade, of a land: both sides come to their questions -/
theorem st_dec {α : Type} [Inhabited α] {fc : Int32 → jx_M → Option (Int32 × jx_M)} {fm : Int32 → jx_M → Option (Int32 × jx_M)} (kc km : Int32 → jx_M → Option (Int32 × jx_M)) (ec : ∀ x c, fc x c = jbd (F_X5_isDecade x c) (fun r_1 M_1 => if r_1 = 0 then some ((-2), M_1) else jbd (F_X5_isLand M_1) (fun r_2 M_2 => if r_2 = 0 then some ((-3), M_2) else kc x M_2))) (em : ∀ x m, fm x m = jbd (F_X6_refusedFor x m) (fun r_1 M_1 => if 0 ≤ r_1 then km x M_1 else some (r_1, M_1)))
    (hk : ∀ g nr ra ri rw c m, IV g nr ra ri rw c m → g 1 0 ≠ 0 → ∀ d, d < 40 → ∃ r c' m', kc (nI d) c = some (r, c') ∧ km (nI d) m = some (r, m') ∧ Inv c' m') (x : Int32) : jSt (fc x) (fm x) := by
  intro c m h
  obtain ⟨g, nr, ra, ri, rw, hI⟩ := id h
  obtain ⟨h1, h2, h3, h4, h5, h6, h7, h8⟩ := id hI
  have g1 := h1.1.1
  have g2 := h1.1.2.1
  rw [ec, em, C_isDecade, jbd_s, F_refusedFor h2.2.1 g2, jbd_s]
  by_cases hx : 0 ≤ x.toInt ∧ x.toInt < 40
  · rw [if_pos hx, if_neg (by decide), if_pos hx, C_isLand h3.1 (by omega), jbd_s]
    obtain ⟨d, hd, rfl⟩ := jof_e (n := 40) hx (by omega)
    by_cases h0 : g 1 0 = 0
    · rw [if_pos h0, if_pos rfl, if_pos (h1.2.2.mp h0), if_neg (by decide)]
      exact ⟨_, c, m, rfl, rfl, h⟩
    · rw [if_neg h0, if_neg (by decide), if_neg (fun z => h0 (h1.2.2.mpr z)), if_pos (by decide)]
      exact hk g nr ra ri rw c m hI h0 d hd
  · rw [if_neg hx, if_pos rfl, if_neg hx, if_neg (by decide)]
    exact ⟨_, c, m, rfl, rfl, h⟩
theorem st_empty (x : Int32) : jSt (F_X5_empty x) (F_X6_empty x) := by
  refine st_dec (α := Nat) (fun x c => jbd (F_X5_asItGoes c) (fun r_3 M_3 => jck (jin x 40) (some (jx_r M_3 5 0 x, M_3)))) (fun x m => jbd (F_X6_goTo x m) (fun r_2 M_2 => some (M_2 8 28 0, M_2))) (fun _ _ => rfl) (fun _ _ => rfl) ?_ x
  intro g nr ra ri rw c m hI h0 d hd
  obtain ⟨h1, h2, -⟩ := id hI
  obtain ⟨c1, q1, q2, q3, q4, q5, q6⟩ := C_asItGoes hI
  obtain ⟨m1, p1, p2, p3, p4⟩ := F_goTo h1.1 hd h2
  rw [q1, jbd_s, p1, jbd_s, jin_n (by omega) (by omega), jck_t, jr_n _ _ _ (by omega), (q3 d hd).2.2.1, p4]
  exact ⟨_, _, _, rfl, rfl, g, nr, ra, ri, rw, q2.fr (fun _ _ => rfl) (p2.mono KS_in)⟩
theorem L_missed {g : sG} (hg : GW g) {c : jx_M} (hR : RR g 5 40 c) {d : Nat} (hd : d < 40) (k : Int32 → jx_M → Option (Int32 × jx_M)) : ∀ m n q, q + m = d + 1 → m < n → L_X0_missedBy_4 5 (nI d) k n (nI (s_E g q)) (nI q) c = k (nI (s_E g (d + 1))) c := by
  intro m
  induction m with
  | zero =>
    intro n q hq hn
    obtain ⟨n, rfl⟩ : ∃ q, n = q + 1 := ⟨n - 1, by omega⟩
    rw [L_X0_missedBy_4.eq_2, if_pos (nI_lt (by omega) (by omega)), show q = d + 1 by omega]
  | succ m ih =>
    intro n q hq hn
    obtain ⟨n, rfl⟩ : ∃ q, n = q + 1 := ⟨n - 1, by omega⟩
    rw [L_X0_missedBy_4.eq_2, if_neg (nI_nlt (by omega) (by omega)), jin_n (by omega) (by omega), jck_t, jr_n _ _ _ (by omega), (hR q (by omega)).2.2.1, F_bc (s_at_inv hg q).2.2.2.2, jbd_s, nI_add, jlet_d, jlet_d, nI_1]
    exact ih n (q + 1) (by omega) (by omega)
theorem st_empties (x : Int32) : jSt (F_X5_empties x) (F_X6_empties x) := by
  refine st_dec (α := Nat) (fun x c => jbd (F_X5_asItGoes c) (fun r_3 M_3 => jbd (F_X0_missedBy 5 x M_3) (fun r_4 M_4 => some (r_4, M_4)))) (fun x m => jbd (F_X6_goTo x m) (fun r_2 M_2 => some (M_2 8 29 0, M_2))) (fun _ _ => rfl) (fun _ _ => rfl) ?_ x
  intro g nr ra ri rw c m hI h0 d hd
  obtain ⟨h1, h2, -⟩ := id hI
  obtain ⟨c1, q1, q2, q3, q4, q5, q6⟩ := C_asItGoes hI
  obtain ⟨m1, p1, p2, p3, p4⟩ := F_goTo h1.1 hd h2
  have e : F_X0_missedBy 5 (nI d) c1 = some (nI (s_E g (d + 1)), c1) := L_missed h1.1 q3 hd _ (d + 1) jfu 0 (by omega) (by unfold jfu; omega)
  rw [q1, jbd_s, p1, jbd_s, e, jbd_s, p3.2.2.2]
  exact ⟨_, _, _, rfl, rfl, g, nr, ra, ri, rw, q2.fr (fun _ _ => rfl) (p2.mono KS_in)⟩
/-- a set of persons, by going through them -/
def s_set (f : Nat → Bool) : Nat → Nat
  | 0 => 0
  | q + 1 => if f q = true then s_set f q ||| 2 ^ q else s_set f q
theorem s_set_lt (f : Nat → Bool) : ∀ q, q ≤ 6 → s_set f q < 64 := by
  intro q
  induction q with
  | zero => intro _; show (0 : Nat) < 64; decide
  | succ q ih =>
    intro hq
    unfold s_set
    split
    · exact jbol2 (ih (by omega)) (by omega)
    · exact ih (by omega)
theorem L_awakeC {g : sG} (hg : GW g) {c : jx_M} (hL : RLa g c) (hR : RR g 5 40 c) {d : Nat} (hd : d < 40) (k : Int32 → jx_M → Option (Int32 × jx_M)) : ∀ m n q, q + m = g 2 0 → m < n → L_X5_awake_30 (nI d) k n (nI (s_set (fun p => decide (s_h (s_at g d) p = 1)) q)) (nI q) c = k (nI (s_set (fun p => decide (s_h (s_at g d) p = 1)) (g 2 0))) c := by
  have g2 := hg.2.1
  intro m
  induction m with
  | zero =>
    intro n q hq hn
    obtain ⟨n, rfl⟩ : ∃ q, n = q + 1 := ⟨n - 1, by omega⟩
    rw [L_X5_awake_30.eq_2, hL.2.1, if_pos (nI_le (by omega) (by omega)), show q = g 2 0 by omega]
  | succ m ih =>
    intro n q hq hn
    obtain ⟨n, rfl⟩ : ∃ q, n = q + 1 := ⟨n - 1, by omega⟩
    have ih1 := ih n (q + 1) (by omega) (by omega)
    have hh := (s_at_inv hg d).1 q (by omega)
    have e : F_X0_stateAt 5 (nI q) (nI d) c = some (nI (s_h (s_at g d) q), c) := by
      unfold F_X0_stateAt
      rw [jix6, jin_n (by omega) (by omega), jck_t, jr_n _ _ _ (by omega), ((hR d hd).2.2.2 q (by omega)).1]
    have es : s_set (fun p => decide (s_h (s_at g d) p = 1)) (q + 1) = if s_h (s_at g d) q = 1 then s_set (fun p => decide (s_h (s_at g d) p = 1)) q ||| 2 ^ q else s_set (fun p => decide (s_h (s_at g d) p = 1)) q := by
      show (if decide _ = true then _ else _) = _
      simp only [decide_eq_true_eq]
    rw [es] at ih1
    rw [L_X5_awake_30.eq_2, hL.2.1, if_neg (nI_ge (by omega) (by omega)), e, jbd_s]
    by_cases c1 : s_h (s_at g d) q = 1
    · rw [if_pos c1] at ih1
      rw [if_pos (by rw [c1]; rfl), jbor (s_set_lt _ q (by omega)) (by omega), jlet_d, jlet_d, nI_1]
      exact ih1
    · rw [if_neg c1] at ih1
      rw [if_neg (by rw [show (1 : Int32) = nI 1 from rfl, nI_eq (by omega) (by omega)]; exact c1), jlet_d, nI_1]
      exact ih1
theorem L_awakeM {g : sG} (hg : GW g) {M : jx_M} (hN : M 8 2 0 = nI (g 2 0)) {H : Nat → Nat} (hH : ∀ p, p < g 2 0 → M 8 23 p = nI (H p) ∧ H p ≤ 3) (k : Int32 → jx_M → Option (Int32 × jx_M)) : ∀ m n q, q + m = g 2 0 → m < n → L_X6_awake_22 k n (nI (s_set (fun p => decide (H p = 1)) q)) (nI q) M = k (nI (s_set (fun p => decide (H p = 1)) (g 2 0))) M := by
  have g2 := hg.2.1
  intro m
  induction m with
  | zero =>
    intro n q hq hn
    obtain ⟨n, rfl⟩ : ∃ q, n = q + 1 := ⟨n - 1, by omega⟩
    rw [L_X6_awake_22.eq_2, hN, if_pos (nI_le (by omega) (by omega)), show q = g 2 0 by omega]
  | succ m ih =>
    intro n q hq hn
    obtain ⟨n, rfl⟩ : ∃ q, n = q + 1 := ⟨n - 1, by omega⟩
    have ih1 := ih n (q + 1) (by omega) (by omega)
    obtain ⟨e1, e2⟩ := hH q (by omega)
    have es : s_set (fun p => decide (H p = 1)) (q + 1) = if H q = 1 then s_set (fun p => decide (H p = 1)) q ||| 2 ^ q else s_set (fun p => decide (H p = 1)) q := by
      show (if decide _ = true then _ else _) = _
      simp only [decide_eq_true_eq]
    rw [es] at ih1
    rw [L_X6_awake_22.eq_2, hN, if_neg (nI_ge (by omega) (by omega)), jin_n (by omega) (by omega), jck_t, jr_n _ _ _ (by omega), e1]
    by_cases c1 : H q = 1
    · rw [if_pos c1] at ih1
      rw [if_pos (by rw [c1]; rfl), jbor (s_set_lt _ q (by omega)) (by omega), jlet_d, jlet_d, nI_1]
      exact ih1
    · rw [if_neg c1] at ih1
      rw [if_neg (by rw [show (1 : Int32) = nI 1 from rfl, nI_eq (by omega) (by omega)]; exact c1), show ((0 : Int32)) = nI 0 from rfl, (jbol (s_set_lt _ q (by omega)) (by decide)).1, Nat.or_zero, jlet_d, jlet_d, nI_1]
      exact ih1
theorem st_awake (x : Int32) : jSt (F_X5_awake x) (F_X6_awake x) := by
  refine st_dec (α := Nat) (fun x c => jbd (F_X5_asItGoes c) (fun r_3 M_3 => L_X5_awake_30 x (fun x3_2 M_5 => some (x3_2, M_5)) jfu 0 0 M_3)) (fun x m => jbd (F_X6_goTo x m) (fun r_2 M_2 => L_X6_awake_22 (fun x3_3 M_3 => some (x3_3, M_3)) jfu 0 0 M_2)) (fun _ _ => rfl) (fun _ _ => rfl) ?_ x
  intro g nr ra ri rw c m hI h0 d hd
  obtain ⟨h1, h2, h3, -⟩ := id hI
  have g2 := h1.1.2.1
  obtain ⟨c1, q1, q2, q3, q4, q5, q6⟩ := C_asItGoes hI
  obtain ⟨m1, p1, p2, p3, p4⟩ := F_goTo h1.1 hd h2
  have e1 := L_awakeC h1.1 q2.2.2.1 q3 hd (fun x3_2 M_5 => some (x3_2, M_5)) (g 2 0) jfu 0 (by omega) (by unfold jfu; omega)
  have e2 := L_awakeM h1.1 (M := m1) (by rw [p2.at 2 (by decide)]; exact h2.2.1) (H := s_h (s_at g d)) (fun p hp => ⟨(p3.1 p hp).1, ((s_at_inv h1.1 d).1 p hp).1⟩) (fun x3_3 M_3 => some (x3_3, M_3)) (g 2 0) jfu 0 (by omega) (by unfold jfu; omega)
  rw [q1, jbd_s, p1, jbd_s]
  exact ⟨_, _, _, e1, e2, g, nr, ra, ri, rw, q2.fr (fun _ _ => rfl) (p2.mono KS_in)⟩
theorem L_sleptC {g : sG} (hg : GW g) {c : jx_M} (hR : RR g 5 40 c) {d p : Nat} (hd : d < 40) (hp : p < g 2 0) (k : Int32 → jx_M → Option (Int32 × jx_M)) : ∀ m n q, q + m = d + 1 → m < n → L_X5_slept_31 (nI p) (nI d) k n (nI (s_l (s_pre g q) p)) (nI q) c = k (nI (s_l (s_pre g (d + 1)) p)) c := by
  have g2 := hg.2.1
  intro m
  induction m with
  | zero =>
    intro n q hq hn
    obtain ⟨n, rfl⟩ : ∃ q, n = q + 1 := ⟨n - 1, by omega⟩
    rw [L_X5_slept_31.eq_2, if_pos (nI_lt (by omega) (by omega)), show q = d + 1 by omega]
  | succ m ih =>
    intro n q hq hn
    obtain ⟨n, rfl⟩ : ∃ q, n = q + 1 := ⟨n - 1, by omega⟩
    have ih1 := ih n (q + 1) (by omega) (by omega)
    have hh := (s_at_inv hg q).1 p hp
    have e : F_X0_stateAt 5 (nI p) (nI q) c = some (nI (s_h (s_at g q) p), c) := by
      unfold F_X0_stateAt
      rw [jix6, jin_n (by omega) (by omega), jck_t, jr_n _ _ _ (by omega), ((hR q (by omega)).2.2.2 p hp).1]
    have es : s_l (s_pre g (q + 1)) p = s_l (s_pre g q) p + if s_h (s_at g q) p = 2 then 1 else 0 := rfl
    rw [es] at ih1
    rw [L_X5_slept_31.eq_2, if_neg (nI_nlt (by omega) (by omega)), e, jbd_s]
    by_cases c1 : s_h (s_at g q) p = 2
    · rw [if_pos c1] at ih1
      rw [if_pos (by rw [c1]; rfl), jlet_d, jlet_d, nI_1, nI_1]
      exact ih1
    · rw [if_neg c1] at ih1
      rw [if_neg (by rw [show (2 : Int32) = nI 2 from rfl, nI_eq (by omega) (by omega)]; exact c1), jlet_d, nI_1]
      exact ih1
theorem st_slept (a b : Int32) : jSt (F_X5_slept a b) (F_X6_slept a b) := by
  intro c m h
  obtain ⟨g, nr, ra, ri, rw, hI⟩ := id h
  obtain ⟨h1, h2, h3, h4, h5, h6, h7, h8⟩ := id hI
  have g2 := h1.1.2.1
  unfold F_X5_slept F_X6_slept
  rw [C_isPerson h3.2.1 (by omega), F_noPerson h2.2.1 (by omega), jbd_s, jbd_s]
  by_cases ha : 0 ≤ a.toInt ∧ a.toInt < ((g 2 0 : Nat) : Int)
  · rw [if_pos ha, if_neg (by decide), if_pos ha, if_pos rfl, C_isDecade, F_isDecade, jbd_s, jbd_s]
    by_cases hb : 0 ≤ b.toInt ∧ b.toInt < 40
    · rw [if_pos hb, if_neg (show ¬ (1 : Int32) = 0 by decide), if_neg (show ¬ (1 : Int32) = 0 by decide)]
      obtain ⟨j, hj, rfl⟩ := jof_e ha (by omega)
      obtain ⟨d, hd, rfl⟩ := jof_e (n := 40) hb (by omega)
      obtain ⟨c1, q1, q2, q3, q4, q5, q6⟩ := C_asItGoes hI
      obtain ⟨m1, p1, p2, p3, p4⟩ := F_goTo h1.1 hd h2
      have e1 := L_sleptC h1.1 q3 hd hj (fun x4_2 M_5 => some (x4_2, M_5)) (d + 1) jfu 0 (by omega) (by unfold jfu; omega)
      rw [q1, jbd_s, p1, jbd_s, jin_n (by omega) (by omega), jck_t, jr_n _ _ _ (by omega), (p3.1 j hj).2.2]
      exact ⟨_, _, _, e1, rfl, g, nr, ra, ri, rw, q2.fr (fun _ _ => rfl) (p2.mono KS_in)⟩
    · rw [if_neg hb, if_pos rfl, if_pos rfl]
      exact ⟨_, c, m, rfl, rfl, h⟩
  · rw [if_neg ha, if_pos rfl, if_neg ha, if_neg (by decide)]
    exact ⟨_, c, m, rfl, rfl, h⟩
