/-! ===== sheets: lose, put, cell, copy ===== -/
theorem nI_cl {n : Nat} (h : n < 2 ^ 31) : (nI n).toNatClampNeg = n := by
  have := nI_toInt h
  unfold Int32.toNatClampNeg
  rw [this]; rfl
theorem SHT.w {c m c' m' : jx_M} (h : SHT c m) (e0 : c' 1 0 = c 1 0) (e1 : c' 1 1 = c 1 1) (e2 : m' 8 38 = m 8 38) (e3 : m' 8 39 = m 8 39) (e : ∀ k i, k < 4 → i < 60 → c 1 2 (k * 60 + i) = m 8 40 (60 * k + i) → c' 1 2 (k * 60 + i) = m' 8 40 (60 * k + i)) : SHT c' m' := by
  intro k hk
  rw [e0, e1, e2, e3]
  rcases h k hk with p | ⟨l, n, p1, p2, p3, p4, p5, p6, p7⟩
  · exact Or.inl p
  · exact Or.inr ⟨l, n, p1, p2, p3, p4, p5, p6, fun i hi => e k i hk (by omega) (p7 i hi)⟩
theorem F_noCell1 {k n : Nat} (hk : k < 4) (hn : n ≤ 60) {m : jx_M} (h : m 8 38 k = nI n) (i : Int32) : F_X6_noCell (nI k) i m = some (if 0 ≤ i.toInt ∧ i.toInt < n then 0 else 3, m) := by
  unfold F_X6_noCell
  rw [jin_n hk (by decide), jck_t, jck_t, jr_n _ _ _ (by omega), h, if_pos ((jge0 _).mpr (by rw [nI_toInt (by omega)]; omega)), F_in_n i (by omega), jbd_s]
  split <;> simp
theorem F_noCell0 {k : Nat} (hk : k < 4) {m : jx_M} (h : m 8 38 k = -1) (i : Int32) : F_X6_noCell (nI k) i m = some (1, m) := by
  unfold F_X6_noCell
  rw [jin_n hk (by decide), jck_t, jr_n _ _ _ (by omega), h, if_neg (by decide)]
theorem st_lose (x : Int32) : jSt (F_X5_lose x) (F_X6_lose x) := by
  intro c m h
  obtain ⟨g, nr, ra, ri, rw, hI⟩ := id h
  obtain ⟨h1, h2, h3, h4, h5, h6, h7, h8⟩ := id hI
  unfold F_X5_lose F_X6_lose
  rw [C_isSheet, F_noSheet, jbd_s, jbd_s]
  by_cases hx : 0 ≤ x.toInt ∧ x.toInt < 4
  · rw [if_pos hx, if_neg (by decide), if_pos hx, if_pos rfl]
    obtain ⟨k, hk, rfl⟩ := jof_e (n := 4) hx (by decide)
    rw [jin_n hk (by decide), jck_t, jr_n _ _ _ (by omega), jck_t, jck_t, jw_n _ _ _ _ (by omega), jlet_d, jlet_d]
    rcases h6 k hk with ⟨p1, p2⟩ | ⟨l, n, p1, p2, p3, p4, p5, p6, p7⟩
    · rw [C_has0 hk p1, jbd_s, if_pos rfl, p2, if_neg (by decide)]
      refine ⟨_, _, _, rfl, rfl, g, nr, ra, ri, rw, hI.sht (fun k' hk' => ?_) (fun _ _ _ _ => rfl) (fun _ _ => rfl) (FK.set FK.rf (by decide)) ?_⟩
      · simp (disch := decide) only [jx_set_k, jx_set_s]
        rw [show upd (m 8 38) k (-1) = m 8 38 by rw [← p2]; exact upd_self _ _]
        exact h6 k' hk'
      · rw [jx_set_k (by decide)]; exact h7.1
    · rw [C_has1 hk p1 p3, jbd_s, if_neg (by decide), p6, if_pos ((jge0 _).mpr (by rw [nI_toInt (by omega)]; omega))]
      unfold F_X4_drop
      rw [jin_n hk (by decide), jck_t, jw_n _ _ _ _ (by omega), jlet_d, jck_t, jw_n _ _ _ _ (by omega), jlet_d, jbd_s]
      refine ⟨_, _, _, rfl, rfl, g, nr, ra, ri, rw, hI.sht (fun k' hk' => ?_) (fun o ho h1' h0' => ?_) (fun k' hk' => ?_) (FK.set FK.rf (by decide)) ?_⟩
      · simp (disch := decide) only [jx_set_k, jx_set_s]
        by_cases e : k' = k
        · subst e
          exact Or.inl ⟨by simp [upd], by simp [upd]⟩
        · rcases h6 k' hk' with ⟨q1, q2⟩ | ⟨l', n', q1, q2, q3, q4, q5, q6, q7⟩
          · exact Or.inl ⟨by simp only [upd, e, if_false]; exact q1, by simp only [upd, e, if_false]; exact q2⟩
          · exact Or.inr ⟨l', n', q1, q2, by simp only [upd, e, if_false]; exact q3, q4, by simp only [upd, e, if_false]; exact q5, by simp only [upd, e, if_false]; exact q6, q7⟩
      · rw [jx_set_o h1', jx_set_o h1']
      · rw [jx_set_o (by decide), jx_set_o (by decide)]
      · rw [jx_set_o (by decide), jx_set_o (by decide), jx_set_k (by decide)]; exact h7.1
  · rw [if_neg hx, if_pos rfl, if_neg hx, if_neg (show ¬ (1 : Int32) = 0 by decide)]
    exact ⟨_, _, _, rfl, rfl, h⟩
theorem nI_ne {a b : Nat} (ha : a < 2 ^ 31) (hb : b < 2 ^ 31) (h : a ≠ b) : ¬ nI a = nI b := fun z => h ((nI_eq ha hb).mp z)
theorem st_put (x y z : Int32) : jSt (F_X5_put x y z) (F_X6_put x y z) := by
  intro c m h
  obtain ⟨g, nr, ra, ri, rw, hI⟩ := id h
  obtain ⟨h1, h2, h3, h4, h5, h6, h7, h8⟩ := id hI
  unfold F_X5_put F_X6_put
  rw [jlet_d, C_isSheet, F_noSheet, jbd_s, jbd_s]
  by_cases hx : 0 ≤ x.toInt ∧ x.toInt < 4
  · rw [if_pos hx, if_neg (by decide), if_pos hx, if_pos rfl]
    obtain ⟨k, hk, rfl⟩ := jof_e (n := 4) hx (by decide)
    have hk1 : jx_p c 0 13 0 1 = c 1 := jx_p_o (by decide)
    rcases h6 k hk with ⟨p1, p2⟩ | ⟨l, n, p1, p2, p3, p4, p5, p6, p7⟩
    · rw [C_has0 hk (by rw [hk1]; exact p1), jbd_s, if_pos rfl, F_noCell0 hk p2, jbd_s, if_neg (by decide), F_noCell0 hk p2, jbd_s, C_faulty, F_failed, jbd_s, jbd_s, jpp]
      exact ⟨_, _, _, rfl, rfl, g, nr, ra, ri, rw, hI.fl 1⟩
    · rw [C_has1 hk p1 (by rw [hk1]; exact p3), jbd_s, if_neg (by decide), F_noCell1 hk p2 p6, jbd_s, C_spans hk p2 (by rw [hk1]; exact p5), jbd_s]
      have e1 : (1 : Int32).toInt = 1 := by decide
      by_cases hy : 0 ≤ y.toInt ∧ y.toInt < n
      · rw [if_pos (show 0 ≤ y.toInt ∧ 0 ≤ (1 : Int32).toInt ∧ y.toInt + (1 : Int32).toInt ≤ n by rw [e1]; omega), if_neg (by decide), if_pos hy, if_pos (by decide)]
        obtain ⟨i, hi, rfl⟩ := jof_e (n := n) hy (by omega)
        have key : ∀ v : Int32, IV g nr ra ri rw (jx_set (jx_p c 0 13 0) 1 2 (upd (c 1 2) (k * 60 + i) v)) (jx_p (jx_set m 8 40 (upd (m 8 40) (60 * k + i) v)) 8 0 0) := by
          intro v
          refine hI.sht (SHT.w h6 ?_ ?_ ?_ ?_ (fun k' i' hk' hi' e => ?_)) (fun o ho h1' h0' => ?_) (fun k' hk' => ?_) (FK.p (FK.set FK.rf (by decide)) (by decide)) ?_
          · rw [jx_set_k (by decide), hk1]
          · rw [jx_set_k (by decide), hk1]
          · rw [jx_p_k (by decide), jx_set_k (by decide)]
          · rw [jx_p_k (by decide), jx_set_k (by decide)]
          · rw [jx_set_s, jx_p_k (by decide), jx_set_s]
            by_cases e' : k' * 60 + i' = k * 60 + i
            · simp only [upd, e', show 60 * k' + i' = 60 * k + i by omega, if_true]
            · simp only [upd, e', show ¬ 60 * k' + i' = 60 * k + i by omega, if_false]; exact e
          · rw [jx_set_o h1', jx_p_o h0']
          · rw [jx_set_o (by decide), jx_p_k hk']
          · rw [jx_set_o (by decide), jx_p_s, jx_p_s]
        unfold F_X4_write
        rw [jin_n hk (by decide), jck_t, jck_t, jck_t, jr_n _ _ _ (by omega), hk1, p3, jr_n _ _ _ (by omega), p4, jk60, j60k, jin_n (by omega) (by omega), jin_n (by omega) (by omega), show (0 : Int32) = nI 0 from rfl, show (1 : Int32) = nI 1 from rfl]
        simp only [jck_t, jlet_d, jw_n _ _ _ _ (show k * 60 + i < 2 ^ 31 by omega), jw_n _ _ _ _ (show 60 * k + i < 2 ^ 31 by omega), F_refused, jbd_s, hk1]
        by_cases hl0 : l = 0
        · subst hl0
          rw [if_pos rfl, if_neg (nI_ne (by decide) (by decide) (by decide)), if_pos rfl]
          exact ⟨_, _, _, rfl, rfl, g, nr, ra, ri, rw, key _⟩
        · rw [if_neg (nI_ne (by omega) (by decide) hl0), if_neg (nI_ne (by omega) (by decide) hl0)]
          by_cases hl1 : l = 1
          · subst hl1
            rw [if_pos rfl, if_pos rfl]
            exact ⟨_, _, _, rfl, rfl, g, nr, ra, ri, rw, key _⟩
          · rw [if_neg (nI_ne (by omega) (by decide) hl1), if_neg (nI_ne (by omega) (by decide) hl1)]
            exact ⟨_, _, _, rfl, rfl, g, nr, ra, ri, rw, key _⟩
      · rw [if_neg (show ¬ (0 ≤ y.toInt ∧ 0 ≤ (1 : Int32).toInt ∧ y.toInt + (1 : Int32).toInt ≤ n) by rw [e1]; omega), if_pos rfl, if_neg hy, if_neg (by decide), F_noCell1 hk p2 p6, if_neg hy, jbd_s, C_faulty, F_failed, jbd_s, jbd_s, jpp]
        exact ⟨_, _, _, rfl, rfl, g, nr, ra, ri, rw, hI.fl 3⟩
  · rw [if_neg hx, if_pos rfl, if_neg hx, if_neg (show ¬ (1 : Int32) = 0 by decide), F_refused, jbd_s]
    exact ⟨_, _, _, rfl, rfl, g, nr, ra, ri, rw, hI.fl 0⟩
theorem F_lost' (m : jx_M) : F_X6_lost m = some (-9223372036854775808, m) := rfl
theorem F_failedLong' (r : Int32) (m : jx_M) : F_X6_failedLong r m = some (-9223372036854775808, jx_p m 8 0 r) := rfl
theorem st_cell (x y z : Int32) : jSt (F_X5_cell x y z) (F_X6_cell x y z) := by
  intro c m h
  obtain ⟨g, nr, ra, ri, rw, hI⟩ := id h
  obtain ⟨h1, h2, h3, h4, h5, h6, h7, h8⟩ := id hI
  unfold F_X5_cell F_X6_cell
  rw [jlet_d, jlet_d, C_isSheet, F_noSheet, jbd_s, jbd_s]
  by_cases hx : 0 ≤ x.toInt ∧ x.toInt < 4
  · rw [if_pos hx, if_neg (by decide), if_pos hx, if_pos rfl, C_isLane, F_in_c z 2 2 (by decide), jbd_s, jbd_s]
    obtain ⟨k, hk, rfl⟩ := jof_e (n := 4) hx (by decide)
    by_cases hz : 0 ≤ z.toInt ∧ z.toInt < 3
    · rw [if_pos hz, if_neg (show ¬ (1 : Int32) = 0 by decide), if_pos (show 0 ≤ z.toInt ∧ z.toInt < ((2 : Nat) : Int) + 1 by omega), if_neg (show ¬ (1 : Int32) = 0 by decide)]
      obtain ⟨w, hw, rfl⟩ := jof_e (n := 3) hz (by decide)
      have hk1 : jx_p c 0 13 0 1 = c 1 := jx_p_o (by decide)
      have hm1 : ∀ q, q ≠ 0 → jx_p m 8 0 0 8 q = m 8 q := fun q hq => jx_p_k hq
      rw [jin_n hk (by decide), jck_t, jck_t, jr_n _ _ _ (by omega), jr_n _ _ _ (by omega), hm1 38 (by decide), hm1 39 (by decide)]
      rcases h6 k hk with ⟨p1, p2⟩ | ⟨l, n, p1, p2, p3, p4, p5, p6, p7⟩
      · rw [C_row0 hk (by rw [hk1]; exact p1), jbd_s, if_neg (show ¬ (1 : Int32) = 0 by decide), if_neg (show ¬ (1 : Int32) = 0 by decide), jlet_d, p2, if_pos (by decide), F_noCell0 hk (by rw [hm1 38 (by decide)]; exact p2), jbd_s, if_neg (by decide), F_noCell0 hk (by rw [hm1 38 (by decide)]; exact p2), jbd_s, F_failedLong', jbd_s, jpp, jpp]
        exact ⟨_, _, _, rfl, rfl, g, nr, ra, ri, rw, hI.fl 1⟩
      · rw [C_row1 hk p1 (by rw [hk1]; exact p3), jbd_s, p4, p6, if_neg (show ¬ nI n < 0 from fun q => by have := (jlt0 _).mp q; rw [nI_toInt (by omega)] at this; omega)]
        by_cases hw' : nI l = nI w
        · rw [if_pos hw', if_pos rfl, if_pos hw', F_noCell1 hk p2 (by rw [hm1 38 (by decide)]; exact p6), jbd_s, C_spans hk p2 (by rw [hk1]; exact p5), jbd_s]
          have e1 : (1 : Int32).toInt = 1 := by decide
          by_cases hy : 0 ≤ y.toInt ∧ y.toInt < n
          · rw [if_pos (show 0 ≤ y.toInt ∧ 0 ≤ (1 : Int32).toInt ∧ y.toInt + (1 : Int32).toInt ≤ n by rw [e1]; omega), if_neg (by decide), if_pos hy, if_pos rfl, if_pos (by decide)]
            obtain ⟨i, hi, rfl⟩ := jof_e (n := n) hy (by omega)
            unfold F_X4_read
            rw [jk60, j60k, jin_n (by omega) (by omega), jck_t, jin_n (by omega) (by omega), jck_t, jr_n _ _ _ (by omega), jr_n _ _ _ (by omega), jbd_s, hk1, hm1 40 (by decide), p7 i hi]
            exact ⟨_, _, _, rfl, rfl, g, nr, ra, ri, rw, hI.fl 0⟩
          · rw [if_neg (show ¬ (0 ≤ y.toInt ∧ 0 ≤ (1 : Int32).toInt ∧ y.toInt + (1 : Int32).toInt ≤ n) by rw [e1]; omega), if_pos rfl, if_neg hy, if_neg (by decide), F_noCell1 hk p2 (by rw [hm1 38 (by decide)]; exact p6), if_neg hy, jbd_s, F_failedLong', jbd_s, jlet_d, jpp, jpp]
            exact ⟨_, _, _, rfl, rfl, g, nr, ra, ri, rw, hI.fl 3⟩
        · rw [if_neg hw', if_neg (show ¬ (2 : Int32) = 0 by decide), if_neg (show ¬ (2 : Int32) = 0 by decide), if_neg hw', F_failedLong', jbd_s, jlet_d, jpp, jpp]
          exact ⟨_, _, _, rfl, rfl, g, nr, ra, ri, rw, hI.fl 2⟩
    · rw [if_neg hz, if_pos rfl, if_neg (show ¬ (0 ≤ z.toInt ∧ z.toInt < ((2 : Nat) : Int) + 1) by omega), if_pos rfl, F_lost', jbd_s]
      exact ⟨_, _, _, rfl, rfl, g, nr, ra, ri, rw, hI.fl 0⟩
  · rw [if_neg hx, if_pos rfl, if_neg hx, if_neg (show ¬ (1 : Int32) = 0 by decide), F_lost', jbd_s]
    exact ⟨_, _, _, rfl, rfl, g, nr, ra, ri, rw, hI.fl 0⟩
theorem L_copyA {k i n : Nat} (h1 : 60 * k + i + n ≤ 240) (hn : n ≤ 60) (y3 y4 : Int32) (kk : jx_M → Option (Int32 × jx_M)) (f0 : Nat → Int32) : ∀ q f j m, j + q = n → q < f → m 8 40 = f0 → (∀ x, x < j → m 8 41 x = f0 (60 * k + i + x)) → ∃ m', L_X6_copy_107 (nI k) (nI i) y3 y4 (nI n) kk f (nI j) m = kk m' ∧ FK [41] m m' ∧ ∀ x, x < n → m' 8 41 x = f0 (60 * k + i + x) := by
  intro q
  induction q with
  | zero =>
    intro f j m hj hf h40 h0
    obtain ⟨f, rfl⟩ : ∃ q, f = q + 1 := ⟨f - 1, by omega⟩
    refine ⟨m, ?_, FK.rf, fun x hx => h0 x (by omega)⟩
    rw [L_X6_copy_107.eq_2, if_pos (nI_le (by omega) (by omega))]
  | succ q ih =>
    intro f j m hj hf h40 h0
    obtain ⟨f, rfl⟩ : ∃ q, f = q + 1 := ⟨f - 1, by omega⟩
    rw [L_X6_copy_107.eq_2, if_neg (nI_ge (by omega) (by omega)), j60k, nI_add, jin_n (by omega) (by omega), jck_t, jin_n (by omega) (by omega), jck_t, jr_n _ _ _ (by omega), jw_n _ _ _ _ (by omega), jlet_d, jlet_d, nI_1]
    obtain ⟨m', a1, a2, a3⟩ := ih f (j + 1) (jx_set m 8 41 (upd (m 8 41) j (m 8 40 (60 * k + i + j)))) (by omega) (by omega) (by rw [jx_set_k (by decide)]; exact h40) (fun x hx => by
      rw [jx_set_s]
      by_cases e : x = j
      · subst e; simp only [upd, if_true]; rw [h40]
      · simp only [upd, e, if_false]; exact h0 x (by omega))
    exact ⟨m', a1, FK.tr (FK.set FK.rf (by decide)) a2, a3⟩
theorem L_copyB {k i n : Nat} (h1 : 60 * k + i + n ≤ 240) (hn : n ≤ 60) (kk : jx_M → Option (Int32 × jx_M)) (f0 fs : Nat → Int32) : ∀ q f j m, j + q = n → q < f → m 8 41 = fs → (∀ x, m 8 40 x = if 60 * k + i ≤ x ∧ x < 60 * k + i + j then fs (x - (60 * k + i)) else f0 x) → ∃ m', L_X6_copy_144 (nI k) (nI i) (nI n) kk f (nI j) m = kk m' ∧ FK [40] m m' ∧ ∀ x, m' 8 40 x = if 60 * k + i ≤ x ∧ x < 60 * k + i + n then fs (x - (60 * k + i)) else f0 x := by
  intro q
  induction q with
  | zero =>
    intro f j m hj hf h41 h0
    obtain ⟨f, rfl⟩ : ∃ q, f = q + 1 := ⟨f - 1, by omega⟩
    refine ⟨m, ?_, FK.rf, fun x => ?_⟩
    · rw [L_X6_copy_144.eq_2, if_pos (nI_le (by omega) (by omega))]
    · rw [h0 x, show j = n by omega]
  | succ q ih =>
    intro f j m hj hf h41 h0
    obtain ⟨f, rfl⟩ : ∃ q, f = q + 1 := ⟨f - 1, by omega⟩
    rw [L_X6_copy_144.eq_2, if_neg (nI_ge (by omega) (by omega)), j60k, nI_add, jin_n (by omega) (by omega), jck_t, jin_n (by omega) (by omega), jck_t, jr_n _ _ _ (by omega), jw_n _ _ _ _ (by omega), jlet_d, jlet_d, nI_1]
    obtain ⟨m', a1, a2, a3⟩ := ih f (j + 1) (jx_set m 8 40 (upd (m 8 40) (60 * k + i + j) (m 8 41 j))) (by omega) (by omega) (by rw [jx_set_k (by decide)]; exact h41) (fun x => by
      rw [jx_set_s]
      by_cases e : x = 60 * k + i + j
      · subst e
        simp only [upd, if_true]
        rw [if_pos ⟨by omega, by omega⟩, h41, show 60 * k + i + j - (60 * k + i) = j by omega]
      · simp only [upd, e, if_false]
        rw [h0 x]
        by_cases e2 : 60 * k + i ≤ x ∧ x < 60 * k + i + j
        · rw [if_pos e2, if_pos ⟨by omega, by omega⟩]
        · rw [if_neg e2, if_neg (by omega)])
    exact ⟨m', a1, FK.tr (FK.set FK.rf (by decide)) a2, a3⟩
theorem st_copy (x y z u v : Int32) : jSt (F_X5_copy x y z u v) (F_X6_copy x y z u v) := by
  intro c m h
  obtain ⟨g, nr, ra, ri, rw, hI⟩ := id h
  obtain ⟨h1, h2, h3, h4, h5, h6, h7, h8⟩ := id hI
  unfold F_X5_copy F_X6_copy
  rw [jlet_d, C_isSheet, F_noSheet, jbd_s, jbd_s]
  by_cases hx : 0 ≤ x.toInt ∧ x.toInt < 4
  · rw [if_pos hx, if_neg (by decide), if_pos hx, if_pos rfl, C_isSheet, F_noSheet, jbd_s, jbd_s]
    obtain ⟨k, hk, rfl⟩ := jof_e (n := 4) hx (by decide)
    by_cases hz : 0 ≤ z.toInt ∧ z.toInt < 4
    · rw [if_pos hz, if_neg (show ¬ (1 : Int32) = 0 by decide), if_pos hz, if_pos rfl]
      obtain ⟨w, hw, rfl⟩ := jof_e (n := 4) hz (by decide)
      have hk1 : jx_p c 0 13 0 1 = c 1 := jx_p_o (by decide)
      rw [jin_n hk (by decide), jck_t, jr_n _ _ _ (by omega)]
      rcases h6 k hk with ⟨p1, p2⟩ | ⟨l, n, p1, p2, p3, p4, p5, p6, p7⟩
      · rw [C_has0 hk (by rw [hk1]; exact p1), jbd_s, if_pos rfl, p2, if_pos (by decide), C_faulty, F_failed, jbd_s, jbd_s, jpp]
        exact ⟨_, _, _, rfl, rfl, g, nr, ra, ri, rw, hI.fl 1⟩
      · rw [C_has1 hk p1 (by rw [hk1]; exact p3), jbd_s, if_neg (show ¬ (1 : Int32) = 0 by decide), p6, if_neg (show ¬ nI n < 0 from fun q => by have := (jlt0 _).mp q; rw [nI_toInt (by omega)] at this; omega), jin_n hw (by decide), jck_t, jr_n _ _ _ (by omega)]
        rcases h6 w hw with ⟨q1, q2⟩ | ⟨l2, n2, q1, q2, q3, q4, q5, q6, q7⟩
        · rw [C_has0 hw (by rw [hk1]; exact q1), jbd_s, if_pos rfl, q2, if_neg (by decide), C_faulty, F_failed, jbd_s, jbd_s, jpp]
          exact ⟨_, _, _, rfl, rfl, g, nr, ra, ri, rw, hI.fl 1⟩
        · rw [C_has1 hw q1 (by rw [hk1]; exact q3), jbd_s, if_neg (show ¬ (1 : Int32) = 0 by decide), q6, if_pos ((jge0 _).mpr (by rw [nI_toInt (by omega)]; omega))]
          simp only [jin_n hk (show 4 < 2 ^ 31 by decide), jin_n hw (show 4 < 2 ^ 31 by decide), jck_t, jr_n _ _ _ (show k < 2 ^ 31 by omega), jr_n _ _ _ (show w < 2 ^ 31 by omega)]
          rw [hk1, p3, q3, p4, q4]
          by_cases hl : nI l = nI l2
          · rw [if_pos hl, if_pos hl, C_spans hk p2 (by rw [hk1]; exact p5), jbd_s, F_beyond p2 y v.toInt64 (by rw [j64_toInt]; have := Int32.toInt_lt v; omega), jbd_s, j64_toInt]
            by_cases ha : 0 ≤ y.toInt ∧ 0 ≤ v.toInt ∧ y.toInt + v.toInt ≤ n
            · rw [if_pos ha, if_neg (show ¬ (1 : Int32) = 0 by decide), if_pos ha, if_pos rfl, C_spans hw q2 (by rw [hk1]; exact q5), jbd_s, q6, F_beyond q2 u v.toInt64 (by rw [j64_toInt]; have := Int32.toInt_lt v; omega), jbd_s, j64_toInt]
              by_cases hb : 0 ≤ u.toInt ∧ 0 ≤ v.toInt ∧ u.toInt + v.toInt ≤ n2
              · rw [if_pos hb, if_neg (show ¬ (1 : Int32) = 0 by decide), if_pos hb, if_pos rfl]
                obtain ⟨i, hi, rfl⟩ := jof_e (x := y) (n := 61) ⟨by omega, by omega⟩ (by decide)
                obtain ⟨i2, hi2, rfl⟩ := jof_e (x := u) (n := 61) ⟨by omega, by omega⟩ (by decide)
                obtain ⟨b, hb', rfl⟩ := jof_e (x := v) (n := 61) ⟨by omega, by omega⟩ (by decide)
                rw [nI_toInt (by omega), nI_toInt (by omega)] at ha hb
                unfold F_X4_move
                rw [jk60, jk60]
                have hcp : jcp (nI (k * 60 + i)) (nI (w * 60 + i2)) (nI b) 240 240 = true := by
                  unfold jcp
                  rw [nI_toInt (by omega), nI_toInt (by omega), nI_toInt (by omega)]
                  simp only [Bool.and_eq_true, decide_eq_true_eq]
                  omega
                rw [hcp, jck_t, jlet_d, jbd_s]
                obtain ⟨m1, a1, a2, a3⟩ := L_copyA (k := k) (i := i) (n := b) (by omega) (by omega) (nI w) (nI i2) (fun M_9 => L_X6_copy_144 (nI w) (nI i2) (nI b) (fun M_11 => jbd (F_X6_refused (nI b) M_11) (fun r_8 M_12 => some (r_8, M_12))) jfu 0 M_9) (m 8 40) b jfu 0 m (by omega) (by unfold jfu; omega) rfl (fun x hx => by omega)
                obtain ⟨m2, b1, b2, b3⟩ := L_copyB (k := w) (i := i2) (n := b) (by omega) (by omega) (fun M_11 => jbd (F_X6_refused (nI b) M_11) (fun r_8 M_12 => some (r_8, M_12))) (m 8 40) (m1 8 41) b jfu 0 m1 (by omega) (by unfold jfu; omega) rfl (fun x => by
                  rw [if_neg (by omega), a2.at 40 (by decide)])
                rw [show (0 : Int32) = nI 0 from rfl]
                rw [show (nI 0) = (0 : Int32) from rfl] at *
                rw [a1, b1, F_refused, jbd_s]
                have hC : nI b = nI b := rfl
                refine ⟨_, _, _, rfl, rfl, g, nr, ra, ri, rw, hI.sht (SHT.w h6 ?_ ?_ ?_ ?_ (fun k' i' hk' hi' e => ?_)) (fun o ho h1' h0' => ?_) (fun k' hk' => ?_) (FK.p (FK.tr (a2.mono (by decide)) (b2.mono (by decide))) (by decide)) ?_⟩
                · unfold jx_cp; rw [jx_set_k (by decide), hk1]
                · unfold jx_cp; rw [jx_set_k (by decide), hk1]
                · rw [jx_p_k (by decide), b2.at 38 (by decide), a2.at 38 (by decide)]
                · rw [jx_p_k (by decide), b2.at 39 (by decide), a2.at 39 (by decide)]
                · unfold jx_cp
                  rw [jx_set_s, jx_p_k (by decide), b3, hk1, nI_cl (by omega), nI_cl (by omega), nI_cl (by omega)]
                  unfold va_cpy
                  by_cases e' : w * 60 + i2 ≤ k' * 60 + i' ∧ k' * 60 + i' < w * 60 + i2 + b
                  · rw [if_pos e', if_pos ⟨by omega, by omega⟩, a3 _ (by omega)]
                    have := p7 (i + (k' * 60 + i' - (w * 60 + i2))) (by omega)
                    rw [show k * 60 + i + (k' * 60 + i' - (w * 60 + i2)) = k * 60 + (i + (k' * 60 + i' - (w * 60 + i2))) by omega, this]
                    congr 1
                    omega
                  · rw [if_neg e', if_neg (by omega)]; exact e
                · unfold jx_cp; rw [jx_set_o h1', jx_p_o h0']
                · unfold jx_cp; rw [jx_set_o (by decide), jx_p_k hk']
                · unfold jx_cp; rw [jx_set_o (by decide), jx_p_s, jx_p_s]
              · rw [if_neg hb, if_pos rfl, if_neg hb, if_neg (show ¬ (1 : Int32) = 0 by decide), C_faulty, F_failed, jbd_s, jbd_s, jpp]
                exact ⟨_, _, _, rfl, rfl, g, nr, ra, ri, rw, hI.fl 3⟩
            · rw [if_neg ha, if_pos rfl, if_neg ha, if_neg (show ¬ (1 : Int32) = 0 by decide), C_faulty, F_failed, jbd_s, jbd_s, jpp]
              exact ⟨_, _, _, rfl, rfl, g, nr, ra, ri, rw, hI.fl 3⟩
          · rw [if_neg hl, if_neg hl, C_faulty, F_failed, jbd_s, jbd_s, jpp]
            exact ⟨_, _, _, rfl, rfl, g, nr, ra, ri, rw, hI.fl 2⟩
    · rw [if_neg hz, if_pos rfl, if_neg hz, if_neg (show ¬ (1 : Int32) = 0 by decide), F_refused, jbd_s]
      exact ⟨_, _, _, rfl, rfl, g, nr, ra, ri, rw, hI.fl 0⟩
  · rw [if_neg hx, if_pos rfl, if_neg hx, if_neg (show ¬ (1 : Int32) = 0 by decide), F_refused, jbd_s]
    exact ⟨_, _, _, rfl, rfl, g, nr, ra, ri, rw, hI.fl 0⟩
