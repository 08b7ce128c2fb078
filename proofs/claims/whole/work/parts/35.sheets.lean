/-! ===== sheets ===== -/
abbrev KSH : List Nat := [0, 38, 39, 40, 11, 12, 13, 14, 15, 16, 17, 18, 23, 24, 25, 26, 27, 28, 29, 30, 31, 32, 33, 41]
theorem IV.sht {g : sG} {nr : Nat} {ra ri : Nat → Nat} {rw : Nat → Int32} {c m c' m' : jx_M} (h : IV g nr ra ri rw c m) (hS : SHT c' m') (hc : ∀ o, o < 6 → o ≠ 1 → o ≠ 0 → c' o = c o) (hc0 : ∀ k, k ≠ 13 → c' 0 k = c 0 k) (hf : FK KSH m m') (h13 : c' 0 13 0 = m' 8 0 0) : IV g nr ra ri rw c' m' := by
  obtain ⟨h1, h2, h3, h4, h5, h6, h7, h8⟩ := h
  refine ⟨h1, ?_, h3.fr (hc 2 (by decide) (by decide) (by decide)), h4.fr (hc 3 (by decide) (by decide) (by decide)), ?_, hS, ⟨h13, ?_⟩, ?_⟩
  · unfold RM at h2 ⊢
    rw [hf.at 1 (by decide), hf.at 2 (by decide), hf.at 3 (by decide), hf.at 4 (by decide), hf.at 5 (by decide), hf.at 6 (by decide), hf.at 7 (by decide), hf.at 8 (by decide), hf.at 9 (by decide), hf.at 10 (by decide), hf.at 19 (by decide), hf.at 20 (by decide), hf.at 21 (by decide), hf.at 22 (by decide)]
    exact h2
  · unfold RDG at h5 ⊢
    rw [hc 4 (by decide) (by decide) (by decide), hf.at 34 (by decide), hf.at 35 (by decide), hf.at 36 (by decide), hf.at 37 (by decide)]; exact h5
  · rw [hc0 14 (by decide), hf.at 42 (by decide)]; exact h7.2
  · unfold CCH RR at h8 ⊢
    rw [hc0 8 (by decide), hc0 9 (by decide), hc0 10 (by decide), hc0 7 (by decide), hc0 11 (by decide), hc0 12 (by decide), hc 5 (by decide) (by decide) (by decide)]; exact h8
theorem jk60 (k i : Nat) : nI k * 60 + nI i = nI (k * 60 + i) := by rw [show (60 : Int32) = nI 60 from rfl, pk_mul, nI_add]
theorem j60k (k i : Nat) : 60 * nI k + nI i = nI (60 * k + i) := by rw [show (60 : Int32) = nI 60 from rfl, pk_mul, nI_add]
theorem nI_n9 {l : Nat} (h : l < 1000) : ¬ nI l = -9 := gI_n9 (p := l) (by omega)
theorem C_has0 {k : Nat} (hk : k < 4) {c : jx_M} (h : c 1 0 k = -9) : F_X4_has (nI k) c = some (0, c) := by
  unfold F_X4_has
  rw [jin_n hk (by decide), jck_t, jr_n _ _ _ (by omega), if_pos h]
theorem C_has1 {k l : Nat} (hk : k < 4) (hl : l < 3) {c : jx_M} (h : c 1 0 k = nI l) : F_X4_has (nI k) c = some (1, c) := by
  unfold F_X4_has
  rw [jin_n hk (by decide), jck_t, jr_n _ _ _ (by omega), if_neg (by rw [h]; exact nI_n9 (by omega))]
theorem C_row0 {k : Nat} (hk : k < 4) {c : jx_M} (h : c 1 0 k = -9) (y : Int32) : F_X5_faultOfRow (nI k) y c = some (1, c) := by
  unfold F_X5_faultOfRow
  rw [C_has0 hk h, jbd_s, if_pos rfl]
theorem C_row1 {k l : Nat} (hk : k < 4) (hl : l < 3) {c : jx_M} (h : c 1 0 k = nI l) (y : Int32) : F_X5_faultOfRow (nI k) y c = some (if nI l = y then 0 else 2, c) := by
  unfold F_X5_faultOfRow
  rw [C_has1 hk hl h, jbd_s, if_neg (by decide), jin_n hk (by decide), jck_t, jr_n _ _ _ (by omega), h]
  split <;> rfl
theorem C_spans {k n : Nat} (hk : k < 4) (hn : n ≤ 60) {c : jx_M} (h : c 1 1 k = nI n) (i x : Int32) : F_X4_spans (nI k) i x c = some (if 0 ≤ i.toInt ∧ 0 ≤ x.toInt ∧ i.toInt + x.toInt ≤ n then 1 else 0, c) := by
  unfold F_X4_spans
  rw [jin_n hk (by decide), jck_t, jck_t, jr_n _ _ _ (by omega), h]
  by_cases h1 : i < 0
  · rw [if_pos h1, if_neg (by have := (jlt0 i).mp h1; omega)]
  · rw [if_neg h1]
    have h1' : ¬ i.toInt < 0 := fun z => h1 ((jlt0 i).mpr z)
    by_cases h2 : nI n < i
    · have : (n : Int) < i.toInt := by rw [Int32.lt_iff_toInt_lt, nI_toInt (by omega)] at h2; exact h2
      rw [if_pos h2, if_neg (by
        intro z
        have := z.2.1
        have := z.2.2
        omega)]
    · rw [if_neg h2]
      have h2' : i.toInt ≤ (n : Int) := by
        rw [Int32.lt_iff_toInt_lt, nI_toInt (by omega)] at h2; omega
      by_cases h3 : x < 0
      · rw [if_pos h3, if_neg (by have := (jlt0 x).mp h3; omega)]
      · rw [if_neg h3]
        have h3' : ¬ x.toInt < 0 := fun z => h3 ((jlt0 x).mpr z)
        obtain ⟨j, hj, rfl⟩ := jof_e (x := i) (n := n + 1) ⟨by omega, by omega⟩ (by omega)
        rw [nI_toInt (by omega)] at h2' ⊢
        rw [pk_sub (by omega)]
        by_cases h4 : nI (n - j) < x
        · rw [if_pos h4, if_neg (by
            rw [Int32.lt_iff_toInt_lt, nI_toInt (by omega)] at h4
            omega)]
        · rw [if_neg h4, if_pos (by
            rw [Int32.lt_iff_toInt_lt, nI_toInt (by omega)] at h4
            omega)]
theorem F_beyond {n : Nat} (hn : n ≤ 60) (i : Int32) (x : Int64) (hx : x.toInt < 2 ^ 40) (M : jx_M) : F_X6_isBeyond i x (nI n) M = some (if 0 ≤ i.toInt ∧ 0 ≤ x.toInt ∧ i.toInt + x.toInt ≤ n then 0 else 1, M) := by
  unfold F_X6_isBeyond
  simp only [lg_cmp_lt, lg_cmp_le]
  by_cases h1 : i < 0
  · rw [if_pos h1, if_neg (by have := (jlt0 i).mp h1; omega)]
  · rw [if_neg h1]
    have h1' : ¬ i.toInt < 0 := fun z => h1 ((jlt0 i).mpr z)
    have e0 : (0 : Int64).toInt = 0 := by decide
    by_cases h2 : x < 0
    · rw [if_pos h2, if_neg (by rw [Int64.lt_iff_toInt_lt, e0] at h2; omega)]
    · rw [if_neg h2]
      obtain ⟨y, hy, rfl⟩ := pk_lOf h2
      have hil : i.toInt < 2 ^ 31 := Int32.toInt_lt i
      obtain ⟨j, hj, rfl⟩ := nI_of h1
      rw [pk_lT hy] at hx ⊢
      rw [nI_toInt hj, nI_l hj, nI_l (by omega), lN_add]
      have hjy : j + y < 2 ^ 63 := by omega
      by_cases h3 : lN (j + y) ≤ lN n
      · rw [if_pos h3, if_pos (by
          have := (pk_lLE hjy (by omega)).mp h3
          omega)]
      · rw [if_neg h3, if_neg (by
          intro z
          apply h3
          apply (pk_lLE hjy (by omega)).mpr
          omega)]
/-- the lanes of both as one asks -/
theorem L_layC {k n : Nat} (hk : k < 4) (hn : n ≤ 60) (kk : jx_M → Option (Unit × jx_M)) : ∀ q f i c, i + q = n → q < f → (∀ j, j < i → c 1 2 (k * 60 + j) = 0) → ∃ c', L_X4_lay_17 (nI k) (nI n) kk f (nI i) c = kk c' ∧ FO 1 [2] c c' ∧ (∀ j, j < n → c' 1 2 (k * 60 + j) = 0) ∧ ∀ j, (j < k * 60 ∨ k * 60 + n ≤ j) → c' 1 2 j = c 1 2 j := by
  intro q
  induction q with
  | zero =>
    intro f i c hi hf h0
    obtain ⟨f, rfl⟩ : ∃ q, f = q + 1 := ⟨f - 1, by omega⟩
    refine ⟨c, ?_, FO.rf, fun j hj => h0 j (by omega), fun _ _ => rfl⟩
    rw [L_X4_lay_17.eq_2, if_pos (nI_le (by omega) (by omega))]
  | succ q ih =>
    intro f i c hi hf h0
    obtain ⟨f, rfl⟩ : ∃ q, f = q + 1 := ⟨f - 1, by omega⟩
    rw [L_X4_lay_17.eq_2, if_neg (nI_ge (by omega) (by omega)), jk60, jin_n (by omega) (by omega), jck_t, jw_n _ _ _ _ (by omega), jlet_d, jlet_d, nI_1]
    obtain ⟨c', a1, a2, a3, a4⟩ := ih f (i + 1) (jx_set c 1 2 (upd (c 1 2) (k * 60 + i) 0)) (by omega) (by omega) (fun j hj => by
      rw [jx_set_s]
      by_cases e : j = i
      · subst e; simp [upd]
      · simp only [upd, show ¬ k * 60 + j = k * 60 + i by omega, if_false]; exact h0 j (by omega))
    refine ⟨c', a1, FO.tr (FO.set FO.rf (by decide)) a2, a3, fun j hj => ?_⟩
    rw [a4 j hj, jx_set_s]
    simp [upd, show ¬ j = k * 60 + i by omega]
theorem L_layM {k n : Nat} (hk : k < 4) (hn : n ≤ 60) (kk : jx_M → Option (Int32 × jx_M)) : ∀ q f i c, i + q = n → q < f → (∀ j, j < i → c 8 40 (60 * k + j) = 0) → ∃ c', L_X6_sheet_65 (nI k) (nI n) kk f (nI i) c = kk c' ∧ FK [40] c c' ∧ (∀ j, j < n → c' 8 40 (60 * k + j) = 0) ∧ ∀ j, (j < 60 * k ∨ 60 * k + n ≤ j) → c' 8 40 j = c 8 40 j := by
  intro q
  induction q with
  | zero =>
    intro f i c hi hf h0
    obtain ⟨f, rfl⟩ : ∃ q, f = q + 1 := ⟨f - 1, by omega⟩
    refine ⟨c, ?_, FK.rf, fun j hj => h0 j (by omega), fun _ _ => rfl⟩
    rw [L_X6_sheet_65.eq_2, if_pos (nI_le (by omega) (by omega))]
  | succ q ih =>
    intro f i c hi hf h0
    obtain ⟨f, rfl⟩ : ∃ q, f = q + 1 := ⟨f - 1, by omega⟩
    rw [L_X6_sheet_65.eq_2, if_neg (nI_ge (by omega) (by omega)), j60k, jin_n (by omega) (by omega), jck_t, jw_n _ _ _ _ (by omega), jlet_d, jlet_d, nI_1]
    obtain ⟨c', a1, a2, a3, a4⟩ := ih f (i + 1) (jx_set c 8 40 (upd (c 8 40) (60 * k + i) 0)) (by omega) (by omega) (fun j hj => by
      rw [jx_set_s]
      by_cases e : j = i
      · subst e; simp [upd]
      · simp only [upd, show ¬ 60 * k + j = 60 * k + i by omega, if_false]; exact h0 j (by omega))
    refine ⟨c', a1, FK.tr (FK.set FK.rf (by decide)) a2, a3, fun j hj => ?_⟩
    rw [a4 j hj, jx_set_s]
    simp [upd, show ¬ j = 60 * k + i by omega]
theorem st_sheet (x y z : Int32) : jSt (F_X5_sheet x y z) (F_X6_sheet x y z) := by
  intro c m h
  obtain ⟨g, nr, ra, ri, rw, hI⟩ := id h
  obtain ⟨h1, h2, h3, h4, h5, h6, h7, h8⟩ := id hI
  unfold F_X5_sheet F_X6_sheet
  rw [jlet_d, C_isSheet, F_noSheet, jbd_s, jbd_s]
  by_cases hx : 0 ≤ x.toInt ∧ x.toInt < 4
  · rw [if_pos hx, if_neg (by decide), if_pos hx, if_pos rfl, C_isLane, F_in_c y 2 2 (by decide), jbd_s, jbd_s]
    by_cases hy : 0 ≤ y.toInt ∧ y.toInt < 3
    · rw [if_pos hy, if_neg (show ¬ (1 : Int32) = 0 by decide), if_pos (show 0 ≤ y.toInt ∧ y.toInt < ((2 : Nat) : Int) + 1 by omega), if_neg (show ¬ (1 : Int32) = 0 by decide)]
      obtain ⟨k, hk, rfl⟩ := jof_e (n := 4) hx (by decide)
      obtain ⟨l, hl, rfl⟩ := jof_e (n := 3) hy (by decide)
      by_cases hz : z ≤ 60
      · rw [if_pos hz, if_pos hz]
        by_cases hz0 : 0 ≤ z
        · rw [if_pos hz0, if_pos hz0]
          obtain ⟨n, hn, rfl⟩ := jof_e (x := z) (n := 61) ⟨(jge0 z).mp hz0, by
            have := (jleN' z (n := 60) (by decide)).mp hz; omega⟩ (by decide)
          unfold F_X4_lay
          rw [jin_n hk (by decide), jck_t, jw_n _ _ _ _ (by omega), jlet_d, jck_t, jw_n _ _ _ _ (by omega), jlet_d, jck_t, jw_n _ _ _ _ (by omega), jlet_d, jck_t, jw_n _ _ _ _ (by omega), jlet_d]
          simp (disch := decide) only [jx_set_k, jx_p_o]
          obtain ⟨c', a1, a2, a3, a4⟩ := L_layC hk (show n ≤ 60 by omega) (fun M_4 => some ((), M_4)) n jfu 0 (jx_set (jx_set (jx_p c 0 13 0) 1 0 (upd (c 1 0) k (nI l))) 1 1 (upd (c 1 1) k (nI n))) (by omega) (by unfold jfu; omega) (fun j hj => by omega)
          obtain ⟨m', b1, b2, b3, b4⟩ := L_layM hk (show n ≤ 60 by omega) (fun M_7 => jbd (F_X6_refused 1 M_7) (fun r_4 M_8 => some (r_4, M_8))) n jfu 0 (jx_set (jx_set m 8 38 (upd (m 8 38) k (nI n))) 8 39 (upd (m 8 39) k (nI l))) (by omega) (by unfold jfu; omega) (fun j hj => by omega)
          rw [show (0 : Int32) = nI 0 from rfl] at *
          rw [a1, jbd_s, b1, F_refused, jbd_s]
          refine ⟨_, _, _, rfl, rfl, g, nr, ra, ri, rw, hI.sht (fun k' hk' => ?_) (fun o ho h1' h0' => ?_) (fun k' hk' => ?_) ?_ ?_⟩
          · rw [jx_p_k (by decide), jx_p_k (by decide), jx_p_k (by decide), a2.at 0 (by decide), a2.at 1 (by decide), b2.at 38 (by decide), b2.at 39 (by decide)]
            simp (disch := decide) only [jx_set_k, jx_set_s]
            by_cases e : k' = k
            · subst e
              refine Or.inr ⟨l, n, hl, by omega, by simp [upd], by simp [upd], by simp [upd], by simp [upd], fun i hi => ?_⟩
              rw [a3 i hi, b3 i hi]
            · rcases h6 k' hk' with ⟨p1, p2⟩ | ⟨l', n', p1, p2, p3, p4, p5, p6, p7⟩
              · exact Or.inl ⟨by simp only [upd, e, if_false]; exact p1, by simp only [upd, e, if_false]; exact p2⟩
              · refine Or.inr ⟨l', n', p1, p2, by simp only [upd, e, if_false]; exact p3, by simp only [upd, e, if_false]; exact p4, by simp only [upd, e, if_false]; exact p5, by simp only [upd, e, if_false]; exact p6, fun i hi => ?_⟩
                rw [a4 _ (by omega), b4 _ (by omega)]
                simp (disch := decide) only [jx_set_k, jx_p_o]
                exact p7 i hi
          · rw [a2.ob o h1', jx_set_o h1', jx_set_o h1', jx_p_o h0']
          · rw [a2.ob 0 (by decide), jx_set_o (by decide), jx_set_o (by decide), jx_p_k hk']
          · exact (FK.p (FK.tr (FK.set (FK.set FK.rf (by decide)) (by decide)) (b2.mono (by decide))) (by decide))
          · rw [a2.ob 0 (by decide), jx_set_o (by decide), jx_set_o (by decide), jx_p_s, jx_p_s]; rfl
        · rw [if_neg hz0, if_neg hz0, C_faulty, F_failed, jbd_s, jbd_s, jpp]
          exact ⟨_, _, _, rfl, rfl, g, nr, ra, ri, rw, hI.fl 4⟩
      · rw [if_neg hz, if_neg hz, F_refused, jbd_s]
        exact ⟨_, _, _, rfl, rfl, g, nr, ra, ri, rw, hI.fl 0⟩
    · rw [if_neg hy, if_pos rfl, if_neg (show ¬ (0 ≤ y.toInt ∧ y.toInt < ((2 : Nat) : Int) + 1) by omega), if_pos rfl, F_refused, jbd_s]
      exact ⟨_, _, _, rfl, rfl, g, nr, ra, ri, rw, hI.fl 0⟩
  · rw [if_neg hx, if_pos rfl, if_neg hx, if_neg (by decide), F_refused, jbd_s]
    exact ⟨_, _, _, rfl, rfl, g, nr, ra, ri, rw, hI.fl 0⟩
