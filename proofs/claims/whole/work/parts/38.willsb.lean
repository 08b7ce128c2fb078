/-! ===== the model keeps its own wills, takes those told, and takes its own again ===== -/
theorem L_emA {w : Nat} (hw : w ≤ 6) (y1 y2 : Int32) (kk : jx_M → Option (Int32 × jx_M)) (fa fp fd : Nat → Int32) : ∀ q f j M, j + q = w → q < f → M 8 20 = fa → M 8 21 = fp → M 8 22 = fd → (∀ x, x < j → M 8 31 x = fa x ∧ M 8 32 x = fp x ∧ M 8 33 x = fd x) → ∃ M', L_X6_emptiesBy_8 y1 y2 (nI w) kk f (nI j) M = kk M' ∧ FK [31, 32, 33] M M' ∧ ∀ x, x < w → M' 8 31 x = fa x ∧ M' 8 32 x = fp x ∧ M' 8 33 x = fd x := by
  intro q
  induction q with
  | zero =>
    intro f j M hj hf ha hp hd h
    obtain ⟨f, rfl⟩ : ∃ q, f = q + 1 := ⟨f - 1, by omega⟩
    refine ⟨M, ?_, FK.rf, fun x hx => h x (by omega)⟩
    rw [L_X6_emptiesBy_8.eq_2, if_pos (nI_le (by omega) (by omega))]
  | succ q ih =>
    intro f j M hj hf ha hp hd h
    obtain ⟨f, rfl⟩ : ∃ q, f = q + 1 := ⟨f - 1, by omega⟩
    rw [L_X6_emptiesBy_8.eq_2, if_neg (nI_ge (by omega) (by omega)), jin_n (show j < 7 by omega) (by omega), jin_n (show j < 6 by omega) (by omega)]
    simp only [jck_t, jlet_d, jr_n _ _ _ (show j < 2 ^ 31 by omega), jw_n _ _ _ _ (show j < 2 ^ 31 by omega), nI_1]
    simp (disch := decide) only [jx_set_k]
    obtain ⟨M', a1, a2, a3⟩ := ih f (j + 1) (jx_set (jx_set (jx_set M 8 31 (upd (M 8 31) j (M 8 20 j))) 8 32 (upd (M 8 32) j (M 8 21 j))) 8 33 (upd (M 8 33) j (M 8 22 j))) (by omega) (by omega) (by simp (disch := decide) only [jx_set_k]; exact ha) (by simp (disch := decide) only [jx_set_k]; exact hp) (by simp (disch := decide) only [jx_set_k]; exact hd) (fun x hx => by
      simp (disch := decide) only [jx_set_k, jx_set_s]
      by_cases e : x = j
      · subst e; simp only [upd, if_true]; rw [ha, hp, hd]; exact ⟨rfl, rfl, rfl⟩
      · simp only [upd, e, if_false]; exact h x (by omega))
    exact ⟨M', a1, FK.tr (FK.set (FK.set (FK.set FK.rf (by decide)) (by decide)) (by decide)) a2, a3⟩
theorem L_emB {s n : Nat} (hn : n ≤ 6) (hs : s + 3 * n ≤ 240) (y3 : Int32) {V : Nat → Int32} (kk : jx_M → Option (Int32 × jx_M)) : ∀ q f j M, j + q = n → q < f → (∀ x, x < 3 * n → M 8 40 (s + x) = V x) → (∀ x, x < j → M 8 20 x = V (3 * x) ∧ M 8 21 x = V (3 * x + 1) ∧ M 8 22 x = V (3 * x + 2)) → ∃ M', L_X6_emptiesBy_65 (nI s) (nI n) y3 kk f (nI j) M = kk M' ∧ FK [20, 21, 22] M M' ∧ ∀ x, x < n → M' 8 20 x = V (3 * x) ∧ M' 8 21 x = V (3 * x + 1) ∧ M' 8 22 x = V (3 * x + 2) := by
  intro q
  induction q with
  | zero =>
    intro f j M hj hf hV h
    obtain ⟨f, rfl⟩ : ∃ q, f = q + 1 := ⟨f - 1, by omega⟩
    refine ⟨M, ?_, FK.rf, fun x hx => h x (by omega)⟩
    rw [L_X6_emptiesBy_65.eq_2, if_pos (nI_le (by omega) (by omega))]
  | succ q ih =>
    intro f j M hj hf hV h
    obtain ⟨f, rfl⟩ : ∃ q, f = q + 1 := ⟨f - 1, by omega⟩
    rw [L_X6_emptiesBy_65.eq_2, if_neg (nI_ge (by omega) (by omega)), jk3, nI_1, nI_2, jin_n (show j < 7 by omega) (by omega), jin_n (show s + 3 * j < 240 by omega) (by omega), jin_n (show s + 3 * j + 1 < 240 by omega) (by omega), jin_n (show s + 3 * j + 2 < 240 by omega) (by omega)]
    simp only [jck_t, jlet_d, jr_n _ _ _ (show s + 3 * j < 2 ^ 31 by omega), jr_n _ _ _ (show s + 3 * j + 1 < 2 ^ 31 by omega), jr_n _ _ _ (show s + 3 * j + 2 < 2 ^ 31 by omega), jw_n _ _ _ _ (show j < 2 ^ 31 by omega), nI_1]
    simp (disch := decide) only [jx_set_k]
    rw [show s + 3 * j + 1 = s + (3 * j + 1) by omega, show s + 3 * j + 2 = s + (3 * j + 2) by omega, hV _ (by omega), hV _ (by omega), hV _ (by omega)]
    obtain ⟨M', a1, a2, a3⟩ := ih f (j + 1) (jx_set (jx_set (jx_set M 8 20 (upd (M 8 20) j (V (3 * j)))) 8 21 (upd (M 8 21) j (V (3 * j + 1)))) 8 22 (upd (M 8 22) j (V (3 * j + 2)))) (by omega) (by omega) (by simp (disch := decide) only [jx_set_k]; exact hV) (fun x hx => by
      simp (disch := decide) only [jx_set_k, jx_set_s]
      by_cases e : x = j
      · subst e; simp only [upd, if_true]; exact ⟨trivial, trivial, trivial⟩
      · simp only [upd, e, if_false]; exact h x (by omega))
    exact ⟨M', a1, FK.tr (FK.set (FK.set (FK.set FK.rf (by decide)) (by decide)) (by decide)) a2, a3⟩
theorem L_emC {w : Nat} (hw : w ≤ 6) (y4 : Int32) (kk : jx_M → Option (Int32 × jx_M)) (fa fp fd : Nat → Int32) : ∀ q f j M, j + q = w → q < f → (∀ x, x < w → M 8 31 x = fa x ∧ M 8 32 x = fp x ∧ M 8 33 x = fd x) → (∀ x, x < j → M 8 20 x = fa x ∧ M 8 21 x = fp x ∧ M 8 22 x = fd x) → ∃ M', L_X6_emptiesBy_149 (nI w) y4 kk f (nI j) M = kk M' ∧ FK [20, 21, 22] M M' ∧ ∀ x, x < w → M' 8 20 x = fa x ∧ M' 8 21 x = fp x ∧ M' 8 22 x = fd x := by
  intro q
  induction q with
  | zero =>
    intro f j M hj hf h0 h
    obtain ⟨f, rfl⟩ : ∃ q, f = q + 1 := ⟨f - 1, by omega⟩
    refine ⟨M, ?_, FK.rf, fun x hx => h x (by omega)⟩
    rw [L_X6_emptiesBy_149.eq_2, if_pos (nI_le (by omega) (by omega))]
  | succ q ih =>
    intro f j M hj hf h0 h
    obtain ⟨f, rfl⟩ : ∃ q, f = q + 1 := ⟨f - 1, by omega⟩
    rw [L_X6_emptiesBy_149.eq_2, if_neg (nI_ge (by omega) (by omega)), jin_n (show j < 7 by omega) (by omega), jin_n (show j < 6 by omega) (by omega)]
    simp only [jck_t, jlet_d, jr_n _ _ _ (show j < 2 ^ 31 by omega), jw_n _ _ _ _ (show j < 2 ^ 31 by omega), nI_1]
    simp (disch := decide) only [jx_set_k]
    obtain ⟨M', a1, a2, a3⟩ := ih f (j + 1) (jx_set (jx_set (jx_set M 8 20 (upd (M 8 20) j (M 8 31 j))) 8 21 (upd (M 8 21) j (M 8 32 j))) 8 22 (upd (M 8 22) j (M 8 33 j))) (by omega) (by omega) (by simp (disch := decide) only [jx_set_k]; exact h0) (fun x hx => by
      simp (disch := decide) only [jx_set_k, jx_set_s]
      by_cases e : x = j
      · subst e; simp only [upd, if_true]; exact h0 x (by omega)
      · simp only [upd, e, if_false]; exact h x (by omega))
    exact ⟨M', a1, FK.tr (FK.set (FK.set (FK.set FK.rf (by decide)) (by decide)) (by decide)) a2, a3⟩
theorem F_emptiesBy {g : sG} (hT : TW g) {m : jx_M} (hM : RM g m) {s n : Nat} (hn : n ≤ 6) (hs : s + 3 * n ≤ 240) {V : Nat → Int32} (hV : ∀ x, x < 3 * n → m 8 40 (s + x) = V x) (hk : ∀ x, x < n → tok g V x) : ∃ m', F_X6_emptiesBy (nI s) (nI n) m = some (nI (s_E (s_tw g V n) 40), m') ∧ FK KSA m m' ∧ RM g m' := by
  have hw := hT.2.1
  have e19 : m 8 19 0 = nI (g 19 0) := hM.2.2.2.2.2.2.1
  have hg' := s_tw_gw (V := V) hT.1 n (by omega) hk
  unfold F_X6_emptiesBy
  rw [jlet_d, e19]
  obtain ⟨m1, a1, a2, a3⟩ := L_emA hw (nI s) (nI n) (fun M_4 => L_X6_emptiesBy_65 (nI s) (nI n) (nI (g 19 0)) (fun M_8 => jlet (jx_p M_8 8 19 (nI n)) (fun M_9 => jbd (F_X6_allEmpties M_9) (fun r_1 M_10 => L_X6_emptiesBy_149 (nI (g 19 0)) r_1 (fun M_14 => jlet (jx_p M_14 8 19 (nI (g 19 0))) (fun M_15 => some (r_1, M_15))) jfu 0 M_10))) jfu 0 M_4) (m 8 20) (m 8 21) (m 8 22) (g 19 0) jfu 0 m (by omega) (by unfold jfu; omega) rfl rfl rfl (fun x hx => by omega)
  obtain ⟨m2, b1, b2, b3⟩ := L_emB hn hs (nI (g 19 0)) (V := V) (fun M_8 => jlet (jx_p M_8 8 19 (nI n)) (fun M_9 => jbd (F_X6_allEmpties M_9) (fun r_1 M_10 => L_X6_emptiesBy_149 (nI (g 19 0)) r_1 (fun M_14 => jlet (jx_p M_14 8 19 (nI (g 19 0))) (fun M_15 => some (r_1, M_15))) jfu 0 M_10))) n jfu 0 m1 (by omega) (by unfold jfu; omega) (fun x hx => by rw [a2.at 40 (by decide)]; exact hV x hx) (fun x hx => by omega)
  have f2 : FK KSA m m2 := FK.tr (a2.mono (by decide)) (b2.mono (by decide))
  have hM2 : RM (s_tw g V n) (jx_p m2 8 19 (nI n)) := by
    obtain ⟨r1, r2, r3, r4, r5, r6, r7, r8⟩ := id hM
    unfold RM
    rw [s_tw_19, s_tw_k g V (show 1 ∉ [19, 20, 21, 22] by decide), s_tw_k g V (show 2 ∉ [19, 20, 21, 22] by decide), s_tw_k g V (show 3 ∉ [19, 20, 21, 22] by decide), s_tw_k g V (show 4 ∉ [19, 20, 21, 22] by decide), s_tw_k g V (show 5 ∉ [19, 20, 21, 22] by decide), s_tw_k g V (show 6 ∉ [19, 20, 21, 22] by decide), s_tw_k g V (show 7 ∉ [19, 20, 21, 22] by decide), s_tw_k g V (show 8 ∉ [19, 20, 21, 22] by decide), s_tw_k g V (show 9 ∉ [19, 20, 21, 22] by decide), s_tw_k g V (show 10 ∉ [19, 20, 21, 22] by decide), jx_p_s]
    simp (disch := decide) only [jx_p_k]
    rw [f2.at 1 (by decide), f2.at 2 (by decide), f2.at 3 (by decide), f2.at 4 (by decide), f2.at 5 (by decide), f2.at 6 (by decide), f2.at 7 (by decide), f2.at 8 (by decide), f2.at 9 (by decide), f2.at 10 (by decide)]
    refine ⟨r1, r2, r3, r4, r5, r6, trivial, fun j hj => ?_⟩
    obtain ⟨a, p, d, ha, hp, hd, ea, ep, ed⟩ := tok_e hT.1 (hk j hj)
    have g1 := hT.1.1
    have g2 := hT.1.2.1
    obtain ⟨w1, w2, w3⟩ := s_tw_w g V n j hj
    obtain ⟨v1, v2, v3⟩ := b3 j hj
    rw [w1, w2, w3, v1, v2, v3, ea, ep, ed, nI_cl (by omega), nI_cl (by omega), nI_cl (by omega)]
    exact ⟨rfl, rfl, rfl⟩
  obtain ⟨m3, d1, d2⟩ := F_allEmpties hg' hM2
  have k3 : ∀ q, q ∉ [19, 20, 21, 22, 23, 24, 25, 26, 27, 28, 29, 30] → m3 8 q = m1 8 q := by
    intro q hq
    simp only [List.mem_cons, List.not_mem_nil, or_false, not_or] at hq
    rw [d2.at q (by simp only [KS, List.mem_cons, List.not_mem_nil, or_false, not_or]; omega), jx_p_k (by omega), b2.at q (by simp only [List.mem_cons, List.not_mem_nil, or_false, not_or]; omega)]
  obtain ⟨m4, e1, e2, e3⟩ := L_emC hw (nI (s_E (s_tw g V n) 40)) (fun M_14 => jlet (jx_p M_14 8 19 (nI (g 19 0))) (fun M_15 => some (nI (s_E (s_tw g V n) 40), M_15))) (m 8 20) (m 8 21) (m 8 22) (g 19 0) jfu 0 m3 (by omega) (by unfold jfu; omega) (fun x hx => by
    rw [k3 31 (by decide), k3 32 (by decide), k3 33 (by decide)]; exact a3 x hx) (fun x hx => by omega)
  have f4 : FK KSA m (jx_p m4 8 19 (nI (g 19 0))) := FK.p (FK.tr (FK.tr (FK.p f2 (by decide)) (d2.mono KS_A)) (e2.mono (by decide))) (by decide)
  refine ⟨jx_p m4 8 19 (nI (g 19 0)), ?_, f4, hM.un f4 (jx_p_s _ _ _ _ _) (fun j hj => ?_)⟩
  · refine Eq.trans a1 (Eq.trans b1 ?_)
    rw [jlet_d, d1, jbd_s]
    refine Eq.trans e1 ?_
    rw [jlet_d]
  · rw [jx_p_k (by decide), jx_p_k (by decide), jx_p_k (by decide)]; exact e3 j hj
theorem st_wills (x y z u : Int32) : jSt (F_X5_wills x y z u) (F_X6_wills x y z u) := by
  intro c m h
  obtain ⟨g, nr, ra, ri, rw, hI⟩ := id h
  obtain ⟨h1, h2, h3, h4, h5, h6, h7, h8⟩ := id hI
  have g1 := h1.1.1
  have g2 := h1.1.2.1
  unfold F_X5_wills F_X6_wills
  rw [jlet_d, C_isSheet, F_noSheet, jbd_s, jbd_s]
  by_cases hx : 0 ≤ x.toInt ∧ x.toInt < 4
  · rw [if_pos hx, if_neg (by decide), if_pos hx, if_pos rfl, C_isLane, F_in_c y 2 2 (by decide), jbd_s, jbd_s]
    by_cases hy : 0 ≤ y.toInt ∧ y.toInt < 3
    · rw [if_pos hy, if_neg (show ¬ (1 : Int32) = 0 by decide), if_pos (show 0 ≤ y.toInt ∧ y.toInt < ((2 : Nat) : Int) + 1 by omega), if_neg (show ¬ (1 : Int32) = 0 by decide), F_in_c u 6 6 (by decide), jbd_s]
      obtain ⟨k, hk, rfl⟩ := jof_e (n := 4) hx (by decide)
      obtain ⟨w, hw, rfl⟩ := jof_e (n := 3) hy (by decide)
      by_cases hu : 0 ≤ u.toInt ∧ u.toInt < ((6 : Nat) : Int) + 1
      · rw [if_pos hu, if_neg (show ¬ (1 : Int32) = 0 by decide), if_neg (show ¬ u < 0 from fun q => by have := (jlt0 _).mp q; omega), if_pos (show u ≤ 6 from (jleN' u (n := 6) (by decide)).mpr (by omega)), C_isLand (show jx_p c 0 13 0 2 0 0 = nI (g 1 0) by rw [jx_p_o (by decide)]; exact h3.1) (by omega), jbd_s, h2.2.1]
        obtain ⟨n, hn, rfl⟩ := jof_e (x := u) (n := 7) ⟨by omega, by omega⟩ (by decide)
        by_cases h0 : g 1 0 = 0
        · rw [if_pos h0, if_pos rfl, if_pos (by rw [h1.2.2.mp h0]; rfl), F_refused, jbd_s]
          exact ⟨_, _, _, rfl, rfl, g, nr, ra, ri, rw, hI.fl 0⟩
        · have hn0 : g 2 0 ≠ 0 := fun z => h0 (h1.2.2.mpr z)
          rw [if_neg h0, if_neg (show ¬ (1 : Int32) = 0 by decide), if_neg (nI_ne0 (by omega) (by omega))]
          have hk1 : jx_p c 0 13 0 1 = c 1 := jx_p_o (by decide)
          have e3 : (3 : Int32) * nI n = nI (3 * n) := by rw [show (3 : Int32) = nI 3 from rfl, pk_mul]
          have e4 : (3 : Int64) * (nI n).toInt64 = lN (3 * n) := by rw [nI_l (by omega), show (3 : Int64) = lN 3 from rfl, lN_mul]
          have e5 : (lN (3 * n)).toInt = ((3 * n : Nat) : Int) := lN_toInt (by omega)
          rw [e3, e4]
          rcases h6 k hk with ⟨p1, p2⟩ | ⟨l, b, p1, p2, p3, p4, p5, p6, p7⟩
          · rw [C_row0 hk (by rw [hk1]; exact p1), jbd_s, if_neg (show ¬ (1 : Int32) = 0 by decide), if_neg (show ¬ (1 : Int32) = 0 by decide), F_barred0 hk p2, jbd_s, if_neg (by decide), C_faulty, jbd_s, jpp]
            exact ⟨_, _, _, rfl, rfl, g, nr, ra, ri, rw, hI.fl 1⟩
          · rw [C_row1 hk p1 (by rw [hk1]; exact p3), jbd_s, F_barred1 hk p1 p2 p6 p4 _ _ _ (by rw [e5]; omega) (by rw [e5]; omega)]
            by_cases hl : nI l = nI w
            · rw [if_pos hl, if_pos rfl, if_pos hl, C_spans hk p2 (by rw [hk1]; exact p5), jbd_s, e5, nI_toInt (show 3 * n < 2 ^ 31 by omega)]
              by_cases hs : 0 ≤ z.toInt ∧ 0 ≤ ((3 * n : Nat) : Int) ∧ z.toInt + ((3 * n : Nat) : Int) ≤ b
              · rw [if_pos hs, if_neg (show ¬ (1 : Int32) = 0 by decide), if_pos rfl, if_pos hs, jbd_s, if_pos (by decide), jlet_d]
                obtain ⟨i, hi, rfl⟩ := jof_e (x := z) (n := 61) ⟨by omega, by omega⟩ (by decide)
                rw [nI_toInt (by omega)] at hs
                rw [j60k]
                obtain ⟨c1, t1, t2, t3⟩ := C_takeOver (h4.fr (show jx_p c 0 13 0 3 = c 3 from jx_p_o (by decide))) h1.2.1
                have hV : ∀ q, q < 3 * n → c 1 2 (k * 60 + (i + q)) = m 8 40 (60 * k + i + q) := fun q hq => by
                  rw [p7 (i + q) (by omega), show 60 * k + (i + q) = 60 * k + i + q by omega]
                have hr0 : RO (s_tw g (fun q => m 8 40 (60 * k + i + q)) 0) 6 (jx_p c1 6 2 0) := t3.k19 (Nat.zero_le _)
                have o1 : ∀ o, o < 6 → jx_p c1 6 2 0 o = jx_p c 0 13 0 o := fun o ho => by rw [jx_p_o (by omega), t2.ob o (by omega)]
                obtain ⟨A1, A2⟩ := L_twC h1.1 hk (show n ≤ 6 by omega) (show i + 3 * n ≤ 60 by omega) (V := fun q => m 8 40 (60 * k + i + q)) (fun M_10 => some (1, M_10)) n jfu 0 (jx_p c1 6 2 0) (by omega) (by unfold jfu; omega) (fun q hq => by rw [o1 1 (by decide), hk1]; exact hV q hq) (by rw [o1 2 (by decide), jx_p_o (by decide)]; exact h3.1) (by rw [o1 2 (by decide), jx_p_o (by decide)]; exact h3.2.1) hr0
                obtain ⟨B1, B2⟩ := L_twM h1.1 (show n ≤ 6 by omega) (show 60 * k + i + 3 * n ≤ 240 by omega) (V := fun q => m 8 40 (60 * k + i + q)) (m := m) (fun q _ => rfl) h2 (fun M_12 => jbd (F_X6_emptiesBy (nI (60 * k + i)) (nI n) M_12) (fun r_12 M_13 => jbd (F_X6_refused r_12 M_13) (fun r_13 M_14 => some (r_13, M_14)))) n jfu 0 (by omega) (by unfold jfu; omega)
                unfold F_X5_takeToldWills
                rw [t1, jbd_s, jlet_d]
                by_cases ht : ∀ q, 0 ≤ q → q < n → tok g (fun q => m 8 40 (60 * k + i + q)) q
                · obtain ⟨c2, u1, u2, u3⟩ := A1 ht
                  have v1 := B1 ht
                  have hk2 : ∀ q, q < n → tok g (fun q => m 8 40 (60 * k + i + q)) q := fun q hq => ht q (Nat.zero_le _) hq
                  obtain ⟨m1, w1, w2, w3⟩ := F_emptiesBy h1 h2 (show n ≤ 6 by omega) (show 60 * k + i + 3 * n ≤ 240 by omega) (V := fun q => m 8 40 (60 * k + i + q)) (fun q _ => rfl) hk2
                  have hg' := s_tw_gw (V := fun q => m 8 40 (60 * k + i + q)) h1.1 n (by omega) hk2
                  have o2 : ∀ o, o < 6 → c2 o = jx_p c 0 13 0 o := fun o ho => by rw [u2.ob o (by omega), o1 o ho]
                  have hL2 : RLa (s_tw g (fun q => m 8 40 (60 * k + i + q)) n) c2 := by
                    have := h3.fr (show c2 2 = c 2 by rw [o2 2 (by decide), jx_p_o (by decide)])
                    unfold RLa at this ⊢
                    rw [s_tw_k g _ (show 1 ∉ [19, 20, 21, 22] by decide), s_tw_k g _ (show 2 ∉ [19, 20, 21, 22] by decide), s_tw_k g _ (show 3 ∉ [19, 20, 21, 22] by decide), s_tw_k g _ (show 4 ∉ [19, 20, 21, 22] by decide), s_tw_k g _ (show 5 ∉ [19, 20, 21, 22] by decide), s_tw_k g _ (show 6 ∉ [19, 20, 21, 22] by decide), s_tw_k g _ (show 7 ∉ [19, 20, 21, 22] by decide)]
                    exact this
                  obtain ⟨c3, r, b1, b2, b3, b4, b5, b6, b7, b8⟩ := F_run hg' (o := 7) (w := 6) (by decide) (by decide) (y2 := 39) (l1 := 40) (lim := 1000) (fun r hr => by
                    rw [show (39 : Int32) = nI 39 from rfl, nI_ltI (by omega) (by omega)]; omega) (by omega) hL2 u3
                  have hE := s_E_le hg' r
                  have hr : r = 40 := by omega
                  subst hr
                  have u1' : L_X5_takeToldWills_22 (nI k) (nI i) (nI n) (fun M_10 => some (1, M_10)) jfu 0 (jx_p c1 6 2 0) = some (1, c2) := u1
                  have v1' : L_X6_wills_94 (nI n) (nI (60 * k + i)) (fun M_12 => jbd (F_X6_emptiesBy (nI (60 * k + i)) (nI n) M_12) (fun r_12 M_13 => jbd (F_X6_refused r_12 M_13) (fun r_13 M_14 => some (r_13, M_14)))) jfu 0 m = some (nI (s_E (s_tw g (fun q => m 8 40 (60 * k + i + q)) n) 40), jx_p m1 8 0 0) := by
                    refine Eq.trans v1 ?_
                    rw [w1, jbd_s, F_refused, jbd_s]
                  rw [u1', jbd_s, if_neg (show ¬ (1 : Int32) = 0 by decide), show (1000 : Int32) = nI 1000 from rfl, b1, jbd_s, b7, v1']
                  refine ⟨_, _, _, rfl, rfl, g, nr, ra, ri, rw, (hI.fl 0).fr2 (fun o ho => ?_) ((w2.mono KSA_W).pp 0 0) (w3.p0 0)⟩
                  rw [b2.ob o (by omega), o2 o ho]
                · obtain ⟨c2, u1, u2⟩ := A2 ht
                  have v1 := B2 ht
                  have u1' : L_X5_takeToldWills_22 (nI k) (nI i) (nI n) (fun M_10 => some (1, M_10)) jfu 0 (jx_p c1 6 2 0) = some (0, c2) := u1
                  have v1' : L_X6_wills_94 (nI n) (nI (60 * k + i)) (fun M_12 => jbd (F_X6_emptiesBy (nI (60 * k + i)) (nI n) M_12) (fun r_12 M_13 => jbd (F_X6_refused r_12 M_13) (fun r_13 M_14 => some (r_13, M_14)))) jfu 0 m = some (-2, jx_p m 8 0 0) := v1
                  rw [u1', jbd_s, if_pos rfl, v1']
                  refine ⟨_, _, _, rfl, rfl, g, nr, ra, ri, rw, (hI.fl 0).fr2 (fun o ho => ?_) FK.rf (h2.p0 0)⟩
                  rw [u2.ob o (by omega), o1 o ho]
              · rw [if_neg hs, if_pos rfl, if_neg hs, jbd_s, if_neg (by decide), C_faulty, jbd_s, jpp]
                exact ⟨_, _, _, rfl, rfl, g, nr, ra, ri, rw, hI.fl 3⟩
            · rw [if_neg hl, if_neg (show ¬ (2 : Int32) = 0 by decide), if_neg (show ¬ (2 : Int32) = 0 by decide), if_neg hl, jbd_s, if_neg (by decide), C_faulty, jbd_s, jpp]
              exact ⟨_, _, _, rfl, rfl, g, nr, ra, ri, rw, hI.fl 2⟩
      · rw [if_neg hu, if_pos rfl, F_refused, jbd_s]
        by_cases hu1 : u < 0
        · rw [if_pos hu1]
          exact ⟨_, _, _, rfl, rfl, g, nr, ra, ri, rw, hI.fl 0⟩
        · rw [if_neg hu1, if_neg (show ¬ u ≤ 6 from fun q => by
            have q1 := (jleN' u (n := 6) (by decide)).mp q
            have q2 : ¬ u.toInt < 0 := fun z => hu1 ((jlt0 u).mpr z)
            omega)]
          exact ⟨_, _, _, rfl, rfl, g, nr, ra, ri, rw, hI.fl 0⟩
    · rw [if_neg hy, if_pos rfl, if_neg (show ¬ (0 ≤ y.toInt ∧ y.toInt < ((2 : Nat) : Int) + 1) by omega), if_pos rfl, F_refused, jbd_s]
      exact ⟨_, _, _, rfl, rfl, g, nr, ra, ri, rw, hI.fl 0⟩
  · rw [if_neg hx, if_pos rfl, if_neg hx, if_neg (show ¬ (1 : Int32) = 0 by decide), F_refused, jbd_s]
    exact ⟨_, _, _, rfl, rfl, g, nr, ra, ri, rw, hI.fl 0⟩
