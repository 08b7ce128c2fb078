theorem F_barred2 {k l n : Nat} (hk : k < 4) (hl : l < 3) (hn : n ≤ 60) {m : jx_M} (h : m 8 38 k = nI n) (h' : m 8 39 k = nI l) (y i : Int32) (x : Int64) (hx0 : x.toInt < 0) : F_X6_cellsBarred (nI k) y i x m = if nI l = y then some (-10 - 4, jx_p m 8 0 4) else some (-10 - 2, jx_p m 8 0 2) := by
  have e0 : ¬ (0 : Int64) ≤ x := by rw [Int64.le_iff_toInt_le]; show ¬ 0 ≤ x.toInt; omega
  unfold F_X6_cellsBarred
  rw [jin_n hk (by decide), jck_t, jck_t, jck_t, jr_n _ _ _ (by omega), jr_n _ _ _ (by omega), h, h', if_neg (show ¬ nI n < 0 from fun q => by have := (jlt0 _).mp q; rw [nI_toInt (by omega)] at this; omega), if_pos (show (0 : Int32) ≤ nI n from (jge0 _).mpr (by rw [nI_toInt (by omega)]; omega)), if_neg (fun z => e0 ((lg_cmp_ge x 0).mp z)), F_failed, jbd_s, F_failed, jbd_s, jck_t]
theorem land_c {C : Nat → Int32} {k i N : Nat} {c : jx_M} (hL : okL C N) (hC : CC C k i N c) : ∃ c', jbd (F_X1_settle (nI k) (nI i) (nI N) c) (fun r_23 M_27 => jbd (F_X2_clear 3 M_27) (fun r_24 M_28 => jlet (jx_p M_28 4 0 0) (fun M_29 => jbd (F_X5_unsettle M_29) (fun r_25 M_30 => some (M_30 2 1 0, M_30))))) = some (nI ((N - 2) / 6), c') ∧ RLa (gL C N) c' ∧ RO (gL C N) 3 c' ∧ CCH (gL C N) c' ∧ c' 4 0 0 = nI 0 ∧ c' 1 = c 1 ∧ c' 0 13 0 = c 0 13 0 ∧ c' 0 14 0 = c 0 14 0 := by
  obtain ⟨c1, a1, a2, a3⟩ := C_settle hL hC
  obtain ⟨c2, b1, b2, b3⟩ := C_clear (C := C) (N := N) c1
  rw [a1, jbd_s, b1, jbd_s, jlet_d, C_unsettle, jbd_s]
  have h2 : jU (jx_p c2 4 0 0) 2 = c1 2 := by rw [jU_o (by decide), jx_p_o (by decide), b2.ob 2 (by decide)]
  refine ⟨jU (jx_p c2 4 0 0), ?_, a3.fr h2, b3.fr ?_, jU_CCH _ _, ?_, ?_, ?_, ?_⟩
  · rw [h2, a3.2.1]; rfl
  · rw [jU_o (by decide), jx_p_o (by decide)]
  · rw [jU_o (by decide), jx_p_s]; rfl
  · rw [jU_o (by decide), jx_p_o (by decide), b2.ob 1 (by decide), a2 1 (by decide)]
  · rw [jU_k (by decide), jx_p_o (by decide), b2.ob 0 (by decide), a2 0 (by decide)]
  · rw [jU_k (by decide), jx_p_o (by decide), b2.ob 0 (by decide), a2 0 (by decide)]
abbrev KLA : List Nat := [1, 2, 3, 4, 5, 6, 7, 8, 9, 10, 19, 34, 0, 11, 12, 13, 14, 15, 16, 17, 18]
theorem land_m {C : Nat → Int32} {N P : Nat} {m : jx_M} (hL : okL C N) (hP : C 1 = nI (48 + P)) (hP' : 1 ≤ P ∧ P ≤ 4) (e12 : m 8 12 0 = nI P) (e13 : m 8 13 0 = nI ((N - 2) / 6)) (hS : ∀ j, j < (N - 2) / 6 → PS C j m) : ∃ m', jlet (jx_p m 8 1 (m 8 12 0)) (fun M_5 => jlet (jx_p M_5 8 2 (M_5 8 13 0)) (fun M_6 => L_X6_land_98 (fun M_12 => L_X6_land_186 (fun M_14 => jlet (jx_p M_14 8 8 0) (fun M_15 => jlet (jx_p M_15 8 9 0) (fun M_16 => jlet (jx_p M_16 8 19 0) (fun M_17 => jlet (jx_p M_17 8 34 0) (fun M_18 => jbd (F_X6_refused (M_18 8 2 0) M_18) (fun r_5 M_19 => some (r_5, M_19))))))) jfu 0 M_12) jfu 0 M_6)) = some (nI ((N - 2) / 6), m') ∧ FK KLA m m' ∧ RM (gL C N) m' ∧ m' 8 34 0 = nI 0 ∧ m' 8 0 0 = nI 0 := by
  have hN := okL_38 hL
  rw [jlet_d, jlet_d, e12, jx_p_k (show 13 ≠ 1 by decide), e13]
  have hf1 : FK KLA m (jx_p (jx_p m 8 1 (nI P)) 8 2 (nI ((N - 2) / 6))) := FK.p (FK.p FK.rf (by decide)) (by decide)
  have k1 : jx_p (jx_p m 8 1 (nI P)) 8 2 (nI ((N - 2) / 6)) 8 1 0 = nI P := by rw [jx_p_k (by decide), jx_p_s]
  have k2 : jx_p (jx_p m 8 1 (nI P)) 8 2 (nI ((N - 2) / 6)) 8 2 0 = nI ((N - 2) / 6) := jx_p_s _ _ _ _ _
  have hS1 : ∀ j, j < (N - 2) / 6 → PS C j (jx_p (jx_p m 8 1 (nI P)) 8 2 (nI ((N - 2) / 6))) := fun j hj => by
    have := hS j hj
    unfold PS at this ⊢
    simp (disch := decide) only [jx_p_k]
    exact this
  generalize jx_p (jx_p m 8 1 (nI P)) 8 2 (nI ((N - 2) / 6)) = m1 at hf1 k1 k2 hS1 ⊢
  obtain ⟨m2, a1, a2, a3⟩ := L_land98 (C := C) (n := (N - 2) / 6) (by omega) (fun M_12 => L_X6_land_186 (fun M_14 => jlet (jx_p M_14 8 8 0) (fun M_15 => jlet (jx_p M_15 8 9 0) (fun M_16 => jlet (jx_p M_16 8 19 0) (fun M_17 => jlet (jx_p M_17 8 34 0) (fun M_18 => jbd (F_X6_refused (M_18 8 2 0) M_18) (fun r_5 M_19 => some (r_5, M_19))))))) jfu 0 M_12) ((N - 2) / 6) jfu 0 m1 (by omega) (by unfold jfu; omega) k2 hS1 (fun i hi => by omega)
  obtain ⟨m3, b1, b2, b3⟩ := L_land186 (fun M_14 => jlet (jx_p M_14 8 8 0) (fun M_15 => jlet (jx_p M_15 8 9 0) (fun M_16 => jlet (jx_p M_16 8 19 0) (fun M_17 => jlet (jx_p M_17 8 34 0) (fun M_18 => jbd (F_X6_refused (M_18 8 2 0) M_18) (fun r_5 M_19 => some (r_5, M_19))))))) 4 jfu 0 m2 (by omega) (by unfold jfu; omega) (fun i hi => by omega)
  have e2 : m3 8 2 0 = nI ((N - 2) / 6) := by rw [b2.at 2 (by decide), a2.at 2 (by decide)]; exact k2
  refine ⟨jx_p (jx_p (jx_p (jx_p (jx_p m3 8 8 0) 8 9 0) 8 19 0) 8 34 0) 8 0 0, ?_, ?_, ?_, ?_, ?_⟩
  · refine Eq.trans a1 (Eq.trans b1 ?_)
    rw [jlet_d, jlet_d, jlet_d, jlet_d, F_refused, jbd_s]
    simp (disch := decide) only [jx_p_k]
    rw [e2]
  · exact FK.p (FK.p (FK.p (FK.p (FK.p (FK.tr hf1 (FK.tr (a2.mono (by decide)) (b2.mono (by decide)))) (by decide)) (by decide)) (by decide)) (by decide)) (by decide)
  · unfold RM
    simp (disch := decide) only [jx_p_k, jx_p_s]
    refine ⟨?_, e2, fun p hp => ?_, rfl, rfl, fun j hj => ?_, rfl, fun j hj => absurd hj (Nat.not_lt_zero j)⟩
    · rw [b2.at 1 (by decide), a2.at 1 (by decide), k1]
      show nI P = nI (dg (C 1))
      rw [hP]
      unfold dg
      rw [nI_cl (by omega), show 48 + P - 48 = P by omega]
    · rw [b2.at 3 (by decide), b2.at 4 (by decide), b2.at 5 (by decide), b2.at 6 (by decide), b2.at 7 (by decide)]
      exact a3 p hp
    · have h4 : gL C N 1 0 ≤ 4 := (gL_TW hL).1.1
      rw [b3 j (by omega)]; rfl
  · rw [jx_p_k (by decide), jx_p_s]; rfl
  · rw [jx_p_s]; rfl
theorem IV.fl2 {g : sG} {nr : Nat} {ra ri : Nat → Nat} {rw : Nat → Int32} {c m m1 : jx_M} (h : IV g nr ra ri rw c m) (hf : FK KRL m m1) : IV g nr ra ri rw (jx_p c 0 13 0) (jx_p m1 8 0 0) := by
  have h2 := h.2.1
  refine (h.fl 0).fr2 (fun _ _ => rfl) ((hf.mono (by decide)).pp 0 0) (RM.p0 ?_ 0)
  exact h2.ks (hf.mono (by decide))
theorem st_land (x y z u : Int32) : jSt (F_X5_land x y z u) (F_X6_land x y z u) := by
  intro c m h
  obtain ⟨g, nr, ra, ri, rw, hI⟩ := id h
  obtain ⟨h1, h2, h3, h4, h5, h6, h7, h8⟩ := id hI
  unfold F_X5_land F_X6_land
  rw [jlet_d, C_isSheet, F_noSheet, jbd_s, jbd_s]
  by_cases hx : 0 ≤ x.toInt ∧ x.toInt < 4
  · rw [if_pos hx, if_neg (by decide), if_pos hx, if_pos rfl, C_isLane, F_in_c y 2 2 (by decide), jbd_s, jbd_s]
    by_cases hy : 0 ≤ y.toInt ∧ y.toInt < 3
    · rw [if_pos hy, if_neg (show ¬ (1 : Int32) = 0 by decide), if_pos (show 0 ≤ y.toInt ∧ y.toInt < ((2 : Nat) : Int) + 1 by omega), if_neg (show ¬ (1 : Int32) = 0 by decide)]
      obtain ⟨k, hk, rfl⟩ := jof_e (n := 4) hx (by decide)
      obtain ⟨w, hw, rfl⟩ := jof_e (n := 3) hy (by decide)
      have hk1 : jx_p c 0 13 0 1 = c 1 := jx_p_o (by decide)
      rcases h6 k hk with ⟨p1, p2⟩ | ⟨l, b, p1, p2, p3, p4, p5, p6, p7⟩
      · rw [C_row0 hk (by rw [hk1]; exact p1), jbd_s, if_neg (show ¬ (1 : Int32) = 0 by decide), if_neg (show ¬ (1 : Int32) = 0 by decide), if_neg (show ¬ (1 : Int32) = 0 by decide), F_barred0 hk p2, jbd_s, if_neg (by decide), C_faulty, jbd_s, jpp]
        exact ⟨_, _, _, rfl, rfl, g, nr, ra, ri, rw, hI.fl 1⟩
      · rw [C_row1 hk p1 (by rw [hk1]; exact p3), jbd_s]
        by_cases hu : 0 ≤ u.toInt
        · rw [F_barred1 hk p1 p2 p6 p4 _ _ _ (by rw [j64_toInt]; exact hu) (by rw [j64_toInt]; have := Int32.toInt_lt u; omega), j64_toInt]
          by_cases hl : nI l = nI w
          · rw [if_pos hl, if_pos rfl, if_pos ((jge0 u).mpr hu), if_pos rfl, if_pos hl, C_spans hk p2 (by rw [hk1]; exact p5), jbd_s]
            by_cases hs : 0 ≤ z.toInt ∧ 0 ≤ u.toInt ∧ z.toInt + u.toInt ≤ b
            · rw [if_pos hs, if_neg (show ¬ (1 : Int32) = 0 by decide), if_pos rfl, if_pos hs, jbd_s, if_pos (by decide)]
              obtain ⟨i, hi, rfl⟩ := jof_e (x := z) (n := 61) ⟨by omega, by omega⟩ (by decide)
              obtain ⟨N, hN, rfl⟩ := jof_e (x := u) (n := 61) ⟨by omega, by omega⟩ (by decide)
              rw [nI_toInt (by omega), nI_toInt (by omega)] at hs
              rw [j60k]
              have hCd : CD (fun p => if p < N then m 8 40 (60 * k + i + p) else -9) (60 * k + i) N m := ⟨by omega, by omega, fun p hp => (if_pos hp).symm, fun p hp => if_neg (by omega)⟩
              have hCc : CC (fun p => if p < N then m 8 40 (60 * k + i + p) else -9) k i N (jx_p c 0 13 0) := ⟨hk, by omega, fun p hp => by
                dsimp only
                rw [if_pos hp, hk1, p7 (i + p) (by omega), show 60 * k + (i + p) = 60 * k + i + p by omega], fun p hp => if_neg (by omega)⟩
              generalize (fun p => if p < N then m 8 40 (60 * k + i + p) else -9) = C at hCd hCc
              rcases F_reads hCd with ⟨hL, P, m1, q1, q2, q3, q4, q5, q6, q7, q8⟩ | ⟨hL, F, m1, q1, q2, q3, q4, q5, q6⟩
              · have hno : ¬ okc C N := okc_n (hCd.2.2.2 N (Nat.le_refl _))
                rw [(C_fault hCc hL.2.2 hno).1 hL, jbd_s, if_pos rfl, q4, jbd_s, if_neg (show ¬ (1 : Int32) = 0 by decide)]
                obtain ⟨c', a1, a2, a3, a4, a5, a6, a7, a8⟩ := land_c hL hCc
                obtain ⟨m', b1, b2, b3, b4, b5⟩ := land_m hL q3 ⟨q1, q2⟩ q6 q7 q8
                have hf : FK KLA m m' := FK.tr (q5.mono (by decide)) b2
                rw [a1, b1]
                refine ⟨_, _, _, rfl, rfl, gL C N, 0, ra, ri, rw, gL_TW hL, b3, a2, a3, ⟨Nat.zero_le _, a5, b4, fun x hx => absurd hx (Nat.not_lt_zero x)⟩, ?_, ⟨?_, ?_⟩, a4⟩
                · unfold SHT at h6 ⊢
                  rw [a6, hk1, hf.at 38 (by decide), hf.at 39 (by decide), hf.at 40 (by decide)]; exact h6
                · rw [a7, jx_p_s, b5]; rfl
                · rw [a8, jx_p_k (by decide), hf.at 42 (by decide)]; exact h7.2
              · rw [(C_fault hCc q4 q5).2 hL, jbd_s, if_neg (nI_n9 (by omega)), q1, jbd_s, if_pos rfl, q3, F_refused, jbd_s]
                exact ⟨_, _, _, rfl, rfl, g, nr, ra, ri, rw, hI.fl2 q2⟩
            · rw [if_neg hs, if_pos rfl, if_neg hs, jbd_s, if_neg (by decide), C_faulty, jbd_s, jpp]
              exact ⟨_, _, _, rfl, rfl, g, nr, ra, ri, rw, hI.fl 3⟩
          · rw [if_neg hl, if_neg (show ¬ (2 : Int32) = 0 by decide), if_neg (show ¬ (2 : Int32) = 0 by decide), if_neg (show ¬ (2 : Int32) = 0 by decide), if_neg hl, jbd_s, if_neg (by decide), C_faulty, jbd_s, jpp]
            exact ⟨_, _, _, rfl, rfl, g, nr, ra, ri, rw, hI.fl 2⟩
        · rw [F_barred2 hk p1 p2 p6 p4 _ _ _ (by rw [j64_toInt]; omega)]
          by_cases hl : nI l = nI w
          · rw [if_pos hl, if_pos rfl, if_neg (fun q => hu ((jge0 u).mp q)), if_pos hl, jbd_s, if_neg (by decide), C_faulty, jbd_s, jpp]
            exact ⟨_, _, _, rfl, rfl, g, nr, ra, ri, rw, hI.fl 4⟩
          · rw [if_neg hl, if_neg (show ¬ (2 : Int32) = 0 by decide), if_neg (show ¬ (2 : Int32) = 0 by decide), if_neg (show ¬ (2 : Int32) = 0 by decide), if_neg hl, jbd_s, if_neg (by decide), C_faulty, jbd_s, jpp]
            exact ⟨_, _, _, rfl, rfl, g, nr, ra, ri, rw, hI.fl 2⟩
    · rw [if_neg hy, if_pos rfl, if_neg (show ¬ (0 ≤ y.toInt ∧ y.toInt < ((2 : Nat) : Int) + 1) by omega), if_pos rfl, F_refused, jbd_s]
      exact ⟨_, _, _, rfl, rfl, g, nr, ra, ri, rw, hI.fl 0⟩
  · rw [if_neg hx, if_pos rfl, if_neg hx, if_neg (show ¬ (1 : Int32) = 0 by decide), F_refused, jbd_s]
    exact ⟨_, _, _, rfl, rfl, g, nr, ra, ri, rw, hI.fl 0⟩
