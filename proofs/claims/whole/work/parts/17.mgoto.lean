theorem L_beg1 (k : jx_M → Option (Unit × jx_M)) : ∀ m n q M, q + m = 6 → m < n → (∀ p, p < q → M 8 23 p = 0 ∧ M 8 24 p = 0 ∧ M 8 26 p = 0) → ∃ M', L_X6_begin_2 k n (nI q) M = k M' ∧ FK [23, 24, 26] M M' ∧ ∀ p, p < 6 → M' 8 23 p = 0 ∧ M' 8 24 p = 0 ∧ M' 8 26 p = 0 := by
  intro m
  induction m with
  | zero =>
    intro n q M hj hn h1
    obtain ⟨n, rfl⟩ : ∃ q, n = q + 1 := ⟨n - 1, by omega⟩
    refine ⟨M, ?_, FK.rf, fun p hp => h1 p (by omega)⟩
    rw [L_X6_begin_2.eq_2, show (6 : Int32) = nI 6 from rfl, if_pos (nI_le (by omega) (by omega))]
  | succ m ih =>
    intro n q M hj hn h1
    obtain ⟨n, rfl⟩ : ∃ q, n = q + 1 := ⟨n - 1, by omega⟩
    rw [L_X6_begin_2.eq_2, show (6 : Int32) = nI 6 from rfl, if_neg (nI_ge (by omega) (by omega))]
    simp (disch := omega) only [jin_n, jck_t, jw_n, jlet_d, nI_1]
    have hf : FK [23, 24, 26] M (jx_set (jx_set (jx_set M 8 23 (upd (M 8 23) q 0)) 8 24 (upd (jx_set M 8 23 (upd (M 8 23) q 0) 8 24) q 0)) 8 26 (upd (jx_set (jx_set M 8 23 (upd (M 8 23) q 0)) 8 24 (upd (jx_set M 8 23 (upd (M 8 23) q 0) 8 24) q 0) 8 26) q 0)) := FK.set (FK.set (FK.set FK.rf (by decide)) (by decide)) (by decide)
    obtain ⟨M', a1, a2, a3⟩ := ih n (q + 1) (jx_set (jx_set (jx_set M 8 23 (upd (M 8 23) q 0)) 8 24 (upd (jx_set M 8 23 (upd (M 8 23) q 0) 8 24) q 0)) 8 26 (upd (jx_set (jx_set M 8 23 (upd (M 8 23) q 0)) 8 24 (upd (jx_set M 8 23 (upd (M 8 23) q 0) 8 24) q 0) 8 26) q 0)) (by omega) (by omega) (by
      intro p hp
      rw [jx_set_n (by decide), jx_set_n (by decide), jx_set_s, jx_set_n (by decide), jx_set_s, jx_set_n (by decide), jx_set_s, jx_set_n (by decide), jx_set_n (by decide)]
      by_cases hpq : p = q
      · subst hpq; simp [upd]
      · simp only [upd, hpq, if_false]; exact h1 p (by omega))
    exact ⟨M', a1, hf.tr a2, a3⟩
theorem L_beg2 (k : jx_M → Option (Unit × jx_M)) : ∀ m n q M, q + m = 4 → m < n → (∀ p, p < q → M 8 27 p = -9) → ∃ M', L_X6_begin_37 k n (nI q) M = k M' ∧ FK [27] M M' ∧ ∀ p, p < 4 → M' 8 27 p = -9 := by
  intro m
  induction m with
  | zero =>
    intro n q M hj hn h1
    obtain ⟨n, rfl⟩ : ∃ q, n = q + 1 := ⟨n - 1, by omega⟩
    refine ⟨M, ?_, FK.rf, fun p hp => h1 p (by omega)⟩
    rw [L_X6_begin_37.eq_2, show (4 : Int32) = nI 4 from rfl, if_pos (nI_le (by omega) (by omega))]
  | succ m ih =>
    intro n q M hj hn h1
    obtain ⟨n, rfl⟩ : ∃ q, n = q + 1 := ⟨n - 1, by omega⟩
    rw [L_X6_begin_37.eq_2, show (4 : Int32) = nI 4 from rfl, if_neg (nI_ge (by omega) (by omega))]
    simp (disch := omega) only [jin_n, jck_t, jw_n, jlet_d, nI_1]
    have hf : FK [27] M (jx_set M 8 27 (upd (M 8 27) q (-9))) := FK.set FK.rf (by decide)
    obtain ⟨M', a1, a2, a3⟩ := ih n (q + 1) (jx_set M 8 27 (upd (M 8 27) q (-9))) (by omega) (by omega) (by
      intro p hp
      rw [jx_set_s]
      by_cases hpq : p = q
      · subst hpq; simp [upd]
      · simp only [upd, hpq, if_false]; exact h1 p (by omega))
    exact ⟨M', a1, hf.tr a2, a3⟩
theorem F_begin {g : sG} (hg : GW g) (M : jx_M) : ∃ M', F_X6_begin M = some ((), M') ∧ FK KS M M' ∧ RS g s_0 M' := by
  unfold F_X6_begin
  obtain ⟨M1, a1, a2, a3⟩ := L_beg1 (fun M_4 => L_X6_begin_37 (fun M_6 => jlet (jx_p M_6 8 29 0) (fun M_7 => some ((), M_7))) jfu 0 M_4) 6 jfu 0 M (by omega) (by unfold jfu; omega) (fun p hp => by omega)
  obtain ⟨M2, b1, b2, b3⟩ := L_beg2 (fun M_6 => jlet (jx_p M_6 8 29 0) (fun M_7 => some ((), M_7))) 4 jfu 0 M1 (by omega) (by unfold jfu; omega) (fun p hp => by omega)
  have g1 := hg.1
  have g2 := hg.2.1
  refine ⟨jx_p M2 8 29 0, ?_, (a2.mono (by decide)).tr ((b2.mono (by decide)).tr (FK.p FK.rf (by decide))), fun p hp => ?_, fun j hj => ?_, fun j hj p hp => ?_, jx_p_s _ _ _ _ _⟩
  · rw [show (0 : Int32) = nI 0 from rfl] at *
    rw [a1, b1]
    rfl
  · rw [jx_p_n (by decide), jx_p_n (by decide), jx_p_n (by decide), b2.at 23 (by decide), b2.at 24 (by decide), b2.at 26 (by decide)]
    exact a3 p (by omega)
  · rw [jx_p_n (by decide)]; exact b3 j (by omega)
  · cases hp
theorem L_goTo {g : sG} (hg : GW g) {d : Nat} (hd : d < 40) (k : jx_M → Option (Unit × jx_M)) :
    ∀ m n q M, q + m = d → m + 1 < n → RM g M → RS g (s_at g q) M → M 8 28 0 = nI (s_e (s_at g q)) → ∃ M', L_X6_goTo_11 (nI d) k n (nI (q + 1)) M = k M' ∧ FK KS M M' ∧ RS g (s_at g d) M' ∧ M' 8 28 0 = nI (s_e (s_at g d)) := by
  intro m
  induction m with
  | zero =>
    intro n q M hj hn hM hR hE
    obtain ⟨n, rfl⟩ : ∃ q, n = q + 1 := ⟨n - 1, by omega⟩
    refine ⟨M, ?_, FK.rf, by rw [show d = q by omega]; exact hR, by rw [show d = q by omega]; exact hE⟩
    rw [L_X6_goTo_11.eq_2, if_pos (nI_lt (by omega) (by omega))]
  | succ m ih =>
    intro n q M hj hn hM hR hE
    obtain ⟨n, rfl⟩ : ∃ q, n = q + 1 := ⟨n - 1, by omega⟩
    rw [L_X6_goTo_11.eq_2, if_neg (nI_nlt (by omega) (by omega))]
    have hJ := s_at_inv hg q
    obtain ⟨M1, a1, a2, a3⟩ := F_endDecade hg hJ hM hR
    have hM1 := hM.fr (a2.mono (ks' := KS) (by decide))
    obtain ⟨M2, b1, b2, b3, b4⟩ := F_goDecade hg (show q + 1 < 40 by omega) (s_end_inv hJ) hM1 a3
    rw [a1, jbd_s, b1, jbd_s, jlet_d, nI_1]
    obtain ⟨M3, c1, c2, c3, c4⟩ := ih n (q + 1) M2 (by omega) (by omega) (hM1.fr b2) b3 b4
    exact ⟨M3, c1, (a2.mono (by decide)).tr (b2.tr c2), c3, c4⟩
theorem F_goTo {g : sG} (hg : GW g) {d : Nat} (hd : d < 40) {M : jx_M} (hM : RM g M) : ∃ M', F_X6_goTo (nI d) M = some ((), M') ∧ FK KS M M' ∧ RS g (s_at g d) M' ∧ M' 8 28 0 = nI (s_e (s_at g d)) := by
  unfold F_X6_goTo
  obtain ⟨M1, a1, a2, a3⟩ := F_begin hg M
  have hM1 := hM.fr a2
  obtain ⟨M2, b1, b2, b3, b4⟩ := F_goDecade hg (show 0 < 40 by omega) (s_pre_inv hg 0) hM1 a3
  obtain ⟨M3, c1, c2, c3, c4⟩ := L_goTo hg hd (fun M_5 => some ((), M_5)) d jfu 0 M2 (by omega) (by unfold jfu; omega) (hM1.fr b2) b3 b4
  refine ⟨M3, ?_, a2.tr (b2.tr c2), c3, c4⟩
  rw [a1, jbd_s, show (0 : Int32) = nI 0 from rfl, b1, jbd_s]
  exact c1
