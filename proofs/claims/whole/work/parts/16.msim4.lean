theorem L_slept {g : sG} (hg : GW g) {H sl : Nat → Nat} (hH : ∀ p, p < g 2 0 → H p ≤ 3) (k : jx_M → Option (Unit × jx_M)) :
    ∀ m n q M, q + m = g 2 0 → m < n → M 8 2 0 = nI (g 2 0) → (∀ p, p < g 2 0 → M 8 23 p = nI (H p)) → (∀ p, p < q → M 8 26 p = nI (sl p + if H p = 2 then 1 else 0)) → (∀ p, q ≤ p → p < g 2 0 → M 8 26 p = nI (sl p)) →
    ∃ M', L_X6_goDecade_202 k n (nI q) M = k M' ∧ FK [26] M M' ∧ ∀ p, p < g 2 0 → M' 8 26 p = nI (sl p + if H p = 2 then 1 else 0) := by
  obtain ⟨g1, g2, g3, g4, g5, g6, g7, g8⟩ := id hg
  intro m
  induction m with
  | zero =>
    intro n q M hj hn hM ha h1 h2
    obtain ⟨n, rfl⟩ : ∃ q, n = q + 1 := ⟨n - 1, by omega⟩
    refine ⟨M, ?_, FK.rf, fun p hp => h1 p (by omega)⟩
    rw [L_X6_goDecade_202.eq_2, hM, if_pos (nI_le (by omega) (by omega))]
  | succ m ih =>
    intro n q M hj hn hM ha h1 h2
    obtain ⟨n, rfl⟩ : ∃ q, n = q + 1 := ⟨n - 1, by omega⟩
    have hq := h2 q (Nat.le_refl q) (by omega)
    have hA := ha q (by omega)
    have hB := hH q (by omega)
    have key : ∀ v, v = sl q + (if H q = 2 then 1 else 0) → ∃ M', L_X6_goDecade_202 k n (nI (q + 1)) (jx_set M 8 26 (upd (M 8 26) q (nI v))) = k M' ∧ FK [26] M M' ∧ ∀ p, p < g 2 0 → M' 8 26 p = nI (sl p + if H p = 2 then 1 else 0) := by
      intro v hv
      have hf : FK [26] M (jx_set M 8 26 (upd (M 8 26) q (nI v))) := FK.set FK.rf (by decide)
      obtain ⟨M', h5, h6, h7⟩ := ih n (q + 1) (jx_set M 8 26 (upd (M 8 26) q (nI v))) (by omega) (by omega) (by rw [hf.at 2 (by decide)]; exact hM) (fun p hp => by rw [hf.at 23 (by decide)]; exact ha p hp) (fun p hp => by
        rw [jx_set_s]
        by_cases hpq : p = q
        · subst hpq; simp only [upd, if_true, hv]
        · simp only [upd, hpq, if_false]; exact h1 p (by omega)) (fun p hp hp2 => by
        rw [jx_set_s]
        simp only [upd, show ¬ p = q by omega, if_false]
        exact h2 p (by omega) hp2)
      exact ⟨M', h5, hf.tr h6, h7⟩
    rw [L_X6_goDecade_202.eq_2, hM, if_neg (nI_ge (by omega) (by omega))]
    simp (disch := omega) only [jin_n, jck_t, jr_n, hq, hA, jw_n, jlet_d, nI_add, nI_eq, show (1 : Int32) = nI 1 from rfl, show (2 : Int32) = nI 2 from rfl, show (0 : Int32) = nI 0 from rfl]
    by_cases c1 : H q = 2
    · simp only [c1, if_true]; exact key _ (by rw [if_pos c1])
    · simp only [c1, if_false]; exact key _ (by rw [if_neg c1])
/-- a state of the course in the model's memory -/
def RS (g : sG) (t : sS) (M : jx_M) : Prop := (∀ p, p < g 2 0 → M 8 23 p = nI (s_h t p) ∧ M 8 24 p = nI (s_a t p) ∧ M 8 26 p = nI (s_l t p)) ∧ (∀ j, j < g 1 0 → M 8 27 j = gI (s_g t j)) ∧ (∀ j, j < g 1 0 → ∀ p, s_g t j = some p → M 8 25 p = nI (s_w t p)) ∧ M 8 29 0 = nI (s_c t)
abbrev KS : List Nat := [23, 24, 25, 26, 27, 28, 29, 30]
theorem F_wakeAll {g : sG} (hg : GW g) {d : Nat} (hd : d < 40) {w : Nat → Nat} {G : Nat → Option Nat} {H : Nat → Nat} (hG : ∀ j, j < g 1 0 → ∀ p, G j = some p → p < g 2 0 ∧ w p < 1000) {M : jx_M} (hM : RM g M) (h1 : ∀ p, p < g 2 0 → M 8 23 p = nI (H p)) (h2 : ∀ j, j < g 1 0 → M 8 27 j = gI (G j)) (h3 : ∀ j, j < g 1 0 → ∀ p, G j = some p → M 8 25 p = nI (w p)) : ∃ M', F_X6_wakeAll (nI d) M = some ((), M') ∧ FK [23, 27, 30] M M' ∧ RW g (s_wk d w G H (g 1 0)) M' := by
  obtain ⟨g1, g2, g3, g4, g5, g6, g7, g8⟩ := id hg
  unfold F_X6_wakeAll
  rw [F_all hM.2.1 g2, jbd_s, jlet_d]
  have hf : FK [23, 27, 30] M (jx_p M 8 30 (nI (2 ^ g 2 0 - 1))) := FK.p FK.rf (by decide)
  have hlt : 2 ^ g 2 0 - 1 < 64 := by
    have : 2 ^ g 2 0 ≤ 2 ^ 6 := Nat.pow_le_pow_right (by decide) g2
    omega
  obtain ⟨M', a1, a2, a3⟩ := L_wake hg hd (w := w) (G := G) (H := H) hG (fun M_6 => some ((), M_6)) (g 1 0) jfu 0 (jx_p M 8 30 (nI (2 ^ g 2 0 - 1))) (by omega) (by unfold jfu; omega) (by rw [hf.at 1 (by decide)]; exact hM.1) (by rw [hf.at 25 (by decide)]; exact h3) ⟨fun p hp => by rw [jx_p_n (by decide)]; exact h1 p hp, fun j hj => by rw [jx_p_n (by decide)]; exact h2 j hj, 2 ^ g 2 0 - 1, hlt, jx_p_s _ _ _ _ _, fun p hp => by
    rw [Nat.testBit_two_pow_sub_one]
    simp [hp, s_wk]⟩
  exact ⟨M', a1, hf.tr a2, a3⟩
theorem F_goDecade {g : sG} (hg : GW g) {d : Nat} (hd : d < 40) {t : sS} (hI : SI g d t) {M : jx_M} (hM : RM g M) (hR : RS g t M) : ∃ M', F_X6_goDecade (nI d) M = some ((), M') ∧ FK KS M M' ∧ RS g (s_go g d t) M' ∧ M' 8 28 0 = nI (s_e (s_go g d t)) := by
  obtain ⟨g1, g2, g3, g4, g5, g6, g7, g8⟩ := id hg
  obtain ⟨r1, r2, r3, r4⟩ := hR
  unfold F_X6_goDecade
  rw [show (0 : Int32) = nI 0 from rfl]
  obtain ⟨M1, a1, a2, a3⟩ := L_born hg hd hI (fun M_7 => jbd (F_X6_wakeAll (nI d) M_7) (fun r_1 M_8 => jlet (jx_p M_8 8 28 (nI 0)) (fun M_9 => L_X6_goDecade_93 (nI d) (fun M_20 => jbd (F_X6_bits (M_20 8 28 0) M_20) (fun r_5 M_21 => jlet (jx_p M_21 8 29 ((M_20 8 29 0) + r_5)) (fun M_22 => L_X6_goDecade_202 (fun M_25 => some ((), M_25)) jfu (nI 0) M_22))) jfu (nI 0) M_9))) (g 2 0) jfu 0 M (by omega) (by unfold jfu; omega) hM (fun p hp => (r1 p hp).2.1) (fun p hp => by omega) (fun p _ hp => (r1 p hp).1)
  rw [a1]
  have hM1 := hM.fr (a2.mono (ks' := KS) (by decide))
  obtain ⟨M2, b1, b2, b3⟩ := F_wakeAll hg hd (w := s_w t) (G := s_g t) (H := s_h1 g d t) (fun j hj p hp => by
    obtain ⟨q1, q2, q3, q4⟩ := hI.2.1 j hj p hp
    exact ⟨q1, by omega⟩) hM1 a3 (by rw [a2.at 27 (by decide)]; exact r2) (by rw [a2.at 25 (by decide)]; exact r3)
  rw [b1, jbd_s, jlet_d]
  have hM2 := hM1.fr (b2.mono (ks' := KS) (by decide))
  have hf3 : FK KS M2 (jx_p M2 8 28 (nI 0)) := FK.p FK.rf (by decide)
  obtain ⟨i1, i2⟩ := s_W_inv hI
  obtain ⟨w1, w2, w3⟩ := b3
  obtain ⟨M3, c1, c2, c3⟩ := L_fill hg hd hI (fun M_20 => jbd (F_X6_bits (M_20 8 28 0) M_20) (fun r_5 M_21 => jlet (jx_p M_21 8 29 ((M_20 8 29 0) + r_5)) (fun M_22 => L_X6_goDecade_202 (fun M_25 => some ((), M_25)) jfu (nI 0) M_22))) (g 1 0) jfu 0 (jx_p M2 8 28 (nI 0)) (by omega) (by unfold jfu; omega) (hM2.fr hf3) (by
    refine ⟨fun p hp => ?_, fun j hj => ?_, fun j hj p hp => ?_, jx_p_s _ _ _ _ _, ?_, ?_⟩
    · rw [jx_p_n (by decide), jx_p_n (by decide), jx_p_n (by decide), b2.at 24 (by decide), b2.at 26 (by decide), a2.at 24 (by decide), a2.at 26 (by decide)]
      exact ⟨w1 p hp, (r1 p hp).2⟩
    · rw [jx_p_n (by decide)]; exact w2 j hj
    · rw [jx_p_n (by decide), b2.at 25 (by decide), a2.at 25 (by decide)]
      exact r3 j hj p (i1 j hj p hp).1
    · rw [jx_p_n (by decide), b2.at 29 (by decide), a2.at 29 (by decide)]; exact r4
    · rw [jx_p_n (by decide)]; exact w3)
  rw [c1]
  obtain ⟨f1, f2, f3, f4, f5, f6⟩ := c3
  obtain ⟨z1, z2, z3, z4⟩ := s_F_inv hg hI (g 1 0) (Nat.le_refl _)
  rw [f4, F_bits z4, jbd_s, f5, jlet_d, nI_add]
  have hf4 : FK KS M3 (jx_p M3 8 29 (nI (s_c t + pop (s_F g d t (g 1 0)).2.2.2))) := FK.p FK.rf (by decide)
  have hf13 : FK KS M M3 := (a2.mono (by decide)).tr ((b2.mono (by decide)).tr (hf3.tr (c2.mono (by decide))))
  obtain ⟨M4, d1, d2, d3⟩ := L_slept hg (H := (s_F g d t (g 1 0)).2.1) (sl := s_l t) (fun p hp => (z3 p hp).1) (fun M_25 => some ((), M_25)) (g 2 0) jfu 0 (jx_p M3 8 29 (nI (s_c t + pop (s_F g d t (g 1 0)).2.2.2))) (by omega) (by unfold jfu; omega) (by rw [jx_p_n (by decide), hf13.at 2 (by decide)]; exact hM.2.1) (fun p hp => by rw [jx_p_n (by decide)]; exact (f1 p hp).1) (fun p hp => by omega) (fun p _ hp => by rw [jx_p_n (by decide)]; exact (f1 p hp).2.2)
  refine ⟨M4, d1, hf13.tr (hf4.tr (d2.mono (by decide))), ⟨fun p hp => ⟨?_, ?_, d3 p hp⟩, fun j hj => ?_, fun j hj p hp => ?_, ?_⟩, ?_⟩
  · rw [d2.at 23 (by decide), jx_p_n (by decide)]; exact (f1 p hp).1
  · rw [d2.at 24 (by decide), jx_p_n (by decide)]; exact (f1 p hp).2.1
  · rw [d2.at 27 (by decide), jx_p_n (by decide)]; exact f2 j hj
  · rw [d2.at 25 (by decide), jx_p_n (by decide)]; exact f3 j hj p hp
  · rw [d2.at 29 (by decide), jx_p_s]; rfl
  · rw [d2.at 28 (by decide), jx_p_n (by decide)]; exact f4
/-! the end of a decade -/
theorem L_endD {g : sG} (hg : GW g) {H a : Nat → Nat} (hH : ∀ p, p < g 2 0 → H p ≤ 3) (k : jx_M → Option (Unit × jx_M)) :
    ∀ m n q M, q + m = g 2 0 → m < n → M 8 2 0 = nI (g 2 0) → (∀ p, p < g 2 0 → M 8 23 p = nI (H p)) → (∀ p, p < q → M 8 24 p = nI (a p + if H p = 1 then 1 else 0)) → (∀ p, q ≤ p → p < g 2 0 → M 8 24 p = nI (a p)) →
    ∃ M', L_X6_endDecade_2 k n (nI q) M = k M' ∧ FK [24] M M' ∧ ∀ p, p < g 2 0 → M' 8 24 p = nI (a p + if H p = 1 then 1 else 0) := by
  obtain ⟨g1, g2, g3, g4, g5, g6, g7, g8⟩ := id hg
  intro m
  induction m with
  | zero =>
    intro n q M hj hn hM ha h1 h2
    obtain ⟨n, rfl⟩ : ∃ q, n = q + 1 := ⟨n - 1, by omega⟩
    refine ⟨M, ?_, FK.rf, fun p hp => h1 p (by omega)⟩
    rw [L_X6_endDecade_2.eq_2, hM, if_pos (nI_le (by omega) (by omega))]
  | succ m ih =>
    intro n q M hj hn hM ha h1 h2
    obtain ⟨n, rfl⟩ : ∃ q, n = q + 1 := ⟨n - 1, by omega⟩
    have hq := h2 q (Nat.le_refl q) (by omega)
    have hA := ha q (by omega)
    have hB := hH q (by omega)
    have key : ∀ v, v = a q + (if H q = 1 then 1 else 0) → ∃ M', L_X6_endDecade_2 k n (nI (q + 1)) (jx_set M 8 24 (upd (M 8 24) q (nI v))) = k M' ∧ FK [24] M M' ∧ ∀ p, p < g 2 0 → M' 8 24 p = nI (a p + if H p = 1 then 1 else 0) := by
      intro v hv
      have hf : FK [24] M (jx_set M 8 24 (upd (M 8 24) q (nI v))) := FK.set FK.rf (by decide)
      obtain ⟨M', h5, h6, h7⟩ := ih n (q + 1) (jx_set M 8 24 (upd (M 8 24) q (nI v))) (by omega) (by omega) (by rw [hf.at 2 (by decide)]; exact hM) (fun p hp => by rw [hf.at 23 (by decide)]; exact ha p hp) (fun p hp => by
        rw [jx_set_s]
        by_cases hpq : p = q
        · subst hpq; simp only [upd, if_true, hv]
        · simp only [upd, hpq, if_false]; exact h1 p (by omega)) (fun p hp hp2 => by
        rw [jx_set_s]
        simp only [upd, show ¬ p = q by omega, if_false]
        exact h2 p (by omega) hp2)
      exact ⟨M', h5, hf.tr h6, h7⟩
    rw [L_X6_endDecade_2.eq_2, hM, if_neg (nI_ge (by omega) (by omega))]
    simp (disch := omega) only [jin_n, jck_t, jr_n, hq, hA, jw_n, jlet_d, nI_add, nI_eq, show (1 : Int32) = nI 1 from rfl, show (0 : Int32) = nI 0 from rfl]
    by_cases c1 : H q = 1
    · simp only [c1, if_true]; exact key _ (by rw [if_pos c1])
    · simp only [c1, if_false]; exact key _ (by rw [if_neg c1])
theorem F_endDecade {g : sG} (hg : GW g) {d : Nat} {t : sS} (hJ : SJ g d t) {M : jx_M} (hM : RM g M) (hR : RS g t M) : ∃ M', F_X6_endDecade M = some ((), M') ∧ FK [24] M M' ∧ RS g (s_end t) M' := by
  obtain ⟨r1, r2, r3, r4⟩ := hR
  have := hg.2.1
  obtain ⟨M', a1, a2, a3⟩ := L_endD hg (H := s_h t) (a := s_a t) (fun p hp => (hJ.1 p hp).1) (fun M_3 => some ((), M_3)) (g 2 0) jfu 0 M (by omega) (by unfold jfu; omega) hM.2.1 (fun p hp => (r1 p hp).1) (fun p hp => by omega) (fun p _ hp => (r1 p hp).2.1)
  refine ⟨M', a1, a2, fun p hp => ⟨by rw [a2.at 23 (by decide)]; exact (r1 p hp).1, a3 p hp, by rw [a2.at 26 (by decide)]; exact (r1 p hp).2.2⟩, by rw [a2.at 27 (by decide)]; exact r2, by rw [a2.at 25 (by decide)]; exact r3, by rw [a2.at 29 (by decide)]; exact r4⟩
