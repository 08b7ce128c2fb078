/-! how many are in a set -/
theorem jb_bits : ∀ x : Fin 64, nI x.val &&& 1 = nI (x.val % 2) ∧ nI x.val >>> ((1 : Int32) &&& 31) = nI (x.val / 2) ∧ pop x.val = x.val % 2 + pop (x.val / 2) := by decide +kernel
theorem L_bits (k : Int32 → jx_M → Option (Int32 × jx_M)) (M : jx_M) : ∀ n x c, x < 64 → x < n → L_X6_bits_4 k n (nI c) (nI x) M = k (nI (c + pop x)) M := by
  intro n
  induction n with
  | zero => intro x c h1 h2; omega
  | succ n ih =>
    intro x c h1 h2
    rw [L_X6_bits_4.eq_2]
    by_cases h0 : x = 0
    · subst h0
      rw [if_pos (by decide), show pop 0 = 0 by decide]
      rfl
    · obtain ⟨e1, e2, e3⟩ := jb_bits ⟨x, h1⟩
      dsimp only at e1 e2 e3
      rw [if_neg (nI_nle (by omega) (by omega)), e1, e2, jlet_d, jlet_d, nI_add, ih (x / 2) (c + x % 2) (by omega) (by omega), e3, Nat.add_assoc]
theorem F_bits {x : Nat} (h : x < 64) (M : jx_M) : F_X6_bits (nI x) M = some (nI (pop x), M) := by
  unfold F_X6_bits
  rw [show (0 : Int32) = nI 0 from rfl, L_bits _ _ jfu x 0 h (by unfold jfu; omega), Nat.zero_add]
/-! who is born, who dies -/
theorem L_born {g : sG} (hg : GW g) {d : Nat} (hd : d < 40) {t : sS} (hI : SI g d t) (k : jx_M → Option (Unit × jx_M)) :
    ∀ m n q M, q + m = g 2 0 → m < n → RM g M → (∀ p, p < g 2 0 → M 8 24 p = nI (s_a t p)) → (∀ p, p < q → M 8 23 p = nI (s_h1 g d t p)) → (∀ p, q ≤ p → p < g 2 0 → M 8 23 p = nI (s_h t p)) →
    ∃ M', L_X6_goDecade_2 (nI d) k n (nI q) M = k M' ∧ FK [23] M M' ∧ ∀ p, p < g 2 0 → M' 8 23 p = nI (s_h1 g d t p) := by
  obtain ⟨g1, g2, g3, g4, g5, g6, g7, g8⟩ := id hg
  intro m
  induction m with
  | zero =>
    intro n q M hj hn hM ha h1 h2
    obtain ⟨n, rfl⟩ : ∃ q, n = q + 1 := ⟨n - 1, by omega⟩
    refine ⟨M, ?_, FK.rf, fun p hp => h1 p (by omega)⟩
    rw [L_X6_goDecade_2.eq_2, hM.2.1, if_pos (nI_le (by omega) (by omega))]
  | succ m ih =>
    intro n q M hj hn hM ha h1 h2
    obtain ⟨n, rfl⟩ : ∃ q, n = q + 1 := ⟨n - 1, by omega⟩
    obtain ⟨a1, a2, a3, a4, a5⟩ := hM.2.2.1 q (by omega)
    obtain ⟨b1, b2, b3, b4, b5⟩ := g3 q (by omega)
    obtain ⟨i1, i2, i3, i4⟩ := hI.1 q (by omega)
    have hq := h2 q (Nat.le_refl q) (by omega)
    have hA := ha q (by omega)
    have key : ∀ v, v = s_h1 g d t q → ∃ M', L_X6_goDecade_2 (nI d) k n (nI (q + 1)) (jx_set M 8 23 (upd (M 8 23) q (nI v))) = k M' ∧ FK [23] M M' ∧ ∀ p, p < g 2 0 → M' 8 23 p = nI (s_h1 g d t p) := by
      intro v hv
      have hf : FK [23] M (jx_set M 8 23 (upd (M 8 23) q (nI v))) := FK.set FK.rf (by decide)
      obtain ⟨M', h5, h6, h7⟩ := ih n (q + 1) (jx_set M 8 23 (upd (M 8 23) q (nI v))) (by omega) (by omega) (hM.fr (hf.mono (by decide))) (fun p hp => by rw [hf.at 24 (by decide)]; exact ha p hp) (fun p hp => by
        rw [jx_set_s]
        by_cases hpq : p = q
        · subst hpq; simp [upd, hv]
        · simp only [upd, hpq, if_false]; exact h1 p (by omega)) (fun p hp hp2 => by
        rw [jx_set_s]
        simp only [upd, show ¬ p = q by omega, if_false]
        exact h2 p (by omega) hp2)
      exact ⟨M', h5, hf.tr h6, h7⟩
    rw [L_X6_goDecade_2.eq_2, hM.2.1, if_neg (nI_ge (by omega) (by omega))]
    simp (disch := omega) only [jin_n, jck_t, jr_n, hq, hA, a3, a4, jw_n, jlet_d, nI_add, nI_ltI, nI_eq, show (1 : Int32) = nI 1 from rfl, show (3 : Int32) = nI 3 from rfl]
    have hv : s_h1 g d t q = if g 5 q = d then 1 else if s_h t q = 1 ∧ g 6 q ≤ s_a t q then 3 else s_h t q := rfl
    by_cases c1 : s_h t q = 1
    · by_cases c2 : s_a t q < g 6 q
      · by_cases c3 : g 5 q = d
        · simp only [c1, c2, c3, if_true]; exact key 1 (by rw [hv, if_pos c3])
        · simp only [c1, c2, c3, if_true, if_false]; exact key 1 (by rw [hv, if_neg c3, if_neg (by omega), c1])
      · by_cases c3 : g 5 q = d
        · simp only [c1, c2, c3, if_true, if_false]; exact key 1 (by rw [hv, if_pos c3])
        · simp only [c1, c2, c3, if_true, if_false]; exact key 3 (by rw [hv, if_neg c3, if_pos (by omega)])
    · by_cases c3 : g 5 q = d
      · simp only [c1, c3, if_true, if_false]; exact key 1 (by rw [hv, if_pos c3])
      · simp only [c1, c3, if_false]; exact key (s_h t q) (by rw [hv, if_neg c3, if_neg (by omega)])
/-! who lies down -/
theorem L_fill {g : sG} (hg : GW g) {d : Nat} (hd : d < 40) {t : sS} (hI : SI g d t) (k : jx_M → Option (Unit × jx_M)) :
    ∀ m n j M, j + m = g 1 0 → m < n → RM g M → RF g (s_F g d t j) (s_W g d t).2.2 (s_a t) (s_l t) (s_c t) M →
    ∃ M', L_X6_goDecade_93 (nI d) k n (nI j) M = k M' ∧ FK [23, 25, 27, 28] M M' ∧ RF g (s_F g d t (g 1 0)) (s_W g d t).2.2 (s_a t) (s_l t) (s_c t) M' := by
  obtain ⟨g1, g2, g3, g4, g5, g6, g7, g8⟩ := id hg
  intro m
  induction m with
  | zero =>
    intro n j M hj hn hM hR
    obtain ⟨n, rfl⟩ : ∃ q, n = q + 1 := ⟨n - 1, by omega⟩
    refine ⟨M, ?_, FK.rf, by rw [show g 1 0 = j by omega]; exact hR⟩
    rw [L_X6_goDecade_93.eq_2, hM.1, if_pos (nI_le (by omega) (by omega))]
  | succ m ih =>
    intro n j M hj hn hM hR
    obtain ⟨n, rfl⟩ : ∃ q, n = q + 1 := ⟨n - 1, by omega⟩
    obtain ⟨f1, f2, f3, f4⟩ := s_F_inv hg hI j (by omega)
    obtain ⟨r1, r2, r3, r4, r5, r6⟩ := id hR
    have e1 : s_F g d t (j + 1) = s_fs g d (s_a t) (s_W g d t).2.2 j (s_F g d t j) := rfl
    generalize hs : s_F g d t j = s at f1 f2 f3 f4 r1 r2 r3 r4 e1 hR
    have hg10 := hM.2.2.2.2.2.1 j (by omega)
    have hg10b := g6 j (by omega)
    rw [L_X6_goDecade_93.eq_2, hM.1, if_neg (nI_ge (by omega) (by omega)), jin_n (by omega) (by omega), jck_t, jr_n _ _ _ (by omega), r2 j (by omega), jck_t, jr_n _ _ _ (by omega), hg10]
    unfold s_fs at e1
    cases c1 : s.1 j with
    | some p =>
      rw [if_pos (gI_pos (by have := (f1 j (by omega) p c1).1; omega)), jlet_d, nI_1]
      rw [if_neg (by rw [c1]; simp)] at e1
      exact ih n (j + 1) M (by omega) (by omega) hM (by rw [e1]; exact hR)
    | none =>
      rw [if_neg gI_npos]
      by_cases c2 : d < g 10 j
      · rw [if_neg (nI_ge c2 (by omega))]
        rw [if_pos ⟨c1, c2⟩] at e1
        rw [F_lierAt hg hR hM (fun p hp => (f3 p hp).1) (fun p hp => by have := (hI.1 p hp).2.1; omega) (by omega) hd, jbd_s]
        cases c3 : s_lie g j d (s_a t) (s_cnd g s.2.1 (s_W g d t).2.2) with
        | none =>
          rw [c3] at e1
          dsimp only at e1
          rw [jck_t, jw_n _ _ _ _ (by omega), jlet_d, if_neg gI_npos, jlet_d, if_pos gI_neg, jlet_d, nI_1]
          have hf : FK [23, 25, 27, 28] M (jx_p (jx_set M 8 27 (upd (M 8 27) j (gI none))) 8 28 ((jx_set M 8 27 (upd (M 8 27) j (gI none))) 8 28 0 ||| (1 <<< (nI j &&& 31)))) := FK.p (FK.set FK.rf (by decide)) (by decide)
          obtain ⟨M', h5, h6, h7⟩ := ih n (j + 1) _ (by omega) (by omega) (hM.fr (hf.mono (by decide))) (by
            rw [e1]
            refine ⟨fun p hp => ?_, fun i hi => ?_, fun i hi p hp => ?_, ?_, ?_, ?_⟩
            · rw [jx_p_n (by decide), jx_set_n (by decide), jx_p_n (by decide), jx_set_n (by decide), jx_p_n (by decide), jx_set_n (by decide)]; exact r1 p hp
            · rw [jx_p_n (by decide), jx_set_s]
              by_cases hij : i = j
              · subst hij; simp [upd, c1]
              · simp only [upd, hij, if_false]; exact r2 i hi
            · rw [jx_p_n (by decide), jx_set_n (by decide)]; exact r3 i hi p hp
            · rw [jx_p_s, jx_set_n (by decide), r4]; exact jbor f4 (by omega)
            · rw [jx_p_n (by decide), jx_set_n (by decide)]; exact r5
            · rw [jx_p_n (by decide), jx_set_n (by decide)]; exact r6)
          exact ⟨M', h5, hf.tr h6, h7⟩
        | some p =>
          rw [c3] at e1
          dsimp only at e1
          obtain ⟨k1, k2⟩ := s_lie_in hg c3
          obtain ⟨k3, k4, k5⟩ := s_cnd_e k1
          rw [jck_t, jw_n _ _ _ _ (by omega), jlet_d, if_pos (gI_pos (by omega)), jlet_d, if_neg (gI_nneg (by omega)), show gI (some p) = nI p from rfl, jin_n (by omega) (by omega), jck_t, jw_n _ _ _ _ (by omega), jlet_d]
          have hf0 : FK [23, 25, 27, 28] M (jx_set (jx_p (jx_set M 8 27 (upd (M 8 27) j (nI p))) 8 28 (jx_set M 8 27 (upd (M 8 27) j (nI p)) 8 28 0 ||| 0)) 8 23 (upd (jx_p (jx_set M 8 27 (upd (M 8 27) j (nI p))) 8 28 (jx_set M 8 27 (upd (M 8 27) j (nI p)) 8 28 0 ||| 0) 8 23) p 2)) := FK.set (FK.p (FK.set FK.rf (by decide)) (by decide)) (by decide)
          rw [F_sleepOf hg (hM.fr (hf0.mono (by decide))) k2, jbd_s, jck_t, jw_n _ _ _ _ (by omega), jlet_d, jlet_d, nI_add, nI_1]
          have hf := hf0.set (k := 25) (f := upd (jx_set (jx_p (jx_set M 8 27 (upd (M 8 27) j (nI p))) 8 28 (jx_set M 8 27 (upd (M 8 27) j (nI p)) 8 28 0 ||| 0)) 8 23 (upd (jx_p (jx_set M 8 27 (upd (M 8 27) j (nI p))) 8 28 (jx_set M 8 27 (upd (M 8 27) j (nI p)) 8 28 0 ||| 0) 8 23) p 2) 8 25) p (nI (d + s_slp g p))) (by decide)
          obtain ⟨M', h5, h6, h7⟩ := ih n (j + 1) _ (by omega) (by omega) (hM.fr (hf.mono (by decide))) (by
            rw [e1]
            refine ⟨fun q hq => ?_, fun i hi => ?_, fun i hi q hq => ?_, ?_, ?_, ?_⟩
            · rw [jx_set_n (by decide), jx_set_s, jx_p_n (by decide), jx_set_n (by decide), jx_set_n (by decide), jx_set_n (by decide), jx_p_n (by decide), jx_set_n (by decide), jx_set_n (by decide), jx_set_n (by decide), jx_p_n (by decide), jx_set_n (by decide)]
              refine ⟨?_, (r1 q hq).2⟩
              by_cases hqp : q = p
              · subst hqp; simp [upd, nu]; rfl
              · simp only [upd, nu, hqp, if_false]; exact (r1 q hq).1
            · rw [jx_set_n (by decide), jx_set_n (by decide), jx_p_n (by decide), jx_set_s]
              by_cases hij : i = j
              · subst hij; simp [upd, nu]; rfl
              · simp only [upd, nu, hij, if_false]; exact r2 i hi
            · rw [jx_set_s, jx_set_n (by decide), jx_p_n (by decide), jx_set_n (by decide)]
              dsimp only at hq
              by_cases hij : i = j
              · subst hij
                rw [nu_s] at hq
                cases hq
                simp [upd, nu]
              · rw [nu_n hij] at hq
                have hne : q ≠ p := by
                  intro e
                  have := (f1 i hi q hq).2.1
                  rw [e] at this
                  omega
                simp only [upd, nu, hne, if_false]
                exact r3 i hi q hq
            · rw [jx_set_n (by decide), jx_set_n (by decide), jx_p_s, jx_set_n (by decide), r4]
              simp
            · rw [jx_set_n (by decide), jx_set_n (by decide), jx_p_n (by decide), jx_set_n (by decide)]; exact r5
            · rw [jx_set_n (by decide), jx_set_n (by decide), jx_p_n (by decide), jx_set_n (by decide)]; exact r6)
          exact ⟨M', h5, hf.tr h6, h7⟩
      · rw [if_pos (nI_le (by omega) (by omega)), jlet_d, nI_1]
        rw [if_neg (fun z => c2 z.2)] at e1
        exact ih n (j + 1) M (by omega) (by omega) hM (by rw [e1]; exact hR)
