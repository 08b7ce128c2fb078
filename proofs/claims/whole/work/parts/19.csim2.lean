theorem jix4 (d j : Nat) : nI d * 4 + nI j = nI (d * 4 + j) := by rw [show (4 : Int32) = nI 4 from rfl, pk_mul, nI_add]
theorem jix6 (d j : Nat) : nI d * 6 + nI j = nI (d * 6 + j) := by rw [show (6 : Int32) = nI 6 from rfl, pk_mul, nI_add]
theorem jbcl {x y : Nat} (hx : x < 64) (hy : y < 64) : nI x &&& (nI y ^^^ (-1)) = nI (x &&& (63 - y)) := jb_cl ⟨x, hx⟩ ⟨y, hy⟩
theorem jbtc {x y j : Nat} (hx : x < 64) (hy : y < 64) (hj : j < 6) : (x &&& (63 - y)).testBit j = (x.testBit j && !y.testBit j) := jb_tc ⟨x, hx⟩ ⟨y, hy⟩ ⟨j, hj⟩
theorem jbol {x y : Nat} (hx : x < 64) (hy : y < 64) : nI x ||| nI y = nI (x ||| y) ∧ x ||| y < 64 := jb_ol ⟨x, hx⟩ ⟨y, hy⟩
theorem jbol2 {x i : Nat} (hx : x < 64) (hi : i < 6) : x ||| 2 ^ i < 64 := jb_ol2 ⟨x, hx⟩ ⟨i, hi⟩
theorem L_wakeC {g : sG} (hg : GW g) {d : Nat} (hd : d < 40) {w : Nat → Nat} {G : Nat → Option Nat} {H : Nat → Nat} (hG : ∀ j, j < g 1 0 → ∀ p, G j = some p → p < g 2 0 ∧ d ≤ w p ∧ w p < 1000) {o : Nat} (ho : o ≠ 2) {y2 : Int32} (k : Int32 → jx_M → Option (Unit × jx_M)) :
    ∀ m n j Wm M, j + m = g 1 0 → m < n → M 2 0 0 = nI (g 1 0) → (∀ j, j < g 1 0 → ∀ p, G j = some p → M o 9 j = nI (w p)) → Wm < 64 → (∀ j', j' < g 1 0 → M o 8 j' = gI ((s_wk d w G H j).1 j')) → (∀ p, p < g 2 0 → Wm.testBit p = (s_wk d w G H j).2.2 p) →
    ∃ M' Wm', L_X0_wakeAndBear_5 o (nI d) y2 k n (nI Wm) (nI j) M = k (nI Wm') M' ∧ FO o [8] M M' ∧ Wm' < 64 ∧ (∀ j', j' < g 1 0 → M' o 8 j' = gI ((s_wk d w G H (g 1 0)).1 j')) ∧ (∀ p, p < g 2 0 → Wm'.testBit p = (s_wk d w G H (g 1 0)).2.2 p) := by
  obtain ⟨g1, g2, g3, g4, g5, g6, g7, g8⟩ := id hg
  intro m
  induction m with
  | zero =>
    intro n j Wm M hj hn hP hw hW h1 h2
    obtain ⟨n, rfl⟩ : ∃ q, n = q + 1 := ⟨n - 1, by omega⟩
    refine ⟨M, Wm, ?_, FO.rf, hW, by rw [show s_wk d w G H (g 1 0) = s_wk d w G H j by rw [show g 1 0 = j by omega]]; exact h1, by rw [show s_wk d w G H (g 1 0) = s_wk d w G H j by rw [show g 1 0 = j by omega]]; exact h2⟩
    rw [L_X0_wakeAndBear_5.eq_2, hP, if_pos (nI_le (by omega) (by omega))]
  | succ m ih =>
    intro n j Wm M hj hn hP hw hW h1 h2
    obtain ⟨n, rfl⟩ : ∃ q, n = q + 1 := ⟨n - 1, by omega⟩
    obtain ⟨i1, i2, i3, i4⟩ := s_wk_inv (d := d) (w := w) (G := G) (H := H) j
    rw [L_X0_wakeAndBear_5.eq_2, hP, if_neg (nI_ge (by omega) (by omega)), jin_n (by omega) (by omega), jck_t, jr_n _ _ _ (by omega), h1 j (by omega), jck_t, jr_n _ _ _ (by omega)]
    have e1 : s_wk d w G H (j + 1) = match (s_wk d w G H j).1 j with
      | none => s_wk d w G H j
      | some p => if w p = d then (nu (s_wk d w G H j).1 j none, nu (s_wk d w G H j).2.1 p 1, nu (s_wk d w G H j).2.2 p true) else s_wk d w G H j := rfl
    cases hj2 : (s_wk d w G H j).1 j with
    | none =>
      rw [if_pos gI_9, jlet_d, nI_1]
      rw [hj2] at e1
      exact ih n (j + 1) Wm M (by omega) (by omega) hP hw hW (by rw [e1]; exact h1) (by rw [e1]; exact h2)
    | some p =>
      have hGj : G j = some p := (i1 j p hj2).1
      obtain ⟨hpN, hwd, hwl⟩ := hG j (by omega) p hGj
      rw [hj2] at e1
      dsimp only at e1
      rw [if_neg (gI_n9 (by omega)), hw j (by omega) p hGj]
      by_cases hwe : w p = d
      · rw [if_pos hwe] at e1
        rw [if_neg (nI_nlt (by omega) (by omega)), show gI (some p) = nI p from rfl, jck_t, jbor hW (by omega), jlet_d, jck_t, jw_n _ _ _ _ (by omega), jlet_d, jlet_d, nI_1]
        have hf : FO o [8] M (jx_set M o 8 (upd (M o 8) j (-9))) := FO.set FO.rf List.mem_cons_self
        obtain ⟨M', Wm', a1, a2, a3, a4, a5⟩ := ih n (j + 1) (Wm ||| 2 ^ p) (jx_set M o 8 (upd (M o 8) j (-9))) (by omega) (by omega) (by rw [hf.ob 2 (Ne.symm ho)]; exact hP) (by rw [hf.at 9 (by decide)]; exact hw) (jbol2 hW (by omega)) (fun j' hj' => by
          rw [e1, jx_set_s]
          by_cases hjj : j' = j
          · subst hjj; simp [upd, nu]; rfl
          · simp only [upd, nu, hjj, if_false]; exact h1 j' hj') (fun q hq => by
          rw [e1, jbto hW (by omega) (by omega), h2 q hq]
          by_cases hqp : q = p
          · subst hqp; simp [nu]
          · simp [nu, hqp])
        exact ⟨M', Wm', a1, hf.tr a2, a3, a4, a5⟩
      · rw [if_neg hwe] at e1
        rw [if_pos (nI_lt (by omega) (by omega)), jlet_d, nI_1]
        exact ih n (j + 1) Wm M (by omega) (by omega) hP hw hW (by rw [e1]; exact h1) (by rw [e1]; exact h2)
theorem L_bearC {g : sG} (hg : GW g) {d : Nat} (hd : d < 40) {o : Nat} (ho : o ≠ 2) {y2 y3 : Int32} {U0 : Nat → Bool} (k : jx_M → Option (Unit × jx_M)) :
    ∀ m n q U M, q + m = g 2 0 → m < n → RLa g M → U < 64 → M o 11 0 = nI U → (∀ p, p < g 2 0 → U.testBit p = (U0 p || (decide (p < q) && decide (g 5 p = d)))) →
    ∃ M' U', L_X0_wakeAndBear_70 o (nI d) y2 y3 k n (nI q) M = k M' ∧ FO o [11] M M' ∧ U' < 64 ∧ M' o 11 0 = nI U' ∧ (∀ p, p < g 2 0 → U'.testBit p = (U0 p || decide (g 5 p = d))) := by
  obtain ⟨g1, g2, g3, g4, g5, g6, g7, g8⟩ := id hg
  intro m
  induction m with
  | zero =>
    intro n q U M hj hn hL hU h1 h2
    obtain ⟨n, rfl⟩ : ∃ q, n = q + 1 := ⟨n - 1, by omega⟩
    refine ⟨M, U, ?_, FO.rf, hU, h1, fun p hp => by rw [h2 p hp]; simp [show p < q by omega]⟩
    rw [L_X0_wakeAndBear_70.eq_2, hL.2.1, if_pos (nI_le (by omega) (by omega))]
  | succ m ih =>
    intro n q U M hj hn hL hU h1 h2
    obtain ⟨n, rfl⟩ : ∃ q, n = q + 1 := ⟨n - 1, by omega⟩
    have hb := (hL.2.2 q (by omega)).2.2.1
    have hb9 := (g3 q (by omega)).2.2.1
    rw [L_X0_wakeAndBear_70.eq_2, hL.2.1, if_neg (nI_ge (by omega) (by omega)), jin_n (by omega) (by omega), jck_t, jr_n _ _ _ (by omega), hb]
    by_cases c1 : g 5 q = d
    · rw [if_pos (by rw [c1]), h1, jbor hU (by omega), jlet_d, jlet_d, nI_1]
      have hf : FO o [11] M (jx_p M o 11 (nI (U ||| 2 ^ q))) := FO.p FO.rf List.mem_cons_self
      obtain ⟨M', U', a1, a2, a3, a4, a5⟩ := ih n (q + 1) (U ||| 2 ^ q) (jx_p M o 11 (nI (U ||| 2 ^ q))) (by omega) (by omega) (hL.fr (hf.ob 2 (Ne.symm ho))) (jbol2 hU (by omega)) (jx_p_s _ _ _ _ _) (fun p hp => by
        rw [jbto hU (by omega) (by omega), h2 p hp]
        by_cases hpq : p = q
        · subst hpq; simp [c1]
        · have : decide (p < q + 1) = decide (p < q) := by
            apply decide_eq_decide.mpr; omega
          simp [hpq, this])
      exact ⟨M', U', a1, hf.tr a2, a3, a4, a5⟩
    · rw [if_neg (by rw [nI_eq (by omega) (by omega)]; exact c1), jlet_d, nI_1]
      exact ih n (q + 1) U M (by omega) (by omega) hL hU h1 (fun p hp => by
        rw [h2 p hp]
        by_cases hpq : p = q
        · subst hpq; simp [c1]
        · have : decide (p < q + 1) = decide (p < q) := by
            apply decide_eq_decide.mpr; omega
          rw [this])
/-- the course's own state while they lie down -/
def RFc (g : sG) (s : sF) (wo : Nat → Bool) (age : Nat → Nat) (o : Nat) (M : jx_M) : Prop := (∀ j, j < g 1 0 → M o 8 j = gI (s.1 j)) ∧ (∀ j, j < g 1 0 → ∀ p, s.1 j = some p → M o 9 j = nI (s.2.2.1 p)) ∧ (∀ p, p < g 2 0 → M o 10 p = nI (age p)) ∧ (∃ U, U < 64 ∧ M o 11 0 = nI U ∧ ∀ p, p < g 2 0 → U.testBit p = decide (s.2.1 p = 1)) ∧ (∃ V, V < 64 ∧ M o 12 0 = nI V ∧ ∀ p, p < g 2 0 → V.testBit p = decide (s.2.1 p = 2)) ∧ ∃ X, X < 64 ∧ M o 13 0 = nI X ∧ ∀ p, p < g 2 0 → X.testBit p = s_cnd g s.2.1 wo p
/-- ahead of decade d -/
def RC (g : sG) (t : sS) (o : Nat) (M : jx_M) : Prop := (∀ j, j < g 1 0 → M o 8 j = gI (s_g t j)) ∧ (∀ j, j < g 1 0 → ∀ p, s_g t j = some p → M o 9 j = nI (s_w t p)) ∧ (∀ p, p < g 2 0 → M o 10 p = nI (s_a t p)) ∧ (∃ U, U < 64 ∧ M o 11 0 = nI U ∧ ∀ p, p < g 2 0 → U.testBit p = decide (s_h t p = 1 ∧ s_a t p < g 6 p)) ∧ (∃ V, V < 64 ∧ M o 12 0 = nI V ∧ ∀ p, p < g 2 0 → V.testBit p = decide (s_h t p = 2)) ∧ M o 1 0 = nI (s_c t)
theorem F_wakeBear {g : sG} (hg : GW g) {d : Nat} (hd : d < 40) {t : sS} (hI : SI g d t) {o : Nat} (ho : o ≠ 2) {M : jx_M} (hL : RLa g M) (hR : RC g t o M) : ∃ M', F_X0_wakeAndBear o (nI d) (nI (g 8 0)) M = some ((), M') ∧ FO o [8, 11, 12, 13] M M' ∧ RFc g (s_F g d t 0) (s_W g d t).2.2 (s_a t) o M' := by
  obtain ⟨g1, g2, g3, g4, g5, g6, g7, g8⟩ := id hg
  obtain ⟨r1, r2, r3, ⟨U, u1, u2, u3⟩, ⟨V, v1, v2, v3⟩, r6⟩ := hR
  obtain ⟨i1, i2⟩ := s_W_inv hI
  unfold F_X0_wakeAndBear
  obtain ⟨M1, Wm, a1, a2, a3, a4, a5⟩ := L_wakeC hg hd (w := s_w t) (G := s_g t) (H := s_h1 g d t) (fun j hj p hp => by
    obtain ⟨q1, q2, q3, q4⟩ := hI.2.1 j hj p hp
    exact ⟨q1, q3, by omega⟩) ho (y2 := nI (g 8 0)) (fun x3_2 M_2 => L_X0_wakeAndBear_70 o (nI d) (nI (g 8 0)) x3_2 (fun M_4 => jlet (jx_p M_4 o 13 ((M_4 o 11 0) &&& (nI (g 8 0) ^^^ (-1)))) (fun M_5 => jlet (jx_p M_5 o 11 ((M_5 o 11 0) ||| x3_2)) (fun M_6 => jlet (jx_p M_6 o 12 ((M_6 o 12 0) &&& (x3_2 ^^^ (-1)))) (fun M_7 => some ((), M_7))))) jfu 0 M_2) (g 1 0) jfu 0 0 M (by omega) (by unfold jfu; omega) hL.1 r2 (by decide) r1 (fun p hp => by simp [s_wk])
  obtain ⟨M2, U1, b1, b2, b3, b4, b5⟩ := L_bearC hg hd ho (y2 := nI (g 8 0)) (y3 := nI Wm) (U0 := fun p => U.testBit p) (fun M_4 => jlet (jx_p M_4 o 13 ((M_4 o 11 0) &&& (nI (g 8 0) ^^^ (-1)))) (fun M_5 => jlet (jx_p M_5 o 11 ((M_5 o 11 0) ||| nI Wm)) (fun M_6 => jlet (jx_p M_6 o 12 ((M_6 o 12 0) &&& (nI Wm ^^^ (-1)))) (fun M_7 => some ((), M_7))))) (g 2 0) jfu 0 U M1 (by omega) (by unfold jfu; omega) (hL.fr (a2.ob 2 (Ne.symm ho))) u1 (by rw [a2.at 11 (by decide)]; exact u2) (fun p hp => by simp)
  have e12 : M2 o 12 0 = nI V := by rw [b2.at 12 (by decide), a2.at 12 (by decide)]; exact v2
  refine ⟨jx_p (jx_p (jx_p M2 o 13 (nI (U1 &&& (63 - g 8 0)))) o 11 (nI (U1 ||| Wm))) o 12 (nI (V &&& (63 - Wm))), ?_, ?_, ?_⟩
  · rw [show (0 : Int32) = nI 0 from rfl] at *
    rw [a1, b1, jlet_d, jlet_d, jlet_d, b4, jbcl b3 g4, jx_p_k (by decide), b4, (jbol b3 a3).1, jx_p_k (by decide), jx_p_k (by decide), e12, jbcl v1 a3]
  · exact (a2.mono (by decide)).tr ((b2.mono (by decide)).tr (FO.p (FO.p (FO.p FO.rf (by decide)) (by decide)) (by decide)))
  · have hh1 : ∀ p, p < g 2 0 → ((s_h1 g d t p = 1 ↔ (g 5 p = d ∨ (s_h t p = 1 ∧ s_a t p < g 6 p))) ∧ (s_h1 g d t p = 2 ↔ s_h t p = 2)) := by
      intro p hp
      obtain ⟨z1, z2, z3, z4⟩ := hI.1 p hp
      unfold s_h1
      split
      · omega
      · split <;> omega
    refine ⟨fun j hj => ?_, fun j hj p hp => ?_, fun p hp => ?_, ⟨U1 ||| Wm, (jbol b3 a3).2, ?_, fun p hp => ?_⟩, ⟨V &&& (63 - Wm), jbtl v1, jx_p_s _ _ _ _ _, fun p hp => ?_⟩, ⟨U1 &&& (63 - g 8 0), jbtl b3, ?_, fun p hp => ?_⟩⟩
    · rw [jx_p_k (by decide), jx_p_k (by decide), jx_p_k (by decide), b2.at 8 (by decide)]; exact a4 j hj
    · rw [jx_p_k (by decide), jx_p_k (by decide), jx_p_k (by decide), b2.at 9 (by decide), a2.at 9 (by decide)]
      exact r2 j hj p (i1 j hj p hp).1
    · rw [jx_p_k (by decide), jx_p_k (by decide), jx_p_k (by decide), b2.at 10 (by decide), a2.at 10 (by decide)]; exact r3 p hp
    · rw [jx_p_k (by decide), jx_p_s]
    · rw [Nat.testBit_or, b5 p hp, a5 p hp, u3 p hp]
      obtain ⟨k1, k2, k3, k4⟩ := i2 p hp
      obtain ⟨k5, k6⟩ := hh1 p hp
      show _ = decide ((s_W g d t).2.1 p = 1)
      change (_ || (s_W g d t).2.2 p) = _
      cases hz : (s_W g d t).2.2 p with
      | true => simp [(k4 hz).2]
      | false => rw [k3 hz]; simp only [k5, Bool.or_false, Bool.decide_or, Bool.or_comm, Bool.false_or]
    · rw [jbtc v1 a3 (by omega), v3 p hp, a5 p hp]
      obtain ⟨k1, k2, k3, k4⟩ := i2 p hp
      obtain ⟨k5, k6⟩ := hh1 p hp
      change (_ && !(s_W g d t).2.2 p) = decide ((s_W g d t).2.1 p = 2)
      cases hz : (s_W g d t).2.2 p with
      | true => simp [(k4 hz).2]
      | false => rw [k3 hz]; simp only [k6, Bool.not_false, Bool.and_true]
    · rw [jx_p_k (by decide), jx_p_k (by decide), jx_p_s]
    · rw [jbtc b3 g4 (by omega), b5 p hp, u3 p hp]
      obtain ⟨k1, k2, k3, k4⟩ := i2 p hp
      obtain ⟨k5, k6⟩ := hh1 p hp
      change _ = s_cnd g (s_W g d t).2.1 (s_W g d t).2.2 p
      unfold s_cnd
      cases hz : (s_W g d t).2.2 p with
      | true =>
        have h7 := (k4 hz).1
        have : ¬ (g 5 p = d ∨ (s_h t p = 1 ∧ s_a t p < g 6 p)) := by rw [← k5]; omega
        simp only [not_or] at this
        simp [this.1]
        intro h8 h9
        exact absurd ⟨h8, h9⟩ this.2
      | false => rw [k3 hz]; simp only [k5, Bool.not_false, Bool.and_true, Bool.decide_or, Bool.or_comm]
