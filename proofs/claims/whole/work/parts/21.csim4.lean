def bcx (a0 : Int32) : Int32 :=
  let x1 := a0 - ((a0.toUInt32 >>> ((1 : Int32).toUInt32 &&& Int32.toUInt32 31)).toInt32 &&& 1431655765)
  let x2 := (x1 &&& 858993459) + ((x1.toUInt32 >>> ((2 : Int32).toUInt32 &&& Int32.toUInt32 31)).toInt32 &&& 858993459)
  let x3 := (x2 + (x2.toUInt32 >>> ((4 : Int32).toUInt32 &&& Int32.toUInt32 31)).toInt32) &&& 252645135
  let x4 := x3 + (x3.toUInt32 >>> ((8 : Int32).toUInt32 &&& Int32.toUInt32 31)).toInt32
  let x5 := x4 + (x4.toUInt32 >>> ((16 : Int32).toUInt32 &&& Int32.toUInt32 31)).toInt32
  x5 &&& 63
theorem jb_bc : ∀ x : Fin 64, bcx (nI x.val) = nI (pop x.val) := by decide +kernel
theorem F_bc {x : Nat} (hx : x < 64) (M : jx_M) : F_J6_bitCount_0f7a4 (nI x) M = some (nI (pop x), M) := by
  have h : F_J6_bitCount_0f7a4 (nI x) M = some (bcx (nI x), M) := rfl
  rw [h, jb_bc ⟨x, hx⟩]
theorem F_fillPosts {g : sG} (hg : GW g) {d : Nat} (hd : d < 40) {t : sS} (hI : SI g d t) {o w : Nat} (ho : o ≠ 2) (how : w ≠ o) {M : jx_M} (hL : RLa g M) (hO : RO g w M) (hR : RFc g (s_F g d t 0) (s_W g d t).2.2 (s_a t) o M) (hc : M o 1 0 = nI (s_c t)) :
    ∃ M', F_X0_fillPosts o (nI d) w M = some ((), M') ∧ FO o [0, 1, 4, 5, 8, 9, 11, 12, 13] M M' ∧ RE d o M M' ∧ RFc g (s_F g d t (g 1 0)) (s_W g d t).2.2 (s_a t) o M' ∧ RP g d t o (g 1 0) M' ∧ M' o 1 0 = nI (s_c (s_go g d t)) := by
  have g1 := hg.1
  unfold F_X0_fillPosts
  rw [jin_n (by omega) (by omega), jck_t, jw_n _ _ _ _ (by omega), jlet_d]
  have hf0 : FO o [0, 1, 4, 5, 8, 9, 11, 12, 13] M (jx_set M o 0 (upd (M o 0) d 0)) := FO.set FO.rf (by decide)
  obtain ⟨M1, a1, a2, a3, a4, a5⟩ := L_fillC hg hd hI ho how (fun M_10 => jck true (jbd (F_J6_bitCount_0f7a4 (jx_r M_10 o 0 (nI d)) M_10) (fun r_3 M_11 => jlet (jx_p M_11 o 1 ((M_10 o 1 0) + r_3)) (fun M_12 => some ((), M_12))))) (g 1 0) jfu 0 (jx_set M o 0 (upd (M o 0) d 0)) (by omega) (by unfold jfu; omega) (hL.fr (hf0.ob 2 (Ne.symm ho))) (hO.fr (hf0.ob w how)) (by
    unfold RFc
    rw [jx_set_k (by decide), jx_set_k (by decide), jx_set_k (by decide), jx_set_k (by decide), jx_set_k (by decide), jx_set_k (by decide)]
    exact hR) ⟨fun i hi => by omega, fun i hi => by omega, by rw [jx_set_s]; simp [upd]; rfl⟩
  obtain ⟨z1, z2, z3, z4⟩ := s_F_inv hg hI (g 1 0) (Nat.le_refl _)
  have hc1 : M1 o 1 0 = nI (s_c t) := by rw [a2.at 1 (by decide), jx_set_k (by decide)]; exact hc
  refine ⟨jx_p M1 o 1 (nI (s_c t + pop (s_F g d t (g 1 0)).2.2.2)), ?_, hf0.tr ((a2.mono (by decide)).tr (FO.p FO.rf (by decide))), ?_, ?_, ?_, ?_⟩
  · rw [show (0 : Int32) = nI 0 from rfl] at *
    rw [a1, jck_t, jr_n _ _ _ (by omega), a5.2.2, F_bc z4, jbd_s, jlet_d, hc1, nI_add]
  · refine RE.tr (M1 := jx_set M o 0 (upd (M o 0) d 0)) ⟨fun i _ => ⟨by rw [jx_set_k (by decide)], by rw [jx_set_k (by decide)]⟩, fun i hi => by rw [jx_set_s]; simp [upd, show ¬ i = d by omega]⟩ (a3.tr (RE.of (jx_p_k (by decide)) (jx_p_k (by decide)) (jx_p_k (by decide))))
  · unfold RFc
    rw [jx_p_k (by decide), jx_p_k (by decide), jx_p_k (by decide), jx_p_k (by decide), jx_p_k (by decide), jx_p_k (by decide)]
    exact a4
  · unfold RP
    rw [jx_p_k (by decide), jx_p_k (by decide), jx_p_k (by decide)]
    exact a5
  · rw [jx_p_s]; rfl
theorem F_stateNow {g : sG} (hg : GW g) {d : Nat} (hd : d < 40) {o : Nat} {M : jx_M} (hL : RLa g M) {p U V h : Nat} (hp : p < g 2 0) (hU : U < 64) (hU2 : M o 11 0 = nI U) (hU3 : U.testBit p = decide (h = 1)) (hV : V < 64) (hV2 : M o 12 0 = nI V) (hV3 : V.testBit p = decide (h = 2)) (hh : h ≤ 3) (hh0 : h = 0 ↔ d < g 5 p) : F_X0_stateNow o (nI p) (nI d) M = some (nI h, M) := by
  obtain ⟨g1, g2, g3, -⟩ := id hg
  have hb := (hL.2.2 p hp).2.2.1
  have hb9 := (g3 p hp).2.2.1
  unfold F_X0_stateNow
  have e1 := jb_b0 (x := U) (i := p) hU (by omega)
  have e2 := jb_b0 (x := V) (i := p) hV (by omega)
  rw [hU3] at e1
  rw [hV3] at e2
  simp (disch := omega) only [hU2, hV2, e1, e2, jin_n, jck_t, jr_n, hb, nI_leI, decide_eq_false_iff_not]
  by_cases c1 : h = 1
  · simp [c1]; rfl
  · by_cases c2 : h = 2
    · simp [c2]; rfl
    · by_cases c3 : h = 0
      · have := hh0.mp c3
        simp only [c1, c2, not_false_eq_true, if_true]
        rw [if_neg (by omega), c3]; rfl
      · have c4 : h = 3 := by omega
        have : ¬ d < g 5 p := fun z => c3 (hh0.mpr z)
        simp only [c1, c2, not_false_eq_true, if_true]
        rw [if_pos (by omega), c4]; rfl
/-- states and ages of earlier decades -/
def RN (d o : Nat) (M M' : jx_M) : Prop := ∀ i, i < d * 6 → M' o 6 i = M o 6 i ∧ M' o 7 i = M o 7 i
set_option maxHeartbeats 1000000 in
theorem L_note {g : sG} (hg : GW g) {d : Nat} (hd : d < 40) {o : Nat} (ho : o ≠ 2) {H a : Nat → Nat} (hH : ∀ p, p < g 2 0 → H p ≤ 3 ∧ (H p = 0 ↔ d < g 5 p) ∧ a p ≤ d) {V : Nat} (hV : V < 64) (hV3 : ∀ p, p < g 2 0 → V.testBit p = decide (H p = 2)) (k : jx_M → Option (Unit × jx_M)) :
    ∀ m n q U M, q + m = g 2 0 → m < n → RLa g M → M o 12 0 = nI V → U < 64 → M o 11 0 = nI U → (∀ p, p < q → U.testBit p = decide (H p = 1 ∧ a p + 1 < g 6 p)) → (∀ p, q ≤ p → p < g 2 0 → U.testBit p = decide (H p = 1)) →
    (∀ p, p < q → M o 10 p = nI (a p + if H p = 1 then 1 else 0)) → (∀ p, q ≤ p → p < g 2 0 → M o 10 p = nI (a p)) → (∀ p, p < q → M o 6 (d * 6 + p) = nI (H p) ∧ M o 7 (d * 6 + p) = nI (a p + if H p = 1 then 1 else 0)) →
    ∃ M', L_X0_noteAndGrowOld_2 o (nI d) k n (nI q) M = k M' ∧ FO o [6, 7, 10, 11] M M' ∧ RN d o M M' ∧ (∃ U', U' < 64 ∧ M' o 11 0 = nI U' ∧ ∀ p, p < g 2 0 → U'.testBit p = decide (H p = 1 ∧ a p + 1 < g 6 p)) ∧ (∀ p, p < g 2 0 → M' o 10 p = nI (a p + if H p = 1 then 1 else 0)) ∧ (∀ p, p < g 2 0 → M' o 6 (d * 6 + p) = nI (H p) ∧ M' o 7 (d * 6 + p) = nI (a p + if H p = 1 then 1 else 0)) := by
  obtain ⟨g1, g2, g3, g4, g5, g6, g7, g8⟩ := id hg
  intro m
  induction m with
  | zero =>
    intro n q U M hj hn hL hV2 hU hU2 u1 u2 y1 y2 s1
    obtain ⟨n, rfl⟩ : ∃ q, n = q + 1 := ⟨n - 1, by omega⟩
    refine ⟨M, ?_, FO.rf, fun i _ => ⟨rfl, rfl⟩, ⟨U, hU, hU2, fun p hp => u1 p (by omega)⟩, fun p hp => y1 p (by omega), fun p hp => s1 p (by omega)⟩
    rw [L_X0_noteAndGrowOld_2.eq_2, hL.2.1, if_pos (nI_le (by omega) (by omega))]
  | succ m ih =>
    intro n q U M hj hn hL hV2 hU hU2 u1 u2 y1 y2 s1
    obtain ⟨n, rfl⟩ : ∃ q, n = q + 1 := ⟨n - 1, by omega⟩
    obtain ⟨h1, h2, h3⟩ := hH q (by omega)
    have hlv := (hL.2.2 q (by omega)).2.2.2.1
    have hlv9 := (g3 q (by omega)).2.2.2.1
    rw [L_X0_noteAndGrowOld_2.eq_2, hL.2.1, if_neg (nI_ge (by omega) (by omega)), jix6, jlet_d, F_stateNow hg hd hL (show q < g 2 0 by omega) hU hU2 (u2 q (Nat.le_refl q) (by omega)) hV hV2 (hV3 q (by omega)) h1 h2, jbd_s, jin_n (show d * 6 + q < 240 by omega) (by omega), jck_t, jw_n _ _ _ _ (by omega), jlet_d, jck_t, jr_n _ _ _ (by omega), jx_set_s]
    have e6 : upd (M o 6) (d * 6 + q) (nI (H q)) (d * 6 + q) = nI (H q) := by simp [upd]
    rw [e6]
    -- behind person q
    have next : ∀ (U2 : Nat) (M2 : jx_M), FO o [6, 7, 10, 11] M M2 → RN d o M M2 → U2 < 64 → M2 o 11 0 = nI U2 → (∀ p, p < q + 1 → U2.testBit p = decide (H p = 1 ∧ a p + 1 < g 6 p)) → (∀ p, q + 1 ≤ p → p < g 2 0 → U2.testBit p = decide (H p = 1)) → M2 o 10 q = nI (a q + if H q = 1 then 1 else 0) → (∀ p, p ≠ q → M2 o 10 p = M o 10 p) → M2 o 6 (d * 6 + q) = nI (H q) → (∀ i, i ≠ d * 6 + q → M2 o 6 i = M o 6 i) → M2 o 7 = M o 7 →
        ∃ M', L_X0_noteAndGrowOld_2 o (nI d) k n (nI (q + 1)) (jx_set M2 o 7 (upd (M2 o 7) (d * 6 + q) (M2 o 10 q))) = k M' ∧ FO o [6, 7, 10, 11] M M' ∧ RN d o M M' ∧ (∃ U', U' < 64 ∧ M' o 11 0 = nI U' ∧ ∀ p, p < g 2 0 → U'.testBit p = decide (H p = 1 ∧ a p + 1 < g 6 p)) ∧ (∀ p, p < g 2 0 → M' o 10 p = nI (a p + if H p = 1 then 1 else 0)) ∧ (∀ p, p < g 2 0 → M' o 6 (d * 6 + p) = nI (H p) ∧ M' o 7 (d * 6 + p) = nI (a p + if H p = 1 then 1 else 0)) := by
      intro U2 M2 k1 k2 k3 k4 k5 k6 k7 k8 k9 k10 k11
      have hf2 : FO o [6, 7, 10, 11] M2 (jx_set M2 o 7 (upd (M2 o 7) (d * 6 + q) (M2 o 10 q))) := FO.set FO.rf (by decide)
      obtain ⟨M', a1, a2, a3, a4, a5, a6⟩ := ih n (q + 1) U2 (jx_set M2 o 7 (upd (M2 o 7) (d * 6 + q) (M2 o 10 q))) (by omega) (by omega) ((hL.fr (k1.ob 2 (Ne.symm ho))).fr (hf2.ob 2 (Ne.symm ho))) (by rw [jx_set_k (by decide), k1.at 12 (by decide)]; exact hV2) k3 (by rw [jx_set_k (by decide)]; exact k4) k5 k6 (fun p hp => by
          rw [jx_set_k (by decide)]
          by_cases hpq : p = q
          · subst hpq; exact k7
          · rw [k8 p hpq]; exact y1 p (by omega)) (fun p hp hp2 => by rw [jx_set_k (by decide), k8 p (by omega)]; exact y2 p (by omega) hp2) (fun p hp => by
          rw [jx_set_k (by decide), jx_set_s]
          by_cases hpq : p = q
          · subst hpq
            exact ⟨k9, by simp only [upd, if_true]; exact k7⟩
          · simp only [upd, show ¬ d * 6 + p = d * 6 + q by omega, if_false]
            rw [k10 _ (by omega), k11]
            exact s1 p (by omega))
      refine ⟨M', a1, k1.tr (hf2.tr a2), fun i hi => ?_, a4, a5, a6⟩
      obtain ⟨b1, b2⟩ := a3 i hi
      obtain ⟨b3, b4⟩ := k2 i hi
      rw [jx_set_k (by decide)] at b1
      rw [jx_set_s] at b2
      simp only [upd, show ¬ i = d * 6 + q by omega, if_false] at b2
      exact ⟨b1.trans b3, b2.trans b4⟩
    have hf1 : FO o [6, 7, 10, 11] M (jx_set M o 6 (upd (M o 6) (d * 6 + q) (nI (H q)))) := FO.set FO.rf (by decide)
    have hn1 : RN d o M (jx_set M o 6 (upd (M o 6) (d * 6 + q) (nI (H q)))) := fun i hi => ⟨by rw [jx_set_s]; simp [upd, show ¬ i = d * 6 + q by omega], by rw [jx_set_k (by decide)]⟩
    by_cases c1 : H q = 1
    · rw [if_pos (by rw [c1]; rfl), jin_n (show q < 6 by omega) (by omega), jck_t, jck_t, jr_n _ _ _ (by omega), jx_set_k (by decide), y2 q (Nat.le_refl q) (by omega), nI_1, jw_n _ _ _ _ (by omega), jx_set_k (by decide), jlet_d, jck_t, jck_t, jr_n _ _ _ (by omega), jx_set_s, jr_n _ _ _ (by omega), jx_set_o (Ne.symm ho), jx_set_o (Ne.symm ho), hlv]
      have e10 : upd (M o 10) q (nI (a q + 1)) q = nI (a q + 1) := by simp [upd]
      rw [e10]
      have hf3 : FO o [6, 7, 10, 11] M (jx_set (jx_set M o 6 (upd (M o 6) (d * 6 + q) (nI (H q)))) o 10 (upd (M o 10) q (nI (a q + 1)))) := hf1.set (by decide)
      have hn3 : RN d o M (jx_set (jx_set M o 6 (upd (M o 6) (d * 6 + q) (nI (H q)))) o 10 (upd (M o 10) q (nI (a q + 1)))) := fun i hi => ⟨by rw [jx_set_k (by decide)]; exact (hn1 i hi).1, by rw [jx_set_k (by decide)]; exact (hn1 i hi).2⟩
      by_cases c2 : a q + 1 < g 6 q
      · rw [if_pos (nI_lt c2 (by omega)), jck_t, jck_t, jw_n _ _ _ _ (by omega), jlet_d, jlet_d, nI_1]
        have e11 : (jx_set (jx_set M o 6 (upd (M o 6) (d * 6 + q) (nI (H q)))) o 10 (upd (M o 10) q (nI (a q + 1)))) o 10 q = nI (a q + 1) := by rw [jx_set_s, e10]
        have nx := next U _ hf3 hn3 hU (by rw [jx_set_k (by decide), jx_set_k (by decide)]; exact hU2) (fun p hp => by
          by_cases hpq : p = q
          · subst hpq; rw [u2 p (Nat.le_refl p) (by omega)]; simp [c1, c2]
          · exact u1 p (by omega)) (fun p hp hp2 => u2 p (by omega) hp2) (by rw [jx_set_s, e10, if_pos c1]) (fun p hp => by rw [jx_set_s]; simp [upd, hp]) (by rw [jx_set_k (by decide), jx_set_s, e6]) (fun i hi => by rw [jx_set_k (by decide), jx_set_s]; simp [upd, hi]) (by rw [jx_set_k (by decide), jx_set_k (by decide)])
        rw [e11] at nx
        exact nx
      · rw [if_neg (nI_nlt (by omega) (by omega)), jx_set_k (by decide), jx_set_k (by decide), hU2, jban hU (by omega), jlet_d, jck_t, jck_t, jr_n _ _ _ (by omega), jw_n _ _ _ _ (by omega), jlet_d, jlet_d, nI_1]
        refine next (U &&& (63 - 2 ^ q)) _ (hf3.p (by decide)) (fun i hi => ⟨by rw [jx_p_k (by decide)]; exact (hn3 i hi).1, by rw [jx_p_k (by decide)]; exact (hn3 i hi).2⟩) (jbtl hU) (jx_p_s _ _ _ _ _) (fun p hp => ?_) (fun p hp hp2 => ?_) (by rw [jx_p_k (by decide), jx_set_s, e10, if_pos c1]) (fun p hp => by rw [jx_p_k (by decide), jx_set_s]; simp [upd, hp]) (by rw [jx_p_k (by decide), jx_set_k (by decide), jx_set_s, e6]) (fun i hi => by rw [jx_p_k (by decide), jx_set_k (by decide), jx_set_s]; simp [upd, hi]) (by rw [jx_p_k (by decide), jx_set_k (by decide), jx_set_k (by decide)])
        · rw [jbta hU (by omega) (by omega)]
          by_cases hpq : p = q
          · subst hpq; simp; omega
          · rw [u1 p (by omega)]; simp [hpq]
        · rw [jbta hU (by omega) (by omega), u2 p (by omega) hp2]
          simp [show ¬ p = q by omega]
    · rw [if_neg (by rw [show (1 : Int32) = nI 1 from rfl, nI_eq (by omega) (by omega)]; exact c1), jin_n (show q < 6 by omega) (by omega), jck_t, jck_t, jr_n _ _ _ (by omega), jw_n _ _ _ _ (by omega), jlet_d, jlet_d, nI_1]
      refine next U _ hf1 hn1 hU (by rw [jx_set_k (by decide)]; exact hU2) (fun p hp => ?_) (fun p hp hp2 => u2 p (by omega) hp2) (by rw [jx_set_k (by decide), y2 q (Nat.le_refl q) (by omega), if_neg c1]; rfl) (fun p hp => by rw [jx_set_k (by decide)]) (by rw [jx_set_s, e6]) (fun i hi => by rw [jx_set_s]; simp [upd, hi]) (by rw [jx_set_k (by decide)])
      by_cases hpq : p = q
      · subst hpq; rw [u2 p (Nat.le_refl p) (by omega)]; simp [c1]
      · exact u1 p (by omega)
