/-- among whom the law chose, at a post in a decade -/
def s_ch (g : sG) (d : Nat) (t : sS) (i p : Nat) : Bool := decide ((s_F g d t i).1 i = none ∧ d < g 10 i ∧ s_fw g i d (s_cnd g (s_F g d t i).2.1 (s_W g d t).2.2) (g 19 0) 0 = none) && s_cnd g (s_F g d t i).2.1 (s_W g d t).2.2 p
theorem F_chosen {g : sG} (hg : GW g) {d : Nat} (hd : d < 40) {s : sF} {wo : Nat → Bool} {age : Nat → Nat} (ha : ∀ p, p < g 2 0 → age p < 1000) {o w : Nat} (ho : o ≠ 2) (how : w ≠ o) {M : jx_M} (hL : RLa g M) (hO : RO g w M) (hR : RFc g s wo age o M) {j : Nat} (hj : j < g 1 0) :
    ∃ M', F_X0_chosenOf o (nI d) (nI j) w M = some (gI (s_lie g j d age (s_cnd g s.2.1 wo)), M') ∧ FO o [5] M M' ∧ (∀ i, i ≠ d * 4 + j → M' o 5 i = M o 5 i) ∧ (s_fw g j d (s_cnd g s.2.1 wo) (g 19 0) 0 ≠ none → M' o 5 = M o 5) ∧ (s_fw g j d (s_cnd g s.2.1 wo) (g 19 0) 0 = none → M' o 5 (d * 4 + j) = M o 13 0) := by
  obtain ⟨g1, g2, g3, g4, g5, g6, g7, g8⟩ := id hg
  obtain ⟨r1, r2, r3, r4, r5, X, x1, x2, x3⟩ := id hR
  unfold F_X0_chosenOf
  rw [x2, F_willed hg hO x1 x3 (by omega) hd, jbd_s]
  unfold s_lie
  cases hf : s_fw g j d (s_cnd g s.2.1 wo) (g 19 0) 0 with
  | some p =>
    have hp : p < g 2 0 := by
      obtain ⟨h1, i, h2, h3, h4⟩ := s_fw_in _ _ _ hf
      rw [h4]; exact (g8 i (by omega)).2.1
    rw [if_neg (gI_n9 (by omega))]
    exact ⟨M, rfl, FO.rf, fun _ _ => rfl, fun _ => rfl, fun h => by cases h⟩
  | none =>
    rw [if_pos gI_9, jix4, jin_n (by omega) (by omega), jck_t, jw_n _ _ _ _ (by omega), jlet_d]
    have hfo : FO o [5] M (jx_set M o 5 (upd (M o 5) (d * 4 + j) (M o 13 0))) := FO.set FO.rf List.mem_cons_self
    refine ⟨jx_set M o 5 (upd (M o 5) (d * 4 + j) (M o 13 0)), ?_, hfo, fun i hi => ?_, fun h => absurd rfl h, fun _ => ?_⟩
    · rw [hfo.ob w how, hO.1, F_lawful hg (hL.fr (hfo.ob 2 (Ne.symm ho))) (o := o) (age := age) (fun p hp => ⟨by rw [hfo.at 10 (by decide)]; exact r3 p hp, ha p hp⟩) x1 (by rw [hfo.at 13 (by decide)]; exact x2) x3 (by omega), jbd_s]
    · rw [jx_set_s]; simp [upd, hi]
    · rw [jx_set_s]; simp [upd]; exact x2
theorem F_lay {g : sG} (hg : GW g) {d : Nat} {o : Nat} (ho : o ≠ 2) {M : jx_M} (hL : RLa g M) {j p : Nat} (hj : j < 4) (hp : p < g 2 0) {U V X : Nat} (hU : U < 64) (hU2 : M o 11 0 = nI U) (hV : V < 64) (hV2 : M o 12 0 = nI V) (hX : X < 64) (hX2 : M o 13 0 = nI X) :
    ∃ M', F_X0_layDown o (nI d) (nI j) (nI p) M = some ((), M') ∧ FO o [8, 9, 11, 12, 13] M M' ∧ M' o 8 = upd (M o 8) j (nI p) ∧ M' o 9 = upd (M o 9) j (nI (d + s_slp g p)) ∧ M' o 11 0 = nI (U &&& (63 - 2 ^ p)) ∧ M' o 12 0 = nI (V ||| 2 ^ p) ∧ M' o 13 0 = nI (X &&& (63 - 2 ^ p)) := by
  have g2 := hg.2.1
  unfold F_X0_layDown
  rw [jin_n (by omega) (by omega), jck_t, jw_n _ _ _ _ (by omega), jlet_d]
  rw [F_sleepC hg (hL.fr (jx_set_o (Ne.symm ho))) hp, jbd_s, jck_t, jw_n _ _ _ _ (by omega), jlet_d, jlet_d, nI_add, jlet_d, jlet_d, jlet_d]
  refine ⟨_, rfl, FO.p (FO.p (FO.p (FO.set (FO.set FO.rf (by decide)) (by decide)) (by decide)) (by decide)) (by decide), ?_, ?_, ?_, ?_, ?_⟩
  · rw [jx_p_k (by decide), jx_p_k (by decide), jx_p_k (by decide), jx_set_k (by decide), jx_set_s]
  · rw [jx_p_k (by decide), jx_p_k (by decide), jx_p_k (by decide), jx_set_s, jx_set_k (by decide)]
  · rw [jx_p_k (by decide), jx_p_s, jx_p_k (by decide), jx_set_k (by decide), jx_set_k (by decide), hU2, jban hU (by omega)]
  · rw [jx_p_s, jx_p_k (by decide), jx_p_k (by decide), jx_set_k (by decide), jx_set_k (by decide), hV2, jbor hV (by omega)]
  · rw [jx_p_k (by decide), jx_p_k (by decide), jx_p_s, jx_set_k (by decide), jx_set_k (by decide), hX2, jban hX (by omega)]
/-- the rows of a decade, of the posts that have been filled -/
def RP (g : sG) (d : Nat) (t : sS) (o j : Nat) (M : jx_M) : Prop := (∀ i, i < j → M o 4 (d * 4 + i) = gI ((s_F g d t j).1 i)) ∧ (∀ i, i < j → ∃ X, X < 64 ∧ M o 5 (d * 4 + i) = nI X ∧ ∀ p, p < g 2 0 → X.testBit p = s_ch g d t i p) ∧ M o 0 d = nI (s_F g d t j).2.2.2
/-- rows of earlier decades -/
def RE (d o : Nat) (M M' : jx_M) : Prop := (∀ i, i < d * 4 → M' o 4 i = M o 4 i ∧ M' o 5 i = M o 5 i) ∧ ∀ i, i < d → M' o 0 i = M o 0 i
theorem RE.rf {d o : Nat} {M : jx_M} : RE d o M M := ⟨fun _ _ => ⟨rfl, rfl⟩, fun _ _ => rfl⟩
theorem RE.tr {d o : Nat} {M M1 M2 : jx_M} (h : RE d o M M1) (h2 : RE d o M1 M2) : RE d o M M2 := ⟨fun i hi => ⟨(h2.1 i hi).1.trans (h.1 i hi).1, (h2.1 i hi).2.trans (h.1 i hi).2⟩, fun i hi => (h2.2 i hi).trans (h.2 i hi)⟩
theorem RE.of {d o : Nat} {M M' : jx_M} (h4 : M' o 4 = M o 4) (h5 : M' o 5 = M o 5) (h0 : M' o 0 = M o 0) : RE d o M M' := ⟨fun i _ => ⟨by rw [h4], by rw [h5]⟩, fun i _ => by rw [h0]⟩
theorem s_F_same {g : sG} {d : Nat} {t : sS} {i j : Nat} (h : i ≠ j) : (s_F g d t (j + 1)).1 i = (s_F g d t j).1 i := by
  show (s_fs g d (s_a t) (s_W g d t).2.2 j (s_F g d t j)).1 i = _
  unfold s_fs
  split
  · split
    · rfl
    · exact nu_n h
  · rfl
theorem s_cnd_upd {g : sG} {H : Nat → Nat} {wo : Nat → Bool} {p : Nat} (q : Nat) : s_cnd g (nu H p 2) wo q = (s_cnd g H wo q && !decide (q = p)) := by
  unfold s_cnd
  by_cases h : q = p
  · subst h; rw [nu_s]; simp
  · rw [nu_n h]; simp [h]
set_option maxHeartbeats 1000000 in
theorem L_fillC {g : sG} (hg : GW g) {d : Nat} (hd : d < 40) {t : sS} (hI : SI g d t) {o w : Nat} (ho : o ≠ 2) (how : w ≠ o) (k : jx_M → Option (Unit × jx_M)) :
    ∀ m n j M, j + m = g 1 0 → m < n → RLa g M → RO g w M → RFc g (s_F g d t j) (s_W g d t).2.2 (s_a t) o M → RP g d t o j M →
    ∃ M', L_X0_fillPosts_9 o w (nI d) k n (nI j) M = k M' ∧ FO o [0, 4, 5, 8, 9, 11, 12, 13] M M' ∧ RE d o M M' ∧ RFc g (s_F g d t (g 1 0)) (s_W g d t).2.2 (s_a t) o M' ∧ RP g d t o (g 1 0) M' := by
  obtain ⟨g1, g2, g3, g4, g5, g6, g7, g8⟩ := id hg
  intro m
  induction m with
  | zero =>
    intro n j M hj hn hL hO hR hP
    obtain ⟨n, rfl⟩ : ∃ q, n = q + 1 := ⟨n - 1, by omega⟩
    have e : g 1 0 = j := by omega
    refine ⟨M, ?_, FO.rf, RE.rf, by rw [e]; exact hR, by rw [e]; exact hP⟩
    rw [L_X0_fillPosts_9.eq_2, hL.1, if_pos (nI_le (by omega) (by omega))]
  | succ m ih =>
    intro n j M hj hn hL hO hR hP
    obtain ⟨n, rfl⟩ : ∃ q, n = q + 1 := ⟨n - 1, by omega⟩
    obtain ⟨f1, f2, f3, f4⟩ := s_F_inv hg hI j (by omega)
    have e1 : s_F g d t (j + 1) = s_fs g d (s_a t) (s_W g d t).2.2 j (s_F g d t j) := rfl
    -- the row of choices is cleared first
    have hf1 : FO o [0, 4, 5, 8, 9, 11, 12, 13] M (jx_set M o 5 (upd (M o 5) (d * 4 + j) 0)) := FO.set FO.rf (by decide)
    have hre1 : RE d o M (jx_set M o 5 (upd (M o 5) (d * 4 + j) 0)) := ⟨fun i hi => ⟨by rw [jx_set_k (by decide)], by rw [jx_set_s]; simp [upd, show ¬ i = d * 4 + j by omega]⟩, fun i _ => by rw [jx_set_k (by decide)]⟩
    have hL1 : RLa g (jx_set M o 5 (upd (M o 5) (d * 4 + j) 0)) := hL.fr (jx_set_o (Ne.symm ho))
    have hO1 : RO g w (jx_set M o 5 (upd (M o 5) (d * 4 + j) 0)) := hO.fr (jx_set_o how)
    have hR1 : RFc g (s_F g d t j) (s_W g d t).2.2 (s_a t) o (jx_set M o 5 (upd (M o 5) (d * 4 + j) 0)) := by
      unfold RFc
      rw [jx_set_k (by decide), jx_set_k (by decide), jx_set_k (by decide), jx_set_k (by decide), jx_set_k (by decide), jx_set_k (by decide)]
      exact hR
    have hP1 : (∀ i, i < j → (jx_set M o 5 (upd (M o 5) (d * 4 + j) 0)) o 4 (d * 4 + i) = gI ((s_F g d t j).1 i)) ∧ (∀ i, i < j → ∃ X, X < 64 ∧ (jx_set M o 5 (upd (M o 5) (d * 4 + j) 0)) o 5 (d * 4 + i) = nI X ∧ ∀ p, p < g 2 0 → X.testBit p = s_ch g d t i p) ∧ (jx_set M o 5 (upd (M o 5) (d * 4 + j) 0)) o 0 d = nI (s_F g d t j).2.2.2 ∧ (jx_set M o 5 (upd (M o 5) (d * 4 + j) 0)) o 5 (d * 4 + j) = 0 := by
      refine ⟨fun i hi => by rw [jx_set_k (by decide)]; exact hP.1 i hi, fun i hi => ?_, by rw [jx_set_k (by decide)]; exact hP.2.2, by rw [jx_set_s]; simp [upd]⟩
      obtain ⟨X, x1, x2, x3⟩ := hP.2.1 i hi
      exact ⟨X, x1, by rw [jx_set_s]; simp only [upd, show ¬ d * 4 + i = d * 4 + j by omega, if_false]; exact x2, x3⟩
    rw [L_X0_fillPosts_9.eq_2, hL.1, if_neg (nI_ge (by omega) (by omega)), jix4, jin_n (show d * 4 + j < 160 by omega) (by omega), jck_t, jw_n _ _ _ _ (by omega), jlet_d]
    generalize jx_set M o 5 (upd (M o 5) (d * 4 + j) 0) = M1 at hf1 hre1 hL1 hO1 hR1 hP1 ⊢
    obtain ⟨r1, r2, r3, ⟨U, u1, u2, u3⟩, ⟨V, v1, v2, v3⟩, X, x1, x2, x3⟩ := id hR1
    obtain ⟨p1, p2, p3, p4⟩ := hP1
    have hgv := hO1.2.2.2.1 j (by omega)
    have hg10 := g6 j (by omega)
    -- how it goes on behind post j, from a memory that is as it must be
    have next : ∀ M2 : jx_M, FO o [0, 4, 5, 8, 9, 11, 12, 13] M1 M2 → RE d o M1 M2 → RFc g (s_F g d t (j + 1)) (s_W g d t).2.2 (s_a t) o M2 → (∀ i, i < j → M2 o 4 (d * 4 + i) = M1 o 4 (d * 4 + i)) → (∀ i, i < j → M2 o 5 (d * 4 + i) = M1 o 5 (d * 4 + i)) → (∃ X, X < 64 ∧ M2 o 5 (d * 4 + j) = nI X ∧ ∀ p, p < g 2 0 → X.testBit p = s_ch g d t j p) → M2 o 0 d = nI (s_F g d t (j + 1)).2.2.2 →
        ∃ M', L_X0_fillPosts_9 o w (nI d) k n (nI (j + 1)) (jx_set M2 o 4 (upd (M2 o 4) (d * 4 + j) (M2 o 8 j))) = k M' ∧ FO o [0, 4, 5, 8, 9, 11, 12, 13] M M' ∧ RE d o M M' ∧ RFc g (s_F g d t (g 1 0)) (s_W g d t).2.2 (s_a t) o M' ∧ RP g d t o (g 1 0) M' := by
      intro M2 k1 k2 k3 k4 k5 k6 k7
      have hf2 : FO o [0, 4, 5, 8, 9, 11, 12, 13] M2 (jx_set M2 o 4 (upd (M2 o 4) (d * 4 + j) (M2 o 8 j))) := FO.set FO.rf (by decide)
      have hre2 : RE d o M2 (jx_set M2 o 4 (upd (M2 o 4) (d * 4 + j) (M2 o 8 j))) := ⟨fun i hi => ⟨by rw [jx_set_s]; simp [upd, show ¬ i = d * 4 + j by omega], by rw [jx_set_k (by decide)]⟩, fun i _ => by rw [jx_set_k (by decide)]⟩
      obtain ⟨M', a1, a2, a3, a4, a5⟩ := ih n (j + 1) (jx_set M2 o 4 (upd (M2 o 4) (d * 4 + j) (M2 o 8 j))) (by omega) (by omega) ((hL1.fr (k1.ob 2 (Ne.symm ho))).fr (hf2.ob 2 (Ne.symm ho))) ((hO1.fr (k1.ob w how)).fr (hf2.ob w how)) (by
          unfold RFc
          rw [jx_set_k (by decide), jx_set_k (by decide), jx_set_k (by decide), jx_set_k (by decide), jx_set_k (by decide), jx_set_k (by decide)]
          exact k3) (by
          refine ⟨fun i hi => ?_, fun i hi => ?_, by rw [jx_set_k (by decide)]; exact k7⟩
          · rw [jx_set_s]
            by_cases hij : i = j
            · subst hij; simp only [upd, if_true]; exact k3.1 i (by omega)
            · simp only [upd, show ¬ d * 4 + i = d * 4 + j by omega, if_false]
              rw [k4 i (by omega), p1 i (by omega), s_F_same hij]
          · rw [jx_set_k (by decide)]
            by_cases hij : i = j
            · subst hij; exact k6
            · rw [k5 i (by omega)]; exact p2 i (by omega))
      exact ⟨M', a1, hf1.tr (k1.tr (hf2.tr a2)), hre1.tr (k2.tr (hre2.tr a3)), a4, a5⟩
    rw [jin_n (by omega) (by omega), jck_t, jr_n _ _ _ (by omega), r1 j (by omega), jck_t, jr_n _ _ _ (by omega), hgv]
    unfold s_fs at e1
    cases c1 : (s_F g d t j).1 j with
    | some p =>
      have hpN := (f1 j (by omega) p c1).1
      rw [if_neg (gI_n9 (by omega)), jck_t, jck_t, ← c1, ← r1 j (by omega), jw_n _ _ _ _ (by omega), jlet_d, jlet_d, nI_1]
      rw [if_neg (by rw [c1]; simp)] at e1
      exact next M1 FO.rf RE.rf (by rw [e1]; exact hR1) (fun _ _ => rfl) (fun _ _ => rfl) ⟨0, by decide, p4, fun q hq => by simp [s_ch, c1]⟩ (by rw [e1]; exact p3)
    | none =>
      rw [if_pos gI_9]
      by_cases c2 : d < g 10 j
      · rw [if_neg (nI_ge c2 (by omega))]
        rw [if_pos ⟨c1, c2⟩] at e1
        obtain ⟨M2, b1, b2, b3, b4, b5⟩ := F_chosen hg hd (fun p hp => by have := (hI.1 p hp).2.1; omega) ho how hL1 hO1 hR1 (show j < g 1 0 by omega)
        rw [b1, jbd_s]
        have hch : ∃ X, X < 64 ∧ M2 o 5 (d * 4 + j) = nI X ∧ ∀ p, p < g 2 0 → X.testBit p = s_ch g d t j p := by
          cases hfw : s_fw g j d (s_cnd g (s_F g d t j).2.1 (s_W g d t).2.2) (g 19 0) 0 with
          | none => exact ⟨X, x1, by rw [b5 hfw]; exact x2, fun p hp => by rw [x3 p hp]; simp [s_ch, c1, c2, hfw]⟩
          | some q => exact ⟨0, by decide, by rw [b4 (by rw [hfw]; simp)]; exact p4, fun p hp => by simp [s_ch, hfw]⟩
        have hre : RE d o M1 M2 := ⟨fun i hi => ⟨by rw [b2.at 4 (by decide)], b3 i (by omega)⟩, fun i _ => by rw [b2.at 0 (by decide)]⟩
        have hb2 : FO o [0, 4, 5, 8, 9, 11, 12, 13] M1 M2 := b2.mono (by decide)
        cases c3 : s_lie g j d (s_a t) (s_cnd g (s_F g d t j).2.1 (s_W g d t).2.2) with
        | none =>
          rw [c3] at e1
          dsimp only at e1
          rw [if_pos gI_9, jin_n (by omega) (by omega), jck_t, jck_t, jw_n _ _ _ _ (by omega), jr_n _ _ _ (by omega), b2.at 0 (by decide), p3, jbor f4 (by omega), jlet_d, jck_t, jck_t, jr_n _ _ _ (by omega), jw_n _ _ _ _ (by omega), jlet_d, jlet_d, nI_1]
          have hf3 : FO o [0, 4, 5, 8, 9, 11, 12, 13] M2 (jx_set M2 o 0 (upd (M1 o 0) d (nI ((s_F g d t j).2.2.2 ||| 2 ^ j)))) := FO.set FO.rf (by decide)
          refine next (jx_set M2 o 0 (upd (M1 o 0) d (nI ((s_F g d t j).2.2.2 ||| 2 ^ j)))) (hb2.tr hf3) (hre.tr ⟨fun i hi => ⟨by rw [jx_set_k (by decide)], by rw [jx_set_k (by decide)]⟩, fun i hi => by rw [jx_set_s, b2.at 0 (by decide)]; simp [upd, show ¬ i = d by omega]⟩) ?_ (fun i hi => by rw [jx_set_k (by decide), b2.at 4 (by decide)]) (fun i hi => by rw [jx_set_k (by decide)]; exact b3 _ (by omega)) (by rw [jx_set_k (by decide)]; exact hch) (by rw [jx_set_s, e1]; simp [upd])
          rw [e1]
          unfold RFc
          rw [jx_set_k (by decide), jx_set_k (by decide), jx_set_k (by decide), jx_set_k (by decide), jx_set_k (by decide), jx_set_k (by decide), b2.at 8 (by decide), b2.at 9 (by decide), b2.at 10 (by decide), b2.at 11 (by decide), b2.at 12 (by decide), b2.at 13 (by decide)]
          exact hR1
        | some p =>
          rw [c3] at e1
          dsimp only at e1
          obtain ⟨k1, k2⟩ := s_lie_in hg c3
          obtain ⟨k3, k4, k5⟩ := s_cnd_e k1
          obtain ⟨M3, z1, z2, z3, z4, z5, z6, z7⟩ := F_lay hg ho (d := d) (hL1.fr (b2.ob 2 (Ne.symm ho))) (show j < 4 by omega) k2 u1 (by rw [b2.at 11 (by decide)]; exact u2) v1 (by rw [b2.at 12 (by decide)]; exact v2) x1 (by rw [b2.at 13 (by decide)]; exact x2)
          rw [if_neg (gI_n9 (by omega)), show gI (some p) = nI p from rfl, z1, jbd_s, jck_t, jck_t, jr_n _ _ _ (by omega), jw_n _ _ _ _ (by omega), jlet_d, jlet_d, nI_1]
          refine next M3 (hb2.tr (z2.mono (by decide))) (hre.tr (RE.of (z2.at 4 (by decide)) (z2.at 5 (by decide)) (z2.at 0 (by decide)))) ?_ (fun i hi => by rw [z2.at 4 (by decide), b2.at 4 (by decide)]) (fun i hi => by rw [z2.at 5 (by decide)]; exact b3 _ (by omega)) (by rw [z2.at 5 (by decide)]; exact hch) (by rw [z2.at 0 (by decide), b2.at 0 (by decide), e1]; exact p3)
          rw [e1]
          refine ⟨fun i hi => ?_, fun i hi q hq => ?_, fun q hq => ?_, ⟨U &&& (63 - 2 ^ p), jbtl u1, z5, fun q hq => ?_⟩, ⟨V ||| 2 ^ p, jbol2 v1 (by omega), z6, fun q hq => ?_⟩, ⟨X &&& (63 - 2 ^ p), jbtl x1, z7, fun q hq => ?_⟩⟩
          · rw [z3, b2.at 8 (by decide)]
            by_cases hij : i = j
            · subst hij; simp [upd, nu]; rfl
            · simp only [upd, nu, hij, if_false]; exact r1 i hi
          · rw [z4, b2.at 9 (by decide)]
            dsimp only at hq ⊢
            by_cases hij : i = j
            · subst hij
              rw [nu_s] at hq
              cases hq
              simp [upd, nu]
            · rw [nu_n hij] at hq
              have hne : q ≠ p := by
                intro e
                have := (f1 i hi q hq).2.1
                rw [e] at this
                omega
              simp only [upd, nu, hij, hne, if_false]
              exact r2 i hi q hq
          · rw [z2.at 10 (by decide), b2.at 10 (by decide)]; exact r3 q hq
          · rw [jbta u1 (by omega) (by omega), u3 q hq]
            dsimp only
            by_cases hqp : q = p
            · subst hqp; simp [nu]
            · simp [nu, hqp]
          · rw [jbto v1 (by omega) (by omega), v3 q hq]
            dsimp only
            by_cases hqp : q = p
            · subst hqp; simp [nu]
            · simp [nu, hqp]
          · rw [jbta x1 (by omega) (by omega), x3 q hq]
            dsimp only
            rw [s_cnd_upd]
      · rw [if_pos (nI_le (by omega) (by omega)), jck_t, jck_t, ← c1, ← r1 j (by omega), jw_n _ _ _ _ (by omega), jlet_d, jlet_d, nI_1]
        rw [if_neg (fun z => c2 z.2)] at e1
        exact next M1 FO.rf RE.rf (by rw [e1]; exact hR1) (fun _ _ => rfl) (fun _ _ => rfl) ⟨0, by decide, p4, fun q hq => by simp [s_ch, c2]⟩ (by rw [e1]; exact p3)
