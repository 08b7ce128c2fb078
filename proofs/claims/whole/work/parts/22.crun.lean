/-- the rows of the first r decades -/
def RR (g : sG) (o r : Nat) (M : jx_M) : Prop := ∀ d, d < r → (∀ j, j < g 1 0 → M o 4 (d * 4 + j) = gI (s_g (s_at g d) j)) ∧ (∀ j, j < g 1 0 → ∃ X, X < 64 ∧ M o 5 (d * 4 + j) = nI X ∧ ∀ p, p < g 2 0 → X.testBit p = s_ch g d (s_pre g d) j p) ∧ M o 0 d = nI (s_e (s_at g d)) ∧ ∀ p, p < g 2 0 → M o 6 (d * 6 + p) = nI (s_h (s_at g d) p) ∧ M o 7 (d * 6 + p) = nI (s_a (s_pre g (d + 1)) p)
abbrev KC : List Nat := [0, 1, 2, 4, 5, 6, 7, 8, 9, 10, 11, 12, 13]
/-- empty decades ahead of decade r -/
def s_E (g : sG) (r : Nat) : Nat := s_c (s_pre g r)
theorem F_decade {g : sG} (hg : GW g) {d : Nat} (hd : d < 40) {o w : Nat} (ho : o ≠ 2) (how : w ≠ o) {M : jx_M} (hL : RLa g M) (hO : RO g w M) (hR : RC g (s_pre g d) o M) (hRR : RR g o d M) (h2 : M o 2 0 = nI d) (k : jx_M → Option (Unit × jx_M)) :
    ∃ M', jbd (F_X0_wakeAndBear o (M o 2 0) (M w 1 0) M) (fun r_3 M_7 => jbd (F_X0_fillPosts o (M_7 o 2 0) w M_7) (fun r_4 M_8 => jbd (F_X0_noteAndGrowOld o (M_8 o 2 0) M_8) (fun r_5 M_9 => jlet (jx_p M_9 o 2 ((M_9 o 2 0) + 1)) (fun M_10 => k M_10)))) = k M' ∧ FO o KC M M' ∧ RC g (s_pre g (d + 1)) o M' ∧ RR g o (d + 1) M' ∧ M' o 2 0 = nI (d + 1) := by
  have g1 := hg.1
  have g2 := hg.2.1
  have hI := s_pre_inv hg d
  obtain ⟨M1, a1, a2, a3⟩ := F_wakeBear hg hd hI ho hL hR
  have e1 : M1 o 2 0 = nI d := by rw [a2.at 2 (by decide)]; exact h2
  obtain ⟨M2, b1, b2, b3, b4, b5, b6⟩ := F_fillPosts hg hd hI ho how (hL.fr (a2.ob 2 (Ne.symm ho))) (hO.fr (a2.ob w how)) a3 (by rw [a2.at 1 (by decide)]; exact hR.2.2.2.2.2)
  have e2 : M2 o 2 0 = nI d := by rw [b2.at 2 (by decide)]; exact e1
  obtain ⟨r1, r2, r3, ⟨U, u1, u2, u3⟩, ⟨V, v1, v2, v3⟩, r6⟩ := b4
  have hJ := s_go_inv hg hI
  have hL2 : RLa g M2 := (hL.fr (a2.ob 2 (Ne.symm ho))).fr (b2.ob 2 (Ne.symm ho))
  obtain ⟨M3, c1, c2, c3, c4, c5, c6⟩ := L_note hg hd ho (H := s_h (s_at g d)) (a := s_a (s_pre g d)) (fun p hp => ⟨(hJ.1 p hp).1, (hJ.1 p hp).2.2.2, (hI.1 p hp).2.1⟩) v1 v3 (fun M_8 => some ((), M_8)) (g 2 0) jfu 0 U M2 (by omega) (by unfold jfu; omega) hL2 v2 u1 u2 (fun p hp => by omega) (fun p _ hp => u3 p hp) (fun p hp => by omega) (fun p _ hp => r3 p hp) (fun p hp => by omega)
  have e3 : M3 o 2 0 = nI d := by rw [c2.at 2 (by decide)]; exact e2
  have hN : F_X0_noteAndGrowOld o (nI d) M2 = some ((), M3) := c1
  refine ⟨jx_p M3 o 2 (nI (d + 1)), ?_, (a2.mono (by decide)).tr ((b2.mono (by decide)).tr ((c2.mono (by decide)).tr (FO.p FO.rf (by decide)))), ?_, ?_, jx_p_s _ _ _ _ _⟩
  · rw [h2, hO.2.1, a1, jbd_s, e1, b1, jbd_s, e2, hN, jbd_s, e3, nI_1, jlet_d]
  · refine ⟨fun j hj => ?_, fun j hj p hp => ?_, fun p hp => ?_, ?_, ⟨V, v1, ?_, v3⟩, ?_⟩
    · rw [jx_p_k (by decide), c2.at 8 (by decide)]; exact r1 j hj
    · rw [jx_p_k (by decide), c2.at 9 (by decide)]; exact r2 j hj p hp
    · rw [jx_p_k (by decide)]; exact c5 p hp
    · obtain ⟨U', w1, w2, w3⟩ := c4
      refine ⟨U', w1, by rw [jx_p_k (by decide)]; exact w2, fun p hp => ?_⟩
      rw [w3 p hp]
      apply decide_eq_decide.mpr
      show _ ↔ s_h (s_at g d) p = 1 ∧ s_a (s_pre g d) p + (if s_h (s_at g d) p = 1 then 1 else 0) < g 6 p
      by_cases hh : s_h (s_at g d) p = 1
      · rw [if_pos hh]
      · simp [hh]
    · rw [jx_p_k (by decide), c2.at 12 (by decide)]; exact v2
    · rw [jx_p_k (by decide), c2.at 1 (by decide)]; exact b6
  · intro d' hd'
    by_cases hdd : d' = d
    · subst hdd
      refine ⟨fun j hj => ?_, fun j hj => ?_, ?_, fun p hp => ?_⟩
      · rw [jx_p_k (by decide), c2.at 4 (by decide)]; exact b5.1 j hj
      · rw [jx_p_k (by decide), c2.at 5 (by decide)]; exact b5.2.1 j hj
      · rw [jx_p_k (by decide), c2.at 0 (by decide)]; exact b5.2.2
      · rw [jx_p_k (by decide), jx_p_k (by decide)]; exact c6 p hp
    · obtain ⟨q1, q2, q3, q4⟩ := hRR d' (by omega)
      have hlt : d' < d := by omega
      refine ⟨fun j hj => ?_, fun j hj => ?_, ?_, fun p hp => ?_⟩
      · rw [jx_p_k (by decide), c2.at 4 (by decide), (b3.1 _ (by omega)).1, a2.at 4 (by decide)]; exact q1 j hj
      · rw [jx_p_k (by decide), c2.at 5 (by decide), (b3.1 _ (by omega)).2, a2.at 5 (by decide)]; exact q2 j hj
      · rw [jx_p_k (by decide), c2.at 0 (by decide), b3.2 _ hlt, a2.at 0 (by decide)]; exact q3
      · rw [jx_p_k (by decide), jx_p_k (by decide), (c3 _ (by omega)).1, (c3 _ (by omega)).2, b2.at 6 (by decide), b2.at 7 (by decide), a2.at 6 (by decide), a2.at 7 (by decide)]; exact q4 p hp
theorem L_run {g : sG} (hg : GW g) {o w : Nat} (ho : o ≠ 2) (how : w ≠ o) {y2 : Int32} {l1 lim : Nat} (hy2 : ∀ r, r ≤ 40 → (y2 < nI r ↔ l1 ≤ r)) (hlim : lim ≤ 1000) (k : jx_M → Option (Unit × jx_M)) :
    ∀ m n r M, r + m = 40 → m < n → RLa g M → RO g w M → RC g (s_pre g r) o M → RR g o r M → M o 2 0 = nI r → (∀ r', r' < r → r' < l1 ∧ s_E g r' < lim) →
    ∃ M' r', L_X0_run_37 o w y2 (nI lim) k n M = k M' ∧ FO o KC M M' ∧ r' ≤ 40 ∧ (l1 ≤ r' ∨ 40 ≤ r' ∨ lim ≤ s_E g r') ∧ (∀ q, q < r' → q < l1 ∧ s_E g q < lim) ∧ RR g o r' M' ∧ M' o 1 0 = nI (s_E g r') ∧ M' o 2 0 = nI r' := by
  intro m
  induction m with
  | zero =>
    intro n r M hj hn hL hO hR hRR h2 hq
    obtain ⟨n, rfl⟩ : ∃ q, n = q + 1 := ⟨n - 1, by omega⟩
    refine ⟨M, r, ?_, FO.rf, by omega, Or.inr (Or.inl (by omega)), hq, hRR, hR.2.2.2.2.2, h2⟩
    rw [L_X0_run_37.eq_2, h2]
    by_cases c1 : y2 < nI r
    · rw [if_pos c1]
    · rw [if_neg c1, show (40 : Int32) = nI 40 from rfl, if_pos (nI_le (by omega) (by omega))]
  | succ m ih =>
    intro n r M hj hn hL hO hR hRR h2 hq
    obtain ⟨n, rfl⟩ : ∃ q, n = q + 1 := ⟨n - 1, by omega⟩
    have hc := hR.2.2.2.2.2
    have hcl := (s_pre_inv hg r).2.2.2
    rw [L_X0_run_37.eq_2]
    by_cases c1 : l1 ≤ r
    · refine ⟨M, r, ?_, FO.rf, by omega, Or.inl c1, hq, hRR, hc, h2⟩
      rw [h2, if_pos ((hy2 r (by omega)).mpr c1)]
    · rw [if_neg (by rw [h2, hy2 r (by omega)]; exact c1), if_neg (by rw [h2, show (40 : Int32) = nI 40 from rfl]; exact nI_ge (by omega) (by omega))]
      by_cases c2 : lim ≤ s_E g r
      · refine ⟨M, r, ?_, FO.rf, by omega, Or.inr (Or.inr c2), hq, hRR, hc, h2⟩
        rw [hc, if_pos (nI_le (show lim ≤ s_c (s_pre g r) from c2) (by omega))]
      · rw [if_neg (by rw [hc]; exact nI_ge (by unfold s_E at c2; omega) (by omega))]
        obtain ⟨M1, a1, a2, a3, a4, a5⟩ := F_decade hg (show r < 40 by omega) ho how hL hO hR hRR h2 (fun M_10 => L_X0_run_37 o w y2 (nI lim) k n M_10)
        rw [a1]
        obtain ⟨M', r', b1, b2, b3, b4, b5, b6, b7, b8⟩ := ih n (r + 1) M1 (by omega) (by omega) (hL.fr (a2.ob 2 (Ne.symm ho))) (hO.fr (a2.ob w how)) a3 a4 a5 (fun q hq2 => by
          by_cases hqr : q = r
          · subst hqr; exact ⟨by omega, by omega⟩
          · exact hq q (by omega))
        exact ⟨M', r', b1, a2.tr b2, b3, b4, b5, b6, b7, b8⟩
theorem F_run {g : sG} (hg : GW g) {o w : Nat} (ho : o ≠ 2) (how : w ≠ o) {y2 : Int32} {l1 lim : Nat} (hy2 : ∀ r, r ≤ 40 → (y2 < nI r ↔ l1 ≤ r)) (hlim : lim ≤ 1000) {M : jx_M} (hL : RLa g M) (hO : RO g w M) :
    ∃ M' r', F_X0_run o w y2 (nI lim) M = some ((), M') ∧ FO o KC M M' ∧ r' ≤ 40 ∧ (l1 ≤ r' ∨ 40 ≤ r' ∨ lim ≤ s_E g r') ∧ (∀ q, q < r' → q < l1 ∧ s_E g q < lim) ∧ RR g o r' M' ∧ M' o 1 0 = nI (s_E g r') ∧ M' o 2 0 = nI r' := by
  have g1 := hg.1
  have g2 := hg.2.1
  unfold F_X0_run
  rw [jlet_d, jlet_d, jlet_d]
  have hf1 : FO o KC M (jx_p (jx_p (jx_p M o 11 0) o 12 0) o 1 0) := FO.p (FO.p (FO.p FO.rf (by decide)) (by decide)) (by decide)
  have q1 : (jx_p (jx_p (jx_p M o 11 0) o 12 0) o 1 0) o 11 0 = 0 := by rw [jx_p_k (by decide), jx_p_k (by decide), jx_p_s]
  have q2 : (jx_p (jx_p (jx_p M o 11 0) o 12 0) o 1 0) o 12 0 = 0 := by rw [jx_p_k (by decide), jx_p_s]
  have q3 : (jx_p (jx_p (jx_p M o 11 0) o 12 0) o 1 0) o 1 0 = 0 := jx_p_s _ _ _ _ _
  generalize jx_p (jx_p (jx_p M o 11 0) o 12 0) o 1 0 = M1 at hf1 q1 q2 q3 ⊢
  obtain ⟨M2, a1, a2, a3⟩ := F_fillA o 8 4 (by omega) (-9) M1
  obtain ⟨M3, b1, b2, b3⟩ := F_fillA o 10 6 (by omega) 0 M2
  rw [a1, jbd_s, b1, jbd_s, jlet_d]
  have hf : FO o KC M (jx_p M3 o 2 0) := hf1.tr ((a2.mono (by decide)).tr ((b2.mono (by decide)).tr (FO.p FO.rf (by decide))))
  obtain ⟨M', r', c1, c2, c3⟩ := L_run hg ho how hy2 hlim (fun M_11 => some ((), M_11)) 40 jfu 0 (jx_p M3 o 2 0) (by omega) (by unfold jfu; omega) (hL.fr (hf.ob 2 (Ne.symm ho))) (hO.fr (hf.ob w how)) (by
    refine ⟨fun j hj => ?_, fun j hj p hp => ?_, fun p hp => ?_, ⟨0, by decide, ?_, fun p hp => ?_⟩, ⟨0, by decide, ?_, fun p hp => ?_⟩, ?_⟩
    · rw [jx_p_k (by decide), b2.at 8 (by decide)]; exact a3 j (by omega)
    · cases hp
    · rw [jx_p_k (by decide)]; exact b3 p (by omega)
    · rw [jx_p_k (by decide), b2.at 11 (by decide), a2.at 11 (by decide)]; exact q1
    · simp [s_pre, s_0]
    · rw [jx_p_k (by decide), b2.at 12 (by decide), a2.at 12 (by decide)]; exact q2
    · simp [s_pre, s_0]
    · rw [jx_p_k (by decide), b2.at 1 (by decide), a2.at 1 (by decide)]; exact q3) (fun d hd => by omega) (jx_p_s _ _ _ _ _) (fun q hq => by omega)
  exact ⟨M', r', c1, hf.tr c2, c3⟩
