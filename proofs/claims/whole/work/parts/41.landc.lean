/-! ===== the land told on a sheet: both sides ===== -/
abbrev KRL : List Nat := [11, 12, 13, 14, 15, 16, 17, 18]
def RLy (C : Nat → Int32) (N : Nat) (M : jx_M) (r : Option (Int32 × jx_M)) : Prop := (okL C N ∧ ∃ P M', 1 ≤ P ∧ P ≤ 4 ∧ C 1 = nI (48 + P) ∧ r = some (1, M') ∧ FK KRL M M' ∧ M' 8 12 0 = nI P ∧ M' 8 13 0 = nI ((N - 2) / 6) ∧ ∀ j, j < (N - 2) / 6 → PS C j M') ∨ (¬ okL C N ∧ ∃ F M', r = some (0, M') ∧ FK KRL M M' ∧ M' 8 11 0 = nI F ∧ (∀ y, y < F → okc C y) ∧ ¬ okc C F ∧ F < 100)
theorem okL_e {C : Nat → Int32} {N F : Nat} (h : ¬ okc C F) (hF : F < 2) : ¬ okL C N := fun z => h (z.2.2 F (by have := z.1; omega))
theorem F_reads {C : Nat → Int32} {s N : Nat} {M : jx_M} (hC : CD C s N M) : RLy C N M (F_X6_readsLand (nI s) (nI N) M) := by
  unfold F_X6_readsLand
  rw [jlet_d, jlet_d]
  have hf2 : FK KRL M (jx_p (jx_p M 8 11 0) 8 13 0) := FK.p (FK.p FK.rf (by decide)) (by decide)
  have e11 : jx_p (jx_p M 8 11 0) 8 13 0 8 11 0 = nI 0 := by rw [jx_p_k (by decide), jx_p_s]; rfl
  have e13 : jx_p (jx_p M 8 11 0) 8 13 0 8 13 0 = nI 0 := by rw [jx_p_s]; rfl
  have hC2 : CD C s N (jx_p (jx_p M 8 11 0) 8 13 0) := hC.fr (hf2.at 40 (by decide))
  generalize jx_p (jx_p M 8 11 0) 8 13 0 = M2 at hf2 e11 e13 hC2 ⊢
  rw [F_code hC2 (by omega) e11, jbd_s]
  have stop : ∀ (M3 : jx_M), L_X6_readsLand_79 (nI s) (nI N) (fun x3_3 M_13 => jck (jin x3_3 2) (some (x3_3, M_13))) jfu 0 M3 = some (0, M3) := by
    intro M3
    show L_X6_readsLand_79 (nI s) (nI N) _ (999 + 1) 0 M3 = _
    rw [L_X6_readsLand_79.eq_2, if_pos rfl]
    rfl
  by_cases h0 : okc C 0
  · rw [if_pos (okc_0.mp h0), jlet_d, e11, nI_1, F_fig14 (hC2.fr (jx_p_k (by decide))) (p := 0 + 1) (by omega) (jx_p_s _ _ _ _ _)]
    by_cases h1 : okc C 1
    · have h1' := okc_1.mp h1
      rw [if_pos ⟨h1'.1, h1'.2⟩, jbd_s, jpp, jlet_d, jx_p_s]
      obtain ⟨P, hP, p1, p2, p3, p4⟩ := dg_e (v := C 1) ⟨by omega, by omega⟩
      have hP' : 1 ≤ P ∧ P ≤ 4 := by omega
      rw [show C (0 + 1) - 48 = nI P from p2, if_neg (show ¬ nI P ≤ 0 from nI_nle (by omega) (by omega))]
      have hf3 : FK KRL M (jx_p (jx_p M2 8 11 (nI (0 + 1 + 1))) 8 12 (nI P)) := FK.p (FK.p hf2 (by decide)) (by decide)
      rcases L_reads hP' p1 (fun x3_4 M_14 => jck (jin x3_4 2) (some (x3_4, M_14))) 7 jfu 0 (jx_p (jx_p M2 8 11 (nI (0 + 1 + 1))) 8 12 (nI P)) (by omega) (by omega) (by unfold jfu; omega) (hC.fr (hf3.at 40 (by decide))) (by rw [jx_p_k (by decide), jx_p_s]) (jx_p_s _ _ _ _ _) (by rw [jx_p_k (by decide), jx_p_k (by decide)]; exact e13) (fun y hy => by
        have : y = 0 ∨ y = 1 := by omega
        rcases this with e | e <;> subst e
        · exact h0
        · exact h1) (fun j hj => by omega) with ⟨c1, M', c2, c3, c4, c5⟩ | ⟨c1, F, M', c2, c3, c4⟩
      · exact Or.inl ⟨c1, P, M', hP'.1, hP'.2, p1, c2, hf3.tr (c3.mono (by decide)), by rw [c3.at 12 (by decide), jx_p_s], c4, c5⟩
      · exact Or.inr ⟨c1, F, M', c2, hf3.tr (c3.mono (by decide)), c4⟩
    · rw [if_neg (fun z => h1 (okc_1.mpr ⟨z.1, z.2⟩)), jbd_s, jpp, jlet_d, jx_p_s, if_pos (by decide), stop]
      refine Or.inr ⟨okL_e h1 (by omega), 1, _, rfl, FK.p (FK.p hf2 (by decide)) (by decide), ?_, fun y hy => ?_, h1, by omega⟩
      · rw [jx_p_k (by decide), jx_p_s]
      · rw [show y = 0 by omega]; exact h0
  · rw [if_neg (fun z => h0 (okc_0.mpr z)), jlet_d, jlet_d, jx_p_s, if_pos (by decide), stop]
    refine Or.inr ⟨okL_e h0 (by omega), 0, _, rfl, FK.p (FK.p hf2 (by decide)) (by decide), ?_, fun y hy => by omega, h0, by omega⟩
    rw [jx_p_k (by decide), jx_p_s, e11]
    rfl
/-- the land that is read -/
def gL (C : Nat → Int32) (N : Nat) : sG := fun k => if k = 1 then fun _ => dg (C 1) else if k = 2 then fun _ => (N - 2) / 6 else if k = 3 then fun i => kd (C (2 + 6 * i + 1)) else if k = 4 then fun i => dg (C (2 + 6 * i + 2)) else if k = 5 then fun i => dg (C (2 + 6 * i + 3)) else if k = 6 then fun i => dg (C (2 + 6 * i + 4)) else if k = 7 then fun i => dg (C (2 + 6 * i + 5)) else if k = 10 then fun _ => 40 else fun _ => 0
theorem okL_38 {C : Nat → Int32} {N : Nat} (h : okL C N) : N ≤ 38 := Decidable.byContradiction fun z => by
  have h38 : ¬ okc C 38 := by unfold okc; simp
  exact h38 (h.2.2 38 (by omega))
theorem gL_TW {C : Nat → Int32} {N : Nat} (h : okL C N) : TW (gL C N) := by
  have hN := okL_38 h
  have hN14 := h.1
  have h1 := okc_1.mp (h.2.2 1 (by omega))
  obtain ⟨P, hP, p1, p2, p3, p4⟩ := dg_e (v := C 1) ⟨by omega, by omega⟩
  have e1 : gL C N 1 0 = P := p3
  have e2 : gL C N 2 0 = (N - 2) / 6 := rfl
  refine ⟨⟨by rw [e1]; omega, by rw [e2]; omega, fun p hp => ?_, ?_, ?_, ?_, ?_, ?_⟩, ?_, ?_⟩
  · rw [e2] at hp
    have hi : p < 6 := by omega
    have hc := (okc_c hi).mp (h.2.2 (2 + 6 * p + 2) (by omega))
    have hd := (okc_d hi).mp (h.2.2 (2 + 6 * p + 3) (by omega))
    have he := (okc_e hi).mp (h.2.2 (2 + 6 * p + 4) (by omega))
    have hf := (okc_f hi).mp (h.2.2 (2 + 6 * p + 5) (by omega))
    obtain ⟨a, a0, a1, a2, a3, a4⟩ := dg_e (v := C (2 + 6 * p + 2)) ⟨hc.1, by omega⟩
    obtain ⟨b, b0, b1, b2, b3, b4⟩ := dg_e (v := C (2 + 6 * p + 3)) hd
    obtain ⟨u, u0, u1, u2, u3, u4⟩ := dg_e (v := C (2 + 6 * p + 4)) ⟨by omega, he.2⟩
    obtain ⟨w, w0, w1, w2, w3, w4⟩ := dg_e (v := C (2 + 6 * p + 5)) ⟨by omega, hf.2⟩
    rw [e1]
    show kd _ ≤ 2 ∧ dg (C (2 + 6 * p + 2)) < P ∧ dg (C (2 + 6 * p + 3)) ≤ 9 ∧ (1 ≤ dg (C (2 + 6 * p + 4)) ∧ dg (C (2 + 6 * p + 4)) ≤ 9) ∧ 1 ≤ dg (C (2 + 6 * p + 5)) ∧ dg (C (2 + 6 * p + 5)) ≤ 9
    rw [a3, b3, u3, w3]
    refine ⟨?_, by omega, by omega, ⟨by omega, by omega⟩, by omega, by omega⟩
    unfold kd
    split
    · omega
    · split <;> omega
  · show (0 : Nat) < 64; decide
  · show (0 : Nat) ≤ 2; decide
  · intro j hj; show (40 : Nat) ≤ 40; decide
  · show (0 : Nat) ≤ 7; decide
  · intro j hj
    exact absurd hj (Nat.not_lt_zero j)
  · show (0 : Nat) ≤ 6; decide
  · rw [e1, e2]; omega
theorem L_land98 {C : Nat → Int32} {n : Nat} (hn : n ≤ 6) (k : jx_M → Option (Int32 × jx_M)) : ∀ q f j M, j + q = n → q < f → M 8 2 0 = nI n → (∀ i, i < n → PS C i M) → (∀ i, i < j → M 8 3 i = nI (kd (C (2 + 6 * i + 1))) ∧ M 8 4 i = nI (dg (C (2 + 6 * i + 2))) ∧ M 8 5 i = nI (dg (C (2 + 6 * i + 3))) ∧ M 8 6 i = nI (dg (C (2 + 6 * i + 4))) ∧ M 8 7 i = nI (dg (C (2 + 6 * i + 5)))) → ∃ M', L_X6_land_98 k f (nI j) M = k M' ∧ FK [3, 4, 5, 6, 7] M M' ∧ ∀ i, i < n → M' 8 3 i = nI (kd (C (2 + 6 * i + 1))) ∧ M' 8 4 i = nI (dg (C (2 + 6 * i + 2))) ∧ M' 8 5 i = nI (dg (C (2 + 6 * i + 3))) ∧ M' 8 6 i = nI (dg (C (2 + 6 * i + 4))) ∧ M' 8 7 i = nI (dg (C (2 + 6 * i + 5))) := by
  intro q
  induction q with
  | zero =>
    intro f j M hj hf e2 hS h
    obtain ⟨f, rfl⟩ : ∃ q, f = q + 1 := ⟨f - 1, by omega⟩
    refine ⟨M, ?_, FK.rf, fun x hx => h x (by omega)⟩
    rw [L_X6_land_98.eq_2, e2, if_pos (nI_le (by omega) (by omega))]
  | succ q ih =>
    intro f j M hj hf e2 hS h
    obtain ⟨f, rfl⟩ : ∃ q, f = q + 1 := ⟨f - 1, by omega⟩
    rw [L_X6_land_98.eq_2, e2, if_neg (nI_ge (by omega) (by omega)), jin_n (show j < 6 by omega) (by omega)]
    simp only [jck_t, jlet_d, jr_n _ _ _ (show j < 2 ^ 31 by omega), jw_n _ _ _ _ (show j < 2 ^ 31 by omega), nI_1]
    simp (disch := decide) only [jx_set_k]
    obtain ⟨M', a1, a2, a3⟩ := ih f (j + 1) (jx_set (jx_set (jx_set (jx_set (jx_set M 8 3 (upd (M 8 3) j (M 8 14 j))) 8 4 (upd (M 8 4) j (M 8 15 j))) 8 5 (upd (M 8 5) j (M 8 16 j))) 8 6 (upd (M 8 6) j (M 8 17 j))) 8 7 (upd (M 8 7) j (M 8 18 j))) (by omega) (by omega) (by simp (disch := decide) only [jx_set_k]; exact e2) (fun i hi => by
      unfold PS
      simp (disch := decide) only [jx_set_k]
      exact hS i hi) (fun x hx => by
      simp (disch := decide) only [jx_set_k, jx_set_s]
      by_cases e : x = j
      · subst e; simp only [upd, if_true]; exact hS x (by omega)
      · simp only [upd, e, if_false]; exact h x (by omega))
    exact ⟨M', a1, FK.tr (FK.set (FK.set (FK.set (FK.set (FK.set FK.rf (by decide)) (by decide)) (by decide)) (by decide)) (by decide)) a2, a3⟩
theorem L_land186 (k : jx_M → Option (Int32 × jx_M)) : ∀ q f j M, j + q = 4 → q < f → (∀ i, i < j → M 8 10 i = nI 40) → ∃ M', L_X6_land_186 k f (nI j) M = k M' ∧ FK [10] M M' ∧ ∀ i, i < 4 → M' 8 10 i = nI 40 := by
  intro q
  induction q with
  | zero =>
    intro f j M hj hf h
    obtain ⟨f, rfl⟩ : ∃ q, f = q + 1 := ⟨f - 1, by omega⟩
    refine ⟨M, ?_, FK.rf, fun x hx => h x (by omega)⟩
    rw [L_X6_land_186.eq_2, if_pos (show (4 : Int32) ≤ nI j from nI_le (a := 4) (by omega) (by omega))]
  | succ q ih =>
    intro f j M hj hf h
    obtain ⟨f, rfl⟩ : ∃ q, f = q + 1 := ⟨f - 1, by omega⟩
    rw [L_X6_land_186.eq_2, if_neg (show ¬ (4 : Int32) ≤ nI j from nI_ge (b := 4) (by omega) (by omega)), jin_n (show j < 4 by omega) (by omega), jck_t, jw_n _ _ _ _ (by omega), jlet_d, jlet_d, nI_1]
    obtain ⟨M', a1, a2, a3⟩ := ih f (j + 1) (jx_set M 8 10 (upd (M 8 10) j 40)) (by omega) (by omega) (fun x hx => by
      rw [jx_set_s]
      by_cases e : x = j
      · subst e; simp only [upd, if_true]; rfl
      · simp only [upd, e, if_false]; exact h x (by omega))
    exact ⟨M', a1, FK.tr (FK.set FK.rf (by decide)) a2, a3⟩
