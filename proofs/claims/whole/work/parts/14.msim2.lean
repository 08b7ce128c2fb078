theorem jx_p_s (M : jx_M) (o k i : Nat) (v : Int32) : jx_p M o k v o k i = v := by simp [jx_p, jx_set]
theorem jx_p_n {M : jx_M} {o k o' k' : Nat} {v : Int32} (h : ¬ (o' = o ∧ k' = k)) : jx_p M o k v o' k' = M o' k' := jx_set_n h
theorem s_fw_s (g : sG) (post d : Nat) (c : Nat → Bool) (m j : Nat) : s_fw g post d c (m + 1) j = if g 20 j = post ∧ g 22 j = d ∧ c (g 21 j) = true then some (g 21 j) else s_fw g post d c m (j + 1) := rfl
theorem s_lb_s (g : sG) (post : Nat) (age : Nat → Nat) (c : Nat → Bool) (p : Nat) : s_lb g post age c (p + 1) = if c p = true then (match s_lb g post age c p with
    | none => some p
    | some b => if s_rth g post age p b = true then some p else some b) else s_lb g post age c p := rfl
/-- while they lie down, in the model's memory -/
def RF (g : sG) (s : sF) (wo : Nat → Bool) (age sl : Nat → Nat) (c : Nat) (M : jx_M) : Prop :=
  (∀ p, p < g 2 0 → M 8 23 p = nI (s.2.1 p) ∧ M 8 24 p = nI (age p) ∧ M 8 26 p = nI (sl p)) ∧ (∀ j, j < g 1 0 → M 8 27 j = gI (s.1 j)) ∧ (∀ j, j < g 1 0 → ∀ p, s.1 j = some p → M 8 25 p = nI (s.2.2.1 p)) ∧ M 8 28 0 = nI s.2.2.2 ∧ M 8 29 0 = nI c ∧ ∃ F, F < 64 ∧ M 8 30 0 = nI F ∧ ∀ p, p < g 2 0 → F.testBit p = !wo p
theorem RF.may {g : sG} (hg : GW g) {s : sF} {wo : Nat → Bool} {age sl : Nat → Nat} {c : Nat} {M : jx_M} (hR : RF g s wo age sl c M) (hM : RM g M) (hs : ∀ p, p < g 2 0 → s.2.1 p ≤ 3) {p : Nat} (hp : p < g 2 0) : F_X6_mayLie (nI p) M = some (if s_cnd g s.2.1 wo p = true then 1 else 0, M) := by
  obtain ⟨h1, h2, h3, h4, h5, F, h6, h7, h8⟩ := hR
  exact F_mayLie hg hM hp (h1 p hp).1 (hs p hp) h7 h6 (h8 p hp)
theorem L_lier1 {g : sG} (hg : GW g) {s : sF} {wo : Nat → Bool} {age sl : Nat → Nat} {c : Nat} {M : jx_M} (hR : RF g s wo age sl c M) (hM : RM g M) (hs : ∀ p, p < g 2 0 → s.2.1 p ≤ 3) {post d : Nat} (hpost : post < g 1 0) (hd : d < 40) (k : jx_M → Option (Int32 × jx_M)) :
    ∀ m n j, j + m = g 19 0 → m < n → L_X6_lierAt_2 (nI post) (nI d) k n (nI j) M = match s_fw g post d (s_cnd g s.2.1 wo) m j with
      | some p => some (nI p, M)
      | none => k M := by
  have hw := hM.2.2.2.2.2.2.1
  obtain ⟨g1, g2, g3, g4, g5, g6, g7, g8⟩ := id hg
  intro m
  induction m with
  | zero =>
    intro n j hj hn
    obtain ⟨n, rfl⟩ : ∃ q, n = q + 1 := ⟨n - 1, by omega⟩
    rw [L_X6_lierAt_2.eq_2, hw, if_pos (nI_le (by omega) (by omega))]
    rfl
  | succ m ih =>
    intro n j hj hn
    obtain ⟨n, rfl⟩ : ∃ q, n = q + 1 := ⟨n - 1, by omega⟩
    obtain ⟨a1, a2, a3⟩ := hM.2.2.2.2.2.2.2 j (by omega)
    obtain ⟨b1, b2, b3⟩ := g8 j (by omega)
    have ih1 := ih n (j + 1) (by omega) (by omega)
    rw [L_X6_lierAt_2.eq_2, hw, if_neg (nI_ge (by omega) (by omega))]
    simp (disch := omega) only [jin_n, jck_t, jr_n, a1, a2, a3, nI_eq, hR.may hg hM hs b2, jbd_s, jlet_d, nI_1, ih1]
    rw [s_fw_s]
    by_cases c1 : g 20 j = post
    · by_cases c2 : g 22 j = d
      · cases c3 : s_cnd g s.2.1 wo (g 21 j) <;> simp [c1, c2, c3]
      · simp [c1, c2]
    · simp [c1]
theorem L_lier2 {g : sG} (hg : GW g) {s : sF} {wo : Nat → Bool} {age sl : Nat → Nat} {c : Nat} {M : jx_M} (hR : RF g s wo age sl c M) (hM : RM g M) (hs : ∀ p, p < g 2 0 → s.2.1 p ≤ 3) (ha : ∀ p, p < g 2 0 → age p < 1000) {post : Nat} (hpost : post < g 1 0) (k : Int32 → jx_M → Option (Int32 × jx_M)) :
    ∀ m n q, q + m = g 2 0 → m < n → L_X6_lierAt_62 (nI post) k n (gI (s_lb g post age (s_cnd g s.2.1 wo) q)) (nI q) M = k (gI (s_lb g post age (s_cnd g s.2.1 wo) (g 2 0))) M := by
  have hN := hM.2.1
  obtain ⟨g1, g2, g3, g4, g5, g6, g7, g8⟩ := id hg
  intro m
  induction m with
  | zero =>
    intro n q hj hn
    obtain ⟨n, rfl⟩ : ∃ q, n = q + 1 := ⟨n - 1, by omega⟩
    rw [L_X6_lierAt_62.eq_2, hN, if_pos (nI_le (by omega) (by omega))]
    rw [show q = g 2 0 by omega]
  | succ m ih =>
    intro n q hj hn
    obtain ⟨n, rfl⟩ : ∃ q, n = q + 1 := ⟨n - 1, by omega⟩
    have ih1 := ih n (q + 1) (by omega) (by omega)
    rw [L_X6_lierAt_62.eq_2, hN, if_neg (nI_ge (by omega) (by omega))]
    rw [hR.may hg hM hs (show q < g 2 0 by omega), jbd_s]
    rw [s_lb_s] at ih1
    cases c1 : s_cnd g s.2.1 wo q with
    | false =>
      simp only [c1] at ih1
      simpa [jlet_d, nI_1] using ih1
    | true =>
      simp only [c1, if_true] at ih1
      rw [if_pos rfl, if_neg (by decide)]
      cases c2 : s_lb g post age (s_cnd g s.2.1 wo) q with
      | none =>
        rw [c2] at ih1
        rw [if_pos gI_neg]
        simpa [jlet_d, nI_1, gI] using ih1
      | some b =>
        rw [c2] at ih1
        obtain ⟨-, hb⟩ := s_lb_in _ _ c2
        rw [if_neg (gI_nneg (by omega))]
        rw [show gI (some b) = nI b from rfl, F_isRather hg hM (age := age) (by omega) (by omega) (by omega) (hR.1 q (by omega)).2.1 (hR.1 b (by omega)).2.1 (ha q (by omega)) (ha b (by omega)), jbd_s]
        cases c3 : s_rth g post age q b with
        | true =>
          dsimp only at ih1
          rw [c3] at ih1
          simpa [jlet_d, nI_1, gI] using ih1
        | false =>
          dsimp only at ih1
          rw [c3] at ih1
          simpa [jlet_d, nI_1, gI] using ih1
theorem F_lierAt {g : sG} (hg : GW g) {s : sF} {wo : Nat → Bool} {age sl : Nat → Nat} {c : Nat} {M : jx_M} (hR : RF g s wo age sl c M) (hM : RM g M) (hs : ∀ p, p < g 2 0 → s.2.1 p ≤ 3) (ha : ∀ p, p < g 2 0 → age p < 1000) {post d : Nat} (hpost : post < g 1 0) (hd : d < 40) : F_X6_lierAt (nI post) (nI d) M = some (gI (s_lie g post d age (s_cnd g s.2.1 wo)), M) := by
  obtain ⟨g1, g2, g3, g4, g5, g6, g7, g8⟩ := id hg
  unfold F_X6_lierAt s_lie
  rw [show (0 : Int32) = nI 0 from rfl, L_lier1 hg hR hM hs hpost hd _ (g 19 0) jfu 0 (by omega) (by unfold jfu; omega)]
  cases s_fw g post d (s_cnd g s.2.1 wo) (g 19 0) 0 with
  | some p => rfl
  | none =>
    dsimp only
    rw [show (-9 : Int32) = gI (s_lb g post age (s_cnd g s.2.1 wo) 0) from rfl, L_lier2 hg hR hM hs ha hpost _ (g 2 0) jfu 0 (by omega) (by unfold jfu; omega)]
/-! who wakes -/
def RW (g : sG) (S : (Nat → Option Nat) × (Nat → Nat) × (Nat → Bool)) (M : jx_M) : Prop := (∀ p, p < g 2 0 → M 8 23 p = nI (S.2.1 p)) ∧ (∀ j, j < g 1 0 → M 8 27 j = gI (S.1 j)) ∧ ∃ F, F < 64 ∧ M 8 30 0 = nI F ∧ ∀ p, p < g 2 0 → F.testBit p = !S.2.2 p
theorem L_wake {g : sG} (hg : GW g) {d : Nat} (hd : d < 40) {w : Nat → Nat} {G : Nat → Option Nat} {H : Nat → Nat} (hG : ∀ j, j < g 1 0 → ∀ p, G j = some p → p < g 2 0 ∧ w p < 1000) (k : jx_M → Option (Unit × jx_M)) :
    ∀ m n j M, j + m = g 1 0 → m < n → M 8 1 0 = nI (g 1 0) → (∀ j, j < g 1 0 → ∀ p, G j = some p → M 8 25 p = nI (w p)) → RW g (s_wk d w G H j) M → ∃ M', L_X6_wakeAll_10 (nI d) k n (nI j) M = k M' ∧ FK [23, 27, 30] M M' ∧ RW g (s_wk d w G H (g 1 0)) M' := by
  obtain ⟨g1, g2, g3, g4, g5, g6, g7, g8⟩ := id hg
  intro m
  induction m with
  | zero =>
    intro n j M hj hn hP hw hR
    obtain ⟨n, rfl⟩ : ∃ q, n = q + 1 := ⟨n - 1, by omega⟩
    refine ⟨M, ?_, FK.rf, by rw [show g 1 0 = j by omega]; exact hR⟩
    rw [L_X6_wakeAll_10.eq_2, hP, if_pos (nI_le (by omega) (by omega))]
  | succ m ih =>
    intro n j M hj hn hP hw hR
    obtain ⟨n, rfl⟩ : ∃ q, n = q + 1 := ⟨n - 1, by omega⟩
    obtain ⟨i1, i2, i3, i4⟩ := s_wk_inv (d := d) (w := w) (G := G) (H := H) j
    obtain ⟨r1, r2, F, r3, r4, r5⟩ := id hR
    rw [L_X6_wakeAll_10.eq_2, hP, if_neg (nI_ge (by omega) (by omega)), jin_n (by omega) (by omega), jck_t, jr_n _ _ _ (by omega), r2 j (by omega), jlet_d]
    have e1 : s_wk d w G H (j + 1) = match (s_wk d w G H j).1 j with
      | none => s_wk d w G H j
      | some p => if w p = d then (nu (s_wk d w G H j).1 j none, nu (s_wk d w G H j).2.1 p 1, nu (s_wk d w G H j).2.2 p true) else s_wk d w G H j := rfl
    cases hj2 : (s_wk d w G H j).1 j with
    | none =>
      rw [if_pos gI_neg, jlet_d, nI_1]
      rw [hj2] at e1
      exact ih n (j + 1) M (by omega) (by omega) hP hw (by rw [e1]; exact hR)
    | some p =>
      have hGj : G j = some p := (i1 j p hj2).1
      obtain ⟨hpN, hwl⟩ := hG j (by omega) p hGj
      rw [hj2] at e1
      rw [if_neg (gI_nneg (by omega)), show gI (some p) = nI p from rfl, jin_n (by omega) (by omega), jck_t, jr_n _ _ _ (by omega), hw j (by omega) p hGj]
      by_cases hwd : w p = d
      · dsimp only at e1
        rw [if_pos hwd] at e1
        rw [if_pos (by rw [hwd])]
        simp (disch := omega) only [jin_n, jck_t, jw_n, jlet_d, nI_1]
        have hR2 : RW g (s_wk d w G H (j + 1)) (jx_p (jx_set (jx_set M 8 27 (upd (M 8 27) j (-9))) 8 23 (upd (jx_set M 8 27 (upd (M 8 27) j (-9)) 8 23) p 1)) 8 30 ((jx_set (jx_set M 8 27 (upd (M 8 27) j (-9))) 8 23 (upd (jx_set M 8 27 (upd (M 8 27) j (-9)) 8 23) p 1)) 8 30 0 &&& (1 <<< (nI p &&& 31) ^^^ -1))) := by
          rw [e1]
          refine ⟨fun q hq => ?_, fun i hi => ?_, F &&& (63 - 2 ^ p), jbtl r3, ?_, fun q hq => ?_⟩
          · by_cases hqp : q = p
            · subst hqp
              simp [jx_p, jx_set, upd, nu]
              rfl
            · simp [jx_p, jx_set, upd, nu, hqp]
              exact r1 q hq
          · by_cases hij : i = j
            · subst hij
              simp [jx_p, jx_set, upd, nu]
              rfl
            · simp [jx_p, jx_set, upd, nu, hij]
              exact r2 i hi
          · rw [jx_p_s, jx_set_n (by decide), jx_set_n (by decide), r4]
            exact jban (i := p) r3 (by omega)
          · rw [jbta r3 (by omega) (by omega), r5 q hq]
            by_cases hqp : q = p
            · subst hqp; simp [nu]
            · simp [nu, hqp]
        obtain ⟨M', h1, h2, h3⟩ := ih n (j + 1) _ (by omega) (by omega) (by simpa [jx_p, jx_set] using hP) (by simpa [jx_p, jx_set] using hw) hR2
        refine ⟨M', h1, FK.tr ?_ h2, h3⟩
        exact FK.p (FK.set (FK.set FK.rf (by decide)) (by decide)) (by decide)
      · dsimp only at e1
        rw [if_neg hwd] at e1
        rw [if_neg (by rw [nI_eq (by omega) (by omega)]; exact hwd), jlet_d, nI_1]
        exact ih n (j + 1) M (by omega) (by omega) hP hw (by rw [e1]; exact hR)
