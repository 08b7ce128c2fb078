abbrev KSA : List Nat := [19, 20, 21, 22, 11, 12, 13, 14, 15, 16, 17, 18, 23, 24, 25, 26, 27, 28, 29, 30, 31, 32, 33, 41]
theorem KSA_W : ∀ k ∈ KSA, k ∈ KSW := by decide
theorem KS_A : ∀ k ∈ KS, k ∈ KSA := by decide
theorem RM.aw2 {g : sG} {m m' : jx_M} {a p d : Nat} (h : RM g m) (hf : FK KSA m m') (h19 : m' 8 19 0 = nI (g 19 0 + 1)) (h20 : m' 8 20 = upd (m 8 20) (g 19 0) (nI a)) (h21 : m' 8 21 = upd (m 8 21) (g 19 0) (nI p)) (h22 : m' 8 22 = upd (m 8 22) (g 19 0) (nI d)) : RM (s_aw g a p d) m' := by
  obtain ⟨a1, a2, a3, a4, a5, a6, a7, a8⟩ := h
  refine ⟨by rw [hf.at 1 (by decide)]; exact a1, by rw [hf.at 2 (by decide)]; exact a2, by rw [hf.at 3 (by decide), hf.at 4 (by decide), hf.at 5 (by decide), hf.at 6 (by decide), hf.at 7 (by decide)]; exact a3, by rw [hf.at 8 (by decide)]; exact a4, by rw [hf.at 9 (by decide)]; exact a5, by rw [hf.at 10 (by decide)]; exact a6, h19, fun j hj => ?_⟩
  have hj2 : j < g 19 0 + 1 := hj
  rw [h20, h21, h22]
  show _ = nI (nu (g 20) (g 19 0) a j) ∧ _ = nI (nu (g 21) (g 19 0) p j) ∧ _ = nI (nu (g 22) (g 19 0) d j)
  by_cases e : j = g 19 0
  · subst e; simp [upd, nu]
  · simp only [upd, nu, e, if_false]; exact a8 j (by omega)
/-- the wills are what they were -/
theorem RM.un {g : sG} {m m' : jx_M} (h : RM g m) (hf : FK KSA m m') (h19 : m' 8 19 0 = nI (g 19 0)) (hw : ∀ j, j < g 19 0 → m' 8 20 j = m 8 20 j ∧ m' 8 21 j = m 8 21 j ∧ m' 8 22 j = m 8 22 j) : RM g m' := by
  obtain ⟨a1, a2, a3, a4, a5, a6, a7, a8⟩ := h
  refine ⟨by rw [hf.at 1 (by decide)]; exact a1, by rw [hf.at 2 (by decide)]; exact a2, by rw [hf.at 3 (by decide), hf.at 4 (by decide), hf.at 5 (by decide), hf.at 6 (by decide), hf.at 7 (by decide)]; exact a3, by rw [hf.at 8 (by decide)]; exact a4, by rw [hf.at 9 (by decide)]; exact a5, by rw [hf.at 10 (by decide)]; exact a6, h19, fun j hj => ?_⟩
  obtain ⟨b1, b2, b3⟩ := hw j hj
  rw [b1, b2, b3]; exact a8 j hj
theorem upd_upd (f : Nat → Int32) (k : Nat) (v w : Int32) : upd (upd f k v) k w = upd f k w := by
  funext j
  by_cases h : j = k
  · subst h; simp [upd]
  · simp [upd, h]
theorem upd_self (f : Nat → Int32) (k : Nat) : upd f k (f k) = f := by
  funext j
  by_cases h : j = k
  · subst h; simp [upd]
  · simp [upd, h]
theorem L_namedC {g : sG} (hT : TW g) {nr : Nat} {ra ri : Nat → Nat} {rw : Nat → Int32} {a d : Nat} (ha : a < g 1 0) (hd : d < 40) (k : Int32 → jx_M → Option (Int32 × jx_M)) : ∀ q n v c, v + q = g 2 0 → q < n → RLa g c → RO g 3 c → RDc (g 1 0) nr ra ri rw c → ∃ c', L_X5_named_25 (nI a) (nI d) k n (nI (s_set (fun v => s_ok (s_aw g a v d) ra ri rw nr) v)) (nI v) c = k (nI (s_set (fun v => s_ok (s_aw g a v d) ra ri rw nr) (g 2 0))) c' ∧ ∀ o, o < 6 → c' o = c o := by
  have g2 := hT.1.2.1
  intro q
  induction q with
  | zero =>
    intro n v c hv hn hL hO hR
    obtain ⟨n, rfl⟩ : ∃ q, n = q + 1 := ⟨n - 1, by omega⟩
    refine ⟨c, ?_, fun _ _ => rfl⟩
    rw [L_X5_named_25.eq_2, hL.2.1, if_pos (nI_le (by omega) (by omega)), show v = g 2 0 by omega]
  | succ q ih =>
    intro n v c hv hn hL hO hR
    obtain ⟨n, rfl⟩ : ∃ q, n = q + 1 := ⟨n - 1, by omega⟩
    obtain ⟨c1, a1, a2, a3⟩ := C_takeOver hO hT.2.1
    obtain ⟨c1b, z1, z2, z3⟩ := C_addWill a3 hT.2.1 a v d
    have ob : ∀ o, o < 6 → c1b o = c o := fun o ho => by rw [z2.ob o (by omega), a2.ob o (by omega)]
    obtain ⟨c2, b1, b2'⟩ := C_whatif (g := g) (g' := s_aw g a v d) (hT.1.aw hT.2.1 ha (by omega) hd) (nr := nr) (ra := ra) (ri := ri) (rw := rw) (c := c1b) ⟨rfl, rfl, rfl, rfl, rfl, rfl, rfl⟩ (hL.fr (ob 2 (by decide))) z3 (hR.fr (ob 4 (by decide)))
    have oc : ∀ o, o < 6 → c2 o = c o := fun o ho => (b2' o ho).trans (ob o ho)
    obtain ⟨c', d1, d2⟩ := ih n (v + 1) c2 (by omega) (by omega) (hL.fr (oc 2 (by decide))) (hO.fr (oc 3 (by decide))) (hR.fr (oc 4 (by decide)))
    refine ⟨c', ?_, fun o ho => (d2 o ho).trans (oc o ho)⟩
    rw [L_X5_named_25.eq_2, hL.2.1, if_neg (nI_ge (by omega) (by omega)), a1, jbd_s, z1, jbd_s, b1, jbd_s]
    rw [s_set_s] at d1
    have hlt := s_set_lt (fun v => s_ok (s_aw g a v d) ra ri rw nr) v (by omega)
    cases hok : s_ok (s_aw g a v d) ra ri rw nr with
    | true =>
      rw [if_neg (by decide), jbor hlt (by omega), jlet_d, jlet_d, nI_1]
      rw [if_pos hok] at d1
      exact d1
    | false =>
      rw [if_pos (by decide), jlet_d, nI_1]
      rw [if_neg (by rw [hok]; decide)] at d1
      exact d1
theorem L_namedM {g : sG} (hT : TW g) {nr : Nat} {ra ri : Nat → Nat} {rw : Nat → Int32} {m : jx_M} (hM : RM g m) (hR : RDm (g 1 0) nr ra ri rw m) {a d : Nat} (ha : a < g 1 0) (hd : d < 40) (k : Int32 → jx_M → Option (Int32 × jx_M)) : ∀ q n v M, v + q = g 2 0 → q < n → FK KSA m M → M 8 19 0 = nI (g 19 0 + 1) → M 8 20 = upd (m 8 20) (g 19 0) (nI a) → M 8 22 = upd (m 8 22) (g 19 0) (nI d) → (∃ w, M 8 21 = upd (m 8 21) (g 19 0) w) → ∃ M', L_X6_named_59 k n (nI (s_set (fun v => s_ok (s_aw g a v d) ra ri rw nr) v)) (nI v) M = k (nI (s_set (fun v => s_ok (s_aw g a v d) ra ri rw nr) (g 2 0))) M' ∧ FK KSA m M' ∧ M' 8 19 0 = nI (g 19 0 + 1) ∧ M' 8 20 = upd (m 8 20) (g 19 0) (nI a) ∧ M' 8 22 = upd (m 8 22) (g 19 0) (nI d) ∧ (∃ w, M' 8 21 = upd (m 8 21) (g 19 0) w) := by
  have g2 := hT.1.2.1
  have g19 := hT.2.1
  intro q
  induction q with
  | zero =>
    intro n v M hv hn hf e19 e20 e22 e21
    obtain ⟨n, rfl⟩ : ∃ q, n = q + 1 := ⟨n - 1, by omega⟩
    refine ⟨M, ?_, hf, e19, e20, e22, e21⟩
    rw [L_X6_named_59.eq_2, hf.at 2 (by decide), hM.2.1, if_pos (nI_le (by omega) (by omega)), show v = g 2 0 by omega]
  | succ q ih =>
    intro n v M hv hn hf e19 e20 e22 e21
    obtain ⟨n, rfl⟩ : ∃ q, n = q + 1 := ⟨n - 1, by omega⟩
    obtain ⟨w, e21⟩ := e21
    have hf1 : FK KSA m (jx_set M 8 21 (upd (M 8 21) (g 19 0) (nI v))) := hf.set (by decide)
    have hRM : RM (s_aw g a v d) (jx_set M 8 21 (upd (M 8 21) (g 19 0) (nI v))) := hM.aw2 hf1 (by rw [jx_set_k (by decide)]; exact e19) (by rw [jx_set_k (by decide)]; exact e20) (by rw [jx_set_s, e21, upd_upd]) (by rw [jx_set_k (by decide)]; exact e22)
    obtain ⟨M1, a1, a2⟩ := F_areSo (hT.1.aw g19 ha (show v < g 2 0 by omega) hd) (nr := nr) (ra := ra) (ri := ri) (rw := rw) hRM (hR.fr (hf1.mono KSA_W))
    have hf2 : FK KSA m M1 := hf1.tr (a2.mono KS_A)
    obtain ⟨M', d1, d2⟩ := ih n (v + 1) M1 (by omega) (by omega) hf2 (by rw [a2.at 19 (by decide), jx_set_k (by decide)]; exact e19) (by rw [a2.at 20 (by decide), jx_set_k (by decide)]; exact e20) (by rw [a2.at 22 (by decide), jx_set_k (by decide)]; exact e22) ⟨nI v, by rw [a2.at 21 (by decide), jx_set_s, e21, upd_upd]⟩
    refine ⟨M', ?_, d2⟩
    rw [L_X6_named_59.eq_2, hf.at 2 (by decide), hM.2.1, if_neg (nI_ge (by omega) (by omega)), e19, nI_pred, jin_n (by omega) (by omega), jck_t, jw_n _ _ _ _ (by omega), jlet_d, a1, jbd_s]
    rw [s_set_s] at d1
    have hlt := s_set_lt (fun v => s_ok (s_aw g a v d) ra ri rw nr) v (by omega)
    cases hok : s_ok (s_aw g a v d) ra ri rw nr with
    | true =>
      rw [if_neg (by decide), jbor hlt (by omega), jlet_d, jlet_d, nI_1]
      rw [if_pos hok] at d1
      exact d1
    | false =>
      rw [if_pos (by decide), show (0 : Int32) = nI 0 from rfl, (jbol hlt (by decide)).1, Nat.or_zero, jlet_d, jlet_d, nI_1]
      rw [if_neg (by rw [hok]; decide)] at d1
      exact d1
theorem st_named (x y : Int32) : jSt (F_X5_named x y) (F_X6_named x y) := by
  intro c m h
  obtain ⟨g, nr, ra, ri, rw, hI⟩ := id h
  obtain ⟨h1, h2, h3, h4, h5, h6, h7, h8⟩ := id hI
  have g1 := h1.1.1
  have g2 := h1.1.2.1
  have g19 := h1.2.1
  have hw := h2.2.2.2.2.2.2.1
  unfold F_X5_named F_X6_named
  rw [C_isPost h3.1 (by omega), F_noPost h2.1 (by omega), jbd_s, jbd_s]
  by_cases hx : 0 ≤ x.toInt ∧ x.toInt < ((g 1 0 : Nat) : Int)
  · rw [if_pos hx, if_neg (by decide), if_pos hx, if_pos rfl, C_isDecade, F_isDecade, jbd_s, jbd_s]
    by_cases hy : 0 ≤ y.toInt ∧ y.toInt < 40
    · rw [if_pos hy, if_neg (show ¬ (1 : Int32) = 0 by decide), if_neg (show ¬ (1 : Int32) = 0 by decide)]
      obtain ⟨a, ha, rfl⟩ := jof_e hx (by omega)
      obtain ⟨d, hd, rfl⟩ := jof_e (n := 40) hy (by omega)
      obtain ⟨c', a1, a2⟩ := L_namedC h1 (nr := nr) (ra := ra) (ri := ri) (rw := rw) ha hd (fun x3_2 M_6 => some (x3_2, M_6)) (g 2 0) jfu 0 c (by omega) (by unfold jfu; omega) h3 h4 h5.c
      rw [hw, nI_1, jlet_d, jx_p_s, nI_pred, jin_n (by omega) (by omega), jck_t, jw_n _ _ _ _ (by omega), jlet_d, jx_set_k (by decide), jx_p_s, nI_pred, jin_n (by omega) (by omega), jck_t, jw_n _ _ _ _ (by omega), jlet_d]
      obtain ⟨m', b1, b2', b3, b4, b5, w, b6⟩ := L_namedM h1 h2 h5.m ha hd (fun x3_3 M_8 => jlet (jx_p M_8 8 19 ((M_8 8 19 0) - 1)) (fun M_9 => some (x3_3, M_9))) (g 2 0) jfu 0 (jx_set (jx_set (jx_p m 8 19 (nI (g 19 0 + 1))) 8 20 (upd ((jx_p m 8 19 (nI (g 19 0 + 1))) 8 20) (g 19 0) (nI a))) 8 22 (upd ((jx_set (jx_p m 8 19 (nI (g 19 0 + 1))) 8 20 (upd ((jx_p m 8 19 (nI (g 19 0 + 1))) 8 20) (g 19 0) (nI a))) 8 22) (g 19 0) (nI d))) (by omega) (by unfold jfu; omega) (FK.set (FK.set (FK.p FK.rf (by decide)) (by decide)) (by decide)) (by simp (disch := decide) only [jx_set_k, jx_p_s]) (by simp (disch := decide) only [jx_set_k, jx_set_s, jx_p_k]) (by simp (disch := decide) only [jx_set_k, jx_set_s, jx_p_k]) ⟨m 8 21 (g 19 0), by simp (disch := decide) only [jx_set_k, jx_p_k]; exact (upd_self _ _).symm⟩
      refine ⟨_, c', jx_p m' 8 19 (nI (g 19 0)), a1, ?_, g, nr, ra, ri, rw, hI.fr2 a2 ((b2'.mono KSA_W).p (by decide)) (h2.un (b2'.p (by decide)) (jx_p_s _ _ _ _ _) (fun j hj => ?_))⟩
      · rw [b3, nI_pred] at b1
        exact b1
      · rw [jx_p_k (by decide), jx_p_k (by decide), jx_p_k (by decide), b4, b5, b6]
        simp [upd, show ¬ j = g 19 0 by omega]
    · rw [if_neg hy, if_pos rfl, if_pos rfl]
      exact ⟨_, c, m, rfl, rfl, h⟩
  · rw [if_neg hx, if_pos rfl, if_neg hx, if_neg (by decide)]
    exact ⟨_, c, m, rfl, rfl, h⟩
/-! ===== fewest, odds ===== -/
theorem F_noneEmpty {g : sG} (hg : GW g) {d : Nat} (hd : d < 40) {M : jx_M} (hM : RM g M) : ∃ M', F_X6_noneEmpty (nI d) M = some (if s_E g (d + 1) = 0 then 1 else 0, M') ∧ FK KS M M' := by
  obtain ⟨M1, p1, p2, p3, p4⟩ := F_goTo hg hd hM
  refine ⟨M1, ?_, p2⟩
  unfold F_X6_noneEmpty
  have hb := (s_at_inv hg d).2.2.2.1
  rw [p1, jbd_s, p3.2.2.2]
  have e : s_c (s_at g d) = s_E g (d + 1) := rfl
  rw [e] at hb ⊢
  by_cases h0 : s_E g (d + 1) = 0
  · rw [if_pos (by rw [h0]; rfl), if_pos h0]
  · rw [if_neg (nI_ne0 (by omega) (by omega)), if_neg h0]
theorem s_E_mono (g : sG) : ∀ q r, s_E g r ≤ s_E g (r + q) := by
  intro q
  induction q with
  | zero => intro r; exact Nat.le_refl _
  | succ q ih =>
    intro r
    refine Nat.le_trans (ih r) ?_
    show s_c (s_pre g (r + q)) ≤ s_c (s_pre g (r + q)) + _
    exact Nat.le_add_right _ _
theorem s_E_0 (g : sG) : s_E g 0 = 0 := rfl
/-- the sets of persons who might refuse -/
def s_rf (g : sG) (s : Nat) : sG := gs g 8 (fun _ => 2 ^ g 2 0 - 1 - s)
theorem jb_st : ∀ n : Fin 7, ∀ s : Fin 64, s.val < 2 ^ n.val → nI (2 ^ n.val) - 1 - nI s.val = nI (2 ^ n.val - 1 - s.val) ∧ 2 ^ n.val - 1 - s.val < 64 ∧ nI (2 ^ n.val - 1) &&& (nI s.val ^^^ (-1)) = nI (2 ^ n.val - 1 - s.val) := by decide +kernel
theorem C_fall {g : sG} (hT : TW g) {c : jx_M} (hL : RLa g c) (hO : ∀ x, RO (gs g 8 (fun _ => x)) 6 (jx_p c 6 1 (nI x))) {s : Nat} (hs : s < 2 ^ g 2 0) : ∃ c' f, F_X0_run 7 6 39 1 (jx_p c 6 1 (nI (2 ^ g 2 0 - 1 - s))) = some ((), c') ∧ FO 7 KC (jx_p c 6 1 (nI (2 ^ g 2 0 - 1 - s))) c' ∧ f ≤ 40 ∧ (∀ d, d < 40 → (d < f ↔ s_E (s_rf g s) (d + 1) = 0)) ∧ ((c' 7 1 0 ≤ 0 ∧ f = 40) ∨ (¬ c' 7 1 0 ≤ 0 ∧ c' 7 2 0 - 1 = nI f)) := by
  have g2 := hT.1.2.1
  have hs64 : s < 64 := Nat.lt_of_lt_of_le hs (Nat.pow_le_pow_right (by decide) g2)
  obtain ⟨-, q2, -⟩ := jb_st ⟨g 2 0, by omega⟩ ⟨s, hs64⟩ hs
  dsimp only at q2
  have hg : GW (s_rf g s) := hT.1.k8 q2
  obtain ⟨c1, r, a1, a2, a3, a4, a5, a6, a7, a8⟩ := F_run hg (o := 7) (w := 6) (by decide) (by decide) (y2 := 39) (l1 := 40) (lim := 1) (fun r hr => by
    rw [show (39 : Int32) = nI 39 from rfl, nI_ltI (by omega) (by omega)]; omega) (by decide) (M := jx_p c 6 1 (nI (2 ^ g 2 0 - 1 - s))) (hL.fr (jx_p_o (by decide))) (hO _)
  have hcl := (s_pre_inv hg r).2.2.2
  have hE : s_c (s_pre (s_rf g s) r) = s_E (s_rf g s) r := rfl
  rw [hE] at hcl
  by_cases h0 : s_E (s_rf g s) r = 0
  · have hr : r = 40 := by omega
    subst hr
    refine ⟨c1, 40, a1, a2, Nat.le_refl _, fun d hd => ⟨fun _ => ?_, fun _ => hd⟩, Or.inl ⟨by rw [a7, h0]; decide, rfl⟩⟩
    have := s_E_mono (s_rf g s) (40 - (d + 1)) (d + 1)
    rw [show d + 1 + (40 - (d + 1)) = 40 by omega] at this
    omega
  · have hr0 : r ≠ 0 := fun z => h0 (by rw [z]; rfl)
    refine ⟨c1, r - 1, a1, a2, by omega, fun d hd => ⟨fun hlt => ?_, fun hz => ?_⟩, Or.inr ⟨by rw [a7]; exact nI_nle (by omega) (by omega), ?_⟩⟩
    · have := (a5 (d + 1) (by omega)).2; omega
    · apply Nat.lt_of_not_le
      intro hle
      have := s_E_mono (s_rf g s) (d + 1 - r) r
      rw [show r + (d + 1 - r) = d + 1 by omega] at this
      omega
    · rw [a8, show r = (r - 1) + 1 by omega, nI_pred]; simp
