/-! ===== the will that helps most ===== -/
theorem s_lb_aw (g : sG) (a p0 d0 post : Nat) (age : Nat → Nat) (c : Nat → Bool) : ∀ n, s_lb (s_aw g a p0 d0) post age c n = s_lb g post age c n := by
  intro n
  induction n with
  | zero => rfl
  | succ n ih => rw [s_lb_s, s_lb_s, ih]; rfl
theorem s_fw_aw (g : sG) (a p0 d0 post d : Nat) (c : Nat → Bool) : ∀ m j, j + m = g 19 0 → s_fw (s_aw g a p0 d0) post d c (m + 1) j = match s_fw g post d c m j with
    | some q => some q
    | none => if a = post ∧ d0 = d ∧ c p0 = true then some p0 else none := by
  intro m
  induction m with
  | zero =>
    intro j hj
    rw [s_fw_s]
    have hj2 : j = g 19 0 := by omega
    show (if nu (g 20) (g 19 0) a j = post ∧ nu (g 22) (g 19 0) d0 j = d ∧ c (nu (g 21) (g 19 0) p0 j) = true then some (nu (g 21) (g 19 0) p0 j) else none) = _
    rw [hj2, nu_s, nu_s, nu_s]
    rfl
  | succ m ih =>
    intro j hj
    rw [s_fw_s, ih (j + 1) (by omega), s_fw_s g]
    show (if nu (g 20) (g 19 0) a j = post ∧ nu (g 22) (g 19 0) d0 j = d ∧ c (nu (g 21) (g 19 0) p0 j) = true then some (nu (g 21) (g 19 0) p0 j) else _) = _
    rw [nu_n (by omega), nu_n (by omega), nu_n (by omega)]
    split
    · rfl
    · rfl
theorem s_lie_aw {g : sG} {a p0 d0 post d : Nat} {age : Nat → Nat} {c : Nat → Bool} (H : a = post → d0 = d → s_fw g post d c (g 19 0) 0 = none → c p0 = true → s_lie g post d age c = some p0) : s_lie (s_aw g a p0 d0) post d age c = s_lie g post d age c := by
  unfold s_lie
  rw [show (s_aw g a p0 d0) 19 0 = g 19 0 + 1 from rfl, s_fw_aw g a p0 d0 post d c (g 19 0) 0 (by omega)]
  cases hf : s_fw g post d c (g 19 0) 0 with
  | some q => rfl
  | none =>
    dsimp only
    by_cases hc : a = post ∧ d0 = d ∧ c p0 = true
    · rw [if_pos hc]
      have := H hc.1 hc.2.1 hf hc.2.2
      unfold s_lie at this
      rw [hf] at this
      dsimp only at this ⊢
      exact this.symm
    · rw [if_neg hc]
      dsimp only
      exact s_lb_aw g a p0 d0 post age c (g 2 0)
theorem s_fs_aw {g : sG} {a p0 d0 d : Nat} {age : Nat → Nat} {wo : Nat → Bool} {j : Nat} {s : sF} (H : a = j → d0 = d → s.1 j = none → d < g 10 j → s_fw g j d (s_cnd g s.2.1 wo) (g 19 0) 0 = none → s_cnd g s.2.1 wo p0 = true → s_lie g j d age (s_cnd g s.2.1 wo) = some p0) : s_fs (s_aw g a p0 d0) d age wo j s = s_fs g d age wo j s := by
  unfold s_fs
  by_cases hc : s.1 j = none ∧ d < g 10 j
  · rw [if_pos hc, if_pos (show s.1 j = none ∧ d < (s_aw g a p0 d0) 10 j from hc)]
    have e : s_lie (s_aw g a p0 d0) j d age (s_cnd (s_aw g a p0 d0) s.2.1 wo) = s_lie g j d age (s_cnd g s.2.1 wo) := s_lie_aw (c := s_cnd g s.2.1 wo) (fun h1 h2 h3 h4 => H h1 h2 hc.1 hc.2 h3 h4)
    rw [e]
    rfl
  · rw [if_neg hc, if_neg (show ¬ (s.1 j = none ∧ d < (s_aw g a p0 d0) 10 j) from hc)]
theorem s_F_later {g : sG} {d : Nat} {t : sS} {i : Nat} : ∀ q, (s_F g d t (i + 1 + q)).1 i = (s_F g d t (i + 1)).1 i := by
  intro q
  induction q with
  | zero => rfl
  | succ q ih => rw [← ih]; exact s_F_same (j := i + 1 + q) (by omega)
theorem s_go_aw {g : sG} {a p0 d0 d : Nat} {t : sS} (ha : a < g 1 0) (H : d0 = d → ¬ (s_ch g d t a p0 = true ∧ s_g (s_go g d t) a ≠ some p0)) : s_go (s_aw g a p0 d0) d t = s_go g d t := by
  have key : ∀ j, j ≤ g 1 0 → s_F (s_aw g a p0 d0) d t j = s_F g d t j := by
    intro j
    induction j with
    | zero => intro _; rfl
    | succ j ih =>
      intro hj
      show s_fs (s_aw g a p0 d0) d (s_a t) (s_W (s_aw g a p0 d0) d t).2.2 j (s_F (s_aw g a p0 d0) d t j) = s_fs g d (s_a t) (s_W g d t).2.2 j (s_F g d t j)
      rw [ih (by omega)]
      refine s_fs_aw (wo := (s_W g d t).2.2) (fun h1 h2 h3 h4 h5 h6 => ?_)
      subst h1
      have hch : s_ch g d t a p0 = true := by
        unfold s_ch
        simp [h3, h4, h5, h6]
      have hg : s_g (s_go g d t) a = some p0 := Decidable.byContradiction fun z => H h2 ⟨hch, z⟩
      have hl : (s_F g d t (g 1 0)).1 a = some p0 := hg
      rw [show g 1 0 = a + 1 + (g 1 0 - (a + 1)) by omega, s_F_later] at hl
      have e2 : s_F g d t (a + 1) = s_fs g d (s_a t) (s_W g d t).2.2 a (s_F g d t a) := rfl
      rw [e2] at hl
      unfold s_fs at hl
      rw [if_pos ⟨h3, h4⟩] at hl
      cases hli : s_lie g a d (s_a t) (s_cnd g (s_F g d t a).2.1 (s_W g d t).2.2) with
      | none => rw [hli] at hl; dsimp only at hl; rw [h3] at hl; cases hl
      | some q =>
        rw [hli] at hl
        dsimp only at hl
        rw [nu_s] at hl
        exact hl
  unfold s_go
  rw [show (s_aw g a p0 d0) 1 0 = g 1 0 from rfl, key _ (Nat.le_refl _)]
theorem s_pre_aw {g : sG} {a p0 d0 : Nat} (ha : a < g 1 0) (H : ¬ (s_ch g d0 (s_pre g d0) a p0 = true ∧ s_g (s_at g d0) a ≠ some p0)) : ∀ r, s_pre (s_aw g a p0 d0) r = s_pre g r := by
  intro r
  induction r with
  | zero => rfl
  | succ r ih =>
    show s_end (s_go (s_aw g a p0 d0) r (s_pre (s_aw g a p0 d0) r)) = s_end (s_go g r (s_pre g r))
    rw [ih, s_go_aw ha (fun e => by subst e; exact H)]
/-! the way through all wills -/
theorem s_hlp_s (g : sG) (x : Nat) : s_hlp g (x + 1) = if s_E (s_aw g (x / 40 / g 2 0) (x / 40 % g 2 0) (x % 40)) 40 < (s_hlp g x).2 then (nI (1000 * (x / 40 / g 2 0) + 100 * (x / 40 % g 2 0) + x % 40), s_E (s_aw g (x / 40 / g 2 0) (x / 40 % g 2 0) (x % 40)) 40) else s_hlp g x := rfl
theorem s_hlp_le (g : sG) : ∀ x, (s_hlp g x).2 ≤ s_E g 40 := by
  intro x
  induction x with
  | zero => exact Nat.le_refl _
  | succ x ih =>
    rw [s_hlp_s]
    split
    · rename_i h
      exact Nat.le_trans (Nat.le_of_lt h) ih
    · exact ih
theorem s_E_le {g : sG} (hg : GW g) (r : Nat) : s_E g r ≤ 6 * r := (s_pre_inv hg r).2.2.2
theorem F_allEmpties {g : sG} (hg : GW g) {M : jx_M} (hM : RM g M) : ∃ M', F_X6_allEmpties M = some (nI (s_E g 40), M') ∧ FK KS M M' := by
  obtain ⟨M1, p1, p2, p3, p4⟩ := F_goTo hg (show 39 < 40 by decide) hM
  refine ⟨M1, ?_, p2⟩
  unfold F_X6_allEmpties
  rw [show (39 : Int32) = nI 39 from rfl, p1, jbd_s, p3.2.2.2]
  rfl
theorem jhw (a p d : Nat) : 1000 * nI a + 100 * nI p + nI d = nI (1000 * a + 100 * p + d) := by
  rw [show (1000 : Int32) = nI 1000 from rfl, show (100 : Int32) = nI 100 from rfl, pk_mul, pk_mul, nI_add, nI_add]
theorem L_helpM {g : sG} (hT : TW g) (h0 : g 2 0 ≠ 0) {m : jx_M} (hM : RM g m) (y1 : Int32) (k : Int32 → Int32 → jx_M → Option (Int32 × jx_M)) : ∀ q n x M, x + q = g 1 0 * g 2 0 * 40 → q < n → FK KSA m M → M 8 19 0 = nI (g 19 0 + 1) → (∃ w, M 8 20 = upd (m 8 20) (g 19 0) w) → (∃ w, M 8 21 = upd (m 8 21) (g 19 0) w) → (∃ w, M 8 22 = upd (m 8 22) (g 19 0) w) →
    ∃ M', L_X6_help_52 y1 (nI (g 19 0)) k n (s_hlp g x).1 (nI (s_hlp g x).2) (nI x) M = k (s_hlp g (g 1 0 * g 2 0 * 40)).1 (nI (s_hlp g (g 1 0 * g 2 0 * 40)).2) M' ∧ FK KSA m M' ∧ M' 8 19 0 = nI (g 19 0 + 1) ∧ (∃ w, M' 8 20 = upd (m 8 20) (g 19 0) w) ∧ (∃ w, M' 8 21 = upd (m 8 21) (g 19 0) w) ∧ (∃ w, M' 8 22 = upd (m 8 22) (g 19 0) w) := by
  have g1 := hT.1.1
  have g2 := hT.1.2.1
  have g19 := hT.2.1
  have hpn : g 1 0 * g 2 0 ≤ 24 := Nat.mul_le_mul g1 g2
  intro q
  induction q with
  | zero =>
    intro n x M hx hn hf e19 e20 e21 e22
    obtain ⟨n, rfl⟩ : ∃ q, n = q + 1 := ⟨n - 1, by omega⟩
    refine ⟨M, ?_, hf, e19, e20, e21, e22⟩
    rw [L_X6_help_52.eq_2, hf.at 1 (by decide), hf.at 2 (by decide), hM.1, hM.2.1, pk_mul, show (40 : Int32) = nI 40 from rfl, pk_mul, if_pos (nI_le (by omega) (by omega)), show x = g 1 0 * g 2 0 * 40 by omega]
  | succ q ih =>
    intro n x M hx hn hf e19 e20 e21 e22
    obtain ⟨n, rfl⟩ : ∃ q, n = q + 1 := ⟨n - 1, by omega⟩
    obtain ⟨w20, e20⟩ := e20
    obtain ⟨w21, e21⟩ := e21
    obtain ⟨w22, e22⟩ := e22
    have hN0 : 0 < g 2 0 := by omega
    have hxa : x / 40 / g 2 0 < g 1 0 := by
      rw [Nat.div_div_eq_div_mul]
      apply Nat.div_lt_of_lt_mul
      rw [Nat.mul_assoc, Nat.mul_comm (g 2 0) (g 1 0)]
      omega
    have hxp : x / 40 % g 2 0 < g 2 0 := Nat.mod_lt _ hN0
    have hxd : x % 40 < 40 := Nat.mod_lt _ (by decide)
    have hne : ¬ nI (g 2 0) = 0 := nI_ne0 hN0 (by omega)
    rw [L_X6_help_52.eq_2, hf.at 1 (by decide), hf.at 2 (by decide), hM.1, hM.2.1, pk_mul, show (40 : Int32) = nI 40 from rfl, pk_mul, if_neg (nI_ge (by omega) (by omega)), decide_eq_false hne]
    show ∃ M', jck true _ = _ ∧ _
    rw [jck_t, jin_n (show g 19 0 < 7 by omega) (by omega), jck_t, pk_div (by omega) (by omega) (by omega), pk_div (by omega) (by omega) (by omega), jw_n _ _ _ _ (by omega), jlet_d, jx_set_k (by decide), hf.at 2 (by decide), hM.2.1, decide_eq_false hne]
    show ∃ M', jck true _ = _ ∧ _
    rw [jck_t, jck_t, pk_rem (by omega) (by omega) (by omega), jw_n _ _ _ _ (by omega), jlet_d, jck_t, pk_mul, pk_sub (by omega), show x - x / 40 * 40 = x % 40 by omega, jw_n _ _ _ _ (by omega), jlet_d]
    have hf1 : FK KSA m (jx_set (jx_set (jx_set M 8 20 (upd (M 8 20) (g 19 0) (nI (x / 40 / g 2 0)))) 8 21 (upd (jx_set M 8 20 (upd (M 8 20) (g 19 0) (nI (x / 40 / g 2 0))) 8 21) (g 19 0) (nI (x / 40 % g 2 0)))) 8 22 (upd (jx_set (jx_set M 8 20 (upd (M 8 20) (g 19 0) (nI (x / 40 / g 2 0)))) 8 21 (upd (jx_set M 8 20 (upd (M 8 20) (g 19 0) (nI (x / 40 / g 2 0))) 8 21) (g 19 0) (nI (x / 40 % g 2 0))) 8 22) (g 19 0) (nI (x % 40)))) := ((hf.set (by decide)).set (by decide)).set (by decide)
    have k19 : (jx_set (jx_set (jx_set M 8 20 (upd (M 8 20) (g 19 0) (nI (x / 40 / g 2 0)))) 8 21 (upd (jx_set M 8 20 (upd (M 8 20) (g 19 0) (nI (x / 40 / g 2 0))) 8 21) (g 19 0) (nI (x / 40 % g 2 0)))) 8 22 (upd (jx_set (jx_set M 8 20 (upd (M 8 20) (g 19 0) (nI (x / 40 / g 2 0)))) 8 21 (upd (jx_set M 8 20 (upd (M 8 20) (g 19 0) (nI (x / 40 / g 2 0))) 8 21) (g 19 0) (nI (x / 40 % g 2 0))) 8 22) (g 19 0) (nI (x % 40)))) 8 19 0 = nI (g 19 0 + 1) := by simp (disch := decide) only [jx_set_k]; exact e19
    have k20 : (jx_set (jx_set (jx_set M 8 20 (upd (M 8 20) (g 19 0) (nI (x / 40 / g 2 0)))) 8 21 (upd (jx_set M 8 20 (upd (M 8 20) (g 19 0) (nI (x / 40 / g 2 0))) 8 21) (g 19 0) (nI (x / 40 % g 2 0)))) 8 22 (upd (jx_set (jx_set M 8 20 (upd (M 8 20) (g 19 0) (nI (x / 40 / g 2 0)))) 8 21 (upd (jx_set M 8 20 (upd (M 8 20) (g 19 0) (nI (x / 40 / g 2 0))) 8 21) (g 19 0) (nI (x / 40 % g 2 0))) 8 22) (g 19 0) (nI (x % 40)))) 8 20 = upd (m 8 20) (g 19 0) (nI (x / 40 / g 2 0)) := by simp (disch := decide) only [jx_set_k, jx_set_s]; rw [e20, upd_upd]
    have k21 : (jx_set (jx_set (jx_set M 8 20 (upd (M 8 20) (g 19 0) (nI (x / 40 / g 2 0)))) 8 21 (upd (jx_set M 8 20 (upd (M 8 20) (g 19 0) (nI (x / 40 / g 2 0))) 8 21) (g 19 0) (nI (x / 40 % g 2 0)))) 8 22 (upd (jx_set (jx_set M 8 20 (upd (M 8 20) (g 19 0) (nI (x / 40 / g 2 0)))) 8 21 (upd (jx_set M 8 20 (upd (M 8 20) (g 19 0) (nI (x / 40 / g 2 0))) 8 21) (g 19 0) (nI (x / 40 % g 2 0))) 8 22) (g 19 0) (nI (x % 40)))) 8 21 = upd (m 8 21) (g 19 0) (nI (x / 40 % g 2 0)) := by simp (disch := decide) only [jx_set_k, jx_set_s]; rw [e21, upd_upd]
    have k22 : (jx_set (jx_set (jx_set M 8 20 (upd (M 8 20) (g 19 0) (nI (x / 40 / g 2 0)))) 8 21 (upd (jx_set M 8 20 (upd (M 8 20) (g 19 0) (nI (x / 40 / g 2 0))) 8 21) (g 19 0) (nI (x / 40 % g 2 0)))) 8 22 (upd (jx_set (jx_set M 8 20 (upd (M 8 20) (g 19 0) (nI (x / 40 / g 2 0)))) 8 21 (upd (jx_set M 8 20 (upd (M 8 20) (g 19 0) (nI (x / 40 / g 2 0))) 8 21) (g 19 0) (nI (x / 40 % g 2 0))) 8 22) (g 19 0) (nI (x % 40)))) 8 22 = upd (m 8 22) (g 19 0) (nI (x % 40)) := by simp (disch := decide) only [jx_set_k, jx_set_s]; rw [e22, upd_upd]
    generalize jx_set (jx_set (jx_set M 8 20 (upd (M 8 20) (g 19 0) (nI (x / 40 / g 2 0)))) 8 21 (upd (jx_set M 8 20 (upd (M 8 20) (g 19 0) (nI (x / 40 / g 2 0))) 8 21) (g 19 0) (nI (x / 40 % g 2 0)))) 8 22 (upd (jx_set (jx_set M 8 20 (upd (M 8 20) (g 19 0) (nI (x / 40 / g 2 0)))) 8 21 (upd (jx_set M 8 20 (upd (M 8 20) (g 19 0) (nI (x / 40 / g 2 0))) 8 21) (g 19 0) (nI (x / 40 % g 2 0))) 8 22) (g 19 0) (nI (x % 40))) = M1 at hf1 k19 k20 k21 k22 ⊢
    have hg' := hT.1.aw g19 hxa hxp hxd
    obtain ⟨M2, a1, a2⟩ := F_allEmpties hg' (hM.aw2 hf1 k19 k20 k21 k22)
    have hb := s_E_le hg' 40
    have hz := s_hlp_le g x
    have hzb := s_E_le hT.1 40
    have r20 : M2 8 20 = upd (m 8 20) (g 19 0) (nI (x / 40 / g 2 0)) := by rw [a2.at 20 (by decide)]; exact k20
    have r21 : M2 8 21 = upd (m 8 21) (g 19 0) (nI (x / 40 % g 2 0)) := by rw [a2.at 21 (by decide)]; exact k21
    have r22 : M2 8 22 = upd (m 8 22) (g 19 0) (nI (x % 40)) := by rw [a2.at 22 (by decide)]; exact k22
    obtain ⟨M', d1, d2⟩ := ih n (x + 1) M2 (by omega) (by omega) (hf1.tr (a2.mono KS_A)) (by rw [a2.at 19 (by decide)]; exact k19) ⟨_, r20⟩ ⟨_, r21⟩ ⟨_, r22⟩
    refine ⟨M', ?_, d2⟩
    rw [s_hlp_s] at d1
    rw [a1, jbd_s, jck_t, jck_t, jck_t, jr_n _ _ _ (by omega), jr_n _ _ _ (by omega), jr_n _ _ _ (by omega), r20, r21, r22]
    have us : ∀ (f : Nat → Int32) (v : Int32), upd f (g 19 0) v (g 19 0) = v := by intro f v; simp [upd]
    rw [us, us, us, jhw]
    by_cases c1 : s_E (s_aw g (x / 40 / g 2 0) (x / 40 % g 2 0) (x % 40)) 40 < (s_hlp g x).2
    · rw [if_pos c1] at d1
      rw [if_neg (nI_ge c1 (by omega)), jlet_d, if_neg (nI_ge c1 (by omega)), jlet_d, nI_1]
      exact d1
    · rw [if_neg c1] at d1
      rw [if_pos (nI_le (by omega) (by omega)), if_pos (nI_le (by omega) (by omega)), jlet_d, nI_1]
      exact d1
