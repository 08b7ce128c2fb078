/-! odds -/
def s_cn (f : Nat → Bool) : Nat → Nat
  | 0 => 0
  | s + 1 => s_cn f s + (f s).toNat
theorem s_cn_le (f : Nat → Bool) : ∀ n, s_cn f n ≤ n := by
  intro n
  induction n with
  | zero => exact Nat.le_refl _
  | succ n ih =>
    show s_cn f n + (f n).toNat ≤ n + 1
    have : ∀ b : Bool, b.toNat ≤ 1 := by decide
    have := this (f n)
    omega
theorem s_cn_shift (f : Nat → Bool) : ∀ n, s_cn f (n + 1) = (f 0).toNat + s_cn (fun s => f (s + 1)) n := by
  intro n
  induction n with
  | zero => show 0 + (f 0).toNat = (f 0).toNat + 0; omega
  | succ n ih =>
    show s_cn f (n + 1) + (f (n + 1)).toNat = (f 0).toNat + (s_cn (fun s => f (s + 1)) n + (f (n + 1)).toNat)
    rw [ih]; omega
theorem s_cn_congr {f h : Nat → Bool} : ∀ n, (∀ s, s < n → f s = h s) → s_cn f n = s_cn h n := by
  intro n
  induction n with
  | zero => intro _; rfl
  | succ n ih =>
    intro e
    show s_cn f n + _ = s_cn h n + _
    rw [ih (fun s hs => e s (by omega)), e n (by omega)]
theorem s_cn_rev : ∀ (n : Nat) (f : Nat → Bool), s_cn (fun s => f (n - 1 - s)) n = s_cn f n := by
  intro n
  induction n with
  | zero => intro f; rfl
  | succ n ih =>
    intro f
    rw [s_cn_shift]
    show (f (n + 1 - 1 - 0)).toNat + s_cn (fun s => f (n + 1 - 1 - (s + 1))) n = s_cn f n + (f n).toNat
    rw [s_cn_congr (f := fun s => f (n + 1 - 1 - (s + 1))) (h := fun s => f (n - 1 - s)) n (fun s hs => by
      show f _ = f _
      congr 1
      omega), ih f]
    simp [Nat.add_comm]
def s_oc (g : sG) (d s : Nat) : Bool := decide (s_E (gs g 8 (fun _ => s)) (d + 1) = 0)
theorem L_oddC {g : sG} (hT : TW g) {d : Nat} (hd : d < 40) {c : jx_M} (hL : RLa g c) (hf : s_fls g c (2 ^ g 2 0)) {y2 y3 : Int32} (k : Int32 → jx_M → Option (Int64 × jx_M)) : ∀ q n s, s + q = 2 ^ g 2 0 → q < n → L_X5_odds_49 (nI d) y2 y3 k n (nI (s_cn (fun s => s_oc g d (2 ^ g 2 0 - 1 - s)) s)) (nI s) c = k (nI (s_cn (fun s => s_oc g d (2 ^ g 2 0 - 1 - s)) (2 ^ g 2 0))) c := by
  have g2 := hT.1.2.1
  have hp : 2 ^ g 2 0 ≤ 64 := Nat.pow_le_pow_right (by decide) g2
  intro q
  induction q with
  | zero =>
    intro n s hs hn
    obtain ⟨n, rfl⟩ : ∃ q, n = q + 1 := ⟨n - 1, by omega⟩
    rw [L_X5_odds_49.eq_2, C_setCount hL.2.1 g2, jbd_s, if_pos (nI_le (by omega) (by omega)), show s = 2 ^ g 2 0 by omega]
  | succ q ih =>
    intro n s hs hn
    obtain ⟨n, rfl⟩ : ∃ q, n = q + 1 := ⟨n - 1, by omega⟩
    have ih1 := ih n (s + 1) (by omega) (by omega)
    obtain ⟨f, f1, f2, f3⟩ := hf s (by omega)
    have es : s_cn (fun s => s_oc g d (2 ^ g 2 0 - 1 - s)) (s + 1) = s_cn (fun s => s_oc g d (2 ^ g 2 0 - 1 - s)) s + (s_oc g d (2 ^ g 2 0 - 1 - s)).toNat := rfl
    rw [es] at ih1
    rw [L_X5_odds_49.eq_2, C_setCount hL.2.1 g2, jbd_s, if_neg (nI_ge (by omega) (by omega)), jin_n (show s < 64 by omega) (by omega), jck_t, jr_n _ _ _ (by omega), f2]
    by_cases c1 : s_E (s_rf g s) (d + 1) = 0
    · have := (f3 d hd).mpr c1
      rw [show s_oc g d (2 ^ g 2 0 - 1 - s) = true from decide_eq_true c1] at ih1
      rw [if_neg (nI_ge (by omega) (by omega)), jlet_d, jlet_d, nI_1, nI_1]
      exact ih1
    · have : ¬ d < f := fun z => c1 ((f3 d hd).mp z)
      rw [show s_oc g d (2 ^ g 2 0 - 1 - s) = false from decide_eq_false c1] at ih1
      rw [if_pos (nI_le (by omega) (by omega)), jlet_d, nI_1]
      exact ih1
theorem L_oddM {g : sG} (hT : TW g) {d : Nat} (hd : d < 40) {m : jx_M} (hM : RM g m) (y2 y3 : Int32) (k : Int64 → jx_M → Option (Int64 × jx_M)) : ∀ q n s M, s + q = 2 ^ g 2 0 → q < n → FK KSW m M → (∀ x, RM (gs g 8 (fun _ => x)) (jx_p M 8 8 (nI x))) → ∃ M', L_X6_odds_39 (nI d) y2 y3 k n (lN (s_cn (s_oc g d) s)) (nI s) M = k (lN (s_cn (s_oc g d) (2 ^ g 2 0))) M' ∧ FK KSW m M' ∧ (∀ x, RM (gs g 8 (fun _ => x)) (jx_p M' 8 8 (nI x))) := by
  have g2 := hT.1.2.1
  have hp : 2 ^ g 2 0 ≤ 64 := Nat.pow_le_pow_right (by decide) g2
  have hp1 : 1 ≤ 2 ^ g 2 0 := Nat.one_le_two_pow
  intro q
  induction q with
  | zero =>
    intro n s M hs hn hf hx
    obtain ⟨n, rfl⟩ : ∃ q, n = q + 1 := ⟨n - 1, by omega⟩
    refine ⟨M, ?_, hf, hx⟩
    rw [L_X6_odds_39.eq_2, F_all (by rw [hf.at 2 (by decide)]; exact hM.2.1) g2, jbd_s, if_pos (nI_lt (by omega) (by omega)), show s = 2 ^ g 2 0 by omega]
  | succ q ih =>
    intro n s M hs hn hf hx
    obtain ⟨n, rfl⟩ : ∃ q, n = q + 1 := ⟨n - 1, by omega⟩
    have hall := F_all (M := M) (by rw [hf.at 2 (by decide)]; exact hM.2.1) g2
    have hf1 : FK KSW m (jx_p M 8 8 (nI s)) := hf.p (by decide)
    obtain ⟨M1, a1, a2⟩ := F_noneEmpty (g := gs g 8 (fun _ => s)) (hT.1.k8 (show s < 64 by omega)) hd (hx s)
    have hf2 : FK KSW m M1 := hf1.tr (a2.mono KS_W)
    have hx2 : ∀ x, RM (gs g 8 (fun _ => x)) (jx_p M1 8 8 (nI x)) := fun x => ((hx s).fr a2).k8 (x := x)
    obtain ⟨M', d1, d2, d3⟩ := ih n (s + 1) M1 (by omega) (by omega) hf2 hx2
    refine ⟨M', ?_, d2, d3⟩
    have es : s_cn (s_oc g d) (s + 1) = s_cn (s_oc g d) s + (s_oc g d s).toNat := rfl
    rw [es] at d1
    rw [L_X6_odds_39.eq_2, hall, jbd_s, if_neg (nI_nlt (by omega) (by omega)), jlet_d, a1, jbd_s]
    by_cases c1 : s_E (gs g 8 (fun _ => s)) (d + 1) = 0
    · rw [show s_oc g d s = true from decide_eq_true c1] at d1
      rw [if_pos c1, if_neg (by decide), jlet_d, jlet_d, lN_1, nI_1]
      exact d1
    · rw [show s_oc g d s = false from decide_eq_false c1] at d1
      rw [if_neg c1, if_pos rfl, jlet_d, jlet_d, show (0 : Int64) = lN 0 from rfl, lN_add, nI_1]
      exact d1
theorem L_told (y0 y2 : Int64) (y4 : Int32) (k : Int64 → jx_M → Option (Int64 × jx_M)) (M : jx_M) : ∀ n x y, x < 1000 → y < 1000 → y < n → L_X6_told_6 y0 y2 y4 k n (lN x) (lN y) M = k (lN (Nat.gcd x y)) M := by
  intro n
  induction n with
  | zero => intro x y _ _ h; omega
  | succ n ih =>
    intro x y hx hy hn
    rw [L_X6_told_6.eq_2]
    by_cases h0 : y = 0
    · subst h0
      rw [if_pos (by rw [lg_cmp_eq]; rfl), Nat.gcd_zero_right]
    · have hne : ¬ lN y = 0 := fun e => h0 ((pk_lEQ (b := 0) (by omega) (by omega)).mp e)
      rw [if_neg (by rw [lg_cmp_eq]; exact hne), decide_eq_false hne]
      show jck true _ = _
      rw [jck_t, jlet_d, pk_lRem (by omega) (by omega) (by omega), ih y (x % y) hy (by have := Nat.mod_lt x (show 0 < y by omega); omega) (by have := Nat.mod_lt x (show 0 < y by omega); omega)]
      rw [Nat.gcd_comm x y, Nat.gcd_rec y x, Nat.gcd_comm]
def s_red : Nat → Nat → Nat × Nat
  | 0, u => (0, u)
  | e + 1, u => if u % 2 = 0 then s_red e (u / 2) else (e + 1, u)
theorem jb_red : ∀ e : Fin 7, ∀ u : Fin 65, u.val ≤ 2 ^ e.val → 2 ^ (s_red e.val u.val).1 = 2 ^ e.val / Nat.gcd u.val (2 ^ e.val) ∧ (s_red e.val u.val).2 = u.val / Nat.gcd u.val (2 ^ e.val) ∧ Nat.gcd u.val (2 ^ e.val) ≠ 0 := by decide +kernel
theorem L_oddR (y2 : Int32) (k : Int32 → Int32 → jx_M → Option (Int64 × jx_M)) (c : jx_M) : ∀ e n u, e ≤ 6 → u ≤ 64 → e < n → L_X5_odds_81 y2 k n (nI (2 ^ e)) (nI u) c = k (nI (2 ^ (s_red e u).1)) (nI (s_red e u).2) c := by
  intro e
  induction e with
  | zero =>
    intro n u he hu hn
    obtain ⟨n, rfl⟩ : ∃ q, n = q + 1 := ⟨n - 1, by omega⟩
    rw [L_X5_odds_81.eq_2, if_pos (by decide)]
    rfl
  | succ e ih =>
    intro n u he hu hn
    obtain ⟨n, rfl⟩ : ∃ q, n = q + 1 := ⟨n - 1, by omega⟩
    have h1 : 2 ^ (e + 1) ≤ 2 ^ 6 := Nat.pow_le_pow_right (by decide) he
    have h2 : 2 ≤ 2 ^ (e + 1) := by
      have := Nat.pow_le_pow_right (n := 2) (by decide) (show 1 ≤ e + 1 by omega)
      exact this
    rw [L_X5_odds_81.eq_2, show (1 : Int32) = nI 1 from rfl, if_neg (nI_ge (by omega) (by omega)), show (2 : Int32) = nI 2 from rfl, pk_rem (by omega) (by omega) (by omega), pk_div (by omega) (by omega) (by omega), pk_div (by omega) (by omega) (by omega), jlet_d, jlet_d, show 2 ^ (e + 1) / 2 = 2 ^ e by rw [Nat.pow_succ]; omega]
    unfold s_red
    by_cases h0 : u % 2 = 0
    · rw [if_pos (by rw [h0]; rfl), if_pos h0]
      exact ih n (u / 2) (by omega) (by omega) (by omega)
    · rw [if_neg (nI_ne0 (by omega) (by omega)), if_neg h0]
theorem st_odds (x y : Int32) : jSt (F_X5_odds x y) (F_X6_odds x y) := by
  intro c m h
  obtain ⟨g, nr, ra, ri, rw, hI⟩ := id h
  obtain ⟨h1, h2, h3, h4, h5, h6, h7, h8⟩ := id hI
  have g1 := h1.1.1
  have g2 := h1.1.2.1
  have hp : 2 ^ g 2 0 ≤ 64 := Nat.pow_le_pow_right (by decide) g2
  have hp1 : 1 ≤ 2 ^ g 2 0 := Nat.one_le_two_pow
  unfold F_X5_odds F_X6_odds
  rw [C_isDecade, F_isDecade, jbd_s, jbd_s]
  have lost : ∀ M : jx_M, F_X6_lost M = some (-9223372036854775808, M) := fun _ => rfl
  by_cases hx : 0 ≤ x.toInt ∧ x.toInt < 40
  · rw [if_pos hx, if_neg (show ¬ (1 : Int32) = 0 by decide), if_neg (show ¬ (1 : Int32) = 0 by decide), F_in_c y 1 1 (by decide), jbd_s, show (1 : Int32) = nI 1 from rfl, sw_le y 1 (by decide)]
    by_cases hy : 0 ≤ y.toInt ∧ y.toInt < ((1 : Nat) : Int) + 1
    · rw [if_pos hy, if_pos hy, if_neg (by decide), C_isLand h3.1 (by omega), jbd_s, h2.2.1]
      obtain ⟨d, hd, rfl⟩ := jof_e (n := 40) hx (by omega)
      by_cases h0 : g 1 0 = 0
      · rw [if_pos h0, if_pos rfl, if_pos (by rw [h1.2.2.mp h0]; rfl), lost, jbd_s]
        exact ⟨_, c, m, rfl, rfl, h⟩
      · rw [if_neg h0, if_neg (by decide), if_neg (nI_ne0 (by have := h1.2.2; omega) (by omega)), jlet_d, h2.2.2.2.1]
        obtain ⟨c1, q1, q2, q3⟩ := C_findFalls hI
        rw [q1, jbd_s, C_setCount q2.2.2.1.2.1 g2, jbd_s]
        have e1 := L_oddC h1 hd q2.2.2.1 q3 (y2 := y) (y3 := nI (2 ^ g 2 0)) (fun x4_2 M_6 => L_X5_odds_81 y (fun x3_2 x4_4 M_7 => if y = 0 then some (x4_4.toInt64, M_7) else some (x3_2.toInt64, M_7)) jfu (nI (2 ^ g 2 0)) x4_2 M_6) (2 ^ g 2 0) jfu 0 (by omega) (by unfold jfu; omega)
        rw [s_cn_rev (2 ^ g 2 0) (s_oc g d)] at e1
        have hle := s_cn_le (s_oc g d) (2 ^ g 2 0)
        obtain ⟨m', b1, b2', b3⟩ := L_oddM h1 hd h2 y (nI (g 8 0)) (fun x4_3 M_8 => jlet (jx_p M_8 8 8 (nI (g 8 0))) (fun M_9 => jbd (F_X6_all M_9) (fun r_7 M_10 => jbd (F_X6_told x4_3 (r_7.toInt64 + 1) y M_10) (fun r_8 M_11 => some (r_8, M_11))))) (2 ^ g 2 0) jfu 0 m (by omega) (by unfold jfu; omega) FK.rf (fun x => h2.k8)
        have hI2 : IV g nr ra ri rw c1 (jx_p m' 8 8 (nI (g 8 0))) := q2.fr2 (fun _ _ => rfl) (b2'.p (by decide)) (b3 (g 8 0))
        generalize hu : s_cn (s_oc g d) (2 ^ g 2 0) = u at e1 b1 hle
        obtain ⟨z1, z2, z3⟩ := jb_red ⟨g 2 0, by omega⟩ ⟨u, by omega⟩ hle
        dsimp only at z1 z2 z3
        rw [L_oddR _ _ _ (g 2 0) jfu u g2 (by omega) (by unfold jfu; omega), z1, z2] at e1
        have hgl : Nat.gcd u (2 ^ g 2 0) ≤ 64 := Nat.le_trans (Nat.gcd_le_right _ (by omega)) hp
        have e2 : F_X6_told (lN u) (lN (2 ^ g 2 0)) y (jx_p m' 8 8 (nI (g 8 0))) = if y = 0 then some (lN (u / Nat.gcd u (2 ^ g 2 0)), jx_p m' 8 8 (nI (g 8 0))) else some (lN (2 ^ g 2 0 / Nat.gcd u (2 ^ g 2 0)), jx_p m' 8 8 (nI (g 8 0))) := by
          unfold F_X6_told
          rw [L_told _ _ _ _ _ jfu u (2 ^ g 2 0) (by omega) (by omega) (by unfold jfu; omega)]
          have hne : ¬ lN (Nat.gcd u (2 ^ g 2 0)) = 0 := fun e => z3 ((pk_lEQ (b := 0) (by omega) (by omega)).mp e)
          rw [decide_eq_false hne]
          show (if y = 0 then jck true _ else jck true _) = _
          rw [jck_t, jck_t, pk_lDiv (by omega) (by omega) (by omega), pk_lDiv (by omega) (by omega) (by omega)]
        rw [jlet_d, F_all (M := jx_p m' 8 8 (nI (g 8 0))) (by rw [jx_p_k (by decide), b2'.at 2 (by decide)]; exact h2.2.1) g2, jbd_s, nI_l (by omega), lN_1, show 2 ^ g 2 0 - 1 + 1 = 2 ^ g 2 0 by omega, e2] at b1
        have hd1 : u / Nat.gcd u (2 ^ g 2 0) < 2 ^ 31 := Nat.lt_of_le_of_lt (Nat.div_le_self _ _) (by omega)
        have hd2 : 2 ^ g 2 0 / Nat.gcd u (2 ^ g 2 0) < 2 ^ 31 := Nat.lt_of_le_of_lt (Nat.div_le_self _ _) (by omega)
        by_cases hy0 : y = 0
        · rw [if_pos hy0, nI_l hd1] at e1
          rw [if_pos hy0, jbd_s] at b1
          exact ⟨_, _, _, e1, b1, g, nr, ra, ri, rw, hI2⟩
        · rw [if_neg hy0, nI_l hd2] at e1
          rw [if_neg hy0, jbd_s] at b1
          exact ⟨_, _, _, e1, b1, g, nr, ra, ri, rw, hI2⟩
    · rw [if_neg hy, if_neg hy, if_pos rfl, lost, jbd_s]
      exact ⟨_, c, m, rfl, rfl, h⟩
  · rw [if_neg hx, if_pos rfl, if_pos rfl, lost, jbd_s]
    exact ⟨_, c, m, rfl, rfl, h⟩
