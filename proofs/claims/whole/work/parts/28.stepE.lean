/-! ===== who lay where: what if one thing were otherwise ===== -/
abbrev KSW : List Nat := [8, 9, 10, 19, 20, 21, 22, 11, 12, 13, 14, 15, 16, 17, 18, 23, 24, 25, 26, 27, 28, 29, 30, 31, 32, 33, 41]
theorem IV.fr2 {g : sG} {nr : Nat} {ra ri : Nat → Nat} {rw : Nat → Int32} {c m c' m' : jx_M} (h : IV g nr ra ri rw c m) (hc : ∀ o, o < 6 → c' o = c o) (hm : FK KSW m m') (hM : RM g m') : IV g nr ra ri rw c' m' := by
  obtain ⟨h1, h2, h3, h4, h5, h6, h7, h8⟩ := h
  refine ⟨h1, hM, h3.fr (hc 2 (by decide)), h4.fr (hc 3 (by decide)), ?_, ?_, ?_, ?_⟩
  · unfold RDG at h5 ⊢
    rw [hc 4 (by decide), hm.at 34 (by decide), hm.at 35 (by decide), hm.at 36 (by decide), hm.at 37 (by decide)]; exact h5
  · unfold SHT at h6 ⊢
    rw [hc 1 (by decide), hm.at 38 (by decide), hm.at 39 (by decide), hm.at 40 (by decide)]; exact h6
  · rw [hc 0 (by decide), hm.at 0 (by decide), hm.at 42 (by decide)]; exact h7
  · unfold CCH RR at h8 ⊢
    rw [hc 0 (by decide), hc 5 (by decide)]; exact h8
/-- whether the first readings are so -/
def s_ok (g : sG) (ra ri : Nat → Nat) (rw : Nat → Int32) : Nat → Bool
  | 0 => true
  | x + 1 => s_ok g ra ri rw x && decide (gI (s_g (s_at g (ri x)) (ra x)) = rw x)
def b2 (b : Bool) : Int32 := if b = true then 1 else 0
theorem s_ok_mono {g : sG} {ra ri : Nat → Nat} {rw : Nat → Int32} : ∀ m x, s_ok g ra ri rw x = false → s_ok g ra ri rw (x + m) = false := by
  intro m
  induction m with
  | zero => intro x h; exact h
  | succ m ih => intro x h; show (s_ok g ra ri rw (x + m) && _) = false; rw [ih x h]; rfl
/-- readings in the model's memory, and in the component's -/
def RDm (P nr : Nat) (ra ri : Nat → Nat) (rw : Nat → Int32) (m : jx_M) : Prop := nr ≤ 8 ∧ m 8 34 0 = nI nr ∧ ∀ x, x < nr → ra x < P ∧ ri x < 40 ∧ m 8 35 x = nI (ra x) ∧ m 8 36 x = nI (ri x) ∧ m 8 37 x = rw x
def RDc (P nr : Nat) (ra ri : Nat → Nat) (rw : Nat → Int32) (c : jx_M) : Prop := nr ≤ 8 ∧ c 4 0 0 = nI nr ∧ ∀ x, x < nr → ra x < P ∧ ri x < 40 ∧ c 4 1 x = nI (ra x) ∧ c 4 2 x = nI (ri x) ∧ c 4 3 x = rw x
theorem RDG.m {g : sG} {nr : Nat} {ra ri : Nat → Nat} {rw : Nat → Int32} {c m : jx_M} (h : RDG g nr ra ri rw c m) : RDm (g 1 0) nr ra ri rw m := ⟨h.1, h.2.2.1, fun x hx => by
  obtain ⟨a1, a2, a3, a4, a5, a6, a7, a8⟩ := h.2.2.2 x hx
  exact ⟨a1, a2, a4, a6, a8⟩⟩
theorem RDG.c {g : sG} {nr : Nat} {ra ri : Nat → Nat} {rw : Nat → Int32} {c m : jx_M} (h : RDG g nr ra ri rw c m) : RDc (g 1 0) nr ra ri rw c := ⟨h.1, h.2.1, fun x hx => by
  obtain ⟨a1, a2, a3, a4, a5, a6, a7, a8⟩ := h.2.2.2 x hx
  exact ⟨a1, a2, a3, a5, a7⟩⟩
theorem RDm.fr {P nr : Nat} {ra ri : Nat → Nat} {rw : Nat → Int32} {m m' : jx_M} (h : RDm P nr ra ri rw m) (hf : FK KSW m m') : RDm P nr ra ri rw m' := by
  unfold RDm at h ⊢
  rw [hf.at 34 (by decide), hf.at 35 (by decide), hf.at 36 (by decide), hf.at 37 (by decide)]; exact h
theorem KS_W : ∀ k ∈ KS, k ∈ KSW := by decide
theorem L_areSoM {g : sG} (hg : GW g) {nr : Nat} {ra ri : Nat → Nat} {rw : Nat → Int32} (k : Int32 → jx_M → Option (Int32 × jx_M)) :
    ∀ q n x M, x + q = nr → q < n → RM g M → RDm (g 1 0) nr ra ri rw M → ∃ M', L_X6_areSo_4 k n (b2 (s_ok g ra ri rw x)) (nI x) M = k (b2 (s_ok g ra ri rw nr)) M' ∧ FK KS M M' := by
  have g1 := hg.1
  intro q
  induction q with
  | zero =>
    intro n x M hx hn hM hR
    obtain ⟨n, rfl⟩ : ∃ q, n = q + 1 := ⟨n - 1, by omega⟩
    refine ⟨M, ?_, FK.rf⟩
    have := hR.1
    rw [L_X6_areSo_4.eq_2, hR.2.1, if_pos (nI_le (by omega) (by omega)), show x = nr by omega]
  | succ q ih =>
    intro n x M hx hn hM hR
    obtain ⟨n, rfl⟩ : ∃ q, n = q + 1 := ⟨n - 1, by omega⟩
    obtain ⟨r1, r2, r3⟩ := id hR
    obtain ⟨a1, a2, a3, a4, a5⟩ := r3 x (by omega)
    rw [L_X6_areSo_4.eq_2, r2, if_neg (nI_ge (by omega) (by omega))]
    cases hok : s_ok g ra ri rw x with
    | false =>
      refine ⟨M, ?_, FK.rf⟩
      have := s_ok_mono (q + 1) x hok
      rw [show x + (q + 1) = nr by omega] at this
      rw [this]
      rfl
    | true =>
      rw [if_neg (by decide), jin_n (by omega) (by omega), jck_t, jr_n _ _ _ (by omega), a4]
      obtain ⟨M1, p1, p2, p3, p4⟩ := F_goTo hg a2 hM
      rw [p1, jbd_s, jck_t, jr_n _ _ _ (by omega), p2.at 35 (by decide), a3, jin_n (show ra x < 4 by omega) (by omega), jck_t, jck_t, jr_n _ _ _ (by omega), jr_n _ _ _ (by omega), p3.2.1 _ a1, p2.at 37 (by decide), a5]
      have es : s_ok g ra ri rw (x + 1) = decide (gI (s_g (s_at g (ri x)) (ra x)) = rw x) := by
        show (s_ok g ra ri rw x && _) = _
        rw [hok]; rfl
      obtain ⟨M', q1, q2⟩ := ih n (x + 1) M1 (by omega) (by omega) (hM.fr p2) (hR.fr (p2.mono KS_W))
      rw [es] at q1
      by_cases c1 : gI (s_g (s_at g (ri x)) (ra x)) = rw x
      · rw [if_pos c1, jlet_d, nI_1]
        rw [decide_eq_true c1] at q1
        exact ⟨M', q1, p2.tr q2⟩
      · rw [if_neg c1, jlet_d, nI_1]
        rw [decide_eq_false c1] at q1
        exact ⟨M', q1, p2.tr q2⟩
theorem b2_in (b : Bool) : jin (b2 b) 2 = true := by cases b <;> decide
theorem F_areSo {g : sG} (hg : GW g) {nr : Nat} {ra ri : Nat → Nat} {rw : Nat → Int32} {M : jx_M} (hM : RM g M) (hR : RDm (g 1 0) nr ra ri rw M) : ∃ M', F_X6_areSo M = some (b2 (s_ok g ra ri rw nr), M') ∧ FK KS M M' := by
  have := hR.1
  unfold F_X6_areSo
  obtain ⟨M', q1, q2⟩ := L_areSoM hg (fun x1_1 M_2 => jck (jin x1_1 2) (some (x1_1, M_2))) nr jfu 0 M (by omega) (by unfold jfu; omega) hM hR
  refine ⟨M', ?_, q2⟩
  rw [b2_in, jck_t] at q1
  exact q1
/-! the component's side -/
def s_mx (ri : Nat → Nat) : Nat → Nat
  | 0 => 0
  | x + 1 => max (s_mx ri x) (ri x + 1)
theorem s_mx_ge (ri : Nat → Nat) : ∀ n x, x < n → ri x < s_mx ri n := by
  intro n
  induction n with
  | zero => intro x h; omega
  | succ n ih =>
    intro x h
    show ri x < max (s_mx ri n) (ri n + 1)
    by_cases e : x = n
    · subst e; omega
    · have := ih x (by omega); omega
theorem s_mx_le (ri : Nat → Nat) : ∀ n, (∀ x, x < n → ri x < 40) → s_mx ri n ≤ 40 := by
  intro n
  induction n with
  | zero => intro _; exact Nat.zero_le _
  | succ n ih =>
    intro h
    show max (s_mx ri n) (ri n + 1) ≤ 40
    have := ih (fun x hx => h x (by omega))
    have := h n (by omega)
    omega
theorem jb_mx : ∀ a : Fin 41, ∀ b : Fin 40, jmax (nI a.val - 1) (nI b.val) = nI (max a.val (b.val + 1)) - 1 := by decide +kernel
theorem jmax_mx {a b : Nat} (ha : a ≤ 40) (hb : b < 40) : jmax (nI a - 1) (nI b) = nI (max a (b + 1)) - 1 := jb_mx ⟨a, by omega⟩ ⟨b, hb⟩
theorem L_last {P nr : Nat} {ra ri : Nat → Nat} {rw : Nat → Int32} {c : jx_M} (hR : RDc P nr ra ri rw c) (k : Int32 → jx_M → Option (Int32 × jx_M)) : ∀ q n x, x + q = nr → q < n → L_X3_lastDecade_4 k n (nI (s_mx ri x) - 1) (nI x) c = k (nI (s_mx ri nr) - 1) c := by
  obtain ⟨r1, r2, r3⟩ := hR
  intro q
  induction q with
  | zero =>
    intro n x hx hn
    obtain ⟨n, rfl⟩ : ∃ q, n = q + 1 := ⟨n - 1, by omega⟩
    rw [L_X3_lastDecade_4.eq_2, r2, if_pos (nI_le (by omega) (by omega)), show x = nr by omega]
  | succ q ih =>
    intro n x hx hn
    obtain ⟨n, rfl⟩ : ∃ q, n = q + 1 := ⟨n - 1, by omega⟩
    obtain ⟨a1, a2, a3, a4, a5⟩ := r3 x (by omega)
    rw [L_X3_lastDecade_4.eq_2, r2, if_neg (nI_ge (by omega) (by omega)), jin_n (by omega) (by omega), jck_t, jr_n _ _ _ (by omega), a4, jmax_mx (s_mx_le ri x (fun y hy => (r3 y (by omega)).2.1)) a2, jlet_d, jlet_d, nI_1]
    exact ih n (x + 1) (by omega) (by omega)
theorem L_areSoC {g : sG} (hg : GW g) {nr : Nat} {ra ri : Nat → Nat} {rw : Nat → Int32} {c : jx_M} (hR : RDc (g 1 0) nr ra ri rw c) {r : Nat} (hr : ∀ x, x < nr → ri x < r) (hRR : RR g 7 r c) (k : jx_M → Option (Int32 × jx_M)) : ∀ q n x, x + q = nr → q < n → s_ok g ra ri rw x = true → L_X3_areSo_2 7 k n (nI x) c = if s_ok g ra ri rw nr = true then k c else some (0, c) := by
  have g1 := hg.1
  obtain ⟨r1, r2, r3⟩ := hR
  intro q
  induction q with
  | zero =>
    intro n x hx hn hok
    obtain ⟨n, rfl⟩ : ∃ q, n = q + 1 := ⟨n - 1, by omega⟩
    rw [L_X3_areSo_2.eq_2, r2, if_pos (nI_le (by omega) (by omega)), show nr = x by omega, if_pos hok]
  | succ q ih =>
    intro n x hx hn hok
    obtain ⟨n, rfl⟩ : ∃ q, n = q + 1 := ⟨n - 1, by omega⟩
    obtain ⟨a1, a2, a3, a4, a5⟩ := r3 x (by omega)
    have e : F_X0_guardAt 7 (nI (ra x)) (nI (ri x)) c = some (gI (s_g (s_at g (ri x)) (ra x)), c) := by
      unfold F_X0_guardAt
      rw [jix4, jin_n (by omega) (by omega), jck_t, jr_n _ _ _ (by omega), (hRR _ (hr x (by omega))).1 _ a1]
    rw [L_X3_areSo_2.eq_2, r2, if_neg (nI_ge (by omega) (by omega)), jin_n (by omega) (by omega), jck_t, jck_t, jr_n _ _ _ (by omega), jr_n _ _ _ (by omega), a3, a4, e, jbd_s, jck_t, jr_n _ _ _ (by omega), a5]
    have es : s_ok g ra ri rw (x + 1) = decide (gI (s_g (s_at g (ri x)) (ra x)) = rw x) := by
      show (s_ok g ra ri rw x && _) = _
      rw [hok]; rfl
    by_cases c1 : gI (s_g (s_at g (ri x)) (ra x)) = rw x
    · rw [if_pos c1, jlet_d, nI_1]
      exact ih n (x + 1) (by omega) (by omega) (by rw [es]; exact decide_eq_true c1)
    · rw [if_neg c1]
      have := s_ok_mono q (x + 1) (by rw [es]; exact decide_eq_false c1)
      rw [show x + 1 + q = nr by omega] at this
      rw [if_neg (by rw [this]; decide)]
theorem C_allAreSo {g : sG} (hg : GW g) {nr : Nat} {ra ri : Nat → Nat} {rw : Nat → Int32} {c : jx_M} (hL : RLa g c) (hO : RO g 6 c) (hR : RDc (g 1 0) nr ra ri rw c) : ∃ c', F_X5_allAreSo c = some (b2 (s_ok g ra ri rw nr), c') ∧ FO 7 KC c c' := by
  have := hR.1
  have hmx := s_mx_le ri nr (fun x hx => (hR.2.2 x hx).2.1)
  have e1 : F_X3_lastDecade c = some (nI (s_mx ri nr) - 1, c) := L_last hR (fun x1_2 M_1 => some (x1_2, M_1)) nr jfu 0 (by omega) (by unfold jfu; omega)
  obtain ⟨c1, r, a1, a2, a3, a4, a5, a6, a7, a8⟩ := F_run hg (o := 7) (w := 6) (by decide) (by decide) (y2 := nI (s_mx ri nr) - 1) (l1 := s_mx ri nr) (lim := 1000) (fun r hr => by
    generalize s_mx ri nr = z at hmx
    cases z with
    | zero =>
      have : (nI 0 - 1 : Int32) < nI r := by
        rw [Int32.lt_iff_toInt_lt, nI_toInt (by omega)]
        show (-1 : Int) < r
        omega
      exact ⟨fun _ => Nat.zero_le _, fun _ => this⟩
    | succ z => rw [nI_pred, nI_ltI (by omega) (by omega)]; omega) (by decide) hL hO
  have hr : ∀ x, x < nr → ri x < r := by
    intro x hx
    have h1 := s_mx_ge ri nr x hx
    rcases a4 with z | z | z
    · omega
    · omega
    · have := (s_pre_inv hg r).2.2.2
      unfold s_E at z
      omega
  have hR1 : RDc (g 1 0) nr ra ri rw c1 := by
    unfold RDc at hR ⊢
    rw [a2.ob 4 (by decide)]; exact hR
  refine ⟨c1, ?_, a2⟩
  unfold F_X5_allAreSo
  rw [e1, jbd_s, show (1000 : Int32) = nI 1000 from rfl, a1, jbd_s]
  have e2 : F_X3_areSo 7 c1 = some (b2 (s_ok g ra ri rw nr), c1) := by
    have := L_areSoC hg hR1 hr a6 (fun M_2 => some (1, M_2)) nr jfu 0 (by omega) (by unfold jfu; omega) rfl
    unfold F_X3_areSo
    rw [show (0 : Int32) = nI 0 from rfl, this]
    unfold b2
    split <;> rfl
  rw [e2, jbd_s, b2_in, jck_t]
theorem C_takeOver {g : sG} {c : jx_M} (h : RO g 3 c) (hw : g 19 0 ≤ 6) : ∃ c', F_X2_takeOver 6 3 c = some ((), c') ∧ FO 6 [0, 1, 2, 3, 4, 5, 6] c c' ∧ RO g 6 c' := by
  obtain ⟨a1, a2, a3, a4, a5⟩ := h
  unfold F_X2_takeOver
  rw [jlet_d, jlet_d, jlet_d, show jcp 0 0 4 4 4 = true from by decide, show jcp 0 0 6 7 7 = true from by decide, jck_t, jlet_d, jck_t, jlet_d, jck_t, jlet_d, jck_t, jlet_d]
  have cp : ∀ (f gg : Nat → Int32) (n j : Nat) , j < n → va_cpy f gg (0 : Int32).toNatClampNeg (0 : Int32).toNatClampNeg n j = f j := by
    intro f gg n j hj
    rw [show (0 : Int32).toNatClampNeg = 0 by decide]
    unfold va_cpy
    rw [if_pos ⟨by omega, by omega⟩]
    simp
  have n4 : (4 : Int32).toNatClampNeg = 4 := by decide
  have n6 : (6 : Int32).toNatClampNeg = 6 := by decide
  refine ⟨_, rfl, ?_, ?_, ?_, ?_, fun j hj => ?_, fun j hj => ?_⟩
  · unfold jx_cp
    exact FO.set (FO.set (FO.set (FO.set (FO.p (FO.p (FO.p FO.rf (by decide)) (by decide)) (by decide)) (by decide)) (by decide)) (by decide)) (by decide)
  · unfold jx_cp
    simp (disch := decide) only [jx_set_k, jx_p_k, jx_p_s]
    exact a1
  · unfold jx_cp
    simp (disch := decide) only [jx_set_k, jx_p_k, jx_p_s, jx_p_o]
    exact a2
  · unfold jx_cp
    simp (disch := decide) only [jx_set_k, jx_p_k, jx_p_s, jx_p_o]
    exact a3
  · unfold jx_cp
    simp (disch := decide) only [jx_set_k, jx_set_s, jx_p_k, jx_p_s, jx_p_o, jx_set_o]
    rw [n4, cp _ _ _ _ hj]
    exact a4 j hj
  · unfold jx_cp
    simp (disch := decide) only [jx_set_k, jx_set_s, jx_p_k, jx_p_s, jx_p_o, jx_set_o]
    rw [n6, cp _ _ _ _ (by omega), cp _ _ _ _ (by omega), cp _ _ _ _ (by omega)]
    exact a5 j hj
