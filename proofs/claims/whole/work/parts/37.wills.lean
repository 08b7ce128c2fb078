/-! ===== the wills told on a sheet ===== -/
theorem FK.pp {ks : List Nat} {m m1 : jx_M} (h : FK ks m m1) (k : Nat) (v : Int32) : FK ks (jx_p m 8 k v) (jx_p m1 8 k v) := by
  intro o q hq
  by_cases ho : o = 8
  · subst ho
    by_cases hk : q = k
    · subst hk; funext i; rw [jx_p_s, jx_p_s]
    · rw [jx_p_k hk, jx_p_k hk]; exact h 8 q hq
  · rw [jx_p_o ho, jx_p_o ho]; exact h o q hq
theorem RM.p0 {g : sG} {m : jx_M} (h : RM g m) (v : Int32) : RM g (jx_p m 8 0 v) := by
  unfold RM at h ⊢
  simp (disch := decide) only [jx_p_k]
  exact h
theorem F_barred0 {k : Nat} (hk : k < 4) {m : jx_M} (h : m 8 38 k = -1) (y i : Int32) (x : Int64) : F_X6_cellsBarred (nI k) y i x m = some (-10 - 1, jx_p m 8 0 1) := by
  unfold F_X6_cellsBarred
  rw [jin_n hk (by decide), jck_t, jr_n _ _ _ (by omega), h, if_pos (by decide), jck_t, if_neg (by decide), F_failed, jbd_s]
theorem F_barred1 {k l n : Nat} (hk : k < 4) (hl : l < 3) (hn : n ≤ 60) {m : jx_M} (h : m 8 38 k = nI n) (h' : m 8 39 k = nI l) (y i : Int32) (x : Int64) (hx0 : 0 ≤ x.toInt) (hx : x.toInt < 2 ^ 40) : F_X6_cellsBarred (nI k) y i x m = if nI l = y then (if 0 ≤ i.toInt ∧ 0 ≤ x.toInt ∧ i.toInt + x.toInt ≤ n then some (0, m) else some (-10 - 3, jx_p m 8 0 3)) else some (-10 - 2, jx_p m 8 0 2) := by
  have e0 : (0 : Int64) ≤ x := by rw [Int64.le_iff_toInt_le]; exact hx0
  unfold F_X6_cellsBarred
  rw [jin_n hk (by decide), jck_t, jck_t, jck_t, jck_t, jr_n _ _ _ (by omega), jr_n _ _ _ (by omega), h, h', if_neg (show ¬ nI n < 0 from fun q => by have := (jlt0 _).mp q; rw [nI_toInt (by omega)] at this; omega), if_pos (show (0 : Int32) ≤ nI n from (jge0 _).mpr (by rw [nI_toInt (by omega)]; omega)), if_pos ((lg_cmp_ge x 0).mpr e0), F_beyond hn i x hx, jbd_s, F_failed, jbd_s, F_failed, jbd_s]
  by_cases e1 : nI l = y
  · rw [if_pos e1, if_pos e1]
    by_cases e2 : 0 ≤ i.toInt ∧ 0 ≤ x.toInt ∧ i.toInt + x.toInt ≤ n
    · rw [if_pos e2, if_pos e2, if_pos rfl]
    · rw [if_neg e2, if_neg e2, if_neg (by decide)]
  · rw [if_neg e1, if_neg e1]
def tok (g : sG) (V : Nat → Int32) (j : Nat) : Prop := (0 ≤ (V (3 * j)).toInt ∧ (V (3 * j)).toInt < g 1 0) ∧ (0 ≤ (V (3 * j + 1)).toInt ∧ (V (3 * j + 1)).toInt < g 2 0) ∧ (0 ≤ (V (3 * j + 2)).toInt ∧ (V (3 * j + 2)).toInt < 40)
def s_tw (g : sG) (V : Nat → Int32) : Nat → sG
  | 0 => gs g 19 (fun _ => 0)
  | n + 1 => s_aw (s_tw g V n) (V (3 * n)).toNatClampNeg (V (3 * n + 1)).toNatClampNeg (V (3 * n + 2)).toNatClampNeg
theorem s_tw_19 (g : sG) (V : Nat → Int32) : ∀ n, s_tw g V n 19 0 = n := by
  intro n
  induction n with
  | zero => rfl
  | succ n ih =>
    show s_tw g V n 19 0 + 1 = n + 1
    rw [ih]
theorem s_tw_k (g : sG) (V : Nat → Int32) {k : Nat} (hk : k ∉ [19, 20, 21, 22]) : ∀ n, s_tw g V n k = g k := by
  have h : k ≠ 19 ∧ k ≠ 20 ∧ k ≠ 21 ∧ k ≠ 22 := by simpa using hk
  intro n
  induction n with
  | zero => simp [s_tw, gs, h.1]
  | succ n ih => simp [s_tw, s_aw, gs, h.1, h.2.1, h.2.2.1, h.2.2.2, ih]
theorem s_tw_w (g : sG) (V : Nat → Int32) : ∀ n j, j < n → s_tw g V n 20 j = (V (3 * j)).toNatClampNeg ∧ s_tw g V n 21 j = (V (3 * j + 1)).toNatClampNeg ∧ s_tw g V n 22 j = (V (3 * j + 2)).toNatClampNeg := by
  intro n
  induction n with
  | zero => intro j hj; omega
  | succ n ih =>
    intro j hj
    have e20 : s_tw g V (n + 1) 20 = nu (s_tw g V n 20) (s_tw g V n 19 0) (V (3 * n)).toNatClampNeg := rfl
    have e21 : s_tw g V (n + 1) 21 = nu (s_tw g V n 21) (s_tw g V n 19 0) (V (3 * n + 1)).toNatClampNeg := rfl
    have e22 : s_tw g V (n + 1) 22 = nu (s_tw g V n 22) (s_tw g V n 19 0) (V (3 * n + 2)).toNatClampNeg := rfl
    rw [e20, e21, e22, s_tw_19]
    by_cases e : j = n
    · subst e; rw [nu_s, nu_s, nu_s]; exact ⟨rfl, rfl, rfl⟩
    · rw [nu_n e, nu_n e, nu_n e]; exact ih j (by omega)
theorem tok_e {g : sG} {V : Nat → Int32} {j : Nat} (hg : GW g) (h : tok g V j) : ∃ a p d, a < g 1 0 ∧ p < g 2 0 ∧ d < 40 ∧ V (3 * j) = nI a ∧ V (3 * j + 1) = nI p ∧ V (3 * j + 2) = nI d := by
  have g1 := hg.1
  have g2 := hg.2.1
  obtain ⟨a, ha, ea⟩ := jof_e (n := g 1 0) h.1 (by omega)
  obtain ⟨p, hp, ep⟩ := jof_e (n := g 2 0) h.2.1 (by omega)
  obtain ⟨d, hd, ed⟩ := jof_e (n := 40) h.2.2 (by omega)
  exact ⟨a, p, d, ha, hp, hd, ea, ep, ed⟩
theorem s_tw_go {g : sG} {V : Nat → Int32} (hg : GW g) {n a p d : Nat} (ha : V (3 * n) = nI a) (hp : V (3 * n + 1) = nI p) (hd : V (3 * n + 2) = nI d) (ha' : a < g 1 0) (hp' : p < g 2 0) (hd' : d < 40) : s_tw g V (n + 1) = s_aw (s_tw g V n) a p d := by
  have g1 := hg.1
  have g2 := hg.2.1
  show s_aw (s_tw g V n) (V (3 * n)).toNatClampNeg (V (3 * n + 1)).toNatClampNeg (V (3 * n + 2)).toNatClampNeg = _
  rw [ha, hp, hd, nI_cl (by omega), nI_cl (by omega), nI_cl (by omega)]
theorem s_tw_gw {g : sG} {V : Nat → Int32} (hg : GW g) : ∀ n, n ≤ 7 → (∀ x, x < n → tok g V x) → GW (s_tw g V n) := by
  intro n
  induction n with
  | zero => intro _ _; exact hg.k19 (Nat.zero_le _)
  | succ n ih =>
    intro hn h
    obtain ⟨a, p, d, ha, hp, hd, ea, ep, ed⟩ := tok_e hg (h n (by omega))
    rw [s_tw_go hg ea ep ed ha hp hd]
    refine (ih (by omega) (fun x hx => h x (by omega))).aw (by rw [s_tw_19]; omega) ?_ ?_ hd
    · rw [s_tw_k g V (by decide)]; exact ha
    · rw [s_tw_k g V (by decide)]; exact hp
theorem jk3 (i j : Nat) : nI i + 3 * nI j = nI (i + 3 * j) := by rw [show (3 : Int32) = nI 3 from rfl, pk_mul, nI_add]
theorem nI_2 (a : Nat) : nI a + 2 = nI (a + 2) := nI_add a 2
abbrev K6 : List Nat := [0, 1, 2, 3, 4, 5, 6]
theorem L_twC {g : sG} (hg : GW g) {k i n : Nat} (hk : k < 4) (hn : n ≤ 6) (hi : i + 3 * n ≤ 60) {V : Nat → Int32} (kk : jx_M → Option (Int32 × jx_M)) : ∀ q f j c, j + q = n → q < f → (∀ x, x < 3 * n → c 1 2 (k * 60 + (i + x)) = V x) → c 2 0 0 = nI (g 1 0) → c 2 1 0 = nI (g 2 0) → RO (s_tw g V j) 6 c →
    ((∀ x, j ≤ x → x < n → tok g V x) → ∃ c', L_X5_takeToldWills_22 (nI k) (nI i) (nI n) kk f (nI j) c = kk c' ∧ FO 6 K6 c c' ∧ RO (s_tw g V n) 6 c') ∧ (¬ (∀ x, j ≤ x → x < n → tok g V x) → ∃ c', L_X5_takeToldWills_22 (nI k) (nI i) (nI n) kk f (nI j) c = some (0, c') ∧ FO 6 K6 c c') := by
  have g1 := hg.1
  have g2 := hg.2.1
  intro q
  induction q with
  | zero =>
    intro f j c hj hf hV hP hN hO
    obtain ⟨f, rfl⟩ : ∃ q, f = q + 1 := ⟨f - 1, by omega⟩
    rw [L_X5_takeToldWills_22.eq_2, if_pos (nI_le (by omega) (by omega))]
    refine ⟨fun _ => ⟨c, rfl, FO.rf, by rw [show n = j by omega]; exact hO⟩, fun h => absurd (fun x h1 h2 => by omega) h⟩
  | succ q ih =>
    intro f j c hj hf hV hP hN hO
    obtain ⟨f, rfl⟩ : ∃ q, f = q + 1 := ⟨f - 1, by omega⟩
    have rd : ∀ x, x < 3 * n → F_X4_read (nI k) (nI (i + x)) c = some (V x, c) := by
      intro x hx
      unfold F_X4_read
      rw [jk60, jin_n (by omega) (by omega), jck_t, jr_n _ _ _ (by omega), hV x hx]
    rw [L_X5_takeToldWills_22.eq_2, if_neg (nI_ge (by omega) (by omega)), jlet_d, jk3, nI_1, nI_2, rd _ (by omega), jbd_s, show i + 3 * j + 1 = i + (3 * j + 1) by omega, rd _ (by omega), jbd_s, show i + 3 * j + 2 = i + (3 * j + 2) by omega, rd _ (by omega), jbd_s, C_isPost hP (by omega), jbd_s, C_isPerson hN (by omega), jbd_s, C_isDecade, jbd_s]
    have bad : ¬ tok g V j → ¬ (∀ x, j ≤ x → x < n → tok g V x) := fun h z => h (z j (Nat.le_refl _) (by omega))
    by_cases h1 : 0 ≤ (V (3 * j)).toInt ∧ (V (3 * j)).toInt < g 1 0
    · rw [if_pos h1, if_neg (show ¬ (1 : Int32) = 0 by decide)]
      by_cases h2 : 0 ≤ (V (3 * j + 1)).toInt ∧ (V (3 * j + 1)).toInt < g 2 0
      · rw [if_pos h2, if_neg (show ¬ (1 : Int32) = 0 by decide)]
        by_cases h3 : 0 ≤ (V (3 * j + 2)).toInt ∧ (V (3 * j + 2)).toInt < 40
        · rw [if_pos h3, if_neg (show ¬ (1 : Int32) = 0 by decide)]
          have ht : tok g V j := ⟨h1, h2, h3⟩
          obtain ⟨a, p, d, ha, hp, hd, ea, ep, ed⟩ := tok_e hg ht
          obtain ⟨c1, a1, a2, a3⟩ := C_addWill hO (by rw [s_tw_19]; omega) a p d
          rw [ea, ep, ed, a1, jbd_s, jlet_d, nI_1]
          obtain ⟨b1, b2⟩ := ih f (j + 1) c1 (by omega) (by omega) (fun x hx => by rw [a2.ob 1 (by decide)]; exact hV x hx) (by rw [a2.ob 2 (by decide)]; exact hP) (by rw [a2.ob 2 (by decide)]; exact hN) (by rw [s_tw_go hg ea ep ed ha hp hd]; exact a3)
          refine ⟨fun h => ?_, fun h => ?_⟩
          · obtain ⟨c', d1, d2, d3⟩ := b1 (fun x q1 q2 => h x (by omega) q2)
            exact ⟨c', d1, (a2.mono (by decide)).tr d2, d3⟩
          · obtain ⟨c', d1, d2⟩ := b2 (fun z => h (fun x q1 q2 => by
              by_cases e : x = j
              · subst e; exact ht
              · exact z x (by omega) q2))
            exact ⟨c', d1, (a2.mono (by decide)).tr d2⟩
        · rw [if_neg h3, if_pos rfl]
          exact ⟨fun h => absurd h (bad fun z => h3 z.2.2), fun _ => ⟨c, rfl, FO.rf⟩⟩
      · rw [if_neg h2, if_pos rfl]
        exact ⟨fun h => absurd h (bad fun z => h2 z.2.1), fun _ => ⟨c, rfl, FO.rf⟩⟩
    · rw [if_neg h1, if_pos rfl]
      exact ⟨fun h => absurd h (bad fun z => h1 z.1), fun _ => ⟨c, rfl, FO.rf⟩⟩
theorem L_twM {g : sG} (hg : GW g) {s n : Nat} (hn : n ≤ 6) (hi : s + 3 * n ≤ 240) {V : Nat → Int32} {m : jx_M} (hV : ∀ x, x < 3 * n → m 8 40 (s + x) = V x) (hM : RM g m) (kk : jx_M → Option (Int32 × jx_M)) : ∀ q f j, j + q = n → q < f →
    ((∀ x, j ≤ x → x < n → tok g V x) → L_X6_wills_94 (nI n) (nI s) kk f (nI j) m = kk m) ∧ (¬ (∀ x, j ≤ x → x < n → tok g V x) → L_X6_wills_94 (nI n) (nI s) kk f (nI j) m = some (-2, jx_p m 8 0 0)) := by
  have g1 := hg.1
  have g2 := hg.2.1
  intro q
  induction q with
  | zero =>
    intro f j hj hf
    obtain ⟨f, rfl⟩ : ∃ q, f = q + 1 := ⟨f - 1, by omega⟩
    rw [L_X6_wills_94.eq_2, if_pos (nI_le (by omega) (by omega))]
    exact ⟨fun _ => rfl, fun h => absurd (fun x h1 h2 => by omega) h⟩
  | succ q ih =>
    intro f j hj hf
    obtain ⟨f, rfl⟩ : ∃ q, f = q + 1 := ⟨f - 1, by omega⟩
    rw [L_X6_wills_94.eq_2, if_neg (nI_ge (by omega) (by omega)), jk3, nI_1, nI_2, jin_n (by omega) (by omega), jck_t, jin_n (by omega) (by omega), jin_n (by omega) (by omega), jr_n _ _ _ (by omega), hV _ (by omega), F_noPost hM.1 (by omega), jbd_s, jck_t, jr_n _ _ _ (by omega), show s + 3 * j + 1 = s + (3 * j + 1) by omega, hV _ (by omega), F_noPerson hM.2.1 (by omega), jbd_s, jck_t, jr_n _ _ _ (by omega), show s + 3 * j + 2 = s + (3 * j + 2) by omega, hV _ (by omega), F_isDecade, jbd_s, jlet_d, nI_1, F_refused, jbd_s]
    have bad : ¬ tok g V j → ¬ (∀ x, j ≤ x → x < n → tok g V x) := fun h z => h (z j (Nat.le_refl _) (by omega))
    obtain ⟨b1, b2⟩ := ih f (j + 1) (by omega) (by omega)
    by_cases h1 : 0 ≤ (V (3 * j)).toInt ∧ (V (3 * j)).toInt < g 1 0
    · rw [if_pos h1, if_pos rfl]
      by_cases h2 : 0 ≤ (V (3 * j + 1)).toInt ∧ (V (3 * j + 1)).toInt < g 2 0
      · rw [if_pos h2, if_pos rfl]
        by_cases h3 : 0 ≤ (V (3 * j + 2)).toInt ∧ (V (3 * j + 2)).toInt < 40
        · rw [if_pos h3, if_neg (show ¬ (1 : Int32) = 0 by decide)]
          refine ⟨fun h => b1 (fun x q1 q2 => h x (by omega) q2), fun h => b2 (fun z => h (fun x q1 q2 => ?_))⟩
          by_cases e : x = j
          · subst e; exact ⟨h1, h2, h3⟩
          · exact z x (by omega) q2
        · rw [if_neg h3, if_pos rfl]
          exact ⟨fun h => absurd h (bad fun z => h3 z.2.2), fun _ => rfl⟩
      · rw [if_neg h2, if_neg (show ¬ (1 : Int32) = 0 by decide)]
        exact ⟨fun h => absurd h (bad fun z => h2 z.2.1), fun _ => rfl⟩
    · rw [if_neg h1, if_neg (show ¬ (1 : Int32) = 0 by decide)]
      exact ⟨fun h => absurd h (bad fun z => h1 z.1), fun _ => rfl⟩
