/-! ===== the component's course ===== -/
/-- of object o the fields of ks alone may have changed -/
def FO (o : Nat) (ks : List Nat) (M M' : jx_M) : Prop := ∀ o' k, (o' ≠ o ∨ k ∉ ks) → M' o' k = M o' k
theorem FO.rf {o : Nat} {ks : List Nat} {M : jx_M} : FO o ks M M := fun _ _ _ => rfl
theorem FO.tr {o : Nat} {ks : List Nat} {M M1 M2 : jx_M} (h : FO o ks M M1) (h2 : FO o ks M1 M2) : FO o ks M M2 := fun o' k hk => (h2 o' k hk).trans (h o' k hk)
theorem FO.mono {o : Nat} {ks ks' : List Nat} {M M' : jx_M} (h : FO o ks M M') (hs : ∀ k ∈ ks, k ∈ ks') : FO o ks' M M' := fun o' k hk => h o' k (hk.imp id (fun z y => z (hs k y)))
theorem FO.set {o : Nat} {ks : List Nat} {M M1 : jx_M} {k : Nat} {f : Nat → Int32} (h : FO o ks M M1) (hk : k ∈ ks) : FO o ks M (jx_set M1 o k f) := by
  intro o' k' hk'
  rw [jx_set_n, h o' k' hk']
  rintro ⟨rfl, rfl⟩
  rcases hk' with z | z
  · exact z rfl
  · exact z hk
theorem FO.p {o : Nat} {ks : List Nat} {M M1 : jx_M} {k : Nat} {v : Int32} (h : FO o ks M M1) (hk : k ∈ ks) : FO o ks M (jx_p M1 o k v) := h.set hk
theorem FO.at {o : Nat} {ks : List Nat} {M M' : jx_M} (h : FO o ks M M') (k : Nat) (hk : k ∉ ks) : M' o k = M o k := h o k (Or.inr hk)
theorem FO.ob {o : Nat} {ks : List Nat} {M M' : jx_M} (h : FO o ks M M') (o' : Nat) (ho : o' ≠ o) : M' o' = M o' := funext fun k => h o' k (Or.inl ho)
theorem jx_set_k {M : jx_M} {o k k' : Nat} {f : Nat → Int32} (h : k' ≠ k) : jx_set M o k f o k' = M o k' := jx_set_n (fun z => h z.2)
theorem jx_p_k {M : jx_M} {o k k' : Nat} {v : Int32} (h : k' ≠ k) : jx_p M o k v o k' = M o k' := jx_set_k h
theorem jx_set_o {M : jx_M} {o o' k : Nat} {f : Nat → Int32} (h : o' ≠ o) : jx_set M o k f o' = M o' := funext fun k' => jx_set_n (fun z => h z.1)
theorem jx_p_o {M : jx_M} {o o' k : Nat} {v : Int32} (h : o' ≠ o) : jx_p M o k v o' = M o' := jx_set_o h
def RLa (g : sG) (M : jx_M) : Prop := M 2 0 0 = nI (g 1 0) ∧ M 2 1 0 = nI (g 2 0) ∧ ∀ p, p < g 2 0 → M 2 2 p = nI (g 3 p) ∧ M 2 3 p = nI (g 4 p) ∧ M 2 4 p = nI (g 5 p) ∧ M 2 5 p = nI (g 6 p) ∧ M 2 6 p = nI (g 7 p)
def RO (g : sG) (w : Nat) (M : jx_M) : Prop := M w 0 0 = nI (g 9 0) ∧ M w 1 0 = nI (g 8 0) ∧ M w 2 0 = nI (g 19 0) ∧ (∀ j, j < 4 → M w 3 j = nI (g 10 j)) ∧ ∀ j, j < g 19 0 → M w 4 j = nI (g 20 j) ∧ M w 5 j = nI (g 21 j) ∧ M w 6 j = nI (g 22 j)
theorem RLa.fr {g : sG} {M M' : jx_M} (h : RLa g M) (hf : M' 2 = M 2) : RLa g M' := by unfold RLa at h ⊢; rw [hf]; exact h
theorem RO.fr {g : sG} {w : Nat} {M M' : jx_M} (h : RO g w M) (hf : M' w = M w) : RO g w M' := by unfold RO at h ⊢; rw [hf]; exact h
theorem L_fillA (o q N : Nat) (hN : N < 1000) (v : Int32) (k : jx_M → Option (Unit × jx_M)) : ∀ m n i M, i + m = N → m < n → (∀ j, j < i → M o q j = v) → ∃ M', L_J7_fill_53178_5 o q N v (nI N) k n (nI i) M = k M' ∧ FO o [q] M M' ∧ ∀ j, j < N → M' o q j = v := by
  intro m
  induction m with
  | zero =>
    intro n i M hj hn h1
    obtain ⟨n, rfl⟩ : ∃ q, n = q + 1 := ⟨n - 1, by omega⟩
    refine ⟨M, ?_, FO.rf, fun j hj => h1 j (by omega)⟩
    rw [L_J7_fill_53178_5.eq_2, if_pos (nI_le (by omega) (by omega))]
  | succ m ih =>
    intro n i M hj hn h1
    obtain ⟨n, rfl⟩ : ∃ q, n = q + 1 := ⟨n - 1, by omega⟩
    rw [L_J7_fill_53178_5.eq_2, if_neg (nI_ge (by omega) (by omega)), jin_n (by omega) (by omega), jck_t, jw_n _ _ _ _ (by omega), jlet_d, jlet_d, nI_1]
    have hf : FO o [q] M (jx_set M o q (upd (M o q) i v)) := FO.set FO.rf List.mem_cons_self
    obtain ⟨M', a1, a2, a3⟩ := ih n (i + 1) (jx_set M o q (upd (M o q) i v)) (by omega) (by omega) (by
      intro j hj
      rw [jx_set_s]
      by_cases hji : j = i
      · subst hji; simp [upd]
      · simp only [upd, hji, if_false]; exact h1 j (by omega))
    exact ⟨M', a1, hf.tr a2, a3⟩
theorem F_fillA (o q N : Nat) (hN : N < 1000) (v : Int32) (M : jx_M) : ∃ M', F_J7_fill_53178 o q N v M = some ((), M') ∧ FO o [q] M M' ∧ ∀ j, j < N → M' o q j = v := by
  obtain ⟨M', a1, a2, a3⟩ := L_fillA o q N hN v (fun M_2 => some ((), M_2)) N jfu 0 M (by omega) (by unfold jfu; omega) (fun j hj => by omega)
  exact ⟨M', a1, a2, a3⟩
theorem jb_b0 {x i : Nat} (hx : x < 64) (hi : i < 6) : (((nI x >>> (nI i &&& 31)) &&& 1) = 0) ↔ x.testBit i = false := by
  rw [jbsh hx hi]
  cases x.testBit i
  · exact ⟨fun _ => rfl, fun _ => rfl⟩
  · exact ⟨fun h => absurd h (by decide), fun h => by cases h⟩
theorem gI_9 : gI none = -9 := rfl
theorem gI_n9 {p : Nat} (h : p < 2 ^ 31) : ¬ gI (some p) = -9 := fun e => by
  have := nI_pos h
  rw [show nI p = gI (some p) from rfl, e] at this
  exact this (by decide)
theorem F_sleepC {g : sG} (hg : GW g) {M : jx_M} (h : RLa g M) {p : Nat} (hp : p < g 2 0) : F_X1_sleepOf (nI p) M = some (nI (s_slp g p), M) := by
  obtain ⟨-, h2, h3, h4, -⟩ := hg
  obtain ⟨a1, a2, a3, a4, a5⟩ := h.2.2 p hp
  obtain ⟨b1, b2⟩ := h3 p hp
  unfold F_X1_sleepOf s_slp
  simp (disch := omega) only [jin_n, jck_t, jr_n, jlet_d, a1, a5, show (0 : Int32) = nI 0 from rfl, show (1 : Int32) = nI 1 from rfl, show (2 : Int32) = nI 2 from rfl, nI_eq, nI_add, pk_mul]
  by_cases c1 : g 3 p = 0
  · simp [c1]
  · by_cases c2 : g 3 p = 1
    · simp [c2]
    · have c3 : g 3 p = 2 := by omega
      simp [c3]
theorem L_willed {g : sG} (hg : GW g) {w : Nat} {M : jx_M} (hO : RO g w M) {X : Nat} (hX : X < 64) {c : Nat → Bool} (hc : ∀ p, p < g 2 0 → X.testBit p = c p) {post d : Nat} (hpost : post < 4) (hd : d < 40) (k : jx_M → Option (Int32 × jx_M)) :
    ∀ m n j, j + m = g 19 0 → m < n → L_X2_willedOf_3 w (nI X) (nI post) (nI d) k n (nI j) M = match s_fw g post d c m j with
      | some p => some (nI p, M)
      | none => k M := by
  obtain ⟨g1, g2, g3, g4, g5, g6, g7, g8⟩ := id hg
  obtain ⟨o1, o2, o3, o4, o5⟩ := hO
  intro m
  induction m with
  | zero =>
    intro n j hj hn
    obtain ⟨n, rfl⟩ : ∃ q, n = q + 1 := ⟨n - 1, by omega⟩
    rw [L_X2_willedOf_3.eq_2, o3, if_pos (nI_le (by omega) (by omega))]
    rfl
  | succ m ih =>
    intro n j hj hn
    obtain ⟨n, rfl⟩ : ∃ q, n = q + 1 := ⟨n - 1, by omega⟩
    obtain ⟨a1, a2, a3⟩ := o5 j (by omega)
    obtain ⟨b1, b2, b3⟩ := g8 j (by omega)
    have ih1 := ih n (j + 1) (by omega) (by omega)
    rw [L_X2_willedOf_3.eq_2, o3, if_neg (nI_ge (by omega) (by omega))]
    have hb := jb_b0 (x := X) (i := g 21 j) hX (by omega)
    rw [hc _ b2] at hb
    simp (disch := omega) only [jin_n, jck_t, jr_n, a1, a2, a3, nI_eq, jlet_d, nI_1, ih1, hb]
    rw [s_fw_s]
    by_cases c1 : g 20 j = post
    · by_cases c2 : g 22 j = d
      · cases c3 : c (g 21 j) <;> simp [c1, c2, c3]
      · simp [c1, c2]
    · simp [c1]
theorem F_willed {g : sG} (hg : GW g) {w : Nat} {M : jx_M} (hO : RO g w M) {X : Nat} (hX : X < 64) {c : Nat → Bool} (hc : ∀ p, p < g 2 0 → X.testBit p = c p) {post d : Nat} (hpost : post < 4) (hd : d < 40) : F_X2_willedOf w (nI X) (nI post) (nI d) M = some (gI (s_fw g post d c (g 19 0) 0), M) := by
  have := hg.2.2.2.2.2.2.1
  unfold F_X2_willedOf
  rw [show (0 : Int32) = nI 0 from rfl, L_willed hg hO hX hc hpost hd _ (g 19 0) jfu 0 (by omega) (by unfold jfu; omega)]
  cases s_fw g post d c (g 19 0) 0 <;> rfl
theorem jb_dst : ∀ a : Fin 4, ∀ b : Fin 4, jabs (nI a.val - nI b.val) = nI (if a.val ≤ b.val then b.val - a.val else a.val - b.val) := by decide +kernel
theorem jb_neg : ∀ a : Fin 4, ∀ b : Fin 4, (-(nI a.val) ≤ -(nI b.val)) = (b.val ≤ a.val) := by decide +kernel
/-- what a person is worth by the law -/
def s_wth (g : sG) (post : Nat) (age : Nat → Nat) : Option Nat → Int32
  | none => 0
  | some p => if g 9 0 = 1 then nI (age p) else if g 9 0 = 2 then -(nI (s_dst g post p)) else 0
theorem L_lawful {g : sG} (hg : GW g) {o : Nat} {M : jx_M} (hL : RLa g M) {age : Nat → Nat} (ha : ∀ p, p < g 2 0 → M o 10 p = nI (age p) ∧ age p < 1000) {X : Nat} (hX : X < 64) (hX2 : M o 13 0 = nI X) {c : Nat → Bool} (hc : ∀ p, p < g 2 0 → X.testBit p = c p) {post : Nat} (hpost : post < 4) (k : Int32 → jx_M → Option (Int32 × jx_M)) :
    ∀ m n q, q + m = g 2 0 → m < n → L_X0_lawfulOf_9 o (nI (g 9 0)) (nI post) k n (gI (s_lb g post age c q)) (s_wth g post age (s_lb g post age c q)) (nI q) M = k (gI (s_lb g post age c (g 2 0))) M := by
  obtain ⟨g1, g2, g3, g4, g5, g6, g7, g8⟩ := id hg
  obtain ⟨l1, l2, l3⟩ := hL
  have hstep : ∀ n q z3 z4, q < g 2 0 → L_X0_lawfulOf_9 o (nI (g 9 0)) (nI post) k (n + 1) z3 z4 (nI q) M = if c q = false then L_X0_lawfulOf_9 o (nI (g 9 0)) (nI post) k n z3 z4 (nI (q + 1)) M else if z3 = -9 then L_X0_lawfulOf_9 o (nI (g 9 0)) (nI post) k n (nI q) (s_wth g post age (some q)) (nI (q + 1)) M else if s_wth g post age (some q) ≤ z4 then L_X0_lawfulOf_9 o (nI (g 9 0)) (nI post) k n z3 z4 (nI (q + 1)) M else L_X0_lawfulOf_9 o (nI (g 9 0)) (nI post) k n (nI q) (s_wth g post age (some q)) (nI (q + 1)) M := by
    intro n q z3 z4 hq
    obtain ⟨a1, a2, a3, a4, a5⟩ := l3 q hq
    obtain ⟨k1, k2⟩ := ha q hq
    have hh := (g3 q hq).2.1
    have hb := jb_b0 (x := X) (i := q) hX (by omega)
    rw [hc q hq] at hb
    have ed := jb_dst ⟨g 4 q, by omega⟩ ⟨post, hpost⟩
    dsimp only at ed
    have e1 : (nI (g 9 0) = 1) ↔ g 9 0 = 1 := nI_eq (b := 1) (by omega) (by omega)
    have e2 : (nI (g 9 0) = 2) ↔ g 9 0 = 2 := nI_eq (b := 2) (by omega) (by omega)
    rw [L_X0_lawfulOf_9.eq_2, l2, if_neg (nI_ge (by omega) (by omega)), hX2]
    simp (disch := omega) only [hb, e1, e2, jin_n, jck_t, jr_n, a2, k1, jlet_d, nI_1, ed]
    dsimp only [s_wth, s_dst]
    by_cases d1 : g 9 0 = 1
    · have d2 : ¬ g 9 0 = 2 := by omega
      simp only [d1, d2, if_true, if_false, show ¬ (1 : Nat) = 2 by decide]
    · by_cases d2 : g 9 0 = 2
      · simp only [d2, if_true, if_false, show ¬ (2 : Nat) = 1 by decide]
      · simp only [d1, d2, if_false]
  intro m
  induction m with
  | zero =>
    intro n q hj hn
    obtain ⟨n, rfl⟩ : ∃ q, n = q + 1 := ⟨n - 1, by omega⟩
    rw [L_X0_lawfulOf_9.eq_2, l2, if_pos (nI_le (by omega) (by omega)), show q = g 2 0 by omega]
  | succ m ih =>
    intro n q hj hn
    obtain ⟨n, rfl⟩ : ∃ q, n = q + 1 := ⟨n - 1, by omega⟩
    have ih1 := ih n (q + 1) (by omega) (by omega)
    rw [hstep _ _ _ _ (by omega)]
    rw [s_lb_s] at ih1
    cases c1 : c q with
    | false =>
      rw [if_pos rfl]
      simpa [c1] using ih1
    | true =>
      rw [if_neg (by decide)]
      rw [c1, if_pos rfl] at ih1
      cases c2 : s_lb g post age c q with
      | none =>
        rw [c2] at ih1
        rw [if_pos gI_9]
        exact ih1
      | some b =>
        rw [c2] at ih1
        dsimp only at ih1
        obtain ⟨-, hbq⟩ := s_lb_in _ _ c2
        obtain ⟨kb1, kb2⟩ := ha b (by omega)
        obtain ⟨k1, k2⟩ := ha q (by omega)
        have hh := (g3 q (by omega)).2.1
        have hhb := (g3 b (by omega)).2.1
        rw [if_neg (gI_n9 (p := b) (by omega))]
        have hw : (s_wth g post age (some q) ≤ s_wth g post age (some b)) ↔ s_rth g post age q b = false := by
          dsimp only [s_wth, s_rth]
          by_cases d1 : g 9 0 = 1
          · simp only [d1, if_true]
            rw [nI_leI (by omega) (by omega)]
            simp
          · by_cases d2 : g 9 0 = 2
            · simp only [d2, if_true, if_false, show ¬ (2 : Nat) = 1 by decide]
              have hd1 : s_dst g post q < 4 := by unfold s_dst; split <;> omega
              have hd2 : s_dst g post b < 4 := by unfold s_dst; split <;> omega
              have := jb_neg ⟨_, hd1⟩ ⟨_, hd2⟩
              dsimp only at this
              rw [this]
              simp
            · simp [d1, d2]
        cases c3 : s_rth g post age q b with
        | true =>
          rw [c3, if_pos rfl] at ih1
          rw [if_neg (by rw [hw, c3]; decide)]
          exact ih1
        | false =>
          rw [c3, if_neg (by decide)] at ih1
          rw [if_pos (hw.mpr c3)]
          exact ih1
theorem F_lawful {g : sG} (hg : GW g) {o : Nat} {M : jx_M} (hL : RLa g M) {age : Nat → Nat} (ha : ∀ p, p < g 2 0 → M o 10 p = nI (age p) ∧ age p < 1000) {X : Nat} (hX : X < 64) (hX2 : M o 13 0 = nI X) {c : Nat → Bool} (hc : ∀ p, p < g 2 0 → X.testBit p = c p) {post : Nat} (hpost : post < 4) : F_X0_lawfulOf o (nI (g 9 0)) (nI post) M = some (gI (s_lb g post age c (g 2 0)), M) := by
  have := hg.2.1
  unfold F_X0_lawfulOf
  exact L_lawful hg hL ha hX hX2 hc hpost _ (g 2 0) jfu 0 (by omega) (by unfold jfu; omega)
