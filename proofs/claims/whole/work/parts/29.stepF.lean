theorem s_set_s (f : Nat → Bool) (q : Nat) : s_set f (q + 1) = if f q = true then s_set f q ||| 2 ^ q else s_set f q := rfl
theorem b2_0 {b : Bool} : (b2 b = 0) ↔ b = false := by cases b <;> decide
theorem FO.obs {o : Nat} {ks : List Nat} {c c' : jx_M} (h : FO o ks c c') (ho : 6 ≤ o) : ∀ o', o' < 6 → c' o' = c o' := fun o' h' => h.ob o' (by omega)
theorem RDc.fr {P nr : Nat} {ra ri : Nat → Nat} {rw : Nat → Int32} {c c' : jx_M} (h : RDc P nr ra ri rw c) (hf : c' 4 = c 4) : RDc P nr ra ri rw c' := by
  unfold RDc at h ⊢
  rw [hf]; exact h
/-- one what-if of the component: orders g' stand in object 6 -/
theorem C_whatif {g g' : sG} (hg' : GW g') {nr : Nat} {ra ri : Nat → Nat} {rw : Nat → Int32} {c : jx_M} (hp : g' 1 = g 1 ∧ g' 2 = g 2 ∧ g' 3 = g 3 ∧ g' 4 = g 4 ∧ g' 5 = g 5 ∧ g' 6 = g 6 ∧ g' 7 = g 7) (hL : RLa g c) (hO : RO g' 6 c) (hR : RDc (g 1 0) nr ra ri rw c) : ∃ c', F_X5_allAreSo c = some (b2 (s_ok g' ra ri rw nr), c') ∧ ∀ o, o < 6 → c' o = c o := by
  obtain ⟨p1, p2, p3, p4, p5, p6, p7⟩ := hp
  obtain ⟨c', a1, a2⟩ := C_allAreSo hg' (nr := nr) (ra := ra) (ri := ri) (rw := rw) (c := c) (by
    unfold RLa at hL ⊢
    rw [p1, p2, p3, p4, p5, p6, p7]; exact hL) hO (by rw [p1]; exact hR)
  exact ⟨c', a1, a2.obs (by decide)⟩
theorem L_lawsC {g : sG} (hT : TW g) {nr : Nat} {ra ri : Nat → Nat} {rw : Nat → Int32} (k : Int32 → jx_M → Option (Int32 × jx_M)) : ∀ q n v c, v + q = 3 → q < n → RLa g c → RO g 3 c → RDc (g 1 0) nr ra ri rw c → ∃ c', L_X5_laws_14 k n (nI (s_set (fun v => s_ok (gs g 9 (fun _ => v)) ra ri rw nr) v)) (nI v) c = k (nI (s_set (fun v => s_ok (gs g 9 (fun _ => v)) ra ri rw nr) 3)) c' ∧ ∀ o, o < 6 → c' o = c o := by
  intro q
  induction q with
  | zero =>
    intro n v c hv hn hL hO hR
    obtain ⟨n, rfl⟩ : ∃ q, n = q + 1 := ⟨n - 1, by omega⟩
    refine ⟨c, ?_, fun _ _ => rfl⟩
    rw [L_X5_laws_14.eq_2, show (3 : Int32) = nI 3 from rfl, if_pos (nI_le (by omega) (by omega)), show v = 3 by omega]
  | succ q ih =>
    intro n v c hv hn hL hO hR
    obtain ⟨n, rfl⟩ : ∃ q, n = q + 1 := ⟨n - 1, by omega⟩
    obtain ⟨c1, a1, a2, a3⟩ := C_takeOver hO hT.2.1
    have ob : ∀ o, o < 6 → (jx_p c1 6 0 (nI v)) o = c o := fun o ho => by rw [jx_p_o (by omega), a2.ob o (by omega)]
    obtain ⟨c2, b1, b2'⟩ := C_whatif (g := g) (g' := gs g 9 (fun _ => v)) (hT.1.k9 (by omega)) (nr := nr) (ra := ra) (ri := ri) (rw := rw) (c := jx_p c1 6 0 (nI v)) ⟨rfl, rfl, rfl, rfl, rfl, rfl, rfl⟩ (hL.fr (ob 2 (by decide))) a3.k9 (hR.fr (ob 4 (by decide)))
    have oc : ∀ o, o < 6 → c2 o = c o := fun o ho => (b2' o ho).trans (ob o ho)
    obtain ⟨c', d1, d2⟩ := ih n (v + 1) c2 (by omega) (by omega) (hL.fr (oc 2 (by decide))) (hO.fr (oc 3 (by decide))) (hR.fr (oc 4 (by decide)))
    refine ⟨c', ?_, fun o ho => (d2 o ho).trans (oc o ho)⟩
    rw [L_X5_laws_14.eq_2, show (3 : Int32) = nI 3 from rfl, if_neg (nI_ge (by omega) (by omega)), a1, jbd_s, jlet_d, b1, jbd_s]
    rw [s_set_s] at d1
    have hlt := s_set_lt (fun v => s_ok (gs g 9 (fun _ => v)) ra ri rw nr) v (by omega)
    cases hok : s_ok (gs g 9 (fun _ => v)) ra ri rw nr with
    | true =>
      rw [if_neg (by decide), jbor hlt (by omega), jlet_d, jlet_d, nI_1]
      rw [if_pos hok] at d1
      exact d1
    | false =>
      rw [if_pos (by decide), jlet_d, nI_1]
      rw [if_neg (by rw [hok]; decide)] at d1
      exact d1
theorem L_lawsM {g : sG} (hg : GW g) {nr : Nat} {ra ri : Nat → Nat} {rw : Nat → Int32} {m : jx_M} (hM : RM g m) (hR : RDm (g 1 0) nr ra ri rw m) (y : Int32) (k : Int32 → jx_M → Option (Int32 × jx_M)) : ∀ q n v M, v + q = 3 → q < n → FK KSW m M → (∀ x, RM (gs g 9 (fun _ => x)) (jx_p M 8 9 (nI x))) → ∃ M', L_X6_laws_19 y k n (nI (s_set (fun v => s_ok (gs g 9 (fun _ => v)) ra ri rw nr) v)) (nI v) M = k (nI (s_set (fun v => s_ok (gs g 9 (fun _ => v)) ra ri rw nr) 3)) M' ∧ FK KSW m M' ∧ (∀ x, RM (gs g 9 (fun _ => x)) (jx_p M' 8 9 (nI x))) := by
  intro q
  induction q with
  | zero =>
    intro n v M hv hn hf hx
    obtain ⟨n, rfl⟩ : ∃ q, n = q + 1 := ⟨n - 1, by omega⟩
    refine ⟨M, ?_, hf, hx⟩
    rw [L_X6_laws_19.eq_2, show (3 : Int32) = nI 3 from rfl, if_pos (nI_le (by omega) (by omega)), show v = 3 by omega]
  | succ q ih =>
    intro n v M hv hn hf hx
    obtain ⟨n, rfl⟩ : ∃ q, n = q + 1 := ⟨n - 1, by omega⟩
    have hf1 : FK KSW m (jx_p M 8 9 (nI v)) := hf.p (by decide)
    obtain ⟨M1, a1, a2⟩ := F_areSo (hg.k9 (x := v) (by omega)) (nr := nr) (ra := ra) (ri := ri) (rw := rw) (hx v) (hR.fr hf1)
    have hf2 : FK KSW m M1 := hf1.tr (a2.mono KS_W)
    have hx2 : ∀ x, RM (gs g 9 (fun _ => x)) (jx_p M1 8 9 (nI x)) := by
      intro x
      have h1 := ((hx v).fr a2).k9 (x := x)
      exact h1
    obtain ⟨M', d1, d2, d3⟩ := ih n (v + 1) M1 (by omega) (by omega) hf2 hx2
    refine ⟨M', ?_, d2, d3⟩
    rw [L_X6_laws_19.eq_2, show (3 : Int32) = nI 3 from rfl, if_neg (nI_ge (by omega) (by omega)), jlet_d, a1, jbd_s]
    rw [s_set_s] at d1
    have hlt := s_set_lt (fun v => s_ok (gs g 9 (fun _ => v)) ra ri rw nr) v (by omega)
    cases hok : s_ok (gs g 9 (fun _ => v)) ra ri rw nr with
    | true =>
      rw [if_neg (by decide), jbor hlt (by omega), jlet_d, jlet_d, nI_1]
      rw [if_pos hok] at d1
      exact d1
    | false =>
      rw [if_pos (by decide), show (0 : Int32) = nI 0 from rfl, (jbol hlt (by decide)).1, Nat.or_zero, jlet_d, jlet_d, nI_1]
      rw [if_neg (by rw [hok]; decide)] at d1
      exact d1
theorem st_laws : jSt F_X5_laws F_X6_laws := by
  intro c m h
  obtain ⟨g, nr, ra, ri, rw, hI⟩ := id h
  obtain ⟨h1, h2, h3, h4, h5, h6, h7, h8⟩ := id hI
  have g1 := h1.1.1
  have g2 := h1.1.2.1
  unfold F_X5_laws F_X6_laws
  rw [C_isLand h3.1 (by omega), jbd_s, h2.2.1]
  by_cases h0 : g 1 0 = 0
  · rw [if_pos h0, if_pos rfl, if_pos (by rw [h1.2.2.mp h0]; rfl)]
    exact ⟨_, c, m, rfl, rfl, h⟩
  · rw [if_neg h0, if_neg (by decide), if_neg (nI_ne0 (by have := h1.2.2; omega) (by omega)), jlet_d, h2.2.2.2.2.1]
    obtain ⟨c', a1, a2⟩ := L_lawsC h1 (nr := nr) (ra := ra) (ri := ri) (rw := rw) (fun x1_2 M_5 => some (x1_2, M_5)) 3 jfu 0 c (by omega) (by unfold jfu; omega) h3 h4 h5.c
    obtain ⟨m', b1, b2', b3⟩ := L_lawsM h1.1 h2 h5.m (nI (g 9 0)) (fun x2_3 M_3 => jlet (jx_p M_3 8 9 (nI (g 9 0))) (fun M_4 => some (x2_3, M_4))) 3 jfu 0 m (by omega) (by unfold jfu; omega) FK.rf (fun x => h2.k9)
    refine ⟨_, c', jx_p m' 8 9 (nI (g 9 0)), a1, b1, g, nr, ra, ri, rw, hI.fr2 a2 (b2'.p (by decide)) (b3 (g 9 0))⟩
/-! stubborn -/
theorem L_stubC {g : sG} (hT : TW g) {nr : Nat} {ra ri : Nat → Nat} {rw : Nat → Int32} (k : Int32 → jx_M → Option (Int32 × jx_M)) : ∀ q n v c, v + q = g 2 0 → q < n → RLa g c → RO g 3 c → RDc (g 1 0) nr ra ri rw c → ∃ c', L_X5_stubborn_14 k n (nI (s_set (fun v => s_ok (gs g 8 (fun _ => g 8 0 ||| 2 ^ v)) ra ri rw nr) v)) (nI v) c = k (nI (s_set (fun v => s_ok (gs g 8 (fun _ => g 8 0 ||| 2 ^ v)) ra ri rw nr) (g 2 0))) c' ∧ ∀ o, o < 6 → c' o = c o := by
  have g2 := hT.1.2.1
  have g8 := hT.1.2.2.2.1
  intro q
  induction q with
  | zero =>
    intro n v c hv hn hL hO hR
    obtain ⟨n, rfl⟩ : ∃ q, n = q + 1 := ⟨n - 1, by omega⟩
    refine ⟨c, ?_, fun _ _ => rfl⟩
    rw [L_X5_stubborn_14.eq_2, hL.2.1, if_pos (nI_le (by omega) (by omega)), show v = g 2 0 by omega]
  | succ q ih =>
    intro n v c hv hn hL hO hR
    obtain ⟨n, rfl⟩ : ∃ q, n = q + 1 := ⟨n - 1, by omega⟩
    obtain ⟨c1, a1, a2, a3⟩ := C_takeOver hO hT.2.1
    have ob : ∀ o, o < 6 → (jx_p c1 6 1 (nI (g 8 0 ||| 2 ^ v))) o = c o := fun o ho => by rw [jx_p_o (by omega), a2.ob o (by omega)]
    obtain ⟨c2, b1, b2'⟩ := C_whatif (g := g) (g' := gs g 8 (fun _ => g 8 0 ||| 2 ^ v)) (hT.1.k8 (jbol2 g8 (by omega))) (nr := nr) (ra := ra) (ri := ri) (rw := rw) (c := jx_p c1 6 1 (nI (g 8 0 ||| 2 ^ v))) ⟨rfl, rfl, rfl, rfl, rfl, rfl, rfl⟩ (hL.fr (ob 2 (by decide))) a3.k8 (hR.fr (ob 4 (by decide)))
    have oc : ∀ o, o < 6 → c2 o = c o := fun o ho => (b2' o ho).trans (ob o ho)
    obtain ⟨c', d1, d2⟩ := ih n (v + 1) c2 (by omega) (by omega) (hL.fr (oc 2 (by decide))) (hO.fr (oc 3 (by decide))) (hR.fr (oc 4 (by decide)))
    refine ⟨c', ?_, fun o ho => (d2 o ho).trans (oc o ho)⟩
    rw [L_X5_stubborn_14.eq_2, hL.2.1, if_neg (nI_ge (by omega) (by omega)), a1, jbd_s, a3.2.1, jbor g8 (by omega), jlet_d, b1, jbd_s]
    rw [s_set_s] at d1
    have hlt := s_set_lt (fun v => s_ok (gs g 8 (fun _ => g 8 0 ||| 2 ^ v)) ra ri rw nr) v (by omega)
    cases hok : s_ok (gs g 8 (fun _ => g 8 0 ||| 2 ^ v)) ra ri rw nr with
    | true =>
      rw [if_neg (by decide), jbor hlt (by omega), jlet_d, jlet_d, nI_1]
      rw [if_pos hok] at d1
      exact d1
    | false =>
      rw [if_pos (by decide), jlet_d, nI_1]
      rw [if_neg (by rw [hok]; decide)] at d1
      exact d1
theorem L_stubM {g : sG} (hg : GW g) {nr : Nat} {ra ri : Nat → Nat} {rw : Nat → Int32} {m : jx_M} (hM : RM g m) (hR : RDm (g 1 0) nr ra ri rw m) (k : Int32 → jx_M → Option (Int32 × jx_M)) : ∀ q n v M, v + q = g 2 0 → q < n → FK KSW m M → (∀ x, RM (gs g 8 (fun _ => x)) (jx_p M 8 8 (nI x))) → ∃ M', L_X6_stubborn_19 (nI (g 8 0)) k n (nI (s_set (fun v => s_ok (gs g 8 (fun _ => g 8 0 ||| 2 ^ v)) ra ri rw nr) v)) (nI v) M = k (nI (s_set (fun v => s_ok (gs g 8 (fun _ => g 8 0 ||| 2 ^ v)) ra ri rw nr) (g 2 0))) M' ∧ FK KSW m M' ∧ (∀ x, RM (gs g 8 (fun _ => x)) (jx_p M' 8 8 (nI x))) := by
  have g2 := hg.2.1
  have g8 := hg.2.2.2.1
  intro q
  induction q with
  | zero =>
    intro n v M hv hn hf hx
    obtain ⟨n, rfl⟩ : ∃ q, n = q + 1 := ⟨n - 1, by omega⟩
    refine ⟨M, ?_, hf, hx⟩
    rw [L_X6_stubborn_19.eq_2, hf.at 2 (by decide), hM.2.1, if_pos (nI_le (by omega) (by omega)), show v = g 2 0 by omega]
  | succ q ih =>
    intro n v M hv hn hf hx
    obtain ⟨n, rfl⟩ : ∃ q, n = q + 1 := ⟨n - 1, by omega⟩
    have hf1 : FK KSW m (jx_p M 8 8 (nI (g 8 0 ||| 2 ^ v))) := hf.p (by decide)
    obtain ⟨M1, a1, a2⟩ := F_areSo (hg.k8 (x := g 8 0 ||| 2 ^ v) (jbol2 g8 (by omega))) (nr := nr) (ra := ra) (ri := ri) (rw := rw) (hx _) (hR.fr hf1)
    have hf2 : FK KSW m M1 := hf1.tr (a2.mono KS_W)
    have hx2 : ∀ x, RM (gs g 8 (fun _ => x)) (jx_p M1 8 8 (nI x)) := fun x => ((hx (g 8 0 ||| 2 ^ v)).fr a2).k8 (x := x)
    obtain ⟨M', d1, d2, d3⟩ := ih n (v + 1) M1 (by omega) (by omega) hf2 hx2
    refine ⟨M', ?_, d2, d3⟩
    rw [L_X6_stubborn_19.eq_2, hf.at 2 (by decide), hM.2.1, if_neg (nI_ge (by omega) (by omega)), jbor g8 (by omega), jlet_d, a1, jbd_s]
    rw [s_set_s] at d1
    have hlt := s_set_lt (fun v => s_ok (gs g 8 (fun _ => g 8 0 ||| 2 ^ v)) ra ri rw nr) v (by omega)
    cases hok : s_ok (gs g 8 (fun _ => g 8 0 ||| 2 ^ v)) ra ri rw nr with
    | true =>
      rw [if_neg (by decide), jbor hlt (by omega), jlet_d, jlet_d, nI_1]
      rw [if_pos hok] at d1
      exact d1
    | false =>
      rw [if_pos (by decide), show (0 : Int32) = nI 0 from rfl, (jbol hlt (by decide)).1, Nat.or_zero, jlet_d, jlet_d, nI_1]
      rw [if_neg (by rw [hok]; decide)] at d1
      exact d1
theorem st_stubborn : jSt F_X5_stubborn F_X6_stubborn := by
  intro c m h
  obtain ⟨g, nr, ra, ri, rw, hI⟩ := id h
  obtain ⟨h1, h2, h3, h4, h5, h6, h7, h8⟩ := id hI
  have g1 := h1.1.1
  have g2 := h1.1.2.1
  unfold F_X5_stubborn F_X6_stubborn
  rw [C_isLand h3.1 (by omega), jbd_s, h2.2.1]
  by_cases h0 : g 1 0 = 0
  · rw [if_pos h0, if_pos rfl, if_pos (by rw [h1.2.2.mp h0]; rfl)]
    exact ⟨_, c, m, rfl, rfl, h⟩
  · rw [if_neg h0, if_neg (by decide), if_neg (nI_ne0 (by have := h1.2.2; omega) (by omega)), jlet_d, h2.2.2.2.1]
    obtain ⟨c', a1, a2⟩ := L_stubC h1 (nr := nr) (ra := ra) (ri := ri) (rw := rw) (fun x1_2 M_5 => some (x1_2, M_5)) (g 2 0) jfu 0 c (by omega) (by unfold jfu; omega) h3 h4 h5.c
    obtain ⟨m', b1, b2', b3⟩ := L_stubM h1.1 h2 h5.m (fun x2_3 M_3 => jlet (jx_p M_3 8 8 (nI (g 8 0))) (fun M_4 => some (x2_3, M_4))) (g 2 0) jfu 0 m (by omega) (by unfold jfu; omega) FK.rf (fun x => h2.k8)
    refine ⟨_, c', jx_p m' 8 8 (nI (g 8 0)), a1, b1, g, nr, ra, ri, rw, hI.fr2 a2 (b2'.p (by decide)) (b3 (g 8 0))⟩
/-! opened -/
theorem L_openC {g : sG} (hT : TW g) {nr : Nat} {ra ri : Nat → Nat} {rw : Nat → Int32} (k : Int32 → jx_M → Option (Int32 × jx_M)) : ∀ q n v c, v + q = g 1 0 → q < n → RLa g c → RO g 3 c → RDc (g 1 0) nr ra ri rw c → ∃ c', L_X5_opened_14 k n (nI (s_set (fun v => s_ok (gs g 10 (nu (g 10) v 40)) ra ri rw nr) v)) (nI v) c = k (nI (s_set (fun v => s_ok (gs g 10 (nu (g 10) v 40)) ra ri rw nr) (g 1 0))) c' ∧ ∀ o, o < 6 → c' o = c o := by
  have g1 := hT.1.1
  intro q
  induction q with
  | zero =>
    intro n v c hv hn hL hO hR
    obtain ⟨n, rfl⟩ : ∃ q, n = q + 1 := ⟨n - 1, by omega⟩
    refine ⟨c, ?_, fun _ _ => rfl⟩
    rw [L_X5_opened_14.eq_2, hL.1, if_pos (nI_le (by omega) (by omega)), show v = g 1 0 by omega]
  | succ q ih =>
    intro n v c hv hn hL hO hR
    obtain ⟨n, rfl⟩ : ∃ q, n = q + 1 := ⟨n - 1, by omega⟩
    obtain ⟨c1, a1, a2, a3⟩ := C_takeOver hO hT.2.1
    have ob : ∀ o, o < 6 → (jx_set c1 6 3 (upd (c1 6 3) v (nI 40))) o = c o := fun o ho => by rw [jx_set_o (by omega), a2.ob o (by omega)]
    obtain ⟨c2, b1, b2'⟩ := C_whatif (g := g) (g' := gs g 10 (nu (g 10) v 40)) (hT.1.k10 (by omega)) (nr := nr) (ra := ra) (ri := ri) (rw := rw) (c := jx_set c1 6 3 (upd (c1 6 3) v (nI 40))) ⟨rfl, rfl, rfl, rfl, rfl, rfl, rfl⟩ (hL.fr (ob 2 (by decide))) a3.k10 (hR.fr (ob 4 (by decide)))
    have oc : ∀ o, o < 6 → c2 o = c o := fun o ho => (b2' o ho).trans (ob o ho)
    obtain ⟨c', d1, d2⟩ := ih n (v + 1) c2 (by omega) (by omega) (hL.fr (oc 2 (by decide))) (hO.fr (oc 3 (by decide))) (hR.fr (oc 4 (by decide)))
    refine ⟨c', ?_, fun o ho => (d2 o ho).trans (oc o ho)⟩
    rw [L_X5_opened_14.eq_2, hL.1, if_neg (nI_ge (by omega) (by omega)), a1, jbd_s, jin_n (by omega) (by omega), jck_t, jw_n _ _ _ _ (by omega), jlet_d, show (40 : Int32) = nI 40 from rfl, b1, jbd_s]
    rw [s_set_s] at d1
    have hlt := s_set_lt (fun v => s_ok (gs g 10 (nu (g 10) v 40)) ra ri rw nr) v (by omega)
    cases hok : s_ok (gs g 10 (nu (g 10) v 40)) ra ri rw nr with
    | true =>
      rw [if_neg (by decide), jbor hlt (by omega), jlet_d, jlet_d, nI_1]
      rw [if_pos hok] at d1
      exact d1
    | false =>
      rw [if_pos (by decide), jlet_d, nI_1]
      rw [if_neg (by rw [hok]; decide)] at d1
      exact d1
theorem upd_back (f : Nat → Int32) (k : Nat) (v : Int32) : upd (upd f k v) k (f k) = f := by
  funext j
  by_cases h : j = k
  · subst h; simp [upd]
  · simp [upd, h]
theorem L_openM {g : sG} (hg : GW g) {nr : Nat} {ra ri : Nat → Nat} {rw : Nat → Int32} {m : jx_M} (hM : RM g m) (hR : RDm (g 1 0) nr ra ri rw m) (k : Int32 → jx_M → Option (Int32 × jx_M)) : ∀ q n v M, v + q = g 1 0 → q < n → FK KS m M → ∃ M', L_X6_opened_14 k n (nI (s_set (fun v => s_ok (gs g 10 (nu (g 10) v 40)) ra ri rw nr) v)) (nI v) M = k (nI (s_set (fun v => s_ok (gs g 10 (nu (g 10) v 40)) ra ri rw nr) (g 1 0))) M' ∧ FK KS m M' := by
  have g1 := hg.1
  intro q
  induction q with
  | zero =>
    intro n v M hv hn hf
    obtain ⟨n, rfl⟩ : ∃ q, n = q + 1 := ⟨n - 1, by omega⟩
    refine ⟨M, ?_, hf⟩
    rw [L_X6_opened_14.eq_2, hf.at 1 (by decide), hM.1, if_pos (nI_le (by omega) (by omega)), show v = g 1 0 by omega]
  | succ q ih =>
    intro n v M hv hn hf
    obtain ⟨n, rfl⟩ : ∃ q, n = q + 1 := ⟨n - 1, by omega⟩
    have hMM := hM.fr hf
    have hf1 : FK KSW m (jx_set M 8 10 (upd (M 8 10) v (nI 40))) := (hf.mono KS_W).set (by decide)
    obtain ⟨M1, a1, a2⟩ := F_areSo (hg.k10 (p := v) (x := 40) (by omega)) (nr := nr) (ra := ra) (ri := ri) (rw := rw) (hMM.k10 (p := v) (x := 40)) (hR.fr hf1)
    have hf2 : FK KS m (jx_set M1 8 10 (upd (M1 8 10) v (M 8 10 v))) := by
      intro o k' hk
      by_cases e : o = 8 ∧ k' = 10
      · obtain ⟨rfl, rfl⟩ := e
        rw [jx_set_s, a2.at 10 (by decide), jx_set_s, upd_back, hf.at 10 (by decide)]
      · rw [jx_set_n e, a2 o k' hk, jx_set_n e, hf o k' hk]
    obtain ⟨M', d1, d2⟩ := ih n (v + 1) _ (by omega) (by omega) hf2
    refine ⟨M', ?_, d2⟩
    rw [L_X6_opened_14.eq_2, hf.at 1 (by decide), hM.1, if_neg (nI_ge (by omega) (by omega)), jin_n (by omega) (by omega), jck_t, jr_n _ _ _ (by omega), jlet_d, jck_t, jw_n _ _ _ _ (by omega), jlet_d, show (40 : Int32) = nI 40 from rfl, a1, jbd_s]
    rw [s_set_s] at d1
    have hlt := s_set_lt (fun v => s_ok (gs g 10 (nu (g 10) v 40)) ra ri rw nr) v (by omega)
    cases hok : s_ok (gs g 10 (nu (g 10) v 40)) ra ri rw nr with
    | true =>
      rw [if_neg (by decide), jbor hlt (by omega), jlet_d, jck_t, jw_n _ _ _ _ (by omega), jlet_d, jlet_d, nI_1]
      rw [if_pos hok] at d1
      exact d1
    | false =>
      rw [if_pos (by decide), show (0 : Int32) = nI 0 from rfl, (jbol hlt (by decide)).1, Nat.or_zero, jlet_d, jck_t, jw_n _ _ _ _ (by omega), jlet_d, jlet_d, nI_1]
      rw [if_neg (by rw [hok]; decide)] at d1
      exact d1
theorem st_opened : jSt F_X5_opened F_X6_opened := by
  intro c m h
  obtain ⟨g, nr, ra, ri, rw, hI⟩ := id h
  obtain ⟨h1, h2, h3, h4, h5, h6, h7, h8⟩ := id hI
  have g1 := h1.1.1
  have g2 := h1.1.2.1
  unfold F_X5_opened F_X6_opened
  rw [C_isLand h3.1 (by omega), jbd_s, h2.2.1]
  by_cases h0 : g 1 0 = 0
  · rw [if_pos h0, if_pos rfl, if_pos (by rw [h1.2.2.mp h0]; rfl)]
    exact ⟨_, c, m, rfl, rfl, h⟩
  · rw [if_neg h0, if_neg (by decide), if_neg (nI_ne0 (by have := h1.2.2; omega) (by omega))]
    obtain ⟨c', a1, a2⟩ := L_openC h1 (nr := nr) (ra := ra) (ri := ri) (rw := rw) (fun x1_2 M_5 => some (x1_2, M_5)) (g 1 0) jfu 0 c (by omega) (by unfold jfu; omega) h3 h4 h5.c
    obtain ⟨m', b1, b2'⟩ := L_openM h1.1 h2 h5.m (fun x1_3 M_5 => some (x1_3, M_5)) (g 1 0) jfu 0 m (by omega) (by unfold jfu; omega) FK.rf
    exact ⟨_, c', m', a1, b1, g, nr, ra, ri, rw, hI.fr a2 (b2'.mono KS_in)⟩
