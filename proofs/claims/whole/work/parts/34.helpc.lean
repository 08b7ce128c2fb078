/-- the component's way: where the search stands -/
def HS (g : sG) (x : Nat) (c : jx_M) : Prop := c 0 11 0 = (s_hlp g x).1 ∧ c 0 12 0 = nI (s_hlp g x).2
theorem gI_eq {o : Option Nat} {p : Nat} (hp : p < 6) (ho : ∀ q, o = some q → q < 6) : (gI o = nI p) ↔ o = some p := by
  cases o with
  | none =>
    refine ⟨fun e => ?_, fun e => by cases e⟩
    have := nI_pos (n := p) (by omega)
    rw [← e] at this
    exact absurd gI_neg this
  | some q =>
    have := ho q rfl
    show nI q = nI p ↔ _
    rw [nI_eq (by omega) (by omega)]
    exact ⟨fun e => by rw [e], fun e => Option.some.inj e⟩
theorem C_turn {g : sG} (hg : GW g) {c : jx_M} (hR : RR g 5 40 c) {a p d : Nat} (ha : a < g 1 0) (hp : p < g 2 0) (hd : d < 40) : F_X0_wouldTurn 5 (nI a) (nI p) (nI d) c = some (if s_ch g d (s_pre g d) a p = true ∧ s_g (s_at g d) a ≠ some p then 1 else 0, c) := by
  have g1 := hg.1
  have g2 := hg.2.1
  obtain ⟨r1, r2, -⟩ := hR d hd
  obtain ⟨X, x1, x2, x3⟩ := r2 a ha
  have hb := jb_b0 (x := X) (i := p) x1 (by omega)
  rw [x3 p hp] at hb
  have hge := gI_eq (o := s_g (s_at g d) a) (p := p) (by omega) (fun q hq => by have := ((s_at_inv hg d).2.1 a ha q hq).1; omega)
  unfold F_X0_wouldTurn
  rw [jix4, jlet_d, jin_n (by omega) (by omega), jck_t, jck_t, jr_n _ _ _ (by omega), jr_n _ _ _ (by omega), x2, r1 a ha]
  simp only [hb, hge]
  cases s_ch g d (s_pre g d) a p with
  | false => simp
  | true =>
    by_cases e : s_g (s_at g d) a = some p
    · simp [e]
    · simp [e]
theorem C_tryWill {g : sG} (hT : TW g) {c : jx_M} (hL : RLa g c) (hO : RO g 3 c) {a p d : Nat} (ha : a < g 1 0) (hp : p < g 2 0) (hd : d < 40) {h : Int32} {l : Nat} (h11 : c 0 11 0 = h) (h12 : c 0 12 0 = nI l) (hl : l ≤ 1000) :
    ∃ c', F_X5_tryWill (nI a) (nI p) (nI d) c = some ((), c') ∧ (∀ o, o < 6 → o ≠ 0 → c' o = c o) ∧ (∀ k, k ≠ 11 → k ≠ 12 → c' 0 k = c 0 k) ∧ c' 0 11 0 = (if s_E (s_aw g a p d) 40 < l then nI (1000 * a + 100 * p + d) else h) ∧ c' 0 12 0 = nI (if s_E (s_aw g a p d) 40 < l then s_E (s_aw g a p d) 40 else l) := by
  obtain ⟨c1, a1, a2, a3⟩ := C_takeOver hO hT.2.1
  obtain ⟨c2, z1, z2, z3⟩ := C_addWill a3 hT.2.1 a p d
  have hg' := hT.1.aw hT.2.1 ha hp hd
  have ob : ∀ o, o < 6 → c2 o = c o := fun o ho => by rw [z2.ob o (by omega), a2.ob o (by omega)]
  obtain ⟨c3, r, b1, b2, b3, b4, b5, b6, b7, b8⟩ := F_run hg' (o := 7) (w := 6) (by decide) (by decide) (y2 := 39) (l1 := 40) (lim := l) (fun r hr => by
    rw [show (39 : Int32) = nI 39 from rfl, nI_ltI (by omega) (by omega)]; omega) hl (M := c2) (by
    have := hL.fr (ob 2 (by decide))
    exact this) z3
  have oc : ∀ o, o < 6 → c3 o = c o := fun o ho => by rw [b2.ob o (by omega), ob o ho]
  have hE := s_E_le hg' r
  have hE4 := s_E_le hg' 40
  have hm := s_E_mono (s_aw g a p d) (40 - r) r
  rw [show r + (40 - r) = 40 by omega] at hm
  unfold F_X5_tryWill
  rw [a1, jbd_s, z1, jbd_s, ob 0 (by decide), h12, b1, jbd_s, oc 0 (by decide), h12, b7]
  by_cases c1' : l ≤ s_E (s_aw g a p d) r
  · rw [if_pos (nI_le c1' (by omega))]
    refine ⟨c3, rfl, fun o ho _ => oc o ho, fun k _ _ => by rw [oc 0 (by decide)], ?_, ?_⟩
    · rw [oc 0 (by decide), if_neg (by omega)]; exact h11
    · rw [oc 0 (by decide), if_neg (by omega)]; exact h12
  · have hr : r = 40 := by omega
    subst hr
    rw [if_neg (nI_ge (by omega) (by omega)), jlet_d, jhw, jlet_d]
    refine ⟨_, rfl, fun o ho h0 => ?_, fun k h1 h2 => ?_, ?_, ?_⟩
    · rw [jx_p_o h0, jx_p_o h0, oc o ho]
    · rw [jx_p_k h1, jx_p_k h2, oc 0 (by decide)]
    · rw [jx_p_s, if_pos (by omega)]
    · rw [jx_p_k (by decide), jx_p_s, if_pos (by omega)]
/-- what the search leaves alone -/
def HF (c c' : jx_M) : Prop := (∀ o, o < 6 → o ≠ 0 → c' o = c o) ∧ ∀ k, k ≠ 11 → k ≠ 12 → c' 0 k = c 0 k
theorem HF.rf {c : jx_M} : HF c c := ⟨fun _ _ _ => rfl, fun _ _ _ => rfl⟩
theorem HF.tr {c c1 c2 : jx_M} (h : HF c c1) (h2 : HF c1 c2) : HF c c2 := ⟨fun o a b => (h2.1 o a b).trans (h.1 o a b), fun k a b => (h2.2 k a b).trans (h.2 k a b)⟩
theorem HF.rr {g : sG} {c c' : jx_M} (h : HF c c') (hR : RR g 5 40 c) : RR g 5 40 c' := by
  unfold RR at hR ⊢
  rw [h.1 5 (by decide) (by decide)]; exact hR
theorem jdm {n a p d : Nat} (hn : 0 < n) (hp : p < n) (hd : d < 40) : ((a * n + p) * 40 + d) / 40 / n = a ∧ ((a * n + p) * 40 + d) / 40 % n = p ∧ ((a * n + p) * 40 + d) % 40 = d := by
  have h1 : ((a * n + p) * 40 + d) / 40 = a * n + p := by omega
  rw [h1]
  refine ⟨?_, ?_, by omega⟩
  · rw [Nat.mul_comm, Nat.mul_add_div hn, Nat.div_eq_of_lt hp, Nat.add_zero]
  · rw [Nat.mul_comm, Nat.mul_add_mod, Nat.mod_eq_of_lt hp]
theorem L_h56 {g : sG} (hT : TW g) {a p : Nat} (ha : a < g 1 0) (hp : p < g 2 0) (k : jx_M → Option (Unit × jx_M)) : ∀ q n d c, d + q = 40 → q < n → RLa g c → RO g 3 c → RR g 5 40 c → HS g ((a * g 2 0 + p) * 40 + d) c → ∃ c', L_X5_findHelp_56 (nI a) (nI p) k n (nI d) c = k c' ∧ HF c c' ∧ HS g ((a * g 2 0 + p + 1) * 40) c' := by
  have g2 := hT.1.2.1
  intro q
  induction q with
  | zero =>
    intro n d c hd hn hL hO hR hS
    obtain ⟨n, rfl⟩ : ∃ q, n = q + 1 := ⟨n - 1, by omega⟩
    refine ⟨c, ?_, HF.rf, ?_⟩
    · rw [L_X5_findHelp_56.eq_2, show (40 : Int32) = nI 40 from rfl, if_pos (nI_le (by omega) (by omega))]
    · rw [show (a * g 2 0 + p + 1) * 40 = (a * g 2 0 + p) * 40 + d by omega]; exact hS
  | succ q ih =>
    intro n d c hd hn hL hO hR hS
    obtain ⟨n, rfl⟩ : ∃ q, n = q + 1 := ⟨n - 1, by omega⟩
    obtain ⟨m1, m2, m3⟩ := jdm (a := a) (show 0 < g 2 0 by omega) hp (show d < 40 by omega)
    have es := s_hlp_s g ((a * g 2 0 + p) * 40 + d)
    rw [m1, m2, m3] at es
    have hle := s_hlp_le g ((a * g 2 0 + p) * 40 + d)
    have hE := s_E_le hT.1 40
    rw [L_X5_findHelp_56.eq_2, show (40 : Int32) = nI 40 from rfl, if_neg (nI_ge (by omega) (by omega)), C_turn hT.1 hR ha hp (show d < 40 by omega), jbd_s]
    by_cases ct : s_ch g d (s_pre g d) a p = true ∧ s_g (s_at g d) a ≠ some p
    · rw [if_pos ct, if_neg (by decide)]
      obtain ⟨c1, t1, t2, t3, t4, t5⟩ := C_tryWill hT hL hO ha hp (show d < 40 by omega) hS.1 hS.2 (by omega)
      have hf1 : HF c c1 := ⟨t2, t3⟩
      rw [t1, jbd_s, jlet_d, nI_1]
      obtain ⟨c', d1, d2, d3⟩ := ih n (d + 1) c1 (by omega) (by omega) (hL.fr (t2 2 (by decide) (by decide))) (hO.fr (t2 3 (by decide) (by decide))) (hf1.rr hR) (by
        show HS g ((a * g 2 0 + p) * 40 + d + 1) c1
        unfold HS
        rw [es, t4, t5]
        split <;> exact ⟨rfl, rfl⟩)
      exact ⟨c', d1, hf1.tr d2, d3⟩
    · rw [if_neg ct, if_pos rfl, jlet_d, nI_1]
      have hsame : s_E (s_aw g a p d) 40 = s_E g 40 := by
        unfold s_E
        rw [s_pre_aw ha ct 40]
      obtain ⟨c', d1, d2, d3⟩ := ih n (d + 1) c (by omega) (by omega) hL hO hR (by
        show HS g ((a * g 2 0 + p) * 40 + d + 1) c
        unfold HS
        rw [es, if_neg (by rw [hsame]; omega)]
        exact hS)
      exact ⟨c', d1, d2, d3⟩
theorem L_h42 {g : sG} (hT : TW g) {a : Nat} (ha : a < g 1 0) (k : jx_M → Option (Unit × jx_M)) : ∀ q n p c, p + q = g 2 0 → q < n → RLa g c → RO g 3 c → RR g 5 40 c → HS g ((a * g 2 0 + p) * 40) c → ∃ c', L_X5_findHelp_42 (nI a) k n (nI p) c = k c' ∧ HF c c' ∧ HS g ((a + 1) * g 2 0 * 40) c' := by
  have g2 := hT.1.2.1
  intro q
  induction q with
  | zero =>
    intro n p c hp hn hL hO hR hS
    obtain ⟨n, rfl⟩ : ∃ q, n = q + 1 := ⟨n - 1, by omega⟩
    refine ⟨c, ?_, HF.rf, ?_⟩
    · rw [L_X5_findHelp_42.eq_2, hL.2.1, if_pos (nI_le (by omega) (by omega))]
    · have e : (a + 1) * g 2 0 * 40 = (a * g 2 0 + p) * 40 := by rw [Nat.add_mul, Nat.one_mul, show p = g 2 0 by omega]
      rw [e]; exact hS
  | succ q ih =>
    intro n p c hp hn hL hO hR hS
    obtain ⟨n, rfl⟩ : ∃ q, n = q + 1 := ⟨n - 1, by omega⟩
    rw [L_X5_findHelp_42.eq_2, hL.2.1, if_neg (nI_ge (by omega) (by omega))]
    obtain ⟨c1, t1, t2, t3⟩ := L_h56 hT ha (show p < g 2 0 by omega) (fun M_6 => jlet (nI p + 1) (fun x3_1 => L_X5_findHelp_42 (nI a) k n x3_1 M_6)) 40 jfu 0 c (by omega) (by unfold jfu; omega) hL hO hR hS
    rw [show (0 : Int32) = nI 0 from rfl, t1, jlet_d, nI_1]
    obtain ⟨c', d1, d2, d3⟩ := ih n (p + 1) c1 (by omega) (by omega) (hL.fr (t2.1 2 (by decide) (by decide))) (hO.fr (t2.1 3 (by decide) (by decide))) (t2.rr hR) t3
    exact ⟨c', d1, t2.tr d2, d3⟩
theorem L_h29 {g : sG} (hT : TW g) (k : jx_M → Option (Unit × jx_M)) : ∀ q n a c, a + q = g 1 0 → q < n → RLa g c → RO g 3 c → RR g 5 40 c → HS g (a * g 2 0 * 40) c → ∃ c', L_X5_findHelp_29 k n (nI a) c = k c' ∧ HF c c' ∧ HS g (g 1 0 * g 2 0 * 40) c' := by
  have g1 := hT.1.1
  have g2 := hT.1.2.1
  intro q
  induction q with
  | zero =>
    intro n a c ha hn hL hO hR hS
    obtain ⟨n, rfl⟩ : ∃ q, n = q + 1 := ⟨n - 1, by omega⟩
    refine ⟨c, ?_, HF.rf, ?_⟩
    · rw [L_X5_findHelp_29.eq_2, hL.1, if_pos (nI_le (by omega) (by omega))]
    · have e : g 1 0 * g 2 0 * 40 = a * g 2 0 * 40 := by rw [show a = g 1 0 by omega]
      rw [e]; exact hS
  | succ q ih =>
    intro n a c ha hn hL hO hR hS
    obtain ⟨n, rfl⟩ : ∃ q, n = q + 1 := ⟨n - 1, by omega⟩
    rw [L_X5_findHelp_29.eq_2, hL.1, if_neg (nI_ge (by omega) (by omega))]
    obtain ⟨c1, t1, t2, t3⟩ := L_h42 hT (show a < g 1 0 by omega) (fun M_7 => jlet (nI a + 1) (fun x2_1 => L_X5_findHelp_29 k n x2_1 M_7)) (g 2 0) jfu 0 c (by omega) (by unfold jfu; omega) hL hO hR hS
    rw [show (0 : Int32) = nI 0 from rfl, t1, jlet_d, nI_1]
    obtain ⟨c', d1, d2, d3⟩ := ih n (a + 1) c1 (by omega) (by omega) (hL.fr (t2.1 2 (by decide) (by decide))) (hO.fr (t2.1 3 (by decide) (by decide))) (t2.rr hR) t3
    exact ⟨c', d1, t2.tr d2, d3⟩
theorem C_findHelp {g : sG} {nr : Nat} {ra ri : Nat → Nat} {rw : Nat → Int32} {c m : jx_M} (h : IV g nr ra ri rw c m) : ∃ c', F_X5_findHelp c = some ((), c') ∧ IV g nr ra ri rw c' m ∧ HS g (g 1 0 * g 2 0 * 40) c' := by
  obtain ⟨h1, h2, h3, h4, h5, h6, h7, h8, h9, h10⟩ := id h
  have g1 := h1.1.1
  unfold F_X5_findHelp
  rcases h10 with e | ⟨e, q1⟩
  · rw [if_pos e]
    obtain ⟨c1, q1, q2, q3, q4, q5, q6⟩ := C_asItGoes h
    rw [q1, jbd_s, jlet_d, jlet_d, jx_p_o (by decide), q4]
    obtain ⟨i1, i2, i3, i4, i5, i6, i7, i8, i9, i10⟩ := id q2
    have hfo : FO 0 [11, 12] c1 (jx_p (jx_p c1 0 11 (-9)) 0 12 (nI (s_E g 40))) := FO.p (FO.p FO.rf (by decide)) (by decide)
    obtain ⟨c2, t1, t2, t3⟩ := L_h29 h1 (fun M_8 => jlet (jx_p M_8 0 10 1) (fun M_9 => some ((), M_9))) (g 1 0) jfu 0 (jx_p (jx_p c1 0 11 (-9)) 0 12 (nI (s_E g 40))) (by omega) (by unfold jfu; omega) (i3.fr (hfo.ob 2 (by decide))) (i4.fr (hfo.ob 3 (by decide))) (by
      unfold RR at q3 ⊢
      rw [hfo.ob 5 (by decide)]; exact q3) (by
      rw [Nat.zero_mul, Nat.zero_mul]
      exact ⟨by rw [jx_p_k (by decide), jx_p_s]; rfl, by rw [jx_p_s]; rfl⟩)
    have oo : ∀ o, o < 6 → o ≠ 0 → c2 o = c1 o := fun o a b => by rw [t2.1 o a b, hfo.ob o b]
    have kk : ∀ k, k ≠ 11 → k ≠ 12 → c2 0 k = c1 0 k := fun k a b => by rw [t2.2 k a b, jx_p_k b, jx_p_k a]
    refine ⟨jx_p c2 0 10 1, t1, ⟨i1, i2, ?_, ?_, ?_, ?_, ?_, ?_, ?_, Or.inr ⟨jx_p_s _ _ _ _ _, ?_, ?_⟩⟩, ?_⟩
    · exact i3.fr (by rw [jx_p_o (by decide), oo 2 (by decide) (by decide)])
    · exact i4.fr (by rw [jx_p_o (by decide), oo 3 (by decide) (by decide)])
    · unfold RDG at i5 ⊢; rw [jx_p_o (by decide), oo 4 (by decide) (by decide)]; exact i5
    · unfold SHT at i6 ⊢; rw [jx_p_o (by decide), oo 1 (by decide) (by decide)]; exact i6
    · rw [jx_p_k (by decide), jx_p_k (by decide), kk 13 (by decide) (by decide), kk 14 (by decide) (by decide)]; exact i7
    · unfold RR at i8 ⊢
      rw [jx_p_k (by decide), kk 8 (by decide) (by decide), jx_p_o (by decide), oo 5 (by decide) (by decide)]; exact i8
    · rw [jx_p_k (by decide), jx_p_k (by decide), kk 9 (by decide) (by decide), kk 7 (by decide) (by decide)]; exact i9
    · rw [jx_p_k (by decide)]; exact t3.1
    · rw [jx_p_k (by decide)]; exact t3.2
    · exact ⟨by rw [jx_p_k (by decide)]; exact t3.1, by rw [jx_p_k (by decide)]; exact t3.2⟩
  · rw [if_neg (by rw [e]; decide)]
    exact ⟨c, rfl, h, q1⟩
theorem st_help (x : Int32) : jSt (F_X5_help x) (F_X6_help x) := by
  intro c m h
  obtain ⟨g, nr, ra, ri, rw, hI⟩ := id h
  obtain ⟨h1, h2, h3, h4, h5, h6, h7, h8⟩ := id hI
  have g1 := h1.1.1
  have g2 := h1.1.2.1
  have g19 := h1.2.1
  have hpn : g 1 0 * g 2 0 ≤ 24 := Nat.mul_le_mul g1 g2
  have hw := h2.2.2.2.2.2.2.1
  unfold F_X5_help F_X6_help
  rw [show (1 : Int32) = nI 1 from rfl, sw_le x 1 (by decide), F_in_c x 1 1 (by decide), jbd_s]
  by_cases hx : 0 ≤ x.toInt ∧ x.toInt < ((1 : Nat) : Int) + 1
  · rw [if_pos hx, if_pos hx, if_neg (by decide), C_isLand h3.1 (by omega), jbd_s, h2.2.1]
    by_cases h0 : g 1 0 = 0
    · rw [if_pos h0, if_pos rfl, if_pos (by rw [h1.2.2.mp h0]; rfl)]
      exact ⟨_, c, m, rfl, rfl, h⟩
    · have hn0 : g 2 0 ≠ 0 := fun z => h0 (h1.2.2.mpr z)
      rw [if_neg h0, if_neg (by decide), if_neg (nI_ne0 (by omega) (by omega))]
      obtain ⟨c1, q1, q2, q3⟩ := C_findHelp hI
      obtain ⟨m1, p1, p2⟩ := F_allEmpties h1.1 h2
      have h2' := h2.fr p2
      have e19 : m1 8 19 0 = nI (g 19 0) := by rw [p2.at 19 (by decide)]; exact hw
      obtain ⟨m', b1, b2', b3, ⟨w20, b4⟩, ⟨w21, b5⟩, w22, b6⟩ := L_helpM h1 hn0 h2' x (fun x2_2 x3_1 M_8 => jlet (jx_p M_8 8 19 ((M_8 8 19 0) - nI 1)) (fun M_9 => if x = 0 then some (x2_2, M_9) else some (x3_1, M_9))) (g 1 0 * g 2 0 * 40) jfu 0 (jx_p m1 8 19 (nI (g 19 0 + 1))) (by omega) (by unfold jfu; omega) (FK.p FK.rf (by decide)) (jx_p_s _ _ _ _ _) ⟨_, by rw [jx_p_k (by decide)]; exact (upd_self _ _).symm⟩ ⟨_, by rw [jx_p_k (by decide)]; exact (upd_self _ _).symm⟩ ⟨_, by rw [jx_p_k (by decide)]; exact (upd_self _ _).symm⟩
      have hM' : RM g (jx_p m' 8 19 (nI (g 19 0))) := h2'.un (b2'.p (by decide)) (jx_p_s _ _ _ _ _) (fun j hj => by
        rw [jx_p_k (by decide), jx_p_k (by decide), jx_p_k (by decide), b4, b5, b6]
        simp [upd, show ¬ j = g 19 0 by omega])
      have hI2 : IV g nr ra ri rw c1 (jx_p m' 8 19 (nI (g 19 0))) := q2.fr2 (fun _ _ => rfl) ((p2.mono KS_W).tr ((b2'.mono KSA_W).p (by decide))) hM'
      rw [q1, jbd_s, q3.1, q3.2, p1, jbd_s, e19, nI_add, jlet_d, jx_p_s, show nI (g 19 0 + 1) - nI 1 = nI (g 19 0) from nI_pred _, jlet_d, show (0 : Int32) = nI 0 from rfl]
      rw [b3, show nI (g 19 0 + 1) - nI 1 = nI (g 19 0) from nI_pred _, jlet_d] at b1
      by_cases hx0 : x = 0
      · rw [if_pos hx0] at b1
        rw [if_pos (show x = nI 0 from hx0)]
        exact ⟨_, _, _, rfl, b1, g, nr, ra, ri, rw, hI2⟩
      · rw [if_neg hx0] at b1
        rw [if_neg (show ¬ x = nI 0 from hx0)]
        exact ⟨_, _, _, rfl, b1, g, nr, ra, ri, rw, hI2⟩
  · rw [if_neg hx, if_neg hx, if_pos rfl]
    exact ⟨_, c, m, rfl, rfl, h⟩
