theorem C_setCount {g : sG} {c : jx_M} (h : c 2 1 0 = nI (g 2 0)) (hn : g 2 0 ≤ 6) : F_X1_setCount c = some (nI (2 ^ g 2 0), c) := by
  unfold F_X1_setCount
  rw [h, jb_1 ⟨g 2 0, by omega⟩]
def s_fls (g : sG) (c : jx_M) (n : Nat) : Prop := ∀ s, s < n → ∃ f, f ≤ 40 ∧ c 0 7 s = nI f ∧ ∀ d, d < 40 → (d < f ↔ s_E (s_rf g s) (d + 1) = 0)
theorem L_falls {g : sG} (hT : TW g) (k : jx_M → Option (Unit × jx_M)) : ∀ q n s c, s + q = 2 ^ g 2 0 → q < n → RLa g c → (∀ x, RO (gs g 8 (fun _ => x)) 6 (jx_p c 6 1 (nI x))) → s_fls g c s → ∃ c', L_X5_findFalls_29 (nI (2 ^ g 2 0)) k n (nI s) c = k c' ∧ (∀ o, o < 6 → o ≠ 0 → c' o = c o) ∧ (∀ k, k ≠ 7 → c' 0 k = c 0 k) ∧ s_fls g c' (2 ^ g 2 0) := by
  have g2 := hT.1.2.1
  have hp : 2 ^ g 2 0 ≤ 64 := Nat.pow_le_pow_right (by decide) g2
  intro q
  induction q with
  | zero =>
    intro n s c hs hn hL hO hf
    obtain ⟨n, rfl⟩ : ∃ q, n = q + 1 := ⟨n - 1, by omega⟩
    refine ⟨c, ?_, fun _ _ _ => rfl, fun _ _ => rfl, by rw [← hs]; exact hf⟩
    rw [L_X5_findFalls_29.eq_2, if_pos (nI_le (by omega) (by omega))]
  | succ q ih =>
    intro n s c hs hn hL hO hf
    obtain ⟨n, rfl⟩ : ∃ q, n = q + 1 := ⟨n - 1, by omega⟩
    obtain ⟨e1, -, -⟩ := jb_st ⟨g 2 0, by omega⟩ ⟨s, by omega⟩ (show s < 2 ^ g 2 0 by omega)
    dsimp only at e1
    obtain ⟨c1, f, a1, a2, a3, a4, a5⟩ := C_fall hT hL hO (show s < 2 ^ g 2 0 by omega)
    have key : ∀ v, v = nI f → ∃ c', L_X5_findFalls_29 (nI (2 ^ g 2 0)) k n (nI (s + 1)) (jx_set c1 0 7 (upd (c1 0 7) s v)) = k c' ∧ (∀ o, o < 6 → o ≠ 0 → c' o = c o) ∧ (∀ k, k ≠ 7 → c' 0 k = c 0 k) ∧ s_fls g c' (2 ^ g 2 0) := by
      intro v hv
      have o1 : ∀ o, o < 6 → c1 o = c o := fun o ho => by rw [a2.ob o (by omega), jx_p_o (by omega)]
      obtain ⟨c', d1, d2, d3, d4⟩ := ih n (s + 1) (jx_set c1 0 7 (upd (c1 0 7) s v)) (by omega) (by omega) (hL.fr (by rw [jx_set_o (by decide), o1 2 (by decide)])) (fun x => by
        have h6 : (jx_p (jx_set c1 0 7 (upd (c1 0 7) s v)) 6 1 (nI x)) 6 = (jx_p c 6 1 (nI x)) 6 := by
          funext k'
          by_cases hk : k' = 1
          · subst hk; funext i; rw [jx_p_s, jx_p_s]
          · rw [jx_p_k hk, jx_p_k hk, jx_set_o (by decide), a2.ob 6 (by decide), jx_p_k hk]
        exact (hO x).fr h6) (fun s' hs' => by
        rw [jx_set_s]
        by_cases e : s' = s
        · subst e
          exact ⟨f, a3, by simp only [upd, if_true, hv], a4⟩
        · obtain ⟨f', f1, f2, f3⟩ := hf s' (by omega)
          exact ⟨f', f1, by simp only [upd, e, if_false]; rw [o1 0 (by decide)]; exact f2, f3⟩)
      refine ⟨c', d1, fun o ho h0 => ?_, fun k' hk => ?_, d4⟩
      · rw [d2 o ho h0, jx_set_o h0, o1 o ho]
      · rw [d3 k' hk, jx_set_k hk, o1 0 (by decide)]
    rw [L_X5_findFalls_29.eq_2, if_neg (nI_ge (by omega) (by omega)), e1, jlet_d, a1, jbd_s, jin_n (show s < 64 by omega) (by omega)]
    rcases a5 with ⟨b1, b2⟩ | ⟨b1, b2⟩
    · rw [if_pos b1, jck_t, jw_n _ _ _ _ (by omega), jlet_d, jlet_d, nI_1]
      exact key 40 (by rw [b2]; rfl)
    · rw [if_neg b1, jck_t, jw_n _ _ _ _ (by omega), jlet_d, jlet_d, nI_1]
      exact key _ b2
theorem C_findFalls {g : sG} {nr : Nat} {ra ri : Nat → Nat} {rw : Nat → Int32} {c m : jx_M} (h : IV g nr ra ri rw c m) : ∃ c', F_X5_findFalls c = some ((), c') ∧ IV g nr ra ri rw c' m ∧ s_fls g c' (2 ^ g 2 0) := by
  obtain ⟨h1, h2, h3, h4, h5, h6, h7, h8, h9, h10⟩ := id h
  have g2 := h1.1.2.1
  have hp : 2 ^ g 2 0 ≤ 64 := Nat.pow_le_pow_right (by decide) g2
  unfold F_X5_findFalls
  rcases h9 with e | ⟨e, q1⟩
  · rw [if_pos e]
    obtain ⟨c1, a1, a2, a3⟩ := C_takeOver h4 h1.2.1
    have o1 : ∀ o, o < 6 → c1 o = c o := fun o ho => a2.ob o (by omega)
    rw [a1, jbd_s, C_setCount (by rw [o1 2 (by decide)]; exact h3.2.1) g2, jbd_s]
    obtain ⟨c2, b1, b2, b3, b4⟩ := L_falls h1 (fun M_7 => jlet (jx_p M_7 0 9 1) (fun M_8 => some ((), M_8))) (2 ^ g 2 0) jfu 0 c1 (by omega) (by unfold jfu; omega) (h3.fr (o1 2 (by decide))) (fun x => a3.k8) (fun s hs => by omega)
    have o2 : ∀ o, o < 6 → o ≠ 0 → c2 o = c o := fun o ho h0 => (b2 o ho h0).trans (o1 o ho)
    have k2 : ∀ k, k ≠ 7 → c2 0 k = c 0 k := fun k hk => by rw [b3 k hk, o1 0 (by decide)]
    refine ⟨jx_p c2 0 9 1, b1, ⟨h1, h2, ?_, ?_, ?_, ?_, ?_, ?_, Or.inr ⟨jx_p_s _ _ _ _ _, ?_⟩, ?_⟩, ?_⟩
    · exact h3.fr (by rw [jx_p_o (by decide), o2 2 (by decide) (by decide)])
    · exact h4.fr (by rw [jx_p_o (by decide), o2 3 (by decide) (by decide)])
    · unfold RDG at h5 ⊢; rw [jx_p_o (by decide), o2 4 (by decide) (by decide)]; exact h5
    · unfold SHT at h6 ⊢; rw [jx_p_o (by decide), o2 1 (by decide) (by decide)]; exact h6
    · rw [jx_p_k (by decide), jx_p_k (by decide), k2 13 (by decide), k2 14 (by decide)]; exact h7
    · unfold RR at h8 ⊢
      rw [jx_p_k (by decide), k2 8 (by decide), jx_p_o (by decide), o2 5 (by decide) (by decide)]; exact h8
    · intro s hs
      rw [jx_p_k (by decide)]
      exact b4 s hs
    · rw [jx_p_k (by decide), jx_p_k (by decide), jx_p_k (by decide), k2 10 (by decide), k2 11 (by decide), k2 12 (by decide)]; exact h10
    · intro s hs
      rw [jx_p_k (by decide)]
      exact b4 s hs
  · rw [if_neg (by rw [e]; decide)]
    exact ⟨c, rfl, h, q1⟩
/-- the fewest, among the first sets -/
def s_fb (g : sG) (d : Nat) : Nat → Option Nat
  | 0 => none
  | s + 1 => if s_E (s_rf g s) (d + 1) = 0 ∧ pop s < (match s_fb g d s with
    | none => 7
    | some b => pop b) then some s else s_fb g d s
def s_fz (o : Option Nat) : Nat := match o with
  | none => 7
  | some b => pop b
theorem s_fb_s (g : sG) (d s : Nat) : s_fb g d (s + 1) = if s_E (s_rf g s) (d + 1) = 0 ∧ pop s < s_fz (s_fb g d s) then some s else s_fb g d s := rfl
theorem s_fb_lt (g : sG) (d : Nat) : ∀ n b, s_fb g d n = some b → b < n := by
  intro n
  induction n with
  | zero => intro b h; cases h
  | succ n ih =>
    intro b h
    rw [s_fb_s] at h
    split at h
    · cases h; omega
    · have := ih b h; omega
theorem s_fz_le (o : Option Nat) : s_fz o ≤ 7 := by
  cases o with
  | none => exact Nat.le_refl _
  | some b => exact Nat.le_trans (pop_le b) (by decide)
theorem L_fewC {g : sG} (hT : TW g) {d : Nat} (hd : d < 40) {c : jx_M} (hL : RLa g c) (hf : s_fls g c (2 ^ g 2 0)) (k : Int32 → jx_M → Option (Int32 × jx_M)) : ∀ q n s, s + q = 2 ^ g 2 0 → q < n → L_X5_fewest_33 (nI d) k n (gI (s_fb g d s)) (nI (s_fz (s_fb g d s))) (nI s) c = k (gI (s_fb g d (2 ^ g 2 0))) c := by
  have g2 := hT.1.2.1
  have hp : 2 ^ g 2 0 ≤ 64 := Nat.pow_le_pow_right (by decide) g2
  intro q
  induction q with
  | zero =>
    intro n s hs hn
    obtain ⟨n, rfl⟩ : ∃ q, n = q + 1 := ⟨n - 1, by omega⟩
    rw [L_X5_fewest_33.eq_2, C_setCount hL.2.1 g2, jbd_s, if_pos (nI_le (by omega) (by omega)), show s = 2 ^ g 2 0 by omega]
  | succ q ih =>
    intro n s hs hn
    obtain ⟨n, rfl⟩ : ∃ q, n = q + 1 := ⟨n - 1, by omega⟩
    have ih1 := ih n (s + 1) (by omega) (by omega)
    obtain ⟨f, f1, f2, f3⟩ := hf s (by omega)
    have hz := s_fz_le (s_fb g d s)
    have hpp := pop_le s
    rw [L_X5_fewest_33.eq_2, C_setCount hL.2.1 g2, jbd_s, if_neg (nI_ge (by omega) (by omega)), jin_n (show s < 64 by omega) (by omega), jck_t, jr_n _ _ _ (by omega), f2, F_bc (show s < 64 by omega), jbd_s, F_bc (show s < 64 by omega), jbd_s]
    rw [s_fb_s] at ih1
    by_cases c1 : s_E (s_rf g s) (d + 1) = 0
    · have := (f3 d hd).mpr c1
      rw [if_neg (nI_ge (by omega) (by omega))]
      by_cases c2 : pop s < s_fz (s_fb g d s)
      · rw [if_pos ⟨c1, c2⟩] at ih1
        rw [if_neg (nI_ge c2 (by omega)), jlet_d, nI_1]
        exact ih1
      · rw [if_neg (fun z => c2 z.2)] at ih1
        rw [if_pos (nI_le (by omega) (by omega)), jlet_d, nI_1]
        exact ih1
    · have : ¬ d < f := fun z => c1 ((f3 d hd).mp z)
      rw [if_neg (fun z => c1 z.1)] at ih1
      rw [if_pos (nI_le (by omega) (by omega)), jlet_d, nI_1]
      exact ih1
theorem L_fewM {g : sG} (hT : TW g) {d : Nat} (hd : d < 40) {m : jx_M} (hM : RM g m) (y : Int32) (k : Int32 → jx_M → Option (Int32 × jx_M)) : ∀ q n s M, s + q = 2 ^ g 2 0 → q < n → FK KSW m M → (∀ x, RM (gs g 8 (fun _ => x)) (jx_p M 8 8 (nI x))) → ∃ M', L_X6_fewest_24 (nI d) y k n (gI (s_fb g d s)) (nI s) M = k (gI (s_fb g d (2 ^ g 2 0))) M' ∧ FK KSW m M' ∧ (∀ x, RM (gs g 8 (fun _ => x)) (jx_p M' 8 8 (nI x))) := by
  have g2 := hT.1.2.1
  have hp : 2 ^ g 2 0 ≤ 64 := Nat.pow_le_pow_right (by decide) g2
  have hp1 : 1 ≤ 2 ^ g 2 0 := Nat.one_le_two_pow
  intro q
  induction q with
  | zero =>
    intro n s M hs hn hf hx
    obtain ⟨n, rfl⟩ : ∃ q, n = q + 1 := ⟨n - 1, by omega⟩
    refine ⟨M, ?_, hf, hx⟩
    rw [L_X6_fewest_24.eq_2, F_all (by rw [hf.at 2 (by decide)]; exact hM.2.1) g2, jbd_s, if_pos (nI_lt (by omega) (by omega)), show s = 2 ^ g 2 0 by omega]
  | succ q ih =>
    intro n s M hs hn hf hx
    obtain ⟨n, rfl⟩ : ∃ q, n = q + 1 := ⟨n - 1, by omega⟩
    obtain ⟨-, e2, e3⟩ := jb_st ⟨g 2 0, by omega⟩ ⟨s, by omega⟩ (show s < 2 ^ g 2 0 by omega)
    dsimp only at e2 e3
    have hall := F_all (M := M) (by rw [hf.at 2 (by decide)]; exact hM.2.1) g2
    have hpp := pop_le s
    rw [L_X6_fewest_24.eq_2, hall, jbd_s, if_neg (nI_nlt (by omega) (by omega)), F_bits (show s < 64 by omega), jbd_s, hall, jbd_s]
    have hf1 : FK KSW m (jx_p M 8 8 (nI (2 ^ g 2 0 - 1 - s))) := hf.p (by decide)
    obtain ⟨M1, a1, a2⟩ := F_noneEmpty (g := s_rf g s) (hT.1.k8 e2) hd (hx (2 ^ g 2 0 - 1 - s))
    have hf2 : FK KSW m M1 := hf1.tr (a2.mono KS_W)
    have hx2 : ∀ x, RM (gs g 8 (fun _ => x)) (jx_p M1 8 8 (nI x)) := fun x => ((hx (2 ^ g 2 0 - 1 - s)).fr a2).k8 (x := x)
    obtain ⟨M', d1, d2, d3⟩ := ih n (s + 1) M1 (by omega) (by omega) hf2 hx2
    rw [s_fb_s] at d1
    -- the trial itself
    have tri : pop s < s_fz (s_fb g d s) → ∃ M', jlet (jx_p M 8 8 (nI (2 ^ g 2 0 - 1) &&& (nI s ^^^ (-1)))) (fun M_4 => jbd (F_X6_noneEmpty (nI d) M_4) (fun r_4 M_5 => if r_4 = 0 then jlet (nI s + 1) (fun x5_1 => L_X6_fewest_24 (nI d) y k n (gI (s_fb g d s)) x5_1 M_5) else jlet (nI s + 1) (fun x5_2 => L_X6_fewest_24 (nI d) y k n (nI s) x5_2 M_5))) = k (gI (s_fb g d (2 ^ g 2 0))) M' ∧ FK KSW m M' ∧ (∀ x, RM (gs g 8 (fun _ => x)) (jx_p M' 8 8 (nI x))) := by
      intro c2
      refine ⟨M', ?_, d2, d3⟩
      rw [e3, jlet_d, a1, jbd_s]
      by_cases c1 : s_E (s_rf g s) (d + 1) = 0
      · rw [if_pos ⟨c1, c2⟩] at d1
        rw [if_pos c1, if_neg (by decide), jlet_d, nI_1]
        exact d1
      · rw [if_neg (fun z => c1 z.1)] at d1
        rw [if_neg c1, if_pos rfl, jlet_d, nI_1]
        exact d1
    cases hb : s_fb g d s with
    | none =>
      rw [if_pos gI_neg]
      have := tri (by rw [hb]; show pop s < 7; omega)
      rw [hb] at this
      exact this
    | some b =>
      have hbl := s_fb_lt g d _ _ hb
      rw [if_neg (gI_nneg (by omega)), show gI (some b) = nI b from rfl, F_bits (show b < 64 by omega), jbd_s]
      by_cases c2 : pop s < pop b
      · rw [if_neg (nI_ge c2 (by have := pop_le b; omega)), hall, jbd_s]
        have := tri (by rw [hb]; exact c2)
        rw [hb] at this
        exact this
      · obtain ⟨M', d1, d2, d3⟩ := ih n (s + 1) M (by omega) (by omega) hf hx
        refine ⟨M', ?_, d2, d3⟩
        rw [s_fb_s, if_neg (fun z => by rw [hb] at z; exact c2 z.2), hb] at d1
        rw [if_pos (nI_le (by omega) (by omega)), jlet_d, nI_1]
        exact d1
theorem st_fewest (x : Int32) : jSt (F_X5_fewest x) (F_X6_fewest x) := by
  refine st_dec (α := Nat) (fun x c => jbd (F_X5_findFalls c) (fun r_3 M_3 => L_X5_fewest_33 x (fun x2_1 M_7 => some (x2_1, M_7)) jfu (-9) 7 0 M_3)) (fun x m => jlet (m 8 8 0) (fun x3_1 => L_X6_fewest_24 x x3_1 (fun x4_1 M_11 => jlet (jx_p M_11 8 8 x3_1) (fun M_12 => some (x4_1, M_12))) jfu (-9) 0 m)) (fun _ _ => rfl) (fun _ _ => rfl) ?_ x
  intro g nr ra ri rw c m hI h0 d hd
  obtain ⟨h1, h2, h3, -⟩ := id hI
  have g2 := h1.1.2.1
  have hp : 2 ^ g 2 0 ≤ 64 := Nat.pow_le_pow_right (by decide) g2
  obtain ⟨c1, q1, q2, q3⟩ := C_findFalls hI
  have e1 := L_fewC h1 hd q2.2.2.1 q3 (fun x2_1 M_7 => some (x2_1, M_7)) (2 ^ g 2 0) jfu 0 (by omega) (by unfold jfu; omega)
  obtain ⟨m', b1, b2', b3⟩ := L_fewM h1 hd h2 (nI (g 8 0)) (fun x4_1 M_11 => jlet (jx_p M_11 8 8 (nI (g 8 0))) (fun M_12 => some (x4_1, M_12))) (2 ^ g 2 0) jfu 0 m (by omega) (by unfold jfu; omega) FK.rf (fun x => h2.k8)
  rw [q1, jbd_s, jlet_d, h2.2.2.2.1]
  exact ⟨_, c1, jx_p m' 8 8 (nI (g 8 0)), e1, b1, g, nr, ra, ri, rw, q2.fr2 (fun _ _ => rfl) (b2'.p (by decide)) (b3 (g 8 0))⟩
