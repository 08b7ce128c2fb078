/-! ===== the calls that tell the orders ===== -/
theorem GW.k8 {g : sG} {x : Nat} (h : GW g) (hx : x < 64) : GW (gs g 8 (fun _ => x)) := ⟨h.1, h.2.1, h.2.2.1, hx, h.2.2.2.2⟩
theorem GW.k9 {g : sG} {x : Nat} (h : GW g) (hx : x ≤ 2) : GW (gs g 9 (fun _ => x)) := ⟨h.1, h.2.1, h.2.2.1, h.2.2.2.1, hx, h.2.2.2.2.2⟩
theorem GW.k10 {g : sG} {p x : Nat} (h : GW g) (hx : x ≤ 40) : GW (gs g 10 (nu (g 10) p x)) := ⟨h.1, h.2.1, h.2.2.1, h.2.2.2.1, h.2.2.2.2.1, fun j hj => (by
  show nu (g 10) p x j ≤ 40
  by_cases e : j = p
  · subst e; rw [nu_s]; exact hx
  · rw [nu_n e]; exact h.2.2.2.2.2.1 j hj), h.2.2.2.2.2.2⟩
theorem GW.k19 {g : sG} {x : Nat} (h : GW g) (hx : x ≤ g 19 0) : GW (gs g 19 (fun _ => x)) := ⟨h.1, h.2.1, h.2.2.1, h.2.2.2.1, h.2.2.2.2.1, h.2.2.2.2.2.1, Nat.le_trans hx h.2.2.2.2.2.2.1, fun j hj => h.2.2.2.2.2.2.2 j (Nat.lt_of_lt_of_le hj hx)⟩
theorem GW.aw {g : sG} {a p d : Nat} (h : GW g) (hw : g 19 0 ≤ 6) (ha : a < g 1 0) (hp : p < g 2 0) (hd : d < 40) : GW (s_aw g a p d) := ⟨h.1, h.2.1, h.2.2.1, h.2.2.2.1, h.2.2.2.2.1, h.2.2.2.2.2.1, (by show g 19 0 + 1 ≤ 7; omega), fun j hj => (by
  have hj2 : j < g 19 0 + 1 := hj
  show nu (g 20) (g 19 0) a j < g 1 0 ∧ nu (g 21) (g 19 0) p j < g 2 0 ∧ nu (g 22) (g 19 0) d j < 40
  by_cases e : j = g 19 0
  · subst e; rw [nu_s, nu_s, nu_s]; exact ⟨ha, hp, hd⟩
  · rw [nu_n e, nu_n e, nu_n e]; exact h.2.2.2.2.2.2.2 j (by omega))⟩
theorem RM.k8 {g : sG} {m : jx_M} {x : Nat} (h : RM g m) : RM (gs g 8 (fun _ => x)) (jx_p m 8 8 (nI x)) := by
  have hf : FK [8] m (jx_p m 8 8 (nI x)) := FK.p FK.rf (by decide)
  obtain ⟨a1, a2, a3, a4, a5, a6, a7, a8⟩ := h
  exact ⟨by rw [hf.at 1 (by decide)]; exact a1, by rw [hf.at 2 (by decide)]; exact a2, by rw [hf.at 3 (by decide), hf.at 4 (by decide), hf.at 5 (by decide), hf.at 6 (by decide), hf.at 7 (by decide)]; exact a3, jx_p_s _ _ _ _ _, by rw [hf.at 9 (by decide)]; exact a5, by rw [hf.at 10 (by decide)]; exact a6, by rw [hf.at 19 (by decide)]; exact a7, by rw [hf.at 20 (by decide), hf.at 21 (by decide), hf.at 22 (by decide)]; exact a8⟩
theorem RM.k9 {g : sG} {m : jx_M} {x : Nat} (h : RM g m) : RM (gs g 9 (fun _ => x)) (jx_p m 8 9 (nI x)) := by
  have hf : FK [9] m (jx_p m 8 9 (nI x)) := FK.p FK.rf (by decide)
  obtain ⟨a1, a2, a3, a4, a5, a6, a7, a8⟩ := h
  exact ⟨by rw [hf.at 1 (by decide)]; exact a1, by rw [hf.at 2 (by decide)]; exact a2, by rw [hf.at 3 (by decide), hf.at 4 (by decide), hf.at 5 (by decide), hf.at 6 (by decide), hf.at 7 (by decide)]; exact a3, by rw [hf.at 8 (by decide)]; exact a4, jx_p_s _ _ _ _ _, by rw [hf.at 10 (by decide)]; exact a6, by rw [hf.at 19 (by decide)]; exact a7, by rw [hf.at 20 (by decide), hf.at 21 (by decide), hf.at 22 (by decide)]; exact a8⟩
theorem RM.k10 {g : sG} {m : jx_M} {p x : Nat} (h : RM g m) : RM (gs g 10 (nu (g 10) p x)) (jx_set m 8 10 (upd (m 8 10) p (nI x))) := by
  have hf : FK [10] m (jx_set m 8 10 (upd (m 8 10) p (nI x))) := FK.set FK.rf (by decide)
  obtain ⟨a1, a2, a3, a4, a5, a6, a7, a8⟩ := h
  refine ⟨by rw [hf.at 1 (by decide)]; exact a1, by rw [hf.at 2 (by decide)]; exact a2, by rw [hf.at 3 (by decide), hf.at 4 (by decide), hf.at 5 (by decide), hf.at 6 (by decide), hf.at 7 (by decide)]; exact a3, by rw [hf.at 8 (by decide)]; exact a4, by rw [hf.at 9 (by decide)]; exact a5, fun j hj => ?_, by rw [hf.at 19 (by decide)]; exact a7, by rw [hf.at 20 (by decide), hf.at 21 (by decide), hf.at 22 (by decide)]; exact a8⟩
  rw [jx_set_s]
  show _ = nI (nu (g 10) p x j)
  by_cases e : j = p
  · subst e; simp [upd, nu]
  · simp only [upd, nu, e, if_false]; exact a6 j hj
theorem RM.k19 {g : sG} {m : jx_M} {x : Nat} (h : RM g m) (hx : x ≤ g 19 0) : RM (gs g 19 (fun _ => x)) (jx_p m 8 19 (nI x)) := by
  have hf : FK [19] m (jx_p m 8 19 (nI x)) := FK.p FK.rf (by decide)
  obtain ⟨a1, a2, a3, a4, a5, a6, a7, a8⟩ := h
  exact ⟨by rw [hf.at 1 (by decide)]; exact a1, by rw [hf.at 2 (by decide)]; exact a2, by rw [hf.at 3 (by decide), hf.at 4 (by decide), hf.at 5 (by decide), hf.at 6 (by decide), hf.at 7 (by decide)]; exact a3, by rw [hf.at 8 (by decide)]; exact a4, by rw [hf.at 9 (by decide)]; exact a5, by rw [hf.at 10 (by decide)]; exact a6, jx_p_s _ _ _ _ _, by rw [hf.at 20 (by decide), hf.at 21 (by decide), hf.at 22 (by decide)]; exact fun j hj => a8 j (Nat.lt_of_lt_of_le hj hx)⟩
/-- one will more in the model's memory -/
theorem RM.aw {g : sG} {m m' : jx_M} {a p d : Nat} (h : RM g m) (hf : FK [19, 20, 21, 22] m m') (h19 : m' 8 19 0 = nI (g 19 0 + 1)) (h20 : m' 8 20 = upd (m 8 20) (g 19 0) (nI a)) (h21 : m' 8 21 = upd (m 8 21) (g 19 0) (nI p)) (h22 : m' 8 22 = upd (m 8 22) (g 19 0) (nI d)) : RM (s_aw g a p d) m' := by
  obtain ⟨a1, a2, a3, a4, a5, a6, a7, a8⟩ := h
  refine ⟨by rw [hf.at 1 (by decide)]; exact a1, by rw [hf.at 2 (by decide)]; exact a2, by rw [hf.at 3 (by decide), hf.at 4 (by decide), hf.at 5 (by decide), hf.at 6 (by decide), hf.at 7 (by decide)]; exact a3, by rw [hf.at 8 (by decide)]; exact a4, by rw [hf.at 9 (by decide)]; exact a5, by rw [hf.at 10 (by decide)]; exact a6, h19, fun j hj => ?_⟩
  have hj2 : j < g 19 0 + 1 := hj
  rw [h20, h21, h22]
  show _ = nI (nu (g 20) (g 19 0) a j) ∧ _ = nI (nu (g 21) (g 19 0) p j) ∧ _ = nI (nu (g 22) (g 19 0) d j)
  by_cases e : j = g 19 0
  · subst e; simp [upd, nu]
  · simp only [upd, nu, e, if_false]; exact a8 j (by omega)
theorem RO.k8 {g : sG} {w : Nat} {c : jx_M} {x : Nat} (h : RO g w c) : RO (gs g 8 (fun _ => x)) w (jx_p c w 1 (nI x)) := by
  obtain ⟨a1, a2, a3, a4, a5⟩ := h
  exact ⟨by rw [jx_p_k (by decide)]; exact a1, jx_p_s _ _ _ _ _, by rw [jx_p_k (by decide)]; exact a3, by rw [jx_p_k (by decide)]; exact a4, by rw [jx_p_k (by decide), jx_p_k (by decide), jx_p_k (by decide)]; exact a5⟩
theorem RO.k9 {g : sG} {w : Nat} {c : jx_M} {x : Nat} (h : RO g w c) : RO (gs g 9 (fun _ => x)) w (jx_p c w 0 (nI x)) := by
  obtain ⟨a1, a2, a3, a4, a5⟩ := h
  exact ⟨jx_p_s _ _ _ _ _, by rw [jx_p_k (by decide)]; exact a2, by rw [jx_p_k (by decide)]; exact a3, by rw [jx_p_k (by decide)]; exact a4, by rw [jx_p_k (by decide), jx_p_k (by decide), jx_p_k (by decide)]; exact a5⟩
theorem RO.k10 {g : sG} {w : Nat} {c : jx_M} {p x : Nat} (h : RO g w c) : RO (gs g 10 (nu (g 10) p x)) w (jx_set c w 3 (upd (c w 3) p (nI x))) := by
  obtain ⟨a1, a2, a3, a4, a5⟩ := h
  refine ⟨by rw [jx_set_k (by decide)]; exact a1, by rw [jx_set_k (by decide)]; exact a2, by rw [jx_set_k (by decide)]; exact a3, fun j hj => ?_, by rw [jx_set_k (by decide), jx_set_k (by decide), jx_set_k (by decide)]; exact a5⟩
  rw [jx_set_s]
  show _ = nI (nu (g 10) p x j)
  by_cases e : j = p
  · subst e; simp [upd, nu]
  · simp only [upd, nu, e, if_false]; exact a4 j hj
theorem RO.k19 {g : sG} {w : Nat} {c : jx_M} {x : Nat} (h : RO g w c) (hx : x ≤ g 19 0) : RO (gs g 19 (fun _ => x)) w (jx_p c w 2 (nI x)) := by
  obtain ⟨a1, a2, a3, a4, a5⟩ := h
  exact ⟨by rw [jx_p_k (by decide)]; exact a1, by rw [jx_p_k (by decide)]; exact a2, jx_p_s _ _ _ _ _, by rw [jx_p_k (by decide)]; exact a4, by rw [jx_p_k (by decide), jx_p_k (by decide), jx_p_k (by decide)]; exact fun j hj => a5 j (Nat.lt_of_lt_of_le hj hx)⟩
/-- one will more in the component's memory -/
theorem C_addWill {g : sG} {w : Nat} {c : jx_M} (h : RO g w c) (hw : g 19 0 ≤ 6) (a p d : Nat) : ∃ c', F_X2_addWill w (nI a) (nI p) (nI d) c = some ((), c') ∧ FO w [2, 4, 5, 6] c c' ∧ RO (s_aw g a p d) w c' := by
  obtain ⟨a1, a2, a3, a4, a5⟩ := h
  unfold F_X2_addWill
  rw [a3, show (6 : Int32) = nI 6 from rfl, if_pos (nI_le hw (by decide)), jin_n (by omega) (by omega), jck_t, jw_n _ _ _ _ (by omega), jlet_d, jx_set_k (by decide), a3, jin_n (by omega) (by omega), jck_t, jw_n _ _ _ _ (by omega), jlet_d, jx_set_k (by decide), jx_set_k (by decide), jx_set_k (by decide), a3, jin_n (by omega) (by omega), jck_t, jw_n _ _ _ _ (by omega), jlet_d, jx_set_k (by decide), jx_set_k (by decide), jx_set_k (by decide), jx_set_k (by decide), jx_set_k (by decide), a3, nI_1, jlet_d]
  refine ⟨_, rfl, FO.p (FO.set (FO.set (FO.set FO.rf (by decide)) (by decide)) (by decide)) (by decide), ?_⟩
  refine ⟨?_, ?_, jx_p_s _ _ _ _ _, ?_, fun j hj => ?_⟩
  · rw [jx_p_k (by decide), jx_set_k (by decide), jx_set_k (by decide), jx_set_k (by decide)]; exact a1
  · rw [jx_p_k (by decide), jx_set_k (by decide), jx_set_k (by decide), jx_set_k (by decide)]; exact a2
  · rw [jx_p_k (by decide), jx_set_k (by decide), jx_set_k (by decide), jx_set_k (by decide)]; exact a4
  · have hj2 : j < g 19 0 + 1 := hj
    rw [jx_p_k (by decide), jx_set_k (by decide), jx_set_k (by decide), jx_set_s, jx_p_k (by decide), jx_set_k (by decide), jx_set_s, jx_p_k (by decide), jx_set_s]
    show _ = nI (nu (g 20) (g 19 0) a j) ∧ _ = nI (nu (g 21) (g 19 0) p j) ∧ _ = nI (nu (g 22) (g 19 0) d j)
    by_cases e : j = g 19 0
    · subst e; simp [upd, nu]
    · simp only [upd, nu, e, if_false]; exact a5 j (by omega)
/-- unsettled -/
def jU (c : jx_M) : jx_M := jx_p (jx_p (jx_p c 0 8 0) 0 9 0) 0 10 0
theorem C_unsettle (c : jx_M) : F_X5_unsettle c = some ((), jU c) := rfl
theorem jU_o {c : jx_M} {o : Nat} (h : o ≠ 0) : jU c o = c o := by unfold jU; rw [jx_p_o h, jx_p_o h, jx_p_o h]
theorem jU_k {c : jx_M} {k : Nat} (h : k ≠ 8 ∧ k ≠ 9 ∧ k ≠ 10) : jU c 0 k = c 0 k := by unfold jU; rw [jx_p_k h.2.2, jx_p_k h.2.1, jx_p_k h.1]
theorem jU_CCH (g : sG) (c : jx_M) : CCH g (jU c) := by
  unfold jU
  exact ⟨Or.inl (by rw [jx_p_k (by decide), jx_p_k (by decide), jx_p_s]), Or.inl (by rw [jx_p_k (by decide), jx_p_s]), Or.inl (jx_p_s _ _ _ _ _)⟩
/-- new orders over the same land -/
theorem IV.ord {g g' : sG} {nr : Nat} {ra ri : Nat → Nat} {rw : Nat → Int32} {c m c' m' : jx_M} (h : IV g nr ra ri rw c m) (hT : TW g') (hM : RM g' m') (hO : RO g' 3 c') (hp : g' 1 = g 1 ∧ g' 2 = g 2 ∧ g' 3 = g 3 ∧ g' 4 = g 4 ∧ g' 5 = g 5 ∧ g' 6 = g 6 ∧ g' 7 = g 7) (hc : ∀ o, o ≠ 3 → c' o = c o) (hf : FK [8, 9, 10, 19, 20, 21, 22] m m') : IV g' nr ra ri rw (jU c') m' := by
  obtain ⟨h1, h2, h3, h4, h5, h6, h7, h8⟩ := h
  obtain ⟨p1, p2, p3, p4, p5, p6, p7⟩ := hp
  refine ⟨hT, hM, ?_, hO.fr (jU_o (by decide)), ?_, ?_, ?_, jU_CCH _ _⟩
  · unfold RLa at h3 ⊢
    rw [jU_o (by decide), hc 2 (by decide), p1, p2, p3, p4, p5, p6, p7]; exact h3
  · unfold RDG at h5 ⊢
    rw [jU_o (by decide), hc 4 (by decide), p1, hf.at 34 (by decide), hf.at 35 (by decide), hf.at 36 (by decide), hf.at 37 (by decide)]; exact h5
  · unfold SHT at h6 ⊢
    rw [jU_o (by decide), hc 1 (by decide), hf.at 38 (by decide), hf.at 39 (by decide), hf.at 40 (by decide)]; exact h6
  · rw [jU_k (by decide), jU_k (by decide), hc 0 (by decide), hf.at 0 (by decide), hf.at 42 (by decide)]; exact h7
theorem st_law (a : Int32) : jSt (F_X5_law a) (F_X6_law a) := by
  intro c m h
  obtain ⟨g, nr, ra, ri, rw, hI⟩ := id h
  obtain ⟨h1, h2, h3, h4, h5, h6, h7, h8⟩ := id hI
  have g1 := h1.1.1
  have g2 := h1.1.2.1
  unfold F_X5_law F_X6_law
  rw [show (3 : Int32) = nI 3 from rfl, sw_lt a 3 (by decide), F_in_c a 2 2 (by decide), jbd_s]
  by_cases ha : 0 ≤ a.toInt ∧ a.toInt < ((3 : Nat) : Int)
  · rw [if_pos ha, if_pos (show 0 ≤ a.toInt ∧ a.toInt < ((2 : Nat) : Int) + 1 by omega), if_neg (by decide), C_isLand h3.1 (by omega), jbd_s, h2.2.1]
    obtain ⟨j, hj, rfl⟩ := jof_e (x := a) (n := 3) ha (by decide)
    by_cases hl : g 1 0 = 0
    · rw [if_pos hl, if_pos rfl, if_pos (by rw [h1.2.2.mp hl]; rfl)]
      exact ⟨_, c, m, rfl, rfl, h⟩
    · rw [if_neg hl, if_neg (by decide), if_neg (nI_ne0 (by have := h1.2.2; omega) (by omega)), jlet_d, jlet_d, C_unsettle, jbd_s, jlet_d, jlet_d, h4.1, h2.2.2.2.2.1]
      exact ⟨_, _, _, rfl, rfl, gs g 9 (fun _ => j), nr, ra, ri, rw, hI.ord ⟨h1.1.k9 (by omega), h1.2⟩ h2.k9 h4.k9 ⟨rfl, rfl, rfl, rfl, rfl, rfl, rfl⟩ (fun o ho => jx_p_o ho) (FK.p FK.rf (by decide))⟩
  · rw [if_neg ha, if_neg (show ¬ (0 ≤ a.toInt ∧ a.toInt < ((2 : Nat) : Int) + 1) by omega), if_pos rfl]
    exact ⟨_, c, m, rfl, rfl, h⟩
