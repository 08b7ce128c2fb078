/-- fault or trace change: nothing else -/
theorem IV.ft {g : sG} {nr : Nat} {ra ri : Nat → Nat} {rw : Nat → Int32} {c m c' m' : jx_M} (h : IV g nr ra ri rw c m) (hc : FO 0 [13, 14] c c') (hf : FK [0, 42] m m') (h13 : c' 0 13 0 = m' 8 0 0) (h14 : c' 0 14 0 = m' 8 42 0) : IV g nr ra ri rw c' m' := by
  obtain ⟨h1, h2, h3, h4, h5, h6, h7, h8⟩ := h
  refine ⟨h1, ?_, h3.fr (hc.ob 2 (by decide)), h4.fr (hc.ob 3 (by decide)), ?_, ?_, ⟨h13, h14⟩, ?_⟩
  · unfold RM at h2 ⊢
    rw [hf.at 1 (by decide), hf.at 2 (by decide), hf.at 3 (by decide), hf.at 4 (by decide), hf.at 5 (by decide), hf.at 6 (by decide), hf.at 7 (by decide), hf.at 8 (by decide), hf.at 9 (by decide), hf.at 10 (by decide), hf.at 19 (by decide), hf.at 20 (by decide), hf.at 21 (by decide), hf.at 22 (by decide)]
    exact h2
  · unfold RDG at h5 ⊢
    rw [hc.ob 4 (by decide), hf.at 34 (by decide), hf.at 35 (by decide), hf.at 36 (by decide), hf.at 37 (by decide)]; exact h5
  · unfold SHT at h6 ⊢
    rw [hc.ob 1 (by decide), hf.at 38 (by decide), hf.at 39 (by decide), hf.at 40 (by decide)]; exact h6
  · unfold CCH RR at h8 ⊢
    rw [hc.at 8 (by decide), hc.at 9 (by decide), hc.at 10 (by decide), hc.at 7 (by decide), hc.at 11 (by decide), hc.at 12 (by decide), hc.ob 5 (by decide)]; exact h8
theorem FK.ft {m : jx_M} {v : Int32} : FK [0, 42] m (jx_p m 8 0 v) := FK.p FK.rf (by decide)
theorem FO.ft {c : jx_M} {v : Int32} : FO 0 [13, 14] c (jx_p c 0 13 v) := FO.p FO.rf (by decide)
theorem F_refused (r : Int32) (m : jx_M) : F_X6_refused r m = some (r, jx_p m 8 0 0) := rfl
theorem F_failed (r : Int32) (m : jx_M) : F_X6_failed r m = some (-10 - r, jx_p m 8 0 r) := rfl
theorem C_faulty (r : Int32) (c : jx_M) : F_X5_faulty r c = some (-10 - r, jx_p c 0 13 r) := rfl
theorem jpp (M : jx_M) (o k : Nat) (v w : Int32) : jx_p (jx_p M o k v) o k w = jx_p M o k w := by
  funext o' k'
  unfold jx_p jx_set
  split <;> rfl
/-- both remember the same fault -/
theorem IV.fl {g : sG} {nr : Nat} {ra ri : Nat → Nat} {rw : Nat → Int32} {c m : jx_M} (h : IV g nr ra ri rw c m) (v : Int32) : IV g nr ra ri rw (jx_p c 0 13 v) (jx_p m 8 0 v) :=
  h.ft FO.ft FK.ft (by rw [jx_p_s, jx_p_s]) (by rw [jx_p_k (by decide), jx_p_k (by decide)]; exact h.2.2.2.2.2.2.1.2)
theorem st_as (a b : Int32) : jSt (F_X5_as a b) (F_X6_as a b) := by
  intro c m h
  obtain ⟨g, nr, ra, ri, rw, hI⟩ := id h
  obtain ⟨h1, h2, h3, h4, h5, h6, h7, h8⟩ := id hI
  have g2 := h1.1.2.1
  unfold F_X5_as F_X6_as
  rw [jlet_d, C_isPerson (c := jx_p c 0 13 0) (by rw [jx_p_o (by decide)]; exact h3.2.1) (by omega), F_noPerson h2.2.1 (by omega), jbd_s, jbd_s]
  by_cases ha : 0 ≤ a.toInt ∧ a.toInt < ((g 2 0 : Nat) : Int)
  · rw [if_pos ha, if_neg (by decide), if_pos ha, if_pos rfl, show (3 : Int32) = nI 3 from rfl, sw_lt b 3 (by decide), F_in_c b 2 2 (by decide), jbd_s]
    obtain ⟨p, hp, rfl⟩ := jof_e ha (by omega)
    have a1 := (h2.2.2.1 p hp).1
    have b1 := (h3.2.2 p hp).1
    rw [jin_n (by omega) (by omega), jck_t, jck_t, jr_n _ _ _ (by omega), jr_n _ _ _ (by omega), jx_p_o (by decide), b1, a1]
    by_cases hb : 0 ≤ b.toInt ∧ b.toInt < ((3 : Nat) : Int)
    · rw [if_pos hb, if_pos (show 0 ≤ b.toInt ∧ b.toInt < ((2 : Nat) : Int) + 1 by omega), if_neg (show ¬ (1 : Int32) = 0 by decide)]
      by_cases hk : nI (g 3 p) < b
      · rw [if_pos hk, if_pos hk, C_faulty, F_failed, jbd_s, jbd_s, jpp]
        exact ⟨_, _, _, rfl, rfl, g, nr, ra, ri, rw, hI.fl 2⟩
      · rw [if_neg hk, if_neg hk, F_refused, jbd_s]
        exact ⟨_, _, _, rfl, rfl, g, nr, ra, ri, rw, hI.fl 0⟩
    · rw [if_neg hb, if_neg (show ¬ (0 ≤ b.toInt ∧ b.toInt < ((2 : Nat) : Int) + 1) by omega), if_pos rfl, F_refused, jbd_s]
      exact ⟨_, _, _, rfl, rfl, g, nr, ra, ri, rw, hI.fl 0⟩
  · rw [if_neg ha, if_pos rfl, if_neg ha, if_neg (by decide), F_refused, jbd_s]
    exact ⟨_, _, _, rfl, rfl, g, nr, ra, ri, rw, hI.fl 0⟩
theorem C_leave (a : Int32) (c : jx_M) : F_X5_leave a c = some ((), jx_p c 0 14 (31 * c 0 14 0 + a)) := rfl
theorem F_traced (a : Int32) (m : jx_M) : F_X6_traced a m = some ((), jx_p m 8 42 (31 * m 8 42 0 + a)) := rfl
/-- both leave a number -/
theorem IV.tr {g : sG} {nr : Nat} {ra ri : Nat → Nat} {rw : Nat → Int32} {c m : jx_M} (h : IV g nr ra ri rw c m) (v : Int32) : IV g nr ra ri rw (jx_p c 0 14 (31 * c 0 14 0 + v)) (jx_p m 8 42 (31 * m 8 42 0 + v)) :=
  h.ft (FO.p FO.rf (by decide)) (FK.p FK.rf (by decide)) (by rw [jx_p_k (by decide), jx_p_k (by decide)]; exact h.2.2.2.2.2.2.1.1) (by rw [jx_p_s, jx_p_s, h.2.2.2.2.2.2.1.2])
theorem st_rouse (a : Int32) : jSt (F_X5_rouse a) (F_X6_rouse a) := by
  intro c m h
  obtain ⟨g, nr, ra, ri, rw, hI⟩ := id h
  obtain ⟨h1, h2, h3, h4, h5, h6, h7, h8⟩ := id hI
  have g2 := h1.1.2.1
  unfold F_X5_rouse F_X6_rouse
  rw [C_isPerson h3.2.1 (by omega), F_noPerson h2.2.1 (by omega), jbd_s, jbd_s]
  by_cases ha : 0 ≤ a.toInt ∧ a.toInt < ((g 2 0 : Nat) : Int)
  · rw [if_pos ha, if_neg (by decide), if_pos ha, if_pos rfl]
    obtain ⟨p, hp, rfl⟩ := jof_e ha (by omega)
    have a1 := (h2.2.2.1 p hp).1
    have b1 := (h3.2.2 p hp).1
    simp (disch := omega) only [jin_n, jck_t, jr_n, a1, b1, C_leave, F_traced, jbd_s]
    rw [jx_p_n (by decide), jx_p_n (by decide), a1]
    by_cases hk : nI (g 3 p) = 2
    · rw [if_pos hk, if_pos hk, if_pos hk]
      exact ⟨_, _, _, rfl, rfl, g, nr, ra, ri, rw, hI.tr 5⟩
    · rw [if_neg hk, if_neg hk, if_neg hk]
      exact ⟨_, _, _, rfl, rfl, g, nr, ra, ri, rw, hI.tr 4⟩
  · rw [if_neg ha, if_pos rfl, if_neg ha, if_neg (by decide)]
    exact ⟨_, c, m, rfl, rfl, h⟩
theorem jb_tell : ∀ n : Fin 10, (nI n.val + 100) + nI n.val = 2 * nI n.val + 100 := by decide +kernel
theorem st_tell (a : Int32) : jSt (F_X5_tell a) (F_X6_tell a) := by
  intro c m h
  obtain ⟨g, nr, ra, ri, rw, hI⟩ := id h
  obtain ⟨h1, h2, h3, h4, h5, h6, h7, h8⟩ := id hI
  have g2 := h1.1.2.1
  unfold F_X5_tell F_X6_tell
  rw [C_isPerson h3.2.1 (by omega), F_noPerson h2.2.1 (by omega), jbd_s, jbd_s]
  by_cases ha : 0 ≤ a.toInt ∧ a.toInt < ((g 2 0 : Nat) : Int)
  · rw [if_pos ha, if_neg (by decide), if_pos ha, if_pos rfl]
    obtain ⟨p, hp, rfl⟩ := jof_e ha (by omega)
    obtain ⟨a1, a2, a3, a4, a5⟩ := h2.2.2.1 p hp
    obtain ⟨b1, b2, b3, b4, b5⟩ := h3.2.2 p hp
    have k2 := (h1.1.2.2.1 p hp).1
    have k7 := (h1.1.2.2.1 p hp).2.2.2.2.2
    unfold F_X5_tellEnchanted F_X5_tellHeavy F_X5_tellDreamer
    rcases (show g 3 p = 0 ∨ g 3 p = 1 ∨ g 3 p = 2 by omega) with e | e | e
    · rw [e] at a1 b1
      have f1 : ¬ nI 0 = 2 := by decide
      have f2 : nI 0 ≤ 0 := by decide
      have f3 : nI 0 = 0 := rfl
      have f4 : ¬ nI 0 = 1 := by decide
      simp (disch := omega) only [↓reduceIte, jin_n, jck_t, jr_n, jlet_d, a1, b1, b5, f1, f2, f4, C_leave, F_traced, jbd_s]
      rw [jx_p_n (by decide), a5]
      exact ⟨_, _, _, rfl, rfl, g, nr, ra, ri, rw, hI.tr 1⟩
    · rw [e] at a1 b1
      have f1 : ¬ nI 1 = 2 := by decide
      have f2 : ¬ nI 1 ≤ 0 := by decide
      have f3 : ¬ nI 1 = 0 := by decide
      have f4 : nI 1 = 1 := rfl
      simp (disch := omega) only [↓reduceIte, jin_n, jck_t, jr_n, jlet_d, a1, b1, b5, f1, f2, f3, C_leave, F_traced, jbd_s]
      rw [if_pos f4, if_pos f4, jx_p_n (k' := 7) (by decide), jx_p_n (k' := 7) (by decide), a5]
      exact ⟨_, _, _, rfl, rfl, g, nr, ra, ri, rw, (hI.tr 2).tr 1⟩
    · rw [e] at a1 b1
      have f1 : nI 2 = 2 := rfl
      have f2 : ¬ nI 2 ≤ 0 := by decide
      have f3 : ¬ nI 2 = 0 := by decide
      have f4 : ¬ nI 2 = 1 := by decide
      have := jb_tell ⟨g 7 p, by omega⟩
      dsimp only at this
      simp (disch := omega) only [↓reduceIte, jin_n, jck_t, jr_n, jlet_d, a1, b1, b5, f1, C_leave, F_traced, jbd_s, show ¬ (2 : Int32) ≤ 0 by decide, show ¬ (2 : Int32) = 0 by decide, show ¬ (2 : Int32) = 1 by decide]
      rw [jx_p_n (k' := 7) (by decide), jx_p_n (k' := 7) (by decide), jx_p_n (k' := 7) (by decide), jx_p_n (k' := 7) (by decide), a5, this]
      exact ⟨_, _, _, rfl, rfl, g, nr, ra, ri, rw, (((hI.tr 3).tr 2).tr 1).tr 1⟩
  · rw [if_neg ha, if_pos rfl, if_neg ha, if_neg (by decide)]
    exact ⟨_, c, m, rfl, rfl, h⟩
/-! ===== the calls that ask how it goes ===== -/
theorem C_asItGoes {g : sG} {nr : Nat} {ra ri : Nat → Nat} {rw : Nat → Int32} {c m : jx_M} (h : IV g nr ra ri rw c m) : ∃ c', F_X5_asItGoes c = some ((), c') ∧ IV g nr ra ri rw c' m ∧ RR g 5 40 c' ∧ c' 5 1 0 = nI (s_E g 40) ∧ (∀ k, k ≠ 8 → c' 0 k = c 0 k) ∧ (∀ o, o ≠ 0 → o ≠ 5 → c' o = c o) := by
  obtain ⟨h1, h2, h3, h4, h5, h6, h7, h8, h9, h10⟩ := id h
  unfold F_X5_asItGoes
  rcases h8 with e | ⟨e, q1, q2⟩
  · rw [if_pos e]
    obtain ⟨c1, r, a1, a2, a3, a4, a5, a6, a7, a8⟩ := F_run h1.1 (o := 5) (w := 3) (by decide) (by decide) (y2 := 39) (l1 := 40) (lim := 1000) (fun r hr => by
      rw [show (39 : Int32) = nI 39 from rfl, nI_ltI (by omega) (by omega)]; omega) (by decide) h3 h4
    have hr : r = 40 := by
      rcases a4 with z | z | z
      · omega
      · omega
      · have := (s_pre_inv h1.1 r).2.2.2
        unfold s_E at z
        omega
    subst hr
    rw [show (1000 : Int32) = nI 1000 from rfl, a1, jbd_s, jlet_d]
    refine ⟨jx_p c1 0 8 1, rfl, ⟨h1, h2, ?_, ?_, ?_, ?_, ?_, Or.inr ⟨jx_p_s _ _ _ _ _, ?_, ?_⟩, ?_, ?_⟩, ?_, ?_, ?_, ?_⟩
    · exact h3.fr (by rw [jx_p_o (by decide), a2.ob 2 (by decide)])
    · exact h4.fr (by rw [jx_p_o (by decide), a2.ob 3 (by decide)])
    · unfold RDG at h5 ⊢; rw [jx_p_o (by decide), a2.ob 4 (by decide)]; exact h5
    · unfold SHT at h6 ⊢; rw [jx_p_o (by decide), a2.ob 1 (by decide)]; exact h6
    · rw [jx_p_k (by decide), jx_p_k (by decide), a2.ob 0 (by decide)]; exact h7
    · unfold RR at a6 ⊢; rw [jx_p_o (by decide)]; exact a6
    · rw [jx_p_o (by decide)]; exact a7
    · rw [jx_p_k (by decide), jx_p_k (by decide), a2.ob 0 (by decide)]; exact h9
    · rw [jx_p_k (by decide), jx_p_k (by decide), jx_p_k (by decide), a2.ob 0 (by decide)]; exact h10
    · unfold RR at a6 ⊢; rw [jx_p_o (by decide)]; exact a6
    · rw [jx_p_o (by decide)]; exact a7
    · intro k hk; rw [jx_p_k hk, a2.ob 0 (by decide)]
    · intro o ho ho2; rw [jx_p_o ho, a2.ob o ho2]
  · rw [if_neg (by rw [e]; decide)]
    exact ⟨c, rfl, h, q1, q2, fun _ _ => rfl, fun _ _ _ => rfl⟩
theorem KS_in : ∀ k ∈ KS, k ∈ KSC := by decide
theorem st_guard (a b : Int32) : jSt (F_X5_guard a b) (F_X6_guard a b) := by
  intro c m h
  obtain ⟨g, nr, ra, ri, rw, hI⟩ := id h
  obtain ⟨h1, h2, h3, h4, h5, h6, h7, h8⟩ := id hI
  have g1 := h1.1.1
  unfold F_X5_guard F_X6_guard
  rw [C_isPost h3.1 (by omega), F_noPost h2.1 (by omega), jbd_s, jbd_s]
  by_cases ha : 0 ≤ a.toInt ∧ a.toInt < ((g 1 0 : Nat) : Int)
  · rw [if_pos ha, if_neg (by decide), if_pos ha, if_pos rfl, C_isDecade, F_isDecade, jbd_s, jbd_s]
    by_cases hb : 0 ≤ b.toInt ∧ b.toInt < 40
    · rw [if_pos hb, if_neg (show ¬ (1 : Int32) = 0 by decide), if_neg (show ¬ (1 : Int32) = 0 by decide)]
      obtain ⟨j, hj, rfl⟩ := jof_e ha (by omega)
      obtain ⟨d, hd, rfl⟩ := jof_e (n := 40) hb (by omega)
      obtain ⟨c1, q1, q2, q3, q4, q5, q6⟩ := C_asItGoes hI
      obtain ⟨m1, p1, p2, p3, p4⟩ := F_goTo h1.1 hd h2
      unfold F_X0_guardAt
      rw [q1, jbd_s, p1, jbd_s, jix4, jin_n (by omega) (by omega), jck_t, jr_n _ _ _ (by omega), jbd_s, jin_n (by omega) (by omega), jck_t, jr_n _ _ _ (by omega), (q3 d hd).1 j hj, p3.2.1 j hj]
      exact ⟨_, _, _, rfl, rfl, g, nr, ra, ri, rw, q2.fr (fun _ _ => rfl) (p2.mono KS_in)⟩
    · rw [if_neg hb, if_pos rfl, if_pos rfl]
      exact ⟨_, c, m, rfl, rfl, h⟩
  · rw [if_neg ha, if_pos rfl, if_neg ha, if_neg (by decide)]
    exact ⟨_, c, m, rfl, rfl, h⟩
