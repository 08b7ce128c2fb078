theorem jb_xor : ∀ x : Fin 64, ∀ i : Fin 6, nI x.val ^^^ ((1 : Int32) <<< (nI i.val &&& 31)) = nI (x.val ^^^ 2 ^ i.val) ∧ (x.val.testBit i.val = false → x.val ^^^ 2 ^ i.val = x.val ||| 2 ^ i.val ∧ x.val &&& (63 - 2 ^ i.val) = x.val) ∧ (x.val.testBit i.val = true → x.val ^^^ 2 ^ i.val = x.val &&& (63 - 2 ^ i.val) ∧ x.val ||| 2 ^ i.val = x.val) ∧ ((nI x.val &&& ((1 : Int32) <<< (nI i.val &&& 31)) = 0) = (x.val.testBit i.val = false)) := by decide +kernel
theorem gs_id (g : sG) : gs g 8 (fun _ => g 8 0) 8 0 = g 8 0 := rfl
theorem RM.k8i {g : sG} {m : jx_M} (h : RM g m) : RM g (jx_p m 8 8 (nI (g 8 0))) := h.k8 (x := g 8 0)
theorem st_refuse (a b : Int32) (hb : b = 0 ∨ b = 1) : jSt (F_X5_refuse a b) (F_X6_refuse a b) := by
  intro c m h
  obtain ⟨g, nr, ra, ri, rw, hI⟩ := id h
  obtain ⟨h1, h2, h3, h4, h5, h6, h7, h8⟩ := id hI
  have g2 := h1.1.2.1
  have g8 := h1.1.2.2.2.1
  unfold F_X5_refuse F_X6_refuse
  rw [C_isPerson h3.2.1 (by omega), F_noPerson h2.2.1 (by omega), jbd_s, jbd_s]
  by_cases ha : 0 ≤ a.toInt ∧ a.toInt < ((g 2 0 : Nat) : Int)
  · rw [if_pos ha, if_neg (by decide), if_pos ha, if_pos rfl]
    obtain ⟨p, hp, rfl⟩ := jof_e ha (by omega)
    obtain ⟨x1, x2, x3, x4⟩ := jb_xor ⟨g 8 0, g8⟩ ⟨p, by omega⟩
    dsimp only at x1 x2 x3 x4
    rw [h2.2.2.2.1, F_isIn g8 (by omega), jbd_s, jlet_d, h4.2.1, x1, h2.2.2.2.1, jban g8 (by omega), jbor g8 (by omega)]
    simp only [x4]
    cases hbit : (g 8 0).testBit p with
    | false =>
      obtain ⟨y1, y2⟩ := x2 hbit
      rw [if_pos rfl]
      rcases hb with rfl | rfl
      · rw [if_pos rfl, if_pos rfl, jlet_d, y2, if_pos (by decide)]
        exact ⟨_, _, _, rfl, rfl, g, nr, ra, ri, rw, h1, h2.k8i, h3, h4, by unfold RDG at h5 ⊢; rw [jx_p_n (by decide), jx_p_n (by decide), jx_p_n (by decide), jx_p_n (by decide)]; exact h5, by unfold SHT at h6 ⊢; rw [jx_p_n (by decide), jx_p_n (by decide), jx_p_n (by decide)]; exact h6, by rw [jx_p_n (by decide), jx_p_n (by decide)]; exact h7, h8⟩
      · rw [if_neg (by decide), if_neg (by decide), jlet_d, jlet_d, C_unsettle, jbd_s, y1, if_neg (by decide)]
        exact ⟨_, _, _, rfl, rfl, gs g 8 (fun _ => g 8 0 ||| 2 ^ p), nr, ra, ri, rw, hI.ord ⟨h1.1.k8 (jbol2 g8 (by omega)), h1.2⟩ h2.k8 h4.k8 ⟨rfl, rfl, rfl, rfl, rfl, rfl, rfl⟩ (fun o ho => jx_p_o ho) (FK.p FK.rf (by decide))⟩
    | true =>
      obtain ⟨y1, y2⟩ := x3 hbit
      rw [if_neg (by decide)]
      rcases hb with rfl | rfl
      · rw [if_neg (by decide), if_pos rfl, jlet_d, jlet_d, C_unsettle, jbd_s, y1, if_neg (by decide)]
        exact ⟨_, _, _, rfl, rfl, gs g 8 (fun _ => g 8 0 &&& (63 - 2 ^ p)), nr, ra, ri, rw, hI.ord ⟨h1.1.k8 (jbtl g8), h1.2⟩ h2.k8 h4.k8 ⟨rfl, rfl, rfl, rfl, rfl, rfl, rfl⟩ (fun o ho => jx_p_o ho) (FK.p FK.rf (by decide))⟩
      · rw [if_pos rfl, if_neg (by decide), jlet_d, y2, if_pos (by decide)]
        exact ⟨_, _, _, rfl, rfl, g, nr, ra, ri, rw, h1, h2.k8i, h3, h4, by unfold RDG at h5 ⊢; rw [jx_p_n (by decide), jx_p_n (by decide), jx_p_n (by decide), jx_p_n (by decide)]; exact h5, by unfold SHT at h6 ⊢; rw [jx_p_n (by decide), jx_p_n (by decide), jx_p_n (by decide)]; exact h6, by rw [jx_p_n (by decide), jx_p_n (by decide)]; exact h7, h8⟩
  · rw [if_neg ha, if_pos rfl, if_neg ha, if_neg (by decide)]
    exact ⟨_, c, m, rfl, rfl, h⟩
theorem st_will (a b d : Int32) : jSt (F_X5_will a b d) (F_X6_will a b d) := by
  intro c m h
  obtain ⟨g, nr, ra, ri, rw, hI⟩ := id h
  obtain ⟨h1, h2, h3, h4, h5, h6, h7, h8⟩ := id hI
  have g1 := h1.1.1
  have g2 := h1.1.2.1
  have g19 := h1.2.1
  have hw := h2.2.2.2.2.2.2.1
  unfold F_X5_will F_X6_will
  rw [C_isPost h3.1 (by omega), F_noPost h2.1 (by omega), jbd_s, jbd_s]
  by_cases ha : 0 ≤ a.toInt ∧ a.toInt < ((g 1 0 : Nat) : Int)
  · rw [if_pos ha, if_neg (by decide), if_pos ha, if_pos rfl, C_isPerson h3.2.1 (by omega), F_noPerson h2.2.1 (by omega), jbd_s, jbd_s]
    by_cases hb : 0 ≤ b.toInt ∧ b.toInt < ((g 2 0 : Nat) : Int)
    · rw [if_pos hb, if_neg (by decide), if_pos hb, if_pos rfl, C_isDecade, F_isDecade, jbd_s, jbd_s]
      by_cases hd : 0 ≤ d.toInt ∧ d.toInt < 40
      · rw [if_pos hd, if_neg (show ¬ (1 : Int32) = 0 by decide), if_neg (show ¬ (1 : Int32) = 0 by decide)]
        obtain ⟨a, ha2, rfl⟩ := jof_e ha (by omega)
        obtain ⟨b, hb2, rfl⟩ := jof_e hb (by omega)
        obtain ⟨d, hd2, rfl⟩ := jof_e (n := 40) hd (by omega)
        rw [h4.2.2.1, hw, show (6 : Int32) = nI 6 from rfl]
        by_cases h6w : g 19 0 = 6
        · rw [if_neg (nI_nlt (by omega) (by omega)), if_pos (by rw [h6w])]
          exact ⟨_, c, m, rfl, rfl, h⟩
        · rw [if_pos (nI_lt (by omega) (by omega)), if_neg (by rw [nI_eq (by omega) (by omega)]; exact h6w)]
          obtain ⟨c1, q1, q2, q3⟩ := C_addWill h4 g19 a b d
          rw [q1, jbd_s, C_unsettle, jbd_s, jU_o (by decide), q3.2.2.1]
          rw [jin_n (by omega) (by omega), jck_t, jw_n _ _ _ _ (by omega), jlet_d, jx_set_n (by decide), hw, jin_n (by omega) (by omega), jck_t, jw_n _ _ _ _ (by omega), jlet_d, jx_set_k (by decide), jx_set_k (by decide), jx_set_k (by decide), hw, jin_n (by omega) (by omega), jck_t, jw_n _ _ _ _ (by omega), jlet_d, jx_set_k (by decide), jx_set_k (by decide), jx_set_k (by decide), jx_set_k (by decide), jx_set_k (by decide), hw, nI_1, jlet_d, jx_p_s]
          refine ⟨_, _, _, rfl, rfl, s_aw g a b d, nr, ra, ri, rw, hI.ord ⟨h1.1.aw g19 ha2 hb2 hd2, by show g 19 0 + 1 ≤ 6; omega, h1.2.2⟩ (h2.aw ?_ (jx_p_s _ _ _ _ _) ?_ ?_ ?_) q3 ⟨rfl, rfl, rfl, rfl, rfl, rfl, rfl⟩ (fun o ho => q2.ob o ho) ?_⟩
          · exact FK.p (FK.set (FK.set (FK.set FK.rf (by decide)) (by decide)) (by decide)) (by decide)
          · rw [jx_p_k (by decide), jx_set_k (by decide), jx_set_k (by decide), jx_set_s]
          · rw [jx_p_k (by decide), jx_set_k (by decide), jx_set_s]
          · rw [jx_p_k (by decide), jx_set_s]
          · exact FK.p (FK.set (FK.set (FK.set FK.rf (by decide)) (by decide)) (by decide)) (by decide)
      · rw [if_neg hd, if_pos rfl, if_pos rfl]
        exact ⟨_, c, m, rfl, rfl, h⟩
    · rw [if_neg hb, if_pos rfl, if_neg hb, if_neg (by decide)]
      exact ⟨_, c, m, rfl, rfl, h⟩
  · rw [if_neg ha, if_pos rfl, if_neg ha, if_neg (by decide)]
    exact ⟨_, c, m, rfl, rfl, h⟩
theorem F_in_n2 (x : Int32) {n : Nat} (hn : n < 2 ^ 31) (M : jx_M) : F_X6_in x.toInt64 0 (nI n).toInt64 M = some (if 0 ≤ x.toInt ∧ x.toInt < n + 1 then 1 else 0, M) := F_in_c x n _ (by rw [j64_toInt, nI_toInt hn]) M
theorem st_burn (a : Int32) : jSt (F_X5_burn a) (F_X6_burn a) := by
  intro c m h
  obtain ⟨g, nr, ra, ri, rw, hI⟩ := id h
  obtain ⟨h1, h2, h3, h4, h5, h6, h7, h8⟩ := id hI
  have g19 := h1.2.1
  have hw := h2.2.2.2.2.2.2.1
  unfold F_X5_burn F_X6_burn
  rw [h4.2.2.1, sw_le a (g 19 0) (by omega), hw, F_in_n2 a (by omega), jbd_s]
  by_cases ha : 0 ≤ a.toInt ∧ a.toInt < ((g 19 0 : Nat) : Int) + 1
  · rw [if_pos ha, if_pos ha, if_neg (by decide)]
    obtain ⟨j, hj, rfl⟩ := jof_e (x := a) (n := g 19 0 + 1) ⟨ha.1, by omega⟩ (by omega)
    rw [jlet_d, jlet_d, hw, pk_sub (by omega), C_unsettle, jbd_s, jU_o (by decide), jx_p_s, jx_p_s]
    exact ⟨_, _, _, rfl, rfl, gs g 19 (fun _ => g 19 0 - j), nr, ra, ri, rw, hI.ord ⟨h1.1.k19 (by omega), by show g 19 0 - j ≤ 6; omega, h1.2.2⟩ (h2.k19 (by omega)) (h4.k19 (by omega)) ⟨rfl, rfl, rfl, rfl, rfl, rfl, rfl⟩ (fun o ho => jx_p_o ho) (FK.p FK.rf (by decide))⟩
  · rw [if_neg ha, if_neg ha, if_pos rfl]
    exact ⟨_, c, m, rfl, rfl, h⟩
theorem st_giveUp (a b : Int32) : jSt (F_X5_giveUp a b) (F_X6_giveUp a b) := by
  intro c m h
  obtain ⟨g, nr, ra, ri, rw, hI⟩ := id h
  obtain ⟨h1, h2, h3, h4, h5, h6, h7, h8⟩ := id hI
  have g1 := h1.1.1
  unfold F_X5_giveUp F_X6_giveUp
  rw [C_isPost h3.1 (by omega), F_noPost h2.1 (by omega), jbd_s, jbd_s]
  by_cases ha : 0 ≤ a.toInt ∧ a.toInt < ((g 1 0 : Nat) : Int)
  · rw [if_pos ha, if_neg (by decide), if_pos ha, if_pos rfl, show (40 : Int32) = nI 40 from rfl, sw_le b 40 (by decide), F_in_c b 40 40 (by decide), jbd_s]
    by_cases hb : 0 ≤ b.toInt ∧ b.toInt < ((40 : Nat) : Int) + 1
    · rw [if_pos hb, if_pos hb, if_neg (by decide)]
      obtain ⟨a, ha, rfl⟩ := jof_e ha (by omega)
      obtain ⟨b, hb, rfl⟩ := jof_e (x := b) (n := 41) ⟨hb.1, by omega⟩ (by omega)
      rw [jin_n (by omega) (by omega), jck_t, jck_t, jr_n _ _ _ (by omega), jr_n _ _ _ (by omega), h4.2.2.2.1 a (by omega), h2.2.2.2.2.2.1 a (by omega), jlet_d, jck_t, jw_n _ _ _ _ (by omega), jlet_d, C_unsettle, jbd_s, jlet_d, jck_t, jw_n _ _ _ _ (by omega), jlet_d]
      exact ⟨_, _, _, rfl, rfl, gs g 10 (nu (g 10) a b), nr, ra, ri, rw, hI.ord ⟨h1.1.k10 (by omega), h1.2⟩ h2.k10 h4.k10 ⟨rfl, rfl, rfl, rfl, rfl, rfl, rfl⟩ (fun o ho => jx_set_o ho) (FK.set FK.rf (by decide))⟩
    · rw [if_neg hb, if_neg hb, if_pos rfl]
      exact ⟨_, c, m, rfl, rfl, h⟩
  · rw [if_neg ha, if_pos rfl, if_neg ha, if_neg (by decide)]
    exact ⟨_, c, m, rfl, rfl, h⟩
theorem st_ofPerson (a b : Int32) : jSt (F_X5_ofPerson a b) (F_X6_ofPerson a b) := by
  intro c m h
  obtain ⟨g, nr, ra, ri, rw, hI⟩ := id h
  obtain ⟨h1, h2, h3, h4, h5, h6, h7, h8⟩ := id hI
  have g2 := h1.1.2.1
  have g8 := h1.1.2.2.2.1
  unfold F_X5_ofPerson F_X6_ofPerson
  rw [C_isPerson h3.2.1 (by omega), F_noPerson h2.2.1 (by omega), jbd_s, jbd_s]
  by_cases ha : 0 ≤ a.toInt ∧ a.toInt < ((g 2 0 : Nat) : Int)
  · rw [if_pos ha, if_neg (by decide), if_pos ha, if_pos rfl, show (7 : Int32) = nI 7 from rfl, sw_lt b 7 (by decide)]
    obtain ⟨p, hp, rfl⟩ := jof_e ha (by omega)
    obtain ⟨a1, a2, a3, a4, a5⟩ := h2.2.2.1 p hp
    obtain ⟨b1, b2, b3, b4, b5⟩ := h3.2.2 p hp
    rw [F_sleepC h1.1 h3 hp, F_sleepOf h1.1 h2 hp, jbd_s, jbd_s, jin_n (by omega) (by omega), jck_t, jck_t, jck_t, jck_t, jck_t, jck_t, jck_t, jck_t, jck_t, jck_t]
    simp (disch := omega) only [jr_n, a1, a2, a3, a4, a5, b1, b2, b3, b4, b5, h4.2.1, h2.2.2.2.1, F_isIn, jbd_s, jbsh]
    by_cases hb : 0 ≤ b.toInt ∧ b.toInt < ((7 : Nat) : Int)
    · rw [if_pos hb]
      obtain ⟨j, hj, rfl⟩ := jof_e (x := b) (n := 7) hb (by decide)
      rcases (show j = 0 ∨ j = 1 ∨ j = 2 ∨ j = 3 ∨ j = 4 ∨ j = 5 ∨ j = 6 by omega) with rfl | rfl | rfl | rfl | rfl | rfl | rfl
      · exact ⟨_, c, m, rfl, rfl, h⟩
      · exact ⟨_, c, m, rfl, rfl, h⟩
      · exact ⟨_, c, m, rfl, rfl, h⟩
      · exact ⟨_, c, m, rfl, rfl, h⟩
      · exact ⟨_, c, m, rfl, rfl, h⟩
      · exact ⟨_, c, m, rfl, rfl, h⟩
      · refine ⟨_, c, m, rfl, ?_, h⟩
        cases (g 8 0).testBit p <;> rfl
    · rw [if_neg hb]
      have hne : ∀ k : Nat, k < 7 → ¬ b = nI k := fun k hk e => hb (by rw [e, nI_toInt (by omega)]; omega)
      refine ⟨-2, c, m, rfl, ?_, h⟩
      rw [if_neg (show ¬ b = 0 from hne 0 (by decide)), if_neg (show ¬ b = 1 from hne 1 (by decide)), if_neg (show ¬ b = 2 from hne 2 (by decide)), if_neg (show ¬ b = 3 from hne 3 (by decide)), if_neg (show ¬ b = 4 from hne 4 (by decide)), if_neg (show ¬ b = 5 from hne 5 (by decide)), if_neg (show ¬ b = 6 from hne 6 (by decide))]
  · rw [if_neg ha, if_pos rfl, if_neg ha, if_neg (by decide)]
    exact ⟨_, c, m, rfl, rfl, h⟩
/-- readings change: nothing else -/
theorem IV.rdg {g : sG} {nr nr' : Nat} {ra ri ra' ri' : Nat → Nat} {rw rw' : Nat → Int32} {c m c' m' : jx_M} (h : IV g nr ra ri rw c m) (hR : RDG g nr' ra' ri' rw' c' m') (hc : ∀ o, o ≠ 4 → c' o = c o) (hf : FK [34, 35, 36, 37] m m') : IV g nr' ra' ri' rw' c' m' := by
  obtain ⟨h1, h2, h3, h4, h5, h6, h7, h8⟩ := h
  refine ⟨h1, ?_, h3.fr (hc 2 (by decide)), h4.fr (hc 3 (by decide)), hR, ?_, ?_, ?_⟩
  · unfold RM at h2 ⊢
    rw [hf.at 1 (by decide), hf.at 2 (by decide), hf.at 3 (by decide), hf.at 4 (by decide), hf.at 5 (by decide), hf.at 6 (by decide), hf.at 7 (by decide), hf.at 8 (by decide), hf.at 9 (by decide), hf.at 10 (by decide), hf.at 19 (by decide), hf.at 20 (by decide), hf.at 21 (by decide), hf.at 22 (by decide)]
    exact h2
  · unfold SHT at h6 ⊢
    rw [hc 1 (by decide), hf.at 38 (by decide), hf.at 39 (by decide), hf.at 40 (by decide)]; exact h6
  · rw [hc 0 (by decide), hf.at 0 (by decide), hf.at 42 (by decide)]; exact h7
  · unfold CCH RR at h8 ⊢
    rw [hc 0 (by decide), hc 5 (by decide)]; exact h8
theorem st_back (a : Int32) : jSt (F_X5_back a) (F_X6_back a) := by
  intro c m h
  obtain ⟨g, nr, ra, ri, rw, hI⟩ := id h
  obtain ⟨h1, h2, h3, h4, ⟨r1, r2, r3, r4⟩, h6, h7, h8⟩ := id hI
  unfold F_X5_back F_X6_back
  rw [r2, sw_le a nr (by omega), r3, F_in_n2 a (by omega), jbd_s]
  by_cases ha : 0 ≤ a.toInt ∧ a.toInt < (nr : Int) + 1
  · rw [if_pos ha, if_pos ha, if_neg (by decide)]
    obtain ⟨j, hj, rfl⟩ := jof_e (x := a) (n := nr + 1) ⟨ha.1, by omega⟩ (by omega)
    rw [jlet_d, jlet_d, r3, pk_sub (by omega), jx_p_s, jx_p_s]
    refine ⟨_, _, _, rfl, rfl, g, nr - j, ra, ri, rw, hI.rdg ⟨by omega, jx_p_s _ _ _ _ _, jx_p_s _ _ _ _ _, fun x hx => ?_⟩ (fun o ho => jx_p_o ho) (FK.p FK.rf (by decide))⟩
    rw [jx_p_n (by decide), jx_p_n (by decide), jx_p_n (by decide), jx_p_n (by decide), jx_p_n (by decide), jx_p_n (by decide)]
    exact r4 x (by omega)
  · rw [if_neg ha, if_neg ha, if_pos rfl]
    exact ⟨_, c, m, rfl, rfl, h⟩
/-- a reading is put down, on both sides -/
theorem st_addR {g : sG} {nr : Nat} {ra ri : Nat → Nat} {rw : Nat → Int32} {c m : jx_M} (hI : IV g nr ra ri rw c m) (hn : nr < 8) {a b : Nat} (ha : a < g 1 0) (hb : b < 40) (w : Int32) :
    ∃ c' m', F_X3_addReading (nI a) (nI b) w c = some ((), c') ∧ c' 4 0 0 = nI (nr + 1) ∧ jck (jin (m 8 34 0) 8) (jlet (jx_w m 8 35 (m 8 34 0) (nI a)) (fun M_3 => jck (jin (M_3 8 34 0) 8) (jlet (jx_w M_3 8 36 (M_3 8 34 0) (nI b)) (fun M_4 => jck (jin (M_4 8 34 0) 8) (jlet (jx_w M_4 8 37 (M_4 8 34 0) w) (fun M_5 => jlet (jx_p M_5 8 34 ((M_5 8 34 0) + 1)) (fun M_6 => some ((M_6 8 34 0) - 1, M_6)))))))) = some (nI (nr + 1) - 1, m') ∧ Inv c' m' := by
  obtain ⟨h1, h2, h3, h4, ⟨r1, r2, r3, r4⟩, h6, h7, h8⟩ := id hI
  have g1 := h1.1.1
  unfold F_X3_addReading
  rw [r2, jin_n (by omega) (by omega), jck_t, jw_n _ _ _ _ (by omega), jlet_d, jx_set_k (by decide), r2, jin_n (by omega) (by omega), jck_t, jw_n _ _ _ _ (by omega), jlet_d, jx_set_k (by decide), jx_set_k (by decide), jx_set_k (by decide), r2, jin_n (by omega) (by omega), jck_t, jw_n _ _ _ _ (by omega), jlet_d, jx_set_k (by decide), jx_set_k (by decide), jx_set_k (by decide), jx_set_k (by decide), jx_set_k (by decide), r2, nI_1, jlet_d]
  rw [r3, jin_n (by omega) (by omega), jck_t, jw_n _ _ _ _ (by omega), jlet_d, jx_set_k (by decide), r3, jin_n (by omega) (by omega), jck_t, jw_n _ _ _ _ (by omega), jlet_d, jx_set_k (by decide), jx_set_k (by decide), jx_set_k (by decide), r3, jin_n (by omega) (by omega), jck_t, jw_n _ _ _ _ (by omega), jlet_d, jx_set_k (by decide), jx_set_k (by decide), jx_set_k (by decide), jx_set_k (by decide), jx_set_k (by decide), r3, nI_1, jlet_d, jx_p_s]
  refine ⟨_, _, rfl, jx_p_s _ _ _ _ _, rfl, g, nr + 1, nu ra nr a, nu ri nr b, nu rw nr w, hI.rdg ⟨by omega, jx_p_s _ _ _ _ _, jx_p_s _ _ _ _ _, fun x hx => ?_⟩ (fun o ho => ?_) ?_⟩
  · simp (disch := decide) only [jx_p_k, jx_set_k, jx_set_s]
    by_cases e : x = nr
    · subst e; simp [upd, nu, ha, hb]
    · simp only [upd, nu, e, if_false]; exact r4 x (by omega)
  · rw [jx_p_o ho, jx_set_o ho, jx_set_o ho, jx_set_o ho]
  · exact FK.p (FK.set (FK.set (FK.set FK.rf (by decide)) (by decide)) (by decide)) (by decide)
theorem st_reading (a b w : Int32) : jSt (F_X5_reading a b w) (F_X6_reading a b w) := by
  intro c m h
  obtain ⟨g, nr, ra, ri, rw, hI⟩ := id h
  obtain ⟨h1, h2, h3, h4, ⟨r1, r2, r3, r4⟩, h6, h7, h8⟩ := id hI
  have g1 := h1.1.1
  have g2 := h1.1.2.1
  unfold F_X5_reading F_X6_reading
  rw [C_isPost h3.1 (by omega), F_noPost h2.1 (by omega), jbd_s, jbd_s]
  by_cases ha : 0 ≤ a.toInt ∧ a.toInt < ((g 1 0 : Nat) : Int)
  · rw [if_pos ha, if_neg (by decide), if_pos ha, if_pos rfl, C_isPerson h3.2.1 (by omega), F_noPerson h2.2.1 (by omega), jbd_s, jbd_s, C_isDecade, F_isDecade]
    simp only [jbd_s]
    have both : ∃ r c' m', (if (if 0 ≤ b.toInt ∧ b.toInt < 40 then (1 : Int32) else 0) = 0 then some ((-2 : Int32), c) else if (c 4 0 0) < 8 then jbd (F_X3_addReading a b w c) (fun r_6 M_6 => some ((M_6 4 0 0) - 1, M_6)) else some ((-4), c)) = some (r, c') ∧ (if (if 0 ≤ b.toInt ∧ b.toInt < 40 then (1 : Int32) else 0) = 0 then some ((-2 : Int32), m) else if (m 8 34 0) = 8 then some ((-4), m) else jck (jin (m 8 34 0) 8) (jlet (jx_w m 8 35 (m 8 34 0) a) (fun M_3 => jck (jin (M_3 8 34 0) 8) (jlet (jx_w M_3 8 36 (M_3 8 34 0) b) (fun M_4 => jck (jin (M_4 8 34 0) 8) (jlet (jx_w M_4 8 37 (M_4 8 34 0) w) (fun M_5 => jlet (jx_p M_5 8 34 ((M_5 8 34 0) + 1)) (fun M_6 => some ((M_6 8 34 0) - 1, M_6))))))))) = some (r, m') ∧ Inv c' m' := by
      by_cases hb : 0 ≤ b.toInt ∧ b.toInt < 40
      · rw [if_pos hb, if_neg (show ¬ (1 : Int32) = 0 by decide), if_neg (show ¬ (1 : Int32) = 0 by decide)]
        obtain ⟨a, ha2, rfl⟩ := jof_e ha (by omega)
        obtain ⟨b, hb2, rfl⟩ := jof_e (n := 40) hb (by omega)
        by_cases h8 : nr = 8
        · rw [if_neg (by rw [r2, show (8 : Int32) = nI 8 from rfl]; exact nI_nlt (by omega) (by omega)), if_pos (by rw [r3, h8]; rfl)]
          exact ⟨_, c, m, rfl, rfl, h⟩
        · obtain ⟨c', m', q1, q2, q3, q4⟩ := st_addR hI (by omega) ha2 hb2 w
          rw [if_pos (by rw [r2, show (8 : Int32) = nI 8 from rfl]; exact nI_lt (by omega) (by omega)), if_neg (by rw [r3, show (8 : Int32) = nI 8 from rfl, nI_eq (by omega) (by omega)]; exact h8), q1, jbd_s, q2, q3]
          exact ⟨_, _, _, rfl, rfl, q4⟩
      · rw [if_neg hb, if_pos rfl, if_pos rfl]
        exact ⟨_, c, m, rfl, rfl, h⟩
    by_cases hw : 0 ≤ w.toInt ∧ w.toInt < ((g 2 0 : Nat) : Int)
    · rw [if_pos hw, if_neg (show ¬ (1 : Int32) = 0 by decide), if_pos hw, if_pos (show (0 : Int32) = 0 from rfl), if_neg (show ¬ w = -9 from fun e => by rw [e] at hw; exact absurd hw.1 (by decide))]
      exact both
    · rw [if_neg hw, if_pos (show (0 : Int32) = 0 from rfl), if_neg hw, if_neg (show ¬ (1 : Int32) = 0 by decide)]
      by_cases h9 : w = -9
      · rw [if_pos h9, if_pos h9]
        exact both
      · rw [if_neg h9, if_neg h9]
        exact ⟨_, c, m, rfl, rfl, h⟩
  · rw [if_neg ha, if_pos rfl, if_neg ha, if_neg (by decide)]
    exact ⟨_, c, m, rfl, rfl, h⟩
