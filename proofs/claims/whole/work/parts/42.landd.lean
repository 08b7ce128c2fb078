theorem C_kindOf (v : Int32) (c : jx_M) : F_X1_kindOf v c = some (if v = 100 then 0 else if v = 104 then 1 else if v = 101 then 2 else -9, c) := by
  unfold F_X1_kindOf
  show L_X1_kindOf_2 v _ (996 + 1 + 1 + 1 + 1) (nI 0) c = _
  rw [L_X1_kindOf_2.eq_2, if_neg (by decide), jin_n (by decide) (by decide), jck_t, nI_cl (by decide), show jx_lt 0 = 100 from rfl]
  by_cases h0 : v = 100
  · rw [if_pos h0.symm, if_pos h0]; rfl
  · rw [if_neg (fun z => h0 z.symm), if_neg h0, jlet_d, nI_1, L_X1_kindOf_2.eq_2, if_neg (by decide), jin_n (by decide) (by decide), jck_t, nI_cl (by decide), show jx_lt (0 + 1) = 104 from rfl]
    by_cases h1 : v = 104
    · rw [if_pos h1.symm, if_pos h1]; rfl
    · rw [if_neg (fun z => h1 z.symm), if_neg h1, jlet_d, nI_1, L_X1_kindOf_2.eq_2, if_neg (by decide), jin_n (by decide) (by decide), jck_t, nI_cl (by decide), show jx_lt (0 + 1 + 1) = 101 from rfl]
      by_cases h2 : v = 101
      · rw [if_pos h2.symm, if_pos h2]; rfl
      · rw [if_neg (fun z => h2 z.symm), if_neg h2, jlet_d, nI_1, L_X1_kindOf_2.eq_2, if_pos (by decide)]
theorem jm6 : ∀ x : Fin 62, 2 ≤ x.val → (nI x.val - 2) - (nI x.val - 2) / 6 * 6 = nI ((x.val - 2) % 6) := by decide +kernel
theorem jd6 : ∀ x : Fin 62, 2 ≤ x.val → (nI x.val - 2) / 6 = nI ((x.val - 2) / 6) := by decide +kernel
theorem jrg {α : Type} (x : Int32) {a b : Nat} (ha : a < 2 ^ 31) (hb : b < 2 ^ 31) (u v : α) : (if x < nI a then u else if nI b < x then u else v) = if (a : Int) ≤ x.toInt ∧ x.toInt ≤ b then v else u := by
  have e : nI b < x ↔ (b : Int) < x.toInt := by rw [Int32.lt_iff_toInt_lt, nI_toInt hb]
  simp only [jltN x ha, e]
  by_cases h1 : x.toInt < a
  · rw [if_pos h1, if_neg (by omega)]
  · rw [if_neg h1]
    by_cases h2 : (b : Int) < x.toInt
    · rw [if_pos h2, if_neg (by omega)]
    · rw [if_neg h2, if_pos (by omega)]
theorem jrg' {α : Type} (x : Int32) {a b : Nat} (ha : a < 2 ^ 31) (hb : b < 2 ^ 31) (u v : α) : (if x < nI a then u else if nI b ≤ x then u else v) = if (a : Int) ≤ x.toInt ∧ x.toInt < b then v else u := by
  simp only [jltN x ha, jleN x hb]
  by_cases h1 : x.toInt < a
  · rw [if_pos h1, if_neg (by omega)]
  · rw [if_neg h1]
    by_cases h2 : (b : Int) ≤ x.toInt
    · rw [if_pos h2, if_neg (by omega)]
    · rw [if_neg h2, if_pos (by omega)]
theorem C_goesOn {C : Nat → Int32} {x : Nat} (hx : x < 60) {z : Int32} (hz : 2 ≤ x → okc C 1 ∧ z = C 1 - 48) (c : jx_M) : (okc C x → F_X1_goesOn (nI x) (C x) z c = some (1, c)) ∧ (¬ okc C x → F_X1_goesOn (nI x) (C x) z c = some (0, c)) := by
  unfold F_X1_goesOn
  by_cases h0 : x = 0
  · subst h0
    rw [if_pos (show nI 0 = 0 from rfl)]
    exact ⟨fun h => if_pos (okc_0.mp h), fun h => if_neg (fun q => h (okc_0.mpr q))⟩
  · rw [if_neg (show ¬ nI x = 0 from nI_ne (b := 0) (by omega) (by omega) h0)]
    by_cases h1 : x = 1
    · subst h1
      rw [if_pos (show nI 1 = 1 from rfl)]
      have e : (if C 1 < 49 then some ((0 : Int32), c) else if 52 < C 1 then some (0, c) else some (1, c)) = _ := jrg (C 1) (a := 49) (b := 52) (by decide) (by decide) (some ((0 : Int32), c)) (some (1, c))
      rw [e]
      exact ⟨fun h => if_pos (okc_1.mp h), fun h => if_neg (fun q => h (okc_1.mpr q))⟩
    · rw [if_neg (show ¬ nI x = 1 from nI_ne (b := 1) (by omega) (by omega) h1)]
      have h38 : nI x < 38 ↔ x < 38 := nI_ltI (b := 38) (by omega) (by omega)
      by_cases h3 : x < 38
      · rw [if_pos (h38.mpr h3), jm6 ⟨x, by omega⟩ (show 2 ≤ x by omega), jlet_d]
        dsimp only
        obtain ⟨i, y, hi, hy, rfl⟩ : ∃ i y, i < 6 ∧ y < 6 ∧ x = 2 + 6 * i + y := ⟨(x - 2) / 6, (x - 2) % 6, by omega, by omega, by omega⟩
        rw [show (2 + 6 * i + y - 2) % 6 = y by omega]
        have : y = 0 ∨ y = 1 ∨ y = 2 ∨ y = 3 ∨ y = 4 ∨ y = 5 := by omega
        rcases this with e | e | e | e | e | e <;> subst e
        · rw [if_pos (show nI 0 = 0 from rfl)]
          exact ⟨fun h => if_pos ((okc_a hi).mp h), fun h => if_neg (fun q => h ((okc_a hi).mpr q))⟩
        · rw [if_neg (by decide), if_pos (show nI 1 = 1 from rfl), C_kindOf, jbd_s]
          refine ⟨fun h => ?_, fun h => ?_⟩
          · rw [if_neg]
            rcases (okc_b hi).mp h with e | e | e
            · rw [if_pos e]; decide
            · rw [if_neg (by rw [e]; decide), if_pos e]; decide
            · rw [if_neg (by rw [e]; decide), if_neg (by rw [e]; decide), if_pos e]; decide
          · rw [if_neg (fun z => h ((okc_b hi).mpr (Or.inl z))), if_neg (fun z => h ((okc_b hi).mpr (Or.inr (Or.inl z)))), if_neg (fun z => h ((okc_b hi).mpr (Or.inr (Or.inr z)))), if_pos rfl]
        · rw [if_neg (by decide), if_neg (by decide), if_pos (show nI 2 = 2 from rfl)]
          obtain ⟨hz1, hz2⟩ := hz (by omega)
          have hz1' := okc_1.mp hz1
          obtain ⟨P, hP, p1, p2, p3, p4⟩ := dg_e (v := C 1) ⟨by omega, by omega⟩
          rw [hz2, p2, show (48 : Int32) + nI P = nI (48 + P) from nI_add 48 P]
          have e : (if C (2 + 6 * i + 2) < 48 then some ((0 : Int32), c) else if nI (48 + P) ≤ C (2 + 6 * i + 2) then some (0, c) else some (1, c)) = _ := jrg' (C (2 + 6 * i + 2)) (a := 48) (b := 48 + P) (by decide) (by omega) (some ((0 : Int32), c)) (some (1, c))
          rw [e]
          have hh := okc_c (C := C) hi
          refine ⟨fun h => if_pos ?_, fun h => if_neg (fun q => h (hh.mpr ?_))⟩
          · have := hh.mp h
            omega
          · omega
        · rw [if_neg (by decide), if_neg (by decide), if_neg (by decide), if_pos (show nI 3 = 3 from rfl)]
          have e : (if C (2 + 6 * i + 3) < 48 then some ((0 : Int32), c) else if 57 < C (2 + 6 * i + 3) then some (0, c) else some (1, c)) = _ := jrg (C (2 + 6 * i + 3)) (a := 48) (b := 57) (by decide) (by decide) (some ((0 : Int32), c)) (some (1, c))
          rw [e]
          exact ⟨fun h => if_pos ((okc_d hi).mp h), fun h => if_neg (fun q => h ((okc_d hi).mpr q))⟩
        · rw [if_neg (by decide), if_neg (by decide), if_neg (by decide), if_neg (by decide)]
          have e : (if C (2 + 6 * i + 4) < 49 then some ((0 : Int32), c) else if 57 < C (2 + 6 * i + 4) then some (0, c) else some (1, c)) = _ := jrg (C (2 + 6 * i + 4)) (a := 49) (b := 57) (by decide) (by decide) (some ((0 : Int32), c)) (some (1, c))
          rw [e]
          exact ⟨fun h => if_pos ((okc_e hi).mp h), fun h => if_neg (fun q => h ((okc_e hi).mpr q))⟩
        · rw [if_neg (by decide), if_neg (by decide), if_neg (by decide), if_neg (by decide)]
          have e : (if C (2 + 6 * i + 5) < 49 then some ((0 : Int32), c) else if 57 < C (2 + 6 * i + 5) then some (0, c) else some (1, c)) = _ := jrg (C (2 + 6 * i + 5)) (a := 49) (b := 57) (by decide) (by decide) (some ((0 : Int32), c)) (some (1, c))
          rw [e]
          exact ⟨fun h => if_pos ((okc_f hi).mp h), fun h => if_neg (fun q => h ((okc_f hi).mpr q))⟩
      · rw [if_neg (fun z => h3 (h38.mp z))]
        have : ¬ okc C x := by
          unfold okc
          rw [if_neg h0, if_neg h1, if_neg h3]; exact id
        exact ⟨fun h => absurd h this, fun _ => rfl⟩
/-- the codes as the component reads them -/
def CC (C : Nat → Int32) (k i N : Nat) (c : jx_M) : Prop := k < 4 ∧ i + N ≤ 60 ∧ (∀ p, p < N → c 1 2 (k * 60 + (i + p)) = C p) ∧ ∀ p, N ≤ p → C p = -9
theorem CC.fr {C : Nat → Int32} {k i N : Nat} {c c' : jx_M} (h : CC C k i N c) (e : c' 1 = c 1) : CC C k i N c' := by
  unfold CC at h ⊢; rw [e]; exact h
theorem CC.rd {C : Nat → Int32} {k i N : Nat} {c : jx_M} (h : CC C k i N c) {p : Nat} (hp : p < N) : F_X4_read (nI k) (nI (i + p)) c = some (C p, c) := by
  obtain ⟨h1, h2, h3, h4⟩ := h
  unfold F_X4_read
  rw [jk60, jin_n (by omega) (by omega), jck_t, jr_n _ _ _ (by omega), h3 p hp]
theorem L_fault {C : Nat → Int32} {k i N : Nat} {c : jx_M} (hC : CC C k i N c) {F : Nat} (hF : ∀ y, y < F → okc C y) (hF' : ¬ okc C F) (kk : jx_M → Option (Int32 × jx_M)) : ∀ q f x z, x + q = F → q < f → (2 ≤ x → z = C 1 - 48) → L_X1_firstFault_6 (nI k) (nI i) (nI N) kk f z (nI x) c = if F < N then some (nI F, c) else kk c := by
  have hFN : F ≤ N := Decidable.byContradiction fun z => okc_n (hC.2.2.2 N (Nat.le_refl _)) (hF N (by omega))
  have hN := hC.2.1
  intro q
  induction q with
  | zero =>
    intro f x z hx hf hz
    obtain ⟨f, rfl⟩ : ∃ q, f = q + 1 := ⟨f - 1, by omega⟩
    have : x = F := by omega
    subst this
    rw [L_X1_firstFault_6.eq_2]
    by_cases h : x < N
    · rw [if_neg (nI_ge (by omega) (by omega)), nI_add, hC.rd h, jbd_s, (C_goesOn (by omega) (fun h2 => ⟨hF 1 (by omega), hz h2⟩) c).2 hF', jbd_s, if_pos rfl, if_pos h]
    · rw [if_pos (nI_le (by omega) (by omega)), if_neg h]
  | succ q ih =>
    intro f x z hx hf hz
    obtain ⟨f, rfl⟩ : ∃ q, f = q + 1 := ⟨f - 1, by omega⟩
    rw [L_X1_firstFault_6.eq_2, if_neg (nI_ge (by omega) (by omega)), nI_add, hC.rd (show x < N by omega), jbd_s, (C_goesOn (by omega) (fun h2 => ⟨hF 1 (by omega), hz h2⟩) c).1 (hF x (by omega)), jbd_s, if_neg (show ¬ (1 : Int32) = 0 by decide), jlet_d, jlet_d, jlet_d, nI_1]
    by_cases h1 : x = 1
    · subst h1
      rw [if_pos (show nI 1 = 1 from rfl)]
      exact ih f 2 _ (by omega) (by omega) (fun _ => rfl)
    · rw [if_neg (show ¬ nI x = 1 from nI_ne (b := 1) (by omega) (by omega) h1)]
      exact ih f (x + 1) z (by omega) (by omega) (fun h2 => hz (by omega))
theorem C_fault {C : Nat → Int32} {k i N : Nat} {c : jx_M} (hC : CC C k i N c) {F : Nat} (hF : ∀ y, y < F → okc C y) (hF' : ¬ okc C F) : (okL C N → F_X1_firstFault (nI k) (nI i) (nI N) c = some (-9, c)) ∧ (¬ okL C N → F_X1_firstFault (nI k) (nI i) (nI N) c = some (nI F, c)) := by
  have hFN : F ≤ N := Decidable.byContradiction fun z => okc_n (hC.2.2.2 N (Nat.le_refl _)) (hF N (by omega))
  have hN := hC.2.1
  have e := L_fault hC hF hF' (fun M_3 => if nI N < 14 then some (nI N, M_3) else if ((nI N - 2) - (nI N - 2) / 6 * 6) = 0 then some ((-9), M_3) else some (nI N, M_3)) F jfu 0 0 (by omega) (by unfold jfu; omega) (fun h => by omega)
  have e' : F_X1_firstFault (nI k) (nI i) (nI N) c = if F < N then some (nI F, c) else if nI N < 14 then some (nI N, c) else if ((nI N - 2) - (nI N - 2) / 6 * 6) = 0 then some ((-9), c) else some (nI N, c) := e
  rw [e']
  have h14 : nI N < 14 ↔ N < 14 := nI_ltI (b := 14) (by omega) (by omega)
  by_cases h : F < N
  · rw [if_pos h]
    exact ⟨fun z => absurd z (okL_n hF' (Or.inl h)), fun _ => rfl⟩
  · have hE : F = N := by omega
    subst hE
    rw [if_neg h]
    by_cases h1 : F < 14
    · rw [if_pos (h14.mpr h1)]
      exact ⟨fun z => by have := z.1; omega, fun _ => rfl⟩
    · rw [if_neg (fun z => h1 (h14.mp z)), jm6 ⟨F, by omega⟩ (show 2 ≤ F by omega)]
      dsimp only
      by_cases h2 : (F - 2) % 6 = 0
      · rw [if_pos (by rw [h2]; rfl)]
        exact ⟨fun _ => rfl, fun z => absurd ⟨by omega, h2, hF⟩ z⟩
      · rw [if_neg (show ¬ nI ((F - 2) % 6) = 0 from nI_ne (b := 0) (by omega) (by omega) h2)]
        exact ⟨fun z => absurd z.2.1 h2, fun _ => rfl⟩
theorem C_kd {v : Int32} (h : v = 100 ∨ v = 104 ∨ v = 101) (c : jx_M) : F_X1_kindOf v c = some (nI (kd v), c) := by
  rw [C_kindOf]
  rcases h with e | e | e <;> subst e <;> rfl
theorem L_settle {C : Nat → Int32} {k i N : Nat} (hL : okL C N) (kk : jx_M → Option (Unit × jx_M)) : ∀ q f j c, j + q = (N - 2) / 6 → q < f → CC C k i N c → c 2 1 0 = nI ((N - 2) / 6) → (∀ x, x < j → c 2 2 x = nI (kd (C (2 + 6 * x + 1))) ∧ c 2 3 x = nI (dg (C (2 + 6 * x + 2))) ∧ c 2 4 x = nI (dg (C (2 + 6 * x + 3))) ∧ c 2 5 x = nI (dg (C (2 + 6 * x + 4))) ∧ c 2 6 x = nI (dg (C (2 + 6 * x + 5)))) → ∃ c', L_X1_settle_29 (nI k) (nI i) kk f (nI j) c = kk c' ∧ FO 2 [2, 3, 4, 5, 6] c c' ∧ ∀ x, x < (N - 2) / 6 → c' 2 2 x = nI (kd (C (2 + 6 * x + 1))) ∧ c' 2 3 x = nI (dg (C (2 + 6 * x + 2))) ∧ c' 2 4 x = nI (dg (C (2 + 6 * x + 3))) ∧ c' 2 5 x = nI (dg (C (2 + 6 * x + 4))) ∧ c' 2 6 x = nI (dg (C (2 + 6 * x + 5))) := by
  have hN := okL_38 hL
  have hN14 := hL.1
  intro q
  induction q with
  | zero =>
    intro f j c hj hf hC e2 h
    obtain ⟨f, rfl⟩ : ∃ q, f = q + 1 := ⟨f - 1, by omega⟩
    refine ⟨c, ?_, FO.rf, fun x hx => h x (by omega)⟩
    rw [L_X1_settle_29.eq_2, e2, if_pos (nI_le (by omega) (by omega))]
  | succ q ih =>
    intro f j c hj hf hC e2 h
    obtain ⟨f, rfl⟩ : ∃ q, f = q + 1 := ⟨f - 1, by omega⟩
    have hi : j < 6 := by omega
    have hb := (okc_b hi).mp (hL.2.2 (2 + 6 * j + 1) (by omega))
    have hc := (okc_c hi).mp (hL.2.2 (2 + 6 * j + 2) (by omega))
    have hd := (okc_d hi).mp (hL.2.2 (2 + 6 * j + 3) (by omega))
    have he := (okc_e hi).mp (hL.2.2 (2 + 6 * j + 4) (by omega))
    have hg := (okc_f hi).mp (hL.2.2 (2 + 6 * j + 5) (by omega))
    have h1 := okc_1.mp (hL.2.2 1 (by omega))
    obtain ⟨a, a0, a1, a2, a3, a4⟩ := dg_e (v := C (2 + 6 * j + 2)) ⟨hc.1, by omega⟩
    obtain ⟨b, b0, b1, b2, b3, b4⟩ := dg_e (v := C (2 + 6 * j + 3)) hd
    obtain ⟨u, u0, u1, u2, u3, u4⟩ := dg_e (v := C (2 + 6 * j + 4)) ⟨by omega, he.2⟩
    obtain ⟨w, w0, w1, w2, w3, w4⟩ := dg_e (v := C (2 + 6 * j + 5)) ⟨by omega, hg.2⟩
    have ex : ∀ y, nI i + 2 + nI j * 6 + nI y = nI (i + (2 + 6 * j + y)) := by
      intro y
      rw [nI_2, show (6 : Int32) = nI 6 from rfl, pk_mul, nI_add, nI_add]
      congr 1
      omega
    have x1 : nI i + 2 + nI j * 6 + 1 = nI (i + (2 + 6 * j + 1)) := ex 1
    have x2 : nI i + 2 + nI j * 6 + 2 = nI (i + (2 + 6 * j + 2)) := ex 2
    have x3 : nI i + 2 + nI j * 6 + 3 = nI (i + (2 + 6 * j + 3)) := ex 3
    have x4 : nI i + 2 + nI j * 6 + 4 = nI (i + (2 + 6 * j + 4)) := ex 4
    have x5 : nI i + 2 + nI j * 6 + 5 = nI (i + (2 + 6 * j + 5)) := ex 5
    rw [L_X1_settle_29.eq_2, e2, if_neg (nI_ge (by omega) (by omega)), jlet_d, x1, x2, x3, x4, x5, hC.rd (by omega), jbd_s, C_kd hb, jbd_s, jin_n hi (by decide), jck_t, jw_n _ _ _ _ (by omega), jlet_d,
      (hC.fr (jx_set_o (by decide))).rd (by omega), jbd_s, jck_t, jw_n _ _ _ _ (by omega), jlet_d, a2,
      (hC.fr (by rw [jx_set_o (by decide), jx_set_o (by decide)])).rd (by omega), jbd_s, jck_t, jw_n _ _ _ _ (by omega), jlet_d, b2,
      (hC.fr (by rw [jx_set_o (by decide), jx_set_o (by decide), jx_set_o (by decide)])).rd (by omega), jbd_s, jck_t, jw_n _ _ _ _ (by omega), jlet_d, u2,
      (hC.fr (by rw [jx_set_o (by decide), jx_set_o (by decide), jx_set_o (by decide), jx_set_o (by decide)])).rd (by omega), jbd_s, jck_t, jw_n _ _ _ _ (by omega), jlet_d, w2, jlet_d, nI_1]
    simp (disch := decide) only [jx_set_k]
    obtain ⟨c', d1, d2, d3⟩ := ih f (j + 1) (jx_set (jx_set (jx_set (jx_set (jx_set c 2 2 (upd (c 2 2) j (nI (kd (C (2 + 6 * j + 1)))))) 2 3 (upd (c 2 3) j (nI a))) 2 4 (upd (c 2 4) j (nI b))) 2 5 (upd (c 2 5) j (nI u))) 2 6 (upd (c 2 6) j (nI w))) (by omega) (by omega) (hC.fr (by rw [jx_set_o (by decide), jx_set_o (by decide), jx_set_o (by decide), jx_set_o (by decide), jx_set_o (by decide)])) (by simp (disch := decide) only [jx_set_k]; exact e2) (fun x hx => by
      simp (disch := decide) only [jx_set_k, jx_set_s]
      by_cases e : x = j
      · subst e; simp only [upd, if_true, a3, b3, u3, w3]; exact ⟨trivial, trivial, trivial, trivial, trivial⟩
      · simp only [upd, e, if_false]; exact h x (by omega))
    exact ⟨c', d1, FO.tr (FO.set (FO.set (FO.set (FO.set (FO.set FO.rf (by decide)) (by decide)) (by decide)) (by decide)) (by decide)) d2, d3⟩
theorem C_settle {C : Nat → Int32} {k i N : Nat} {c : jx_M} (hL : okL C N) (hC : CC C k i N c) : ∃ c', F_X1_settle (nI k) (nI i) (nI N) c = some ((), c') ∧ (∀ o, o ≠ 2 → c' o = c o) ∧ RLa (gL C N) c' := by
  have hN := okL_38 hL
  have hN14 := hL.1
  have h1 := okc_1.mp (hL.2.2 1 (by omega))
  obtain ⟨P, hP, p1, p2, p3, p4⟩ := dg_e (v := C 1) ⟨by omega, by omega⟩
  unfold F_X1_settle
  rw [nI_1, hC.rd (by omega), jbd_s, jlet_d, jlet_d, p2, jd6 ⟨N, by omega⟩ (show 2 ≤ N by omega)]
  dsimp only
  obtain ⟨c', a1, a2, a3⟩ := L_settle (k := k) (i := i) hL (fun M_15 => some ((), M_15)) ((N - 2) / 6) jfu 0 (jx_p (jx_p c 2 0 (nI P)) 2 1 (nI ((N - 2) / 6))) (by omega) (by unfold jfu; omega) (hC.fr (by rw [jx_p_o (by decide), jx_p_o (by decide)])) (jx_p_s _ _ _ _ _) (fun x hx => by omega)
  refine ⟨c', a1, fun o ho => ?_, ?_, ?_, ?_⟩
  · rw [a2.ob o ho, jx_p_o ho, jx_p_o ho]
  · rw [a2.at 0 (by decide), jx_p_k (by decide), jx_p_s]
    show nI P = nI (dg (C 1))
    rw [p3]
  · rw [a2.at 1 (by decide), jx_p_s]; rfl
  · exact a3
theorem C_clear {C : Nat → Int32} {N : Nat} (c : jx_M) : ∃ c', F_X2_clear 3 c = some ((), c') ∧ FO 3 [0, 1, 2, 3] c c' ∧ RO (gL C N) 3 c' := by
  unfold F_X2_clear
  rw [jlet_d, jlet_d, jlet_d]
  obtain ⟨c', a1, a2, a3⟩ := F_fillA 3 3 4 (by decide) 40 (jx_p (jx_p (jx_p c 3 0 0) 3 1 0) 3 2 0)
  rw [a1, jbd_s]
  refine ⟨c', rfl, FO.tr (FO.p (FO.p (FO.p FO.rf (by decide)) (by decide)) (by decide)) (a2.mono (by decide)), ?_, ?_, ?_, fun j hj => ?_, fun j hj => ?_⟩
  · rw [a2.at 0 (by decide), jx_p_k (by decide), jx_p_k (by decide), jx_p_s]; rfl
  · rw [a2.at 1 (by decide), jx_p_k (by decide), jx_p_s]; rfl
  · rw [a2.at 2 (by decide), jx_p_s]; rfl
  · rw [a3 j hj]; rfl
  · exact absurd hj (Nat.not_lt_zero j)
