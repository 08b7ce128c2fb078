theorem F_fig19 {C : Nat → Int32} {s N : Nat} {M : jx_M} (h : CD C s N M) {p : Nat} (hp : p < 100) (e : M 8 11 0 = nI p) : F_X6_figure (nI s) (nI N) 1 9 M = if 48 + ((1 : Nat) : Int) ≤ (C p).toInt ∧ (C p).toInt ≤ 48 + ((9 : Nat) : Int) then some (C p - 48, jx_p M 8 11 (nI (p + 1))) else some (-9, jx_p M 8 11 (nI p)) := F_fig h hp e (lo := 1) (hi := 9) (by decide) (by decide)
theorem F_fig09 {C : Nat → Int32} {s N : Nat} {M : jx_M} (h : CD C s N M) {p : Nat} (hp : p < 100) (e : M 8 11 0 = nI p) : F_X6_figure (nI s) (nI N) 0 9 M = if 48 + ((0 : Nat) : Int) ≤ (C p).toInt ∧ (C p).toInt ≤ 48 + ((9 : Nat) : Int) then some (C p - 48, jx_p M 8 11 (nI (p + 1))) else some (-9, jx_p M 8 11 (nI p)) := F_fig h hp e (lo := 0) (hi := 9) (by decide) (by decide)
theorem F_fig14 {C : Nat → Int32} {s N : Nat} {M : jx_M} (h : CD C s N M) {p : Nat} (hp : p < 100) (e : M 8 11 0 = nI p) : F_X6_figure (nI s) (nI N) 1 4 M = if 48 + ((1 : Nat) : Int) ≤ (C p).toInt ∧ (C p).toInt ≤ 48 + ((4 : Nat) : Int) then some (C p - 48, jx_p M 8 11 (nI (p + 1))) else some (-9, jx_p M 8 11 (nI p)) := F_fig h hp e (lo := 1) (hi := 4) (by decide) (by decide)
theorem F_fig0P {C : Nat → Int32} {s N : Nat} {M : jx_M} (h : CD C s N M) {p : Nat} (hp : p < 100) (e : M 8 11 0 = nI p) {P : Nat} (hP : 1 ≤ P ∧ P ≤ 4) : F_X6_figure (nI s) (nI N) 0 (nI P - 1) M = if 48 + ((0 : Nat) : Int) ≤ (C p).toInt ∧ (C p).toInt ≤ 48 + ((P - 1 : Nat) : Int) then some (C p - 48, jx_p M 8 11 (nI (p + 1))) else some (-9, jx_p M 8 11 (nI p)) := by
  rw [show nI P - 1 = nI (P - 1) from pk_sub (a := P) (b := 1) hP.1]
  exact F_fig h hp e (lo := 0) (hi := P - 1) (by decide) (by omega)
theorem jlet_k {β : Type} (f : Int32 → jx_M → β) (r : Int32) (X : jx_M) : jlet f (fun j => if r = 100 then j 0 X else if r = 104 then j 1 X else j 2 X) = f (nI (kd r)) X := by
  rw [jlet_d]
  unfold kd
  split
  · rfl
  · split <;> rfl
theorem F_person {C : Nat → Int32} {s N : Nat} {M : jx_M} (hC : CD C s N M) {i P : Nat} (hi : i < 6) (hP : 1 ≤ P ∧ P ≤ 4) (hC1 : C 1 = nI (48 + P)) (e11 : M 8 11 0 = nI (2 + 6 * i)) (e12 : M 8 12 0 = nI P) (e13 : M 8 13 0 = nI i) : RPx C i M (F_X6_readsPerson (nI s) (nI N) M) := by
  have hcd : ∀ v, CD C s N (jx_p M 8 11 v) := fun v => hC.fr (jx_p_k (by decide))
  have hf1 : ∀ v, FK KRP M (jx_p M 8 11 v) := fun v => FK.p FK.rf (by decide)
  have nz : ¬ (0 : Int32) ≤ -9 := by decide
  have pz : ∀ a : Nat, a ≤ 9 → (0 : Int32) ≤ nI a := fun a ha => (jge0 _).mpr (by rw [nI_toInt (by omega)]; omega)
  have t1 : (C 1).toInt = 48 + P := by rw [hC1, nI_toInt (by omega)]; omega
  rw [rp_e, e13, if_neg (show ¬ nI i = 6 from nI_ne (b := 6) (by omega) (by omega) (by omega)), F_code hC (by omega) e11, jbd_s]
  by_cases h0 : C (2 + 6 * i) = 59
  · have k0 : okc C (2 + 6 * i) := (okc_a hi).mpr h0
    rw [if_pos h0, jlet_d, e11, nI_1, F_code (hcd _) (p := 2 + 6 * i + 1) (by omega) (jx_p_s _ _ _ _ _), jbd_s]
    by_cases hb : okc C (2 + 6 * i + 1)
    · have et : ∀ T X : Option (Int32 × jx_M), (if C (2 + 6 * i + 1) = 100 then T else if C (2 + 6 * i + 1) = 104 then T else if C (2 + 6 * i + 1) = 101 then T else X) = T := by
        intro T X
        rcases (okc_b hi).mp hb with e | e | e
        · rw [if_pos e]
        · rw [if_neg (by rw [e]; decide), if_pos e]
        · rw [if_neg (by rw [e]; decide), if_neg (by rw [e]; decide), if_pos e]
      rw [et]
      unfold rp_t
      rw [jlet_d, jpp, jx_p_s, nI_1, jx_p_k (show 12 ≠ 11 by decide), e12, F_fig0P (hcd _) (p := 2 + 6 * i + 1 + 1) (by omega) (jx_p_s _ _ _ _ _) hP]
      by_cases hc : okc C (2 + 6 * i + 2)
      · have hc' := (okc_c hi).mp hc
        rw [if_pos ⟨hc'.1, by have := hc'.2; show (C (2 + 6 * i + 2)).toInt ≤ _; omega⟩, jbd_s, jpp]
        try dsimp only
        rw [jlet_d]
        try dsimp only
        obtain ⟨a, ha, a1, a2, a3, a4⟩ := dg_e (v := C (2 + 6 * i + 2)) ⟨hc'.1, by omega⟩
        rw [show C (2 + 6 * i + 1 + 1) - 48 = nI a from a2, if_pos (pz a ha), F_fig09 (hcd _) (p := 2 + 6 * i + 1 + 1 + 1) (by omega) (jx_p_s _ _ _ _ _)]
        by_cases hd : okc C (2 + 6 * i + 3)
        · have hd' := (okc_d hi).mp hd
          rw [if_pos ⟨hd'.1, hd'.2⟩, jbd_s, jpp]
          try dsimp only
          rw [jlet_d]
          try dsimp only
          obtain ⟨b, hb0, b1, b2, b3, b4⟩ := dg_e (v := C (2 + 6 * i + 3)) hd'
          rw [show C (2 + 6 * i + 1 + 1 + 1) - 48 = nI b from b2, if_pos (pz b hb0), F_fig19 (hcd _) (p := 2 + 6 * i + 1 + 1 + 1 + 1) (by omega) (jx_p_s _ _ _ _ _)]
          by_cases he : okc C (2 + 6 * i + 4)
          · have he' := (okc_e hi).mp he
            rw [if_pos ⟨he'.1, he'.2⟩, jbd_s, jpp]
            try dsimp only
            rw [jlet_d]
            try dsimp only
            obtain ⟨u, hu0, u1, u2, u3, u4⟩ := dg_e (v := C (2 + 6 * i + 4)) ⟨by omega, he'.2⟩
            rw [show C (2 + 6 * i + 1 + 1 + 1 + 1) - 48 = nI u from u2, if_pos (pz u hu0), F_fig19 (hcd _) (p := 2 + 6 * i + 1 + 1 + 1 + 1 + 1) (by omega) (jx_p_s _ _ _ _ _)]
            by_cases hg : okc C (2 + 6 * i + 5)
            · have hg' := (okc_f hi).mp hg
              rw [if_pos ⟨hg'.1, hg'.2⟩, jbd_s, jpp]
              try dsimp only
              obtain ⟨w, hw0, w1, w2, w3, w4⟩ := dg_e (v := C (2 + 6 * i + 5)) ⟨by omega, hg'.2⟩
              rw [show C (2 + 6 * i + 1 + 1 + 1 + 1 + 1) - 48 = nI w from w2, if_pos (pz w hw0), jlet_k]
              simp (disch := decide) only [jx_p_k, jx_set_k, e13, jin_n hi (show 6 < 2 ^ 31 by decide), jck_t, jlet_d, jw_n _ _ _ _ (show i < 2 ^ 31 by omega), nI_1]
              refine Or.inr ⟨fun y hy => ?_, _, rfl, ?_, ?_, ?_, fun j hj hS => ?_, ?_⟩
              · have : y = 0 ∨ y = 1 ∨ y = 2 ∨ y = 3 ∨ y = 4 ∨ y = 5 := by omega
                rcases this with e | e | e | e | e | e <;> subst e
                · exact k0
                · exact hb
                · exact hc
                · exact hd
                · exact he
                · exact hg
              · exact FK.p (FK.set (FK.set (FK.set (FK.set (FK.set (hf1 _) (by decide)) (by decide)) (by decide)) (by decide)) (by decide)) (by decide)
              · simp (disch := decide) only [jx_p_k, jx_set_k, jx_p_s]
                congr 1
              · rw [jx_p_s]
              · unfold PS at hS ⊢
                simp (disch := decide) only [jx_p_k, jx_set_k, jx_set_s]
                simp only [upd, show ¬ j = i by omega, if_false]
                exact hS
              · unfold PS
                simp (disch := decide) only [jx_p_k, jx_set_k, jx_set_s]
                simp only [upd, if_true, a3, b3, u3, w3]
                exact ⟨trivial, trivial, trivial, trivial, trivial⟩
            · rw [if_neg (fun z => hg ((okc_f hi).mpr ⟨z.1, z.2⟩)), jbd_s]
              try dsimp only
              rw [if_neg nz]
              rw [jpp]
              refine RPx.bad 5 (by omega) (fun y hy => ?_) hg (hf1 _) (jx_p_s _ _ _ _ _)
              have : y = 0 ∨ y = 1 ∨ y = 2 ∨ y = 3 ∨ y = 4 := by omega
              rcases this with e | e | e | e | e <;> subst e
              · exact k0
              · exact hb
              · exact hc
              · exact hd
              · exact he
          · rw [if_neg (fun z => he ((okc_e hi).mpr ⟨z.1, z.2⟩)), jbd_s]
            try dsimp only
            rw [jlet_d, if_neg nz]
            try dsimp only
            rw [if_neg nz]
            rw [jpp]
            refine RPx.bad 4 (by omega) (fun y hy => ?_) he (hf1 _) (jx_p_s _ _ _ _ _)
            have : y = 0 ∨ y = 1 ∨ y = 2 ∨ y = 3 := by omega
            rcases this with e | e | e | e <;> subst e
            · exact k0
            · exact hb
            · exact hc
            · exact hd
        · rw [if_neg (fun z => hd ((okc_d hi).mpr ⟨z.1, z.2⟩)), jbd_s]
          try dsimp only
          rw [jlet_d, if_neg nz]
          try dsimp only
          rw [jlet_d, if_neg nz]
          try dsimp only
          rw [if_neg nz]
          rw [jpp]
          refine RPx.bad 3 (by omega) (fun y hy => ?_) hd (hf1 _) (jx_p_s _ _ _ _ _)
          have : y = 0 ∨ y = 1 ∨ y = 2 := by omega
          rcases this with e | e | e <;> subst e
          · exact k0
          · exact hb
          · exact hc
      · rw [if_neg (fun z => hc ((okc_c hi).mpr ⟨z.1, by have := z.2; rw [t1]; show (C (2 + 6 * i + 1 + 1)).toInt < _; omega⟩)), jbd_s]
        try dsimp only
        rw [jlet_d, if_neg nz]
        try dsimp only
        rw [jlet_d, if_neg nz]
        try dsimp only
        rw [jlet_d, if_neg nz]
        try dsimp only
        rw [if_neg nz]
        rw [jpp]
        refine RPx.bad 2 (by omega) (fun y hy => ?_) hc (hf1 _) (jx_p_s _ _ _ _ _)
        have : y = 0 ∨ y = 1 := by omega
        rcases this with e | e <;> subst e
        · exact k0
        · exact hb
    · rw [if_neg (fun z => hb ((okc_b hi).mpr (Or.inl z))), if_neg (fun z => hb ((okc_b hi).mpr (Or.inr (Or.inl z)))), if_neg (fun z => hb ((okc_b hi).mpr (Or.inr (Or.inr z))))]
      refine RPx.bad 1 (by omega) (fun y hy => ?_) hb (hf1 _) (jx_p_s _ _ _ _ _)
      have : y = 0 := by omega
      subst this
      exact k0
  · rw [if_neg h0]
    exact RPx.bad 0 (by omega) (fun y hy => by omega) (fun z => h0 ((okc_a hi).mp z)) FK.rf e11
/-- a whole land -/
def okL (C : Nat → Int32) (N : Nat) : Prop := 14 ≤ N ∧ (N - 2) % 6 = 0 ∧ ∀ y, y < N → okc C y
def RLx (C : Nat → Int32) (N : Nat) (M : jx_M) (k : Int32 → jx_M → Option (Int32 × jx_M)) (r : Option (Int32 × jx_M)) : Prop := (okL C N ∧ ∃ M', r = k 1 M' ∧ FK KRP M M' ∧ M' 8 13 0 = nI ((N - 2) / 6) ∧ ∀ j, j < (N - 2) / 6 → PS C j M') ∨ (¬ okL C N ∧ ∃ F M', r = k 0 M' ∧ FK KRP M M' ∧ M' 8 11 0 = nI F ∧ (∀ y, y < F → okc C y) ∧ ¬ okc C F ∧ F < 100)
theorem okL_n {C : Nat → Int32} {N F : Nat} (h : ¬ okc C F) (hF : F < N ∨ ¬ (14 ≤ N ∧ (N - 2) % 6 = 0)) : ¬ okL C N := fun z => hF.elim (fun q => h (z.2.2 F q)) (fun q => q ⟨z.1, z.2.1⟩)
theorem L_reads {C : Nat → Int32} {s N P : Nat} (hP : 1 ≤ P ∧ P ≤ 4) (hC1 : C 1 = nI (48 + P)) (k : Int32 → jx_M → Option (Int32 × jx_M)) : ∀ q f i M, i + q = 7 → i < 7 → q + 1 < f → CD C s N M → M 8 11 0 = nI (2 + 6 * i) → M 8 12 0 = nI P → M 8 13 0 = nI i → (∀ y, y < 2 + 6 * i → okc C y) → (∀ j, j < i → PS C j M) → RLx C N M k (L_X6_readsLand_79 (nI s) (nI N) k f 1 M) := by
  intro q
  induction q with
  | zero => intro f i M h1 h2; omega
  | succ q ih =>
    intro f i M hq hi7 hf hC e11 e12 e13 hok hS
    obtain ⟨f, rfl⟩ : ∃ q, f = q + 1 := ⟨f - 1, by omega⟩
    obtain ⟨f, rfl⟩ : ∃ q, f = q + 1 := ⟨f - 1, by omega⟩
    have hN60 := hC.2.1
    have hNF : 2 + 6 * i ≤ N := Decidable.byContradiction fun z => okc_n (hC.2.2.2 (2 + 6 * i - 1) (by omega)) (hok _ (by omega))
    have go : (i < 2 ∨ 2 + 6 * i < N) → RLx C N M k (jbd (F_X6_readsPerson (nI s) (nI N) M) (fun r_2 M_6 => L_X6_readsLand_79 (nI s) (nI N) k (f + 1) r_2 M_6)) := by
      intro hgo
      by_cases hi : i < 6
      · rcases F_person hC hi hP hC1 e11 e12 e13 with ⟨b, hb, b1, b2, M', b3, b4, b5⟩ | ⟨b1, M', b2, b3, b4, b5, b6, b7⟩
        · rw [b3, jbd_s, L_X6_readsLand_79.eq_2, if_pos rfl]
          refine Or.inr ⟨?_, 2 + 6 * i + b, M', rfl, b4, b5, fun y hy => ?_, b2, by omega⟩
          · refine okL_n b2 ?_
            omega
          · by_cases e : y < 2 + 6 * i
            · exact hok y e
            · have := b1 (y - (2 + 6 * i)) (by omega)
              rw [show 2 + 6 * i + (y - (2 + 6 * i)) = y by omega] at this
              exact this
        · rw [b2, jbd_s]
          rcases ih (f + 1) (i + 1) M' (by omega) (by omega) (by omega) (hC.fr (b3.at 40 (by decide))) b4 (by rw [b3.at 12 (by decide)]; exact e12) b5 (fun y hy => by
            by_cases e : y < 2 + 6 * i
            · exact hok y e
            · have := b1 (y - (2 + 6 * i)) (by omega)
              rw [show 2 + 6 * i + (y - (2 + 6 * i)) = y by omega] at this
              exact this) (fun j hj => by
            by_cases e : j = i
            · subst e; exact b7
            · exact b6 j (by omega) (hS j (by omega))) with ⟨c1, M2, c2, c3, c4, c5⟩ | ⟨c1, F, M2, c2, c3, c4⟩
          · exact Or.inl ⟨c1, M2, c2, b3.tr c3, c4, c5⟩
          · exact Or.inr ⟨c1, F, M2, c2, b3.tr c3, c4⟩
      · have hi6 : i = 6 := by omega
        subst hi6
        rw [rp_e, if_pos (by rw [e13]; rfl), jbd_s, L_X6_readsLand_79.eq_2, if_pos rfl]
        have h38 : ¬ okc C 38 := by unfold okc; simp
        exact Or.inr ⟨okL_n h38 (Or.inl (by omega)), 38, M, rfl, FK.rf, e11, hok, h38, by omega⟩
    rw [L_X6_readsLand_79.eq_2, if_neg (show ¬ (1 : Int32) = 0 by decide), e13, e11]
    by_cases h2 : i < 2
    · rw [if_pos (show nI i < 2 from (nI_ltI (b := 2) (by omega) (by omega)).mpr h2)]
      exact go (Or.inl h2)
    · rw [if_neg (show ¬ nI i < 2 from fun z => h2 ((nI_ltI (b := 2) (by omega) (by omega)).mp z))]
      by_cases h3 : N ≤ 2 + 6 * i
      · rw [if_pos (nI_le h3 (by omega))]
        refine Or.inl ⟨⟨by omega, by omega, fun y hy => hok y (by omega)⟩, M, rfl, FK.rf, ?_, fun j hj => hS j (by omega)⟩
        rw [e13, show (N - 2) / 6 = i by omega]
      · rw [if_neg (nI_ge (by omega) (by omega))]
        exact go (Or.inr (by omega))
