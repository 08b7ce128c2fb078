/-! ===== the land told on a sheet: what is read ===== -/
def okc (C : Nat → Int32) (p : Nat) : Prop := if p = 0 then C 0 = 99 else if p = 1 then 49 ≤ (C 1).toInt ∧ (C 1).toInt ≤ 52 else if p < 38 then
    (if (p - 2) % 6 = 0 then C p = 59 else if (p - 2) % 6 = 1 then (C p = 100 ∨ C p = 104 ∨ C p = 101) else if (p - 2) % 6 = 2 then 48 ≤ (C p).toInt ∧ (C p).toInt < (C 1).toInt else if (p - 2) % 6 = 3 then 48 ≤ (C p).toInt ∧ (C p).toInt ≤ 57 else 49 ≤ (C p).toInt ∧ (C p).toInt ≤ 57) else False
def kd (v : Int32) : Nat := if v = 100 then 0 else if v = 104 then 1 else 2
def dg (v : Int32) : Nat := v.toNatClampNeg - 48
theorem dg_e {v : Int32} (h : 48 ≤ v.toInt ∧ v.toInt ≤ 57) : ∃ a, a ≤ 9 ∧ v = nI (48 + a) ∧ v - 48 = nI a ∧ dg v = a ∧ v.toInt = 48 + a := by
  obtain ⟨j, hj, rfl⟩ := jof_e (x := v) (n := 58) ⟨by omega, by omega⟩ (by decide)
  rw [nI_toInt (by omega)] at h
  obtain ⟨a, rfl⟩ : ∃ a, j = 48 + a := ⟨j - 48, by omega⟩
  refine ⟨a, by omega, rfl, ?_, ?_, ?_⟩
  · rw [show (48 : Int32) = nI 48 from rfl, pk_sub (by omega), show 48 + a - 48 = a by omega]
  · unfold dg; rw [nI_cl (by omega)]; omega
  · rw [nI_toInt (by omega)]; omega
theorem okc_0 {C : Nat → Int32} : okc C 0 ↔ C 0 = 99 := by simp [okc]
theorem okc_1 {C : Nat → Int32} : okc C 1 ↔ 49 ≤ (C 1).toInt ∧ (C 1).toInt ≤ 52 := by simp [okc]
theorem okc_a {C : Nat → Int32} {i : Nat} (hi : i < 6) : okc C (2 + 6 * i) ↔ C (2 + 6 * i) = 59 := by
  unfold okc
  rw [if_neg (by omega), if_neg (by omega), if_pos (by omega), if_pos (by omega)]
theorem okc_b {C : Nat → Int32} {i : Nat} (hi : i < 6) : okc C (2 + 6 * i + 1) ↔ (C (2 + 6 * i + 1) = 100 ∨ C (2 + 6 * i + 1) = 104 ∨ C (2 + 6 * i + 1) = 101) := by
  unfold okc
  rw [if_neg (by omega), if_neg (by omega), if_pos (by omega), if_neg (by omega), if_pos (by omega)]
theorem okc_c {C : Nat → Int32} {i : Nat} (hi : i < 6) : okc C (2 + 6 * i + 2) ↔ 48 ≤ (C (2 + 6 * i + 2)).toInt ∧ (C (2 + 6 * i + 2)).toInt < (C 1).toInt := by
  unfold okc
  rw [if_neg (by omega), if_neg (by omega), if_pos (by omega), if_neg (by omega), if_neg (by omega), if_pos (by omega)]
theorem okc_d {C : Nat → Int32} {i : Nat} (hi : i < 6) : okc C (2 + 6 * i + 3) ↔ 48 ≤ (C (2 + 6 * i + 3)).toInt ∧ (C (2 + 6 * i + 3)).toInt ≤ 57 := by
  unfold okc
  rw [if_neg (by omega), if_neg (by omega), if_pos (by omega), if_neg (by omega), if_neg (by omega), if_neg (by omega), if_pos (by omega)]
theorem okc_e {C : Nat → Int32} {i : Nat} (hi : i < 6) : okc C (2 + 6 * i + 4) ↔ 49 ≤ (C (2 + 6 * i + 4)).toInt ∧ (C (2 + 6 * i + 4)).toInt ≤ 57 := by
  unfold okc
  rw [if_neg (by omega), if_neg (by omega), if_pos (by omega), if_neg (by omega), if_neg (by omega), if_neg (by omega), if_neg (by omega)]
theorem okc_f {C : Nat → Int32} {i : Nat} (hi : i < 6) : okc C (2 + 6 * i + 5) ↔ 49 ≤ (C (2 + 6 * i + 5)).toInt ∧ (C (2 + 6 * i + 5)).toInt ≤ 57 := by
  unfold okc
  rw [if_neg (by omega), if_neg (by omega), if_pos (by omega), if_neg (by omega), if_neg (by omega), if_neg (by omega), if_neg (by omega)]
theorem okc_n {C : Nat → Int32} {p : Nat} (h : C p = -9) : ¬ okc C p := by
  have e9 : (-9 : Int32).toInt = -9 := by decide
  unfold okc
  by_cases h0 : p = 0
  · subst h0; rw [if_pos rfl, h]; decide
  · rw [if_neg h0]
    by_cases h1 : p = 1
    · subst h1; rw [if_pos rfl, h, e9]; omega
    · rw [if_neg h1, h, e9]
      split
      · split
        · decide
        · split
          · decide
          · split
            · omega
            · split <;> omega
      · exact id
/-- the codes that lie on the sheet, as both read them -/
def CD (C : Nat → Int32) (s N : Nat) (M : jx_M) : Prop := s + N ≤ 240 ∧ N ≤ 60 ∧ (∀ p, p < N → M 8 40 (s + p) = C p) ∧ ∀ p, N ≤ p → C p = -9
theorem CD.fr {C : Nat → Int32} {s N : Nat} {M M' : jx_M} (h : CD C s N M) (e : M' 8 40 = M 8 40) : CD C s N M' := by
  unfold CD at h ⊢; rw [e]; exact h
theorem F_code {C : Nat → Int32} {s N : Nat} {M : jx_M} (h : CD C s N M) {p : Nat} (hp : p < 100) (e : M 8 11 0 = nI p) : F_X6_codeAt (nI s) (nI N) M = some (C p, M) := by
  obtain ⟨h1, h2, h3, h4⟩ := h
  unfold F_X6_codeAt
  rw [e]
  by_cases hN : N ≤ p
  · rw [if_pos (nI_le hN (by omega)), h4 p hN]
  · rw [if_neg (nI_ge (by omega) (by omega)), nI_add, jin_n (by omega) (by omega), jck_t, jr_n _ _ _ (by omega), h3 p (by omega)]
theorem j48 (v : Int32) {lo hi : Nat} (hl : lo ≤ 1) (hh : hi ≤ 9) : (((nI lo).toInt64 ≤ (v - 48).toInt64) ∧ ((v - 48).toInt64 ≤ (nI hi).toInt64)) ↔ (48 + (lo : Int) ≤ v.toInt ∧ v.toInt ≤ 48 + (hi : Int)) := by
  rw [jle64, jle64, Int32.le_iff_toInt_le, Int32.le_iff_toInt_le, nI_toInt (by omega), nI_toInt (by omega), Int32.toInt_sub, show (48 : Int32).toInt = 48 by decide]
  have h1 := Int32.toInt_lt v
  have h2 := Int32.le_toInt v
  by_cases h : -2147483600 ≤ v.toInt
  · rw [Int.bmod_eq_of_le (by omega) (by omega)]; omega
  · have : (v.toInt - 48).bmod (2 ^ 32) = v.toInt - 48 + 4294967296 := by
      rw [← Int.add_bmod_right, Int.bmod_eq_of_le (by omega) (by omega)]; rfl
    rw [this]; omega
theorem F_fig {C : Nat → Int32} {s N : Nat} {M : jx_M} (h : CD C s N M) {p : Nat} (hp : p < 100) (e : M 8 11 0 = nI p) {lo hi : Nat} (hl : lo ≤ 1) (hh : hi ≤ 9) : F_X6_figure (nI s) (nI N) (nI lo) (nI hi) M = if 48 + (lo : Int) ≤ (C p).toInt ∧ (C p).toInt ≤ 48 + (hi : Int) then some (C p - 48, jx_p M 8 11 (nI (p + 1))) else some (-9, jx_p M 8 11 (nI p)) := by
  unfold F_X6_figure
  rw [F_code h hp e, jbd_s, jlet_d, F_in, jbd_s, e, nI_1, jlet_d, jlet_d, show nI p + 0 = nI p from nI_add p 0]
  simp only [j48 (C p) hl hh]
  by_cases hc : 48 + (lo : Int) ≤ (C p).toInt ∧ (C p).toInt ≤ 48 + (hi : Int)
  · rw [if_pos hc, if_neg (show ¬ (1 : Int32) = 0 by decide), if_neg (show ¬ (1 : Int32) = 0 by decide), if_pos hc]
  · rw [if_neg hc, if_pos rfl, if_pos rfl, if_neg hc]
/-- one person, behind the letter -/
def rp_t (a1 a2 r_2 : Int32) (M_3 : jx_M) : Option (Int32 × jx_M) := jlet (jx_p M_3 8 11 ((M_3 8 11 0) + 1)) (fun M_4 => jbd (F_X6_figure a1 a2 0 ((M_4 8 12 0) - 1) M_4) (fun r_3 M_5 => jlet (fun (v_1 : Int32) (M_6 : jx_M) => jlet (fun (v_2 : Int32) (M_7 : jx_M) => jlet (fun (v_3 : Int32) (M_8 : jx_M) => if 0 ≤ v_3 then jlet (fun (v_4 : Int32) (M_9 : jx_M) => jck (jin (M_8 8 13 0) 6) (jlet (jx_w M_9 8 14 (M_8 8 13 0) v_4) (fun M_10 => jck (jin (M_10 8 13 0) 6) (jlet (jx_w M_10 8 15 (M_10 8 13 0) r_3) (fun M_11 => jck (jin (M_11 8 13 0) 6) (jlet (jx_w M_11 8 16 (M_11 8 13 0) v_1) (fun M_12 => jck (jin (M_12 8 13 0) 6) (jlet (jx_w M_12 8 17 (M_12 8 13 0) v_2) (fun M_13 => jck (jin (M_13 8 13 0) 6) (jlet (jx_w M_13 8 18 (M_13 8 13 0) v_3) (fun M_14 => jlet (jx_p M_14 8 13 ((M_14 8 13 0) + 1)) (fun M_15 => some (1, M_15))))))))))))) (fun j_4 => if r_2 = 100 then j_4 0 M_8 else if r_2 = 104 then j_4 1 M_8 else j_4 2 M_8) else some (0, M_8)) (fun j_3 => if 0 ≤ v_2 then jbd (F_X6_figure a1 a2 1 9 M_7) (fun r_4 M_16 => j_3 r_4 M_16) else j_3 (-9) M_7)) (fun j_2 => if 0 ≤ v_1 then jbd (F_X6_figure a1 a2 1 9 M_6) (fun r_5 M_17 => j_2 r_5 M_17) else j_2 (-9) M_6)) (fun j_1 => if 0 ≤ r_3 then jbd (F_X6_figure a1 a2 0 9 M_5) (fun r_6 M_18 => j_1 r_6 M_18) else j_1 (-9) M_5)))
theorem rp_e (a1 a2 : Int32) (M : jx_M) : F_X6_readsPerson a1 a2 M = if (M 8 13 0) = 6 then some (0, M) else jbd (F_X6_codeAt a1 a2 M) (fun r_1 M_1 => if r_1 = 59 then jlet (jx_p M_1 8 11 ((M_1 8 11 0) + 1)) (fun M_2 => jbd (F_X6_codeAt a1 a2 M_2) (fun r_2 M_3 => if r_2 = 100 then rp_t a1 a2 r_2 M_3 else if r_2 = 104 then rp_t a1 a2 r_2 M_3 else if r_2 = 101 then rp_t a1 a2 r_2 M_3 else some (0, M_3))) else some (0, M_1)) := rfl
abbrev KRP : List Nat := [11, 13, 14, 15, 16, 17, 18]
/-- what stands of person i behind the reading -/
def PS (C : Nat → Int32) (i : Nat) (M : jx_M) : Prop := M 8 14 i = nI (kd (C (2 + 6 * i + 1))) ∧ M 8 15 i = nI (dg (C (2 + 6 * i + 2))) ∧ M 8 16 i = nI (dg (C (2 + 6 * i + 3))) ∧ M 8 17 i = nI (dg (C (2 + 6 * i + 4))) ∧ M 8 18 i = nI (dg (C (2 + 6 * i + 5)))
def RPx (C : Nat → Int32) (i : Nat) (M : jx_M) (r : Option (Int32 × jx_M)) : Prop := (∃ q, q < 6 ∧ (∀ y, y < q → okc C (2 + 6 * i + y)) ∧ ¬ okc C (2 + 6 * i + q) ∧ ∃ M', r = some (0, M') ∧ FK KRP M M' ∧ M' 8 11 0 = nI (2 + 6 * i + q)) ∨ ((∀ y, y < 6 → okc C (2 + 6 * i + y)) ∧ ∃ M', r = some (1, M') ∧ FK KRP M M' ∧ M' 8 11 0 = nI (2 + 6 * (i + 1)) ∧ M' 8 13 0 = nI (i + 1) ∧ (∀ j, j < i → PS C j M → PS C j M') ∧ PS C i M')
theorem RPx.bad {C : Nat → Int32} {i : Nat} {M M' : jx_M} (q : Nat) (hq : q < 6) (h1 : ∀ y, y < q → okc C (2 + 6 * i + y)) (h2 : ¬ okc C (2 + 6 * i + q)) (hf : FK KRP M M') (e : M' 8 11 0 = nI (2 + 6 * i + q)) : RPx C i M (some (0, M')) := Or.inl ⟨q, hq, h1, h2, M', rfl, hf, e⟩
