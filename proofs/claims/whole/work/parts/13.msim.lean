/-! ===== the model's decades ===== -/
def gI : Option Nat → Int32
  | none => -9
  | some p => nI p
theorem gI_neg : gI none < 0 := by decide
theorem gI_nneg {p : Nat} (h : p < 2 ^ 31) : ¬ gI (some p) < 0 := nI_pos h
theorem gI_pos {p : Nat} (h : p < 2 ^ 31) : 0 ≤ gI (some p) := nI_pos' h
theorem gI_npos : ¬ (0 : Int32) ≤ gI none := by decide
/-- the model's fields of ks alone may have changed -/
def FK (ks : List Nat) (M M' : jx_M) : Prop := ∀ o k, (o ≠ 8 ∨ k ∉ ks) → M' o k = M o k
theorem FK.rf {ks : List Nat} {M : jx_M} : FK ks M M := fun _ _ _ => rfl
theorem FK.tr {ks : List Nat} {M M1 M2 : jx_M} (h : FK ks M M1) (h2 : FK ks M1 M2) : FK ks M M2 := fun o k hk => (h2 o k hk).trans (h o k hk)
theorem FK.mono {ks ks' : List Nat} {M M' : jx_M} (h : FK ks M M') (hs : ∀ k ∈ ks, k ∈ ks') : FK ks' M M' := fun o k hk => h o k (hk.imp id (fun z y => z (hs k y)))
theorem FK.set {ks : List Nat} {M M1 : jx_M} {k : Nat} {f : Nat → Int32} (h : FK ks M M1) (hk : k ∈ ks) : FK ks M (jx_set M1 8 k f) := by
  intro o k' hk'
  rw [jx_set_n, h o k' hk']
  rintro ⟨rfl, rfl⟩
  rcases hk' with z | z
  · exact z rfl
  · exact z hk
theorem FK.p {ks : List Nat} {M M1 : jx_M} {k : Nat} {v : Int32} (h : FK ks M M1) (hk : k ∈ ks) : FK ks M (jx_p M1 8 k v) := h.set hk
theorem FK.at {ks : List Nat} {M M' : jx_M} (h : FK ks M M') (k : Nat) (hk : k ∉ ks) : M' 8 k = M 8 k := h 8 k (Or.inr hk)
theorem jbsh {x i : Nat} (hx : x < 64) (hi : i < 6) : ((nI x >>> (nI i &&& 31)) &&& 1) = nI (x.testBit i).toNat := jb_sh ⟨x, hx⟩ ⟨i, hi⟩
theorem jbor {x i : Nat} (hx : x < 64) (hi : i < 6) : nI x ||| ((1 : Int32) <<< (nI i &&& 31)) = nI (x ||| 2 ^ i) := jb_or ⟨x, hx⟩ ⟨i, hi⟩
theorem jban {x i : Nat} (hx : x < 64) (hi : i < 6) : nI x &&& (((1 : Int32) <<< (nI i &&& 31)) ^^^ (-1)) = nI (x &&& (63 - 2 ^ i)) := jb_an ⟨x, hx⟩ ⟨i, hi⟩
theorem jbta {x i j : Nat} (hx : x < 64) (hi : i < 6) (hj : j < 6) : (x &&& (63 - 2 ^ i)).testBit j = (x.testBit j && !decide (j = i)) := by
  have := jb_ta ⟨x, hx⟩ ⟨i, hi⟩ ⟨j, hj⟩
  simpa [Fin.ext_iff] using this
theorem jbto {x i j : Nat} (hx : x < 64) (hi : i < 6) (hj : j < 6) : (x ||| 2 ^ i).testBit j = (x.testBit j || decide (j = i)) := by
  have := jb_to ⟨x, hx⟩ ⟨i, hi⟩ ⟨j, hj⟩
  simpa [Fin.ext_iff] using this
theorem jbtl {x y : Nat} (hx : x < 64) : x &&& y < 64 := Nat.lt_of_le_of_lt Nat.and_le_left hx
theorem F_isIn {x p : Nat} (hx : x < 64) (hp : p < 6) (M : jx_M) : F_X6_isIn (nI x) (nI p) M = some (if x.testBit p = true then 1 else 0, M) := by
  unfold F_X6_isIn
  rw [jbsh hx hp]
  cases x.testBit p
  · rw [if_neg (by decide), if_neg (by decide)]
  · rw [if_pos (by decide), if_pos rfl]
/-- land and orders in the model's memory -/
def RM (g : sG) (M : jx_M) : Prop := M 8 1 0 = nI (g 1 0) ∧ M 8 2 0 = nI (g 2 0) ∧ (∀ p, p < g 2 0 → M 8 3 p = nI (g 3 p) ∧ M 8 4 p = nI (g 4 p) ∧ M 8 5 p = nI (g 5 p) ∧ M 8 6 p = nI (g 6 p) ∧ M 8 7 p = nI (g 7 p)) ∧ M 8 8 0 = nI (g 8 0) ∧ M 8 9 0 = nI (g 9 0) ∧ (∀ j, j < g 1 0 → M 8 10 j = nI (g 10 j)) ∧ M 8 19 0 = nI (g 19 0) ∧ ∀ j, j < g 19 0 → M 8 20 j = nI (g 20 j) ∧ M 8 21 j = nI (g 21 j) ∧ M 8 22 j = nI (g 22 j)
theorem RM.fr {g : sG} {M M' : jx_M} (h : RM g M) (hf : FK [23, 24, 25, 26, 27, 28, 29, 30] M M') : RM g M' := by
  unfold RM at h ⊢
  rw [hf.at 1 (by decide), hf.at 2 (by decide), hf.at 3 (by decide), hf.at 4 (by decide), hf.at 5 (by decide), hf.at 6 (by decide), hf.at 7 (by decide), hf.at 8 (by decide), hf.at 9 (by decide), hf.at 10 (by decide), hf.at 19 (by decide), hf.at 20 (by decide), hf.at 21 (by decide), hf.at 22 (by decide)]
  exact h
theorem F_all {n : Nat} {M : jx_M} (h : M 8 2 0 = nI n) (hn : n ≤ 6) : F_X6_all M = some (nI (2 ^ n - 1), M) := by
  unfold F_X6_all
  rw [h, jb_all ⟨n, by omega⟩]
theorem F_sleepOf {g : sG} (hg : GW g) {M : jx_M} (h : RM g M) {p : Nat} (hp : p < g 2 0) : F_X6_sleepOf (nI p) M = some (nI (s_slp g p), M) := by
  obtain ⟨-, h2, h3, h4, -⟩ := hg
  obtain ⟨a1, a2, a3, a4, a5⟩ := h.2.2.1 p hp
  obtain ⟨b1, b2⟩ := h3 p hp
  unfold F_X6_sleepOf s_slp
  simp (disch := omega) only [jin_n, jck_t, jr_n, jlet_d, a1, a5, show (0 : Int32) = nI 0 from rfl, show (1 : Int32) = nI 1 from rfl, show (2 : Int32) = nI 2 from rfl, nI_eq, nI_add, pk_mul]
  split
  · rfl
  · split <;> rfl
theorem F_mayLie {g : sG} (hg : GW g) {M : jx_M} (h : RM g M) {H : Nat → Nat} {wo : Nat → Bool} {F p : Nat} (hp : p < g 2 0) (hH : M 8 23 p = nI (H p)) (hh : H p ≤ 3) (hF : M 8 30 0 = nI F) (hF2 : F < 64) (hF3 : F.testBit p = !wo p) : F_X6_mayLie (nI p) M = some (if s_cnd g H wo p = true then 1 else 0, M) := by
  obtain ⟨h1, h2, h3, h4, -⟩ := hg
  have hr := h.2.2.2.1
  unfold F_X6_mayLie s_cnd
  simp (disch := omega) only [jin_n, jck_t, jr_n, hH, hF, hr, F_isIn, jbd_s, show (1 : Int32) = nI 1 from rfl, show (0 : Int32) = nI 0 from rfl, nI_eq, hF3]
  by_cases c1 : H p = 1
  · cases wo p <;> cases (g 8 0).testBit p <;> simp [c1, nI_eq]
  · simp [c1]
theorem F_isRather {g : sG} (hg : GW g) {M : jx_M} (h : RM g M) {age : Nat → Nat} {p b post : Nat} (hp : p < g 2 0) (hb : b < g 2 0) (hpost : post < 4) (ha : M 8 24 p = nI (age p)) (hab : M 8 24 b = nI (age b)) (hl : age p < 1000) (hlb : age b < 1000) : F_X6_isRather (nI p) (nI b) (nI post) M = some (if s_rth g post age p b = true then 1 else 0, M) := by
  obtain ⟨h1, h2, h3, h4, h5, -⟩ := hg
  obtain ⟨a1, a2, -⟩ := h.2.2.1 p hp
  obtain ⟨b1, b2, -⟩ := h.2.2.1 b hb
  have k1 := (h3 p hp).2.1
  have k2 := (h3 b hb).2.1
  have hlaw := h.2.2.2.2.1
  unfold F_X6_isRather s_rth s_dst
  simp (disch := omega) only [jin_n, jck_t, jr_n, ha, hab, a2, b2, hlaw, jlet_d, show (1 : Int32) = nI 1 from rfl, show (2 : Int32) = nI 2 from rfl, nI_eq, nI_leI]
  by_cases c1 : g 9 0 = 1
  · simp only [c1, if_true, decide_eq_true_eq]
    by_cases c2 : age p ≤ age b
    · rw [if_pos c2, if_neg (by omega)]
    · rw [if_neg c2, if_pos (by omega)]
  · simp only [c1, if_false]
    by_cases c2 : g 9 0 = 2
    · simp only [c2, if_true]
      by_cases c3 : g 4 p ≤ post <;> by_cases c4 : g 4 b ≤ post
      all_goals
        simp only [c3, c4, if_true, if_false]
        simp (disch := omega) only [pk_sub, nI_leI, decide_eq_true_eq]
        split
        · rw [if_neg (by omega)]
        · rw [if_pos (by omega)]
    · simp only [c2, if_false]
      simp
