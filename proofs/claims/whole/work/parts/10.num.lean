/-! ===== numbers, and the functional side's own rules ===== -/
theorem jlet_d {α β : Type} (a : α) (f : α → β) : jlet a f = f a := rfl
theorem jck_t {α : Type} (x : Option α) : jck true x = x := rfl
theorem jbd_s {α β : Type} (r : α) (M : jx_M) (f : α → jx_M → Option β) : jbd (some (r, M)) f = f r M := rfl
theorem jin_n {j n : Nat} (h : j < n) (hn : n < 2 ^ 31) : jin (nI j) n = true := by
  simp only [jin, Bool.and_eq_true, decide_eq_true_eq]
  rw [nI_toInt (by omega)]
  omega
theorem jr_n (M : jx_M) (o k : Nat) {j : Nat} (h : j < 2 ^ 31) : jx_r M o k (nI j) = M o k j := by
  unfold jx_r
  rw [nI_clamp h]
theorem jw_n (M : jx_M) (o k : Nat) {j : Nat} (v : Int32) (h : j < 2 ^ 31) : jx_w M o k (nI j) v = jx_set M o k (upd (M o k) j v) := by
  unfold jx_w
  rw [nI_clamp h]
theorem jle64 (a b : Int32) : a.toInt64 ≤ b.toInt64 ↔ a ≤ b := by
  rw [Int64.le_iff_toInt_le, Int32.le_iff_toInt_le, Int32.toInt_toInt64, Int32.toInt_toInt64]
theorem j64_toInt (a : Int32) : a.toInt64.toInt = a.toInt := Int32.toInt_toInt64 a
theorem F_in (a b c : Int64) (M : jx_M) : F_X6_in a b c M = some (if b ≤ a ∧ a ≤ c then 1 else 0, M) := by
  unfold F_X6_in
  simp only [lg_cmp_lt, lg_cmp_gt, Int64.lt_iff_toInt_lt, Int64.le_iff_toInt_le]
  by_cases h1 : a.toInt < b.toInt
  · rw [if_pos h1, if_neg (by omega)]
  · rw [if_neg h1]
    by_cases h2 : c.toInt < a.toInt
    · rw [if_pos h2, if_neg (by omega)]
    · rw [if_neg h2, if_pos (by omega)]
/-- x is one of 0 .. n - 1 -/
def jof (x : Int32) (n : Nat) : Prop := 0 ≤ x.toInt ∧ x.toInt < n
theorem jof_n {j n : Nat} (h : j < n) (hn : n < 2 ^ 31) : jof (nI j) n := by
  unfold jof
  rw [nI_toInt (by omega)]
  omega
theorem jof_e {x : Int32} {n : Nat} (h : jof x n) (hn : n < 2 ^ 31) : ∃ j, j < n ∧ x = nI j := vp_in_of (vp_in_iff.mpr h) hn
theorem F_in_n (x : Int32) {n : Nat} (hn : n < 2 ^ 31) (M : jx_M) : F_X6_in x.toInt64 0 ((nI n).toInt64 - 1) M = some (if 0 ≤ x.toInt ∧ x.toInt < n then 1 else 0, M) := by
  rw [F_in]
  have e1 : ((nI n).toInt64 - 1).toInt = (n : Int) - 1 := by
    rw [nI_l hn]
    cases n with
    | zero => decide
    | succ n =>
      rw [show (1 : Int64) = lN 1 from rfl, lN_sub (by omega), lN_toInt (by omega)]
      omega
  have e0 : (0 : Int64).toInt = 0 := by decide
  simp only [Int64.le_iff_toInt_le, e1, j64_toInt, e0]
  have : (0 ≤ x.toInt ∧ x.toInt ≤ (n : Int) - 1) ↔ (0 ≤ x.toInt ∧ x.toInt < (n : Int)) := by omega
  simp only [this]
theorem F_noPerson {x : Int32} {n : Nat} {M : jx_M} (h : M 8 2 0 = nI n) (hn : n < 2 ^ 31) : F_X6_noPerson x M = some (if 0 ≤ x.toInt ∧ x.toInt < n then 0 else 1, M) := by
  unfold F_X6_noPerson
  rw [h, F_in_n x hn, jbd_s]
  split <;> simp
theorem F_noPost {x : Int32} {n : Nat} {M : jx_M} (h : M 8 1 0 = nI n) (hn : n < 2 ^ 31) : F_X6_noPost x M = some (if 0 ≤ x.toInt ∧ x.toInt < n then 0 else 1, M) := by
  unfold F_X6_noPost
  rw [h, F_in_n x hn, jbd_s]
  split <;> simp
theorem F_in_c (x : Int32) (n : Nat) (c : Int64) (hc : c.toInt = (n : Int)) (M : jx_M) : F_X6_in x.toInt64 0 c M = some (if 0 ≤ x.toInt ∧ x.toInt < n + 1 then 1 else 0, M) := by
  rw [F_in]
  have e0 : (0 : Int64).toInt = 0 := by decide
  simp only [Int64.le_iff_toInt_le, hc, j64_toInt, e0]
  have : (0 ≤ x.toInt ∧ x.toInt ≤ (n : Int)) ↔ (0 ≤ x.toInt ∧ x.toInt < (n : Int) + 1) := by omega
  simp only [this]
theorem F_isDecade (x : Int32) (M : jx_M) : F_X6_isDecade x M = some (if 0 ≤ x.toInt ∧ x.toInt < 40 then 1 else 0, M) := by
  unfold F_X6_isDecade
  rw [F_in_c x 39 39 (by decide), jbd_s]
  simp only [show ((39 : Nat) : Int) + 1 = 40 from rfl]
  split <;> rfl
theorem F_noSheet (x : Int32) (M : jx_M) : F_X6_noSheet x M = some (if 0 ≤ x.toInt ∧ x.toInt < 4 then 0 else 1, M) := by
  unfold F_X6_noSheet
  rw [F_in_c x 3 3 (by decide), jbd_s]
  simp only [show ((3 : Nat) : Int) + 1 = 4 from rfl]
  split <;> simp
/-! sets of at most six as numbers below 64 -/
theorem jb_sh : ∀ x : Fin 64, ∀ i : Fin 6, ((nI x.val >>> (nI i.val &&& 31)) &&& 1) = nI (x.val.testBit i.val).toNat := by decide +kernel
theorem jb_or : ∀ x : Fin 64, ∀ i : Fin 6, nI x.val ||| ((1 : Int32) <<< (nI i.val &&& 31)) = nI (x.val ||| 2 ^ i.val) := by decide +kernel
theorem jb_an : ∀ x : Fin 64, ∀ i : Fin 6, nI x.val &&& (((1 : Int32) <<< (nI i.val &&& 31)) ^^^ (-1)) = nI (x.val &&& (63 - 2 ^ i.val)) := by decide +kernel
theorem jb_cl : ∀ x : Fin 64, ∀ y : Fin 64, nI x.val &&& (nI y.val ^^^ (-1)) = nI (x.val &&& (63 - y.val)) := by decide +kernel
theorem jb_all : ∀ n : Fin 7, ((1 : Int32) <<< (nI n.val &&& 31)) - 1 = nI (2 ^ n.val - 1) := by decide +kernel
theorem jb_1 : ∀ n : Fin 7, ((1 : Int32) <<< (nI n.val &&& 31)) = nI (2 ^ n.val) := by decide +kernel
theorem jb_to : ∀ x : Fin 64, ∀ i : Fin 6, ∀ j : Fin 6, (x.val ||| 2 ^ i.val).testBit j.val = (x.val.testBit j.val || decide (j = i)) := by decide +kernel
theorem jb_ta : ∀ x : Fin 64, ∀ i : Fin 6, ∀ j : Fin 6, (x.val &&& (63 - 2 ^ i.val)).testBit j.val = (x.val.testBit j.val && !decide (j = i)) := by decide +kernel
theorem jb_tc : ∀ x : Fin 64, ∀ y : Fin 64, ∀ j : Fin 6, (x.val &&& (63 - y.val)).testBit j.val = (x.val.testBit j.val && !y.val.testBit j.val) := by decide +kernel
theorem jb_ol : ∀ x : Fin 64, ∀ y : Fin 64, nI x.val ||| nI y.val = nI (x.val ||| y.val) ∧ x.val ||| y.val < 64 := by decide +kernel
theorem jb_ol2 : ∀ x : Fin 64, ∀ i : Fin 6, x.val ||| 2 ^ i.val < 64 := by decide +kernel
theorem jb_xl : ∀ x : Fin 64, ∀ i : Fin 6, nI x.val ^^^ ((1 : Int32) <<< (nI i.val &&& 31)) = nI (x.val ^^^ 2 ^ i.val) ∧ x.val ^^^ 2 ^ i.val < 64 := by decide +kernel
