theorem obC_0 {l : Launch} {D : va_G} {ci : ClassId} {ad : Nat → Nat → Nat} {t : Nat} {A : Nat → Nat} {f1 f3 f6 : Nat → Int32} (had : ∀ o j, o < 8 → ad o j = A (ixC o j)) : ∀ k, k < 15 → vp_V [.ref (A 7), .ref (A 1), .ref (A 11), .ref (A 16), .ref (A 20), .ref (A 29), .ref (A 34), .ref (A 43), .int 0, .int 0, .int 0, .int (-9), .int 0, .int 0, .int 0] k = jx_v (eC l D ci ad t) (c00 f1 f3 f6) 5 0 k := by
  intro k hk
  match k, hk with
  | 0, _ => exact (congrArg Value.ref (show A 7 = ad 1 0 from (had 1 0 (by decide)).symm) : Value.ref (A 7) = Value.ref (ad 1 0))
  | 1, _ => exact (congrArg Value.ref (show A 1 = ad 2 0 from (had 2 0 (by decide)).symm) : Value.ref (A 1) = Value.ref (ad 2 0))
  | 2, _ => exact (congrArg Value.ref (show A 11 = ad 3 0 from (had 3 0 (by decide)).symm) : Value.ref (A 11) = Value.ref (ad 3 0))
  | 3, _ => exact (congrArg Value.ref (show A 16 = ad 4 0 from (had 4 0 (by decide)).symm) : Value.ref (A 16) = Value.ref (ad 4 0))
  | 4, _ => exact (congrArg Value.ref (show A 20 = ad 5 0 from (had 5 0 (by decide)).symm) : Value.ref (A 20) = Value.ref (ad 5 0))
  | 5, _ => exact (congrArg Value.ref (show A 29 = ad 6 0 from (had 6 0 (by decide)).symm) : Value.ref (A 29) = Value.ref (ad 6 0))
  | 6, _ => exact (congrArg Value.ref (show A 34 = ad 7 0 from (had 7 0 (by decide)).symm) : Value.ref (A 34) = Value.ref (ad 7 0))
  | 7, _ => exact (congrArg Value.ref (show A 43 = ad 0 8 from (had 0 8 (by decide)).symm) : Value.ref (A 43) = Value.ref (ad 0 8))
  | 8, _ => rfl
  | 9, _ => rfl
  | 10, _ => rfl
  | 11, _ => rfl
  | 12, _ => rfl
  | 13, _ => rfl
  | 14, _ => rfl
  | k + 15, h => exact absurd h (by omega)
theorem obC_1 {l : Launch} {D : va_G} {ci : ClassId} {ad : Nat → Nat → Nat} {t : Nat} {A : Nat → Nat} {f1 f3 f6 : Nat → Int32} (had : ∀ o j, o < 8 → ad o j = A (ixC o j)) : ∀ k, k < 3 → vp_V [.ref (A 10), .ref (A 8), .ref (A 9)] k = jx_v (eC l D ci ad t) (c00 f1 f3 f6) 4 1 k := by
  intro k hk
  match k, hk with
  | 0, _ => exact (congrArg Value.ref (show A 10 = ad 1 1 from (had 1 1 (by decide)).symm) : Value.ref (A 10) = Value.ref (ad 1 1))
  | 1, _ => exact (congrArg Value.ref (show A 8 = ad 1 2 from (had 1 2 (by decide)).symm) : Value.ref (A 8) = Value.ref (ad 1 2))
  | 2, _ => exact (congrArg Value.ref (show A 9 = ad 1 3 from (had 1 3 (by decide)).symm) : Value.ref (A 9) = Value.ref (ad 1 3))
  | k + 3, h => exact absurd h (by omega)
theorem obC_2 {l : Launch} {D : va_G} {ci : ClassId} {ad : Nat → Nat → Nat} {t : Nat} {A : Nat → Nat} {f1 f3 f6 : Nat → Int32} (had : ∀ o j, o < 8 → ad o j = A (ixC o j)) : ∀ k, k < 7 → vp_V [.int 0, .int 0, .ref (A 2), .ref (A 3), .ref (A 4), .ref (A 5), .ref (A 6)] k = jx_v (eC l D ci ad t) (c00 f1 f3 f6) 1 2 k := by
  intro k hk
  match k, hk with
  | 0, _ => rfl
  | 1, _ => rfl
  | 2, _ => exact (congrArg Value.ref (show A 2 = ad 2 3 from (had 2 3 (by decide)).symm) : Value.ref (A 2) = Value.ref (ad 2 3))
  | 3, _ => exact (congrArg Value.ref (show A 3 = ad 2 4 from (had 2 4 (by decide)).symm) : Value.ref (A 3) = Value.ref (ad 2 4))
  | 4, _ => exact (congrArg Value.ref (show A 4 = ad 2 5 from (had 2 5 (by decide)).symm) : Value.ref (A 4) = Value.ref (ad 2 5))
  | 5, _ => exact (congrArg Value.ref (show A 5 = ad 2 6 from (had 2 6 (by decide)).symm) : Value.ref (A 5) = Value.ref (ad 2 6))
  | 6, _ => exact (congrArg Value.ref (show A 6 = ad 2 7 from (had 2 7 (by decide)).symm) : Value.ref (A 6) = Value.ref (ad 2 7))
  | k + 7, h => exact absurd h (by omega)
theorem obC_3 {l : Launch} {D : va_G} {ci : ClassId} {ad : Nat → Nat → Nat} {t : Nat} {A : Nat → Nat} {f1 f3 f6 : Nat → Int32} (had : ∀ o j, o < 8 → ad o j = A (ixC o j)) : ∀ k, k < 7 → vp_V [.int 0, .int 0, .int 0, .ref (A 15), .ref (A 12), .ref (A 13), .ref (A 14)] k = jx_v (eC l D ci ad t) (c00 f1 f3 f6) 2 3 k := by
  intro k hk
  match k, hk with
  | 0, _ => rfl
  | 1, _ => rfl
  | 2, _ => rfl
  | 3, _ => exact (congrArg Value.ref (show A 15 = ad 3 4 from (had 3 4 (by decide)).symm) : Value.ref (A 15) = Value.ref (ad 3 4))
  | 4, _ => exact (congrArg Value.ref (show A 12 = ad 3 5 from (had 3 5 (by decide)).symm) : Value.ref (A 12) = Value.ref (ad 3 5))
  | 5, _ => exact (congrArg Value.ref (show A 13 = ad 3 6 from (had 3 6 (by decide)).symm) : Value.ref (A 13) = Value.ref (ad 3 6))
  | 6, _ => exact (congrArg Value.ref (show A 14 = ad 3 7 from (had 3 7 (by decide)).symm) : Value.ref (A 14) = Value.ref (ad 3 7))
  | k + 7, h => exact absurd h (by omega)
theorem obC_4 {l : Launch} {D : va_G} {ci : ClassId} {ad : Nat → Nat → Nat} {t : Nat} {A : Nat → Nat} {f1 f3 f6 : Nat → Int32} (had : ∀ o j, o < 8 → ad o j = A (ixC o j)) : ∀ k, k < 4 → vp_V [.int 0, .ref (A 17), .ref (A 18), .ref (A 19)] k = jx_v (eC l D ci ad t) (c00 f1 f3 f6) 3 4 k := by
  intro k hk
  match k, hk with
  | 0, _ => rfl
  | 1, _ => exact (congrArg Value.ref (show A 17 = ad 4 2 from (had 4 2 (by decide)).symm) : Value.ref (A 17) = Value.ref (ad 4 2))
  | 2, _ => exact (congrArg Value.ref (show A 18 = ad 4 3 from (had 4 3 (by decide)).symm) : Value.ref (A 18) = Value.ref (ad 4 3))
  | 3, _ => exact (congrArg Value.ref (show A 19 = ad 4 4 from (had 4 4 (by decide)).symm) : Value.ref (A 19) = Value.ref (ad 4 4))
  | k + 4, h => exact absurd h (by omega)
theorem obC_5 {l : Launch} {D : va_G} {ci : ClassId} {ad : Nat → Nat → Nat} {t : Nat} {A : Nat → Nat} {f1 f3 f6 : Nat → Int32} (had : ∀ o j, o < 8 → ad o j = A (ixC o j)) : ∀ k, k < 14 → vp_V [.ref (A 21), .int 0, .int 0, .ref (A 1), .ref (A 22), .ref (A 23), .ref (A 24), .ref (A 25), .ref (A 26), .ref (A 27), .ref (A 28), .int 0, .int 0, .int 0] k = jx_v (eC l D ci ad t) (c00 f1 f3 f6) 0 5 k := by
  intro k hk
  match k, hk with
  | 0, _ => exact (congrArg Value.ref (show A 21 = ad 5 1 from (had 5 1 (by decide)).symm) : Value.ref (A 21) = Value.ref (ad 5 1))
  | 1, _ => rfl
  | 2, _ => rfl
  | 3, _ => exact (congrArg Value.ref (show A 1 = ad 2 0 from (had 2 0 (by decide)).symm) : Value.ref (A 1) = Value.ref (ad 2 0))
  | 4, _ => exact (congrArg Value.ref (show A 22 = ad 5 5 from (had 5 5 (by decide)).symm) : Value.ref (A 22) = Value.ref (ad 5 5))
  | 5, _ => exact (congrArg Value.ref (show A 23 = ad 5 6 from (had 5 6 (by decide)).symm) : Value.ref (A 23) = Value.ref (ad 5 6))
  | 6, _ => exact (congrArg Value.ref (show A 24 = ad 5 7 from (had 5 7 (by decide)).symm) : Value.ref (A 24) = Value.ref (ad 5 7))
  | 7, _ => exact (congrArg Value.ref (show A 25 = ad 5 8 from (had 5 8 (by decide)).symm) : Value.ref (A 25) = Value.ref (ad 5 8))
  | 8, _ => exact (congrArg Value.ref (show A 26 = ad 5 9 from (had 5 9 (by decide)).symm) : Value.ref (A 26) = Value.ref (ad 5 9))
  | 9, _ => exact (congrArg Value.ref (show A 27 = ad 5 10 from (had 5 10 (by decide)).symm) : Value.ref (A 27) = Value.ref (ad 5 10))
  | 10, _ => exact (congrArg Value.ref (show A 28 = ad 5 11 from (had 5 11 (by decide)).symm) : Value.ref (A 28) = Value.ref (ad 5 11))
  | 11, _ => rfl
  | 12, _ => rfl
  | 13, _ => rfl
  | k + 14, h => exact absurd h (by omega)
theorem obC_6 {l : Launch} {D : va_G} {ci : ClassId} {ad : Nat → Nat → Nat} {t : Nat} {A : Nat → Nat} {f1 f3 f6 : Nat → Int32} (had : ∀ o j, o < 8 → ad o j = A (ixC o j)) : ∀ k, k < 7 → vp_V [.int 0, .int 0, .int 0, .ref (A 33), .ref (A 30), .ref (A 31), .ref (A 32)] k = jx_v (eC l D ci ad t) (c00 f1 f3 f6) 2 6 k := by
  intro k hk
  match k, hk with
  | 0, _ => rfl
  | 1, _ => rfl
  | 2, _ => rfl
  | 3, _ => exact (congrArg Value.ref (show A 33 = ad 6 4 from (had 6 4 (by decide)).symm) : Value.ref (A 33) = Value.ref (ad 6 4))
  | 4, _ => exact (congrArg Value.ref (show A 30 = ad 6 5 from (had 6 5 (by decide)).symm) : Value.ref (A 30) = Value.ref (ad 6 5))
  | 5, _ => exact (congrArg Value.ref (show A 31 = ad 6 6 from (had 6 6 (by decide)).symm) : Value.ref (A 31) = Value.ref (ad 6 6))
  | 6, _ => exact (congrArg Value.ref (show A 32 = ad 6 7 from (had 6 7 (by decide)).symm) : Value.ref (A 32) = Value.ref (ad 6 7))
  | k + 7, h => exact absurd h (by omega)
theorem obC_7 {l : Launch} {D : va_G} {ci : ClassId} {ad : Nat → Nat → Nat} {t : Nat} {A : Nat → Nat} {f1 f3 f6 : Nat → Int32} (had : ∀ o j, o < 8 → ad o j = A (ixC o j)) : ∀ k, k < 14 → vp_V [.ref (A 35), .int 0, .int 0, .ref (A 1), .ref (A 36), .ref (A 37), .ref (A 38), .ref (A 39), .ref (A 40), .ref (A 41), .ref (A 42), .int 0, .int 0, .int 0] k = jx_v (eC l D ci ad t) (c00 f1 f3 f6) 0 7 k := by
  intro k hk
  match k, hk with
  | 0, _ => exact (congrArg Value.ref (show A 35 = ad 7 1 from (had 7 1 (by decide)).symm) : Value.ref (A 35) = Value.ref (ad 7 1))
  | 1, _ => rfl
  | 2, _ => rfl
  | 3, _ => exact (congrArg Value.ref (show A 1 = ad 2 0 from (had 2 0 (by decide)).symm) : Value.ref (A 1) = Value.ref (ad 2 0))
  | 4, _ => exact (congrArg Value.ref (show A 36 = ad 7 5 from (had 7 5 (by decide)).symm) : Value.ref (A 36) = Value.ref (ad 7 5))
  | 5, _ => exact (congrArg Value.ref (show A 37 = ad 7 6 from (had 7 6 (by decide)).symm) : Value.ref (A 37) = Value.ref (ad 7 6))
  | 6, _ => exact (congrArg Value.ref (show A 38 = ad 7 7 from (had 7 7 (by decide)).symm) : Value.ref (A 38) = Value.ref (ad 7 7))
  | 7, _ => exact (congrArg Value.ref (show A 39 = ad 7 8 from (had 7 8 (by decide)).symm) : Value.ref (A 39) = Value.ref (ad 7 8))
  | 8, _ => exact (congrArg Value.ref (show A 40 = ad 7 9 from (had 7 9 (by decide)).symm) : Value.ref (A 40) = Value.ref (ad 7 9))
  | 9, _ => exact (congrArg Value.ref (show A 41 = ad 7 10 from (had 7 10 (by decide)).symm) : Value.ref (A 41) = Value.ref (ad 7 10))
  | 10, _ => exact (congrArg Value.ref (show A 42 = ad 7 11 from (had 7 11 (by decide)).symm) : Value.ref (A 42) = Value.ref (ad 7 11))
  | 11, _ => rfl
  | 12, _ => rfl
  | 13, _ => rfl
  | k + 14, h => exact absurd h (by omega)
theorem obM_8 {l : Launch} {D : va_G} {ci : ClassId} {ad : Nat → Nat → Nat} {t : Nat} {A : Nat → Nat} (had : ∀ j, ad 8 j = A (ixM 8 j)) : ∀ k, k < 43 → vp_V [.int 0, .int 0, .int 0, .ref (A 1), .ref (A 2), .ref (A 3), .ref (A 4), .ref (A 5), .int 0, .int 0, .ref (A 6), .int 0, .int 0, .int 0, .ref (A 7), .ref (A 8), .ref (A 9), .ref (A 10), .ref (A 11), .int 0, .ref (A 12), .ref (A 13), .ref (A 14), .ref (A 15), .ref (A 16), .ref (A 17), .ref (A 18), .ref (A 19), .int 0, .int 0, .int 0, .ref (A 20), .ref (A 21), .ref (A 22), .int 0, .ref (A 23), .ref (A 24), .ref (A 25), .ref (A 26), .ref (A 27), .ref (A 28), .ref (A 29), .int 0] k = jx_v (eM l D ci ad t) m00 6 8 k := by
  intro k hk
  match k, hk with
  | 0, _ => rfl
  | 1, _ => rfl
  | 2, _ => rfl
  | 3, _ => exact (congrArg Value.ref (show A 1 = ad 8 4 from (had 4).symm) : Value.ref (A 1) = Value.ref (ad 8 4))
  | 4, _ => exact (congrArg Value.ref (show A 2 = ad 8 5 from (had 5).symm) : Value.ref (A 2) = Value.ref (ad 8 5))
  | 5, _ => exact (congrArg Value.ref (show A 3 = ad 8 6 from (had 6).symm) : Value.ref (A 3) = Value.ref (ad 8 6))
  | 6, _ => exact (congrArg Value.ref (show A 4 = ad 8 7 from (had 7).symm) : Value.ref (A 4) = Value.ref (ad 8 7))
  | 7, _ => exact (congrArg Value.ref (show A 5 = ad 8 8 from (had 8).symm) : Value.ref (A 5) = Value.ref (ad 8 8))
  | 8, _ => rfl
  | 9, _ => rfl
  | 10, _ => exact (congrArg Value.ref (show A 6 = ad 8 11 from (had 11).symm) : Value.ref (A 6) = Value.ref (ad 8 11))
  | 11, _ => rfl
  | 12, _ => rfl
  | 13, _ => rfl
  | 14, _ => exact (congrArg Value.ref (show A 7 = ad 8 15 from (had 15).symm) : Value.ref (A 7) = Value.ref (ad 8 15))
  | 15, _ => exact (congrArg Value.ref (show A 8 = ad 8 16 from (had 16).symm) : Value.ref (A 8) = Value.ref (ad 8 16))
  | 16, _ => exact (congrArg Value.ref (show A 9 = ad 8 17 from (had 17).symm) : Value.ref (A 9) = Value.ref (ad 8 17))
  | 17, _ => exact (congrArg Value.ref (show A 10 = ad 8 18 from (had 18).symm) : Value.ref (A 10) = Value.ref (ad 8 18))
  | 18, _ => exact (congrArg Value.ref (show A 11 = ad 8 19 from (had 19).symm) : Value.ref (A 11) = Value.ref (ad 8 19))
  | 19, _ => rfl
  | 20, _ => exact (congrArg Value.ref (show A 12 = ad 8 21 from (had 21).symm) : Value.ref (A 12) = Value.ref (ad 8 21))
  | 21, _ => exact (congrArg Value.ref (show A 13 = ad 8 22 from (had 22).symm) : Value.ref (A 13) = Value.ref (ad 8 22))
  | 22, _ => exact (congrArg Value.ref (show A 14 = ad 8 23 from (had 23).symm) : Value.ref (A 14) = Value.ref (ad 8 23))
  | 23, _ => exact (congrArg Value.ref (show A 15 = ad 8 24 from (had 24).symm) : Value.ref (A 15) = Value.ref (ad 8 24))
  | 24, _ => exact (congrArg Value.ref (show A 16 = ad 8 25 from (had 25).symm) : Value.ref (A 16) = Value.ref (ad 8 25))
  | 25, _ => exact (congrArg Value.ref (show A 17 = ad 8 26 from (had 26).symm) : Value.ref (A 17) = Value.ref (ad 8 26))
  | 26, _ => exact (congrArg Value.ref (show A 18 = ad 8 27 from (had 27).symm) : Value.ref (A 18) = Value.ref (ad 8 27))
  | 27, _ => exact (congrArg Value.ref (show A 19 = ad 8 28 from (had 28).symm) : Value.ref (A 19) = Value.ref (ad 8 28))
  | 28, _ => rfl
  | 29, _ => rfl
  | 30, _ => rfl
  | 31, _ => exact (congrArg Value.ref (show A 20 = ad 8 32 from (had 32).symm) : Value.ref (A 20) = Value.ref (ad 8 32))
  | 32, _ => exact (congrArg Value.ref (show A 21 = ad 8 33 from (had 33).symm) : Value.ref (A 21) = Value.ref (ad 8 33))
  | 33, _ => exact (congrArg Value.ref (show A 22 = ad 8 34 from (had 34).symm) : Value.ref (A 22) = Value.ref (ad 8 34))
  | 34, _ => rfl
  | 35, _ => exact (congrArg Value.ref (show A 23 = ad 8 36 from (had 36).symm) : Value.ref (A 23) = Value.ref (ad 8 36))
  | 36, _ => exact (congrArg Value.ref (show A 24 = ad 8 37 from (had 37).symm) : Value.ref (A 24) = Value.ref (ad 8 37))
  | 37, _ => exact (congrArg Value.ref (show A 25 = ad 8 38 from (had 38).symm) : Value.ref (A 25) = Value.ref (ad 8 38))
  | 38, _ => exact (congrArg Value.ref (show A 26 = ad 8 39 from (had 39).symm) : Value.ref (A 26) = Value.ref (ad 8 39))
  | 39, _ => exact (congrArg Value.ref (show A 27 = ad 8 40 from (had 40).symm) : Value.ref (A 27) = Value.ref (ad 8 40))
  | 40, _ => exact (congrArg Value.ref (show A 28 = ad 8 41 from (had 41).symm) : Value.ref (A 28) = Value.ref (ad 8 41))
  | 41, _ => exact (congrArg Value.ref (show A 29 = ad 8 42 from (had 42).symm) : Value.ref (A 29) = Value.ref (ad 8 42))
  | 42, _ => rfl
  | k + 43, h => exact absurd h (by omega)
theorem arC_0 {D : va_G} {ci : ClassId} {ad : Nat → Nat → Nat} {A : Nat → Nat} {f1 f3 f6 : Nat → Int32} {H : Heap} (hP : va_P D vwCl (LC ci A f1 f3 f6) H) (had : ∀ o j, o < 8 → ad o j = A (ixC o j)) : ∀ k, k < 15 → jx_k 5 k = 1 → H[ad 0 (k + 1)]? = some (vp_cell ci (jx_l 5 k, .inl ((c00 f1 f3 f6) 0 k))) := by
  intro k hk h1
  match k, hk, h1 with
  | 0, _, h => exact absurd h (by decide)
  | 1, _, h => exact absurd h (by decide)
  | 2, _, h => exact absurd h (by decide)
  | 3, _, h => exact absurd h (by decide)
  | 4, _, h => exact absurd h (by decide)
  | 5, _, h => exact absurd h (by decide)
  | 6, _, h => exact absurd h (by decide)
  | 7, _, _ => exact (congrArg (fun a => H[a]?) (show ad 0 8 = A 43 from had 0 8 (by decide))).trans (show H[A 43]? = _ from hP 43 (A 43, .inl (ci, 64, .inl fun _ => 0)) rfl)
  | 8, _, h => exact absurd h (by decide)
  | 9, _, h => exact absurd h (by decide)
  | 10, _, h => exact absurd h (by decide)
  | 11, _, h => exact absurd h (by decide)
  | 12, _, h => exact absurd h (by decide)
  | 13, _, h => exact absurd h (by decide)
  | 14, _, h => exact absurd h (by decide)
  | k + 15, h, _ => exact absurd h (by omega)
theorem arC_1 {D : va_G} {ci : ClassId} {ad : Nat → Nat → Nat} {A : Nat → Nat} {f1 f3 f6 : Nat → Int32} {H : Heap} (hP : va_P D vwCl (LC ci A f1 f3 f6) H) (had : ∀ o j, o < 8 → ad o j = A (ixC o j)) : ∀ k, k < 3 → jx_k 4 k = 1 → H[ad 1 (k + 1)]? = some (vp_cell ci (jx_l 4 k, .inl ((c00 f1 f3 f6) 1 k))) := by
  intro k hk h1
  match k, hk, h1 with
  | 0, _, _ => exact (congrArg (fun a => H[a]?) (show ad 1 1 = A 10 from had 1 1 (by decide))).trans (show H[A 10]? = _ from hP 10 (A 10, .inl (ci, 4, .inl f1)) rfl)
  | 1, _, _ => exact (congrArg (fun a => H[a]?) (show ad 1 2 = A 8 from had 1 2 (by decide))).trans (show H[A 8]? = _ from hP 8 (A 8, .inl (ci, 4, .inl fun _ => 0)) rfl)
  | 2, _, _ => exact (congrArg (fun a => H[a]?) (show ad 1 3 = A 9 from had 1 3 (by decide))).trans (show H[A 9]? = _ from hP 9 (A 9, .inl (ci, 240, .inl fun _ => 0)) rfl)
  | k + 3, h, _ => exact absurd h (by omega)
theorem arC_2 {D : va_G} {ci : ClassId} {ad : Nat → Nat → Nat} {A : Nat → Nat} {f1 f3 f6 : Nat → Int32} {H : Heap} (hP : va_P D vwCl (LC ci A f1 f3 f6) H) (had : ∀ o j, o < 8 → ad o j = A (ixC o j)) : ∀ k, k < 7 → jx_k 1 k = 1 → H[ad 2 (k + 1)]? = some (vp_cell ci (jx_l 1 k, .inl ((c00 f1 f3 f6) 2 k))) := by
  intro k hk h1
  match k, hk, h1 with
  | 0, _, h => exact absurd h (by decide)
  | 1, _, h => exact absurd h (by decide)
  | 2, _, _ => exact (congrArg (fun a => H[a]?) (show ad 2 3 = A 2 from had 2 3 (by decide))).trans (show H[A 2]? = _ from hP 2 (A 2, .inl (ci, 6, .inl fun _ => 0)) rfl)
  | 3, _, _ => exact (congrArg (fun a => H[a]?) (show ad 2 4 = A 3 from had 2 4 (by decide))).trans (show H[A 3]? = _ from hP 3 (A 3, .inl (ci, 6, .inl fun _ => 0)) rfl)
  | 4, _, _ => exact (congrArg (fun a => H[a]?) (show ad 2 5 = A 4 from had 2 5 (by decide))).trans (show H[A 4]? = _ from hP 4 (A 4, .inl (ci, 6, .inl fun _ => 0)) rfl)
  | 5, _, _ => exact (congrArg (fun a => H[a]?) (show ad 2 6 = A 5 from had 2 6 (by decide))).trans (show H[A 5]? = _ from hP 5 (A 5, .inl (ci, 6, .inl fun _ => 0)) rfl)
  | 6, _, _ => exact (congrArg (fun a => H[a]?) (show ad 2 7 = A 6 from had 2 7 (by decide))).trans (show H[A 6]? = _ from hP 6 (A 6, .inl (ci, 6, .inl fun _ => 0)) rfl)
  | k + 7, h, _ => exact absurd h (by omega)
theorem arC_3 {D : va_G} {ci : ClassId} {ad : Nat → Nat → Nat} {A : Nat → Nat} {f1 f3 f6 : Nat → Int32} {H : Heap} (hP : va_P D vwCl (LC ci A f1 f3 f6) H) (had : ∀ o j, o < 8 → ad o j = A (ixC o j)) : ∀ k, k < 7 → jx_k 2 k = 1 → H[ad 3 (k + 1)]? = some (vp_cell ci (jx_l 2 k, .inl ((c00 f1 f3 f6) 3 k))) := by
  intro k hk h1
  match k, hk, h1 with
  | 0, _, h => exact absurd h (by decide)
  | 1, _, h => exact absurd h (by decide)
  | 2, _, h => exact absurd h (by decide)
  | 3, _, _ => exact (congrArg (fun a => H[a]?) (show ad 3 4 = A 15 from had 3 4 (by decide))).trans (show H[A 15]? = _ from hP 15 (A 15, .inl (ci, 4, .inl f3)) rfl)
  | 4, _, _ => exact (congrArg (fun a => H[a]?) (show ad 3 5 = A 12 from had 3 5 (by decide))).trans (show H[A 12]? = _ from hP 12 (A 12, .inl (ci, 7, .inl fun _ => 0)) rfl)
  | 5, _, _ => exact (congrArg (fun a => H[a]?) (show ad 3 6 = A 13 from had 3 6 (by decide))).trans (show H[A 13]? = _ from hP 13 (A 13, .inl (ci, 7, .inl fun _ => 0)) rfl)
  | 6, _, _ => exact (congrArg (fun a => H[a]?) (show ad 3 7 = A 14 from had 3 7 (by decide))).trans (show H[A 14]? = _ from hP 14 (A 14, .inl (ci, 7, .inl fun _ => 0)) rfl)
  | k + 7, h, _ => exact absurd h (by omega)
theorem arC_4 {D : va_G} {ci : ClassId} {ad : Nat → Nat → Nat} {A : Nat → Nat} {f1 f3 f6 : Nat → Int32} {H : Heap} (hP : va_P D vwCl (LC ci A f1 f3 f6) H) (had : ∀ o j, o < 8 → ad o j = A (ixC o j)) : ∀ k, k < 4 → jx_k 3 k = 1 → H[ad 4 (k + 1)]? = some (vp_cell ci (jx_l 3 k, .inl ((c00 f1 f3 f6) 4 k))) := by
  intro k hk h1
  match k, hk, h1 with
  | 0, _, h => exact absurd h (by decide)
  | 1, _, _ => exact (congrArg (fun a => H[a]?) (show ad 4 2 = A 17 from had 4 2 (by decide))).trans (show H[A 17]? = _ from hP 17 (A 17, .inl (ci, 8, .inl fun _ => 0)) rfl)
  | 2, _, _ => exact (congrArg (fun a => H[a]?) (show ad 4 3 = A 18 from had 4 3 (by decide))).trans (show H[A 18]? = _ from hP 18 (A 18, .inl (ci, 8, .inl fun _ => 0)) rfl)
  | 3, _, _ => exact (congrArg (fun a => H[a]?) (show ad 4 4 = A 19 from had 4 4 (by decide))).trans (show H[A 19]? = _ from hP 19 (A 19, .inl (ci, 8, .inl fun _ => 0)) rfl)
  | k + 4, h, _ => exact absurd h (by omega)
theorem arC_5 {D : va_G} {ci : ClassId} {ad : Nat → Nat → Nat} {A : Nat → Nat} {f1 f3 f6 : Nat → Int32} {H : Heap} (hP : va_P D vwCl (LC ci A f1 f3 f6) H) (had : ∀ o j, o < 8 → ad o j = A (ixC o j)) : ∀ k, k < 14 → jx_k 0 k = 1 → H[ad 5 (k + 1)]? = some (vp_cell ci (jx_l 0 k, .inl ((c00 f1 f3 f6) 5 k))) := by
  intro k hk h1
  match k, hk, h1 with
  | 0, _, _ => exact (congrArg (fun a => H[a]?) (show ad 5 1 = A 21 from had 5 1 (by decide))).trans (show H[A 21]? = _ from hP 21 (A 21, .inl (ci, 40, .inl fun _ => 0)) rfl)
  | 1, _, h => exact absurd h (by decide)
  | 2, _, h => exact absurd h (by decide)
  | 3, _, h => exact absurd h (by decide)
  | 4, _, _ => exact (congrArg (fun a => H[a]?) (show ad 5 5 = A 22 from had 5 5 (by decide))).trans (show H[A 22]? = _ from hP 22 (A 22, .inl (ci, 160, .inl fun _ => 0)) rfl)
  | 5, _, _ => exact (congrArg (fun a => H[a]?) (show ad 5 6 = A 23 from had 5 6 (by decide))).trans (show H[A 23]? = _ from hP 23 (A 23, .inl (ci, 160, .inl fun _ => 0)) rfl)
  | 6, _, _ => exact (congrArg (fun a => H[a]?) (show ad 5 7 = A 24 from had 5 7 (by decide))).trans (show H[A 24]? = _ from hP 24 (A 24, .inl (ci, 240, .inl fun _ => 0)) rfl)
  | 7, _, _ => exact (congrArg (fun a => H[a]?) (show ad 5 8 = A 25 from had 5 8 (by decide))).trans (show H[A 25]? = _ from hP 25 (A 25, .inl (ci, 240, .inl fun _ => 0)) rfl)
  | 8, _, _ => exact (congrArg (fun a => H[a]?) (show ad 5 9 = A 26 from had 5 9 (by decide))).trans (show H[A 26]? = _ from hP 26 (A 26, .inl (ci, 4, .inl fun _ => 0)) rfl)
  | 9, _, _ => exact (congrArg (fun a => H[a]?) (show ad 5 10 = A 27 from had 5 10 (by decide))).trans (show H[A 27]? = _ from hP 27 (A 27, .inl (ci, 4, .inl fun _ => 0)) rfl)
  | 10, _, _ => exact (congrArg (fun a => H[a]?) (show ad 5 11 = A 28 from had 5 11 (by decide))).trans (show H[A 28]? = _ from hP 28 (A 28, .inl (ci, 6, .inl fun _ => 0)) rfl)
  | 11, _, h => exact absurd h (by decide)
  | 12, _, h => exact absurd h (by decide)
  | 13, _, h => exact absurd h (by decide)
  | k + 14, h, _ => exact absurd h (by omega)
theorem arC_6 {D : va_G} {ci : ClassId} {ad : Nat → Nat → Nat} {A : Nat → Nat} {f1 f3 f6 : Nat → Int32} {H : Heap} (hP : va_P D vwCl (LC ci A f1 f3 f6) H) (had : ∀ o j, o < 8 → ad o j = A (ixC o j)) : ∀ k, k < 7 → jx_k 2 k = 1 → H[ad 6 (k + 1)]? = some (vp_cell ci (jx_l 2 k, .inl ((c00 f1 f3 f6) 6 k))) := by
  intro k hk h1
  match k, hk, h1 with
  | 0, _, h => exact absurd h (by decide)
  | 1, _, h => exact absurd h (by decide)
  | 2, _, h => exact absurd h (by decide)
  | 3, _, _ => exact (congrArg (fun a => H[a]?) (show ad 6 4 = A 33 from had 6 4 (by decide))).trans (show H[A 33]? = _ from hP 33 (A 33, .inl (ci, 4, .inl f6)) rfl)
  | 4, _, _ => exact (congrArg (fun a => H[a]?) (show ad 6 5 = A 30 from had 6 5 (by decide))).trans (show H[A 30]? = _ from hP 30 (A 30, .inl (ci, 7, .inl fun _ => 0)) rfl)
  | 5, _, _ => exact (congrArg (fun a => H[a]?) (show ad 6 6 = A 31 from had 6 6 (by decide))).trans (show H[A 31]? = _ from hP 31 (A 31, .inl (ci, 7, .inl fun _ => 0)) rfl)
  | 6, _, _ => exact (congrArg (fun a => H[a]?) (show ad 6 7 = A 32 from had 6 7 (by decide))).trans (show H[A 32]? = _ from hP 32 (A 32, .inl (ci, 7, .inl fun _ => 0)) rfl)
  | k + 7, h, _ => exact absurd h (by omega)
theorem arC_7 {D : va_G} {ci : ClassId} {ad : Nat → Nat → Nat} {A : Nat → Nat} {f1 f3 f6 : Nat → Int32} {H : Heap} (hP : va_P D vwCl (LC ci A f1 f3 f6) H) (had : ∀ o j, o < 8 → ad o j = A (ixC o j)) : ∀ k, k < 14 → jx_k 0 k = 1 → H[ad 7 (k + 1)]? = some (vp_cell ci (jx_l 0 k, .inl ((c00 f1 f3 f6) 7 k))) := by
  intro k hk h1
  match k, hk, h1 with
  | 0, _, _ => exact (congrArg (fun a => H[a]?) (show ad 7 1 = A 35 from had 7 1 (by decide))).trans (show H[A 35]? = _ from hP 35 (A 35, .inl (ci, 40, .inl fun _ => 0)) rfl)
  | 1, _, h => exact absurd h (by decide)
  | 2, _, h => exact absurd h (by decide)
  | 3, _, h => exact absurd h (by decide)
  | 4, _, _ => exact (congrArg (fun a => H[a]?) (show ad 7 5 = A 36 from had 7 5 (by decide))).trans (show H[A 36]? = _ from hP 36 (A 36, .inl (ci, 160, .inl fun _ => 0)) rfl)
  | 5, _, _ => exact (congrArg (fun a => H[a]?) (show ad 7 6 = A 37 from had 7 6 (by decide))).trans (show H[A 37]? = _ from hP 37 (A 37, .inl (ci, 160, .inl fun _ => 0)) rfl)
  | 6, _, _ => exact (congrArg (fun a => H[a]?) (show ad 7 7 = A 38 from had 7 7 (by decide))).trans (show H[A 38]? = _ from hP 38 (A 38, .inl (ci, 240, .inl fun _ => 0)) rfl)
  | 7, _, _ => exact (congrArg (fun a => H[a]?) (show ad 7 8 = A 39 from had 7 8 (by decide))).trans (show H[A 39]? = _ from hP 39 (A 39, .inl (ci, 240, .inl fun _ => 0)) rfl)
  | 8, _, _ => exact (congrArg (fun a => H[a]?) (show ad 7 9 = A 40 from had 7 9 (by decide))).trans (show H[A 40]? = _ from hP 40 (A 40, .inl (ci, 4, .inl fun _ => 0)) rfl)
  | 9, _, _ => exact (congrArg (fun a => H[a]?) (show ad 7 10 = A 41 from had 7 10 (by decide))).trans (show H[A 41]? = _ from hP 41 (A 41, .inl (ci, 4, .inl fun _ => 0)) rfl)
  | 10, _, _ => exact (congrArg (fun a => H[a]?) (show ad 7 11 = A 42 from had 7 11 (by decide))).trans (show H[A 42]? = _ from hP 42 (A 42, .inl (ci, 6, .inl fun _ => 0)) rfl)
  | 11, _, h => exact absurd h (by decide)
  | 12, _, h => exact absurd h (by decide)
  | 13, _, h => exact absurd h (by decide)
  | k + 14, h, _ => exact absurd h (by omega)
theorem arM_8 {D : va_G} {ci : ClassId} {ad : Nat → Nat → Nat} {A : Nat → Nat} {H : Heap} (hP : va_P D vwCl (LM ci A) H) (had : ∀ j, ad 8 j = A (ixM 8 j)) : ∀ k, k < 43 → jx_k 6 k = 1 → H[ad 8 (k + 1)]? = some (vp_cell ci (jx_l 6 k, .inl (m00 8 k))) := by
  intro k hk h1
  match k, hk, h1 with
  | 0, _, h => exact absurd h (by decide)
  | 1, _, h => exact absurd h (by decide)
  | 2, _, h => exact absurd h (by decide)
  | 3, _, _ => exact (congrArg (fun a => H[a]?) (show ad 8 4 = A 1 from had 4)).trans (show H[A 1]? = _ from hP 1 (A 1, .inl (ci, 6, .inl (fun _ => 0))) rfl)
  | 4, _, _ => exact (congrArg (fun a => H[a]?) (show ad 8 5 = A 2 from had 5)).trans (show H[A 2]? = _ from hP 2 (A 2, .inl (ci, 6, .inl (fun _ => 0))) rfl)
  | 5, _, _ => exact (congrArg (fun a => H[a]?) (show ad 8 6 = A 3 from had 6)).trans (show H[A 3]? = _ from hP 3 (A 3, .inl (ci, 6, .inl (fun _ => 0))) rfl)
  | 6, _, _ => exact (congrArg (fun a => H[a]?) (show ad 8 7 = A 4 from had 7)).trans (show H[A 4]? = _ from hP 4 (A 4, .inl (ci, 6, .inl (fun _ => 0))) rfl)
  | 7, _, _ => exact (congrArg (fun a => H[a]?) (show ad 8 8 = A 5 from had 8)).trans (show H[A 5]? = _ from hP 5 (A 5, .inl (ci, 6, .inl (fun _ => 0))) rfl)
  | 8, _, h => exact absurd h (by decide)
  | 9, _, h => exact absurd h (by decide)
  | 10, _, _ => exact (congrArg (fun a => H[a]?) (show ad 8 11 = A 6 from had 11)).trans (show H[A 6]? = _ from hP 6 (A 6, .inl (ci, 4, .inl (fun _ => 0))) rfl)
  | 11, _, h => exact absurd h (by decide)
  | 12, _, h => exact absurd h (by decide)
  | 13, _, h => exact absurd h (by decide)
  | 14, _, _ => exact (congrArg (fun a => H[a]?) (show ad 8 15 = A 7 from had 15)).trans (show H[A 7]? = _ from hP 7 (A 7, .inl (ci, 6, .inl (fun _ => 0))) rfl)
  | 15, _, _ => exact (congrArg (fun a => H[a]?) (show ad 8 16 = A 8 from had 16)).trans (show H[A 8]? = _ from hP 8 (A 8, .inl (ci, 6, .inl (fun _ => 0))) rfl)
  | 16, _, _ => exact (congrArg (fun a => H[a]?) (show ad 8 17 = A 9 from had 17)).trans (show H[A 9]? = _ from hP 9 (A 9, .inl (ci, 6, .inl (fun _ => 0))) rfl)
  | 17, _, _ => exact (congrArg (fun a => H[a]?) (show ad 8 18 = A 10 from had 18)).trans (show H[A 10]? = _ from hP 10 (A 10, .inl (ci, 6, .inl (fun _ => 0))) rfl)
  | 18, _, _ => exact (congrArg (fun a => H[a]?) (show ad 8 19 = A 11 from had 19)).trans (show H[A 11]? = _ from hP 11 (A 11, .inl (ci, 6, .inl (fun _ => 0))) rfl)
  | 19, _, h => exact absurd h (by decide)
  | 20, _, _ => exact (congrArg (fun a => H[a]?) (show ad 8 21 = A 12 from had 21)).trans (show H[A 12]? = _ from hP 12 (A 12, .inl (ci, 7, .inl (fun _ => 0))) rfl)
  | 21, _, _ => exact (congrArg (fun a => H[a]?) (show ad 8 22 = A 13 from had 22)).trans (show H[A 13]? = _ from hP 13 (A 13, .inl (ci, 7, .inl (fun _ => 0))) rfl)
  | 22, _, _ => exact (congrArg (fun a => H[a]?) (show ad 8 23 = A 14 from had 23)).trans (show H[A 14]? = _ from hP 14 (A 14, .inl (ci, 7, .inl (fun _ => 0))) rfl)
  | 23, _, _ => exact (congrArg (fun a => H[a]?) (show ad 8 24 = A 15 from had 24)).trans (show H[A 15]? = _ from hP 15 (A 15, .inl (ci, 6, .inl (fun _ => 0))) rfl)
  | 24, _, _ => exact (congrArg (fun a => H[a]?) (show ad 8 25 = A 16 from had 25)).trans (show H[A 16]? = _ from hP 16 (A 16, .inl (ci, 6, .inl (fun _ => 0))) rfl)
  | 25, _, _ => exact (congrArg (fun a => H[a]?) (show ad 8 26 = A 17 from had 26)).trans (show H[A 17]? = _ from hP 17 (A 17, .inl (ci, 6, .inl (fun _ => 0))) rfl)
  | 26, _, _ => exact (congrArg (fun a => H[a]?) (show ad 8 27 = A 18 from had 27)).trans (show H[A 18]? = _ from hP 18 (A 18, .inl (ci, 6, .inl (fun _ => 0))) rfl)
  | 27, _, _ => exact (congrArg (fun a => H[a]?) (show ad 8 28 = A 19 from had 28)).trans (show H[A 19]? = _ from hP 19 (A 19, .inl (ci, 4, .inl (fun _ => 0))) rfl)
  | 28, _, h => exact absurd h (by decide)
  | 29, _, h => exact absurd h (by decide)
  | 30, _, h => exact absurd h (by decide)
  | 31, _, _ => exact (congrArg (fun a => H[a]?) (show ad 8 32 = A 20 from had 32)).trans (show H[A 20]? = _ from hP 20 (A 20, .inl (ci, 6, .inl (fun _ => 0))) rfl)
  | 32, _, _ => exact (congrArg (fun a => H[a]?) (show ad 8 33 = A 21 from had 33)).trans (show H[A 21]? = _ from hP 21 (A 21, .inl (ci, 6, .inl (fun _ => 0))) rfl)
  | 33, _, _ => exact (congrArg (fun a => H[a]?) (show ad 8 34 = A 22 from had 34)).trans (show H[A 22]? = _ from hP 22 (A 22, .inl (ci, 6, .inl (fun _ => 0))) rfl)
  | 34, _, h => exact absurd h (by decide)
  | 35, _, _ => exact (congrArg (fun a => H[a]?) (show ad 8 36 = A 23 from had 36)).trans (show H[A 23]? = _ from hP 23 (A 23, .inl (ci, 8, .inl (fun _ => 0))) rfl)
  | 36, _, _ => exact (congrArg (fun a => H[a]?) (show ad 8 37 = A 24 from had 37)).trans (show H[A 24]? = _ from hP 24 (A 24, .inl (ci, 8, .inl (fun _ => 0))) rfl)
  | 37, _, _ => exact (congrArg (fun a => H[a]?) (show ad 8 38 = A 25 from had 38)).trans (show H[A 25]? = _ from hP 25 (A 25, .inl (ci, 8, .inl (fun _ => 0))) rfl)
  | 38, _, _ => exact (congrArg (fun a => H[a]?) (show ad 8 39 = A 26 from had 39)).trans (show H[A 26]? = _ from hP 26 (A 26, .inl (ci, 4, .inl (upd (upd (upd (upd (fun _ => 0) 0 (-1)) 1 (-1)) 2 (-1)) 3 (-1)))) rfl)
  | 39, _, _ => exact (congrArg (fun a => H[a]?) (show ad 8 40 = A 27 from had 40)).trans (show H[A 27]? = _ from hP 27 (A 27, .inl (ci, 4, .inl (fun _ => 0))) rfl)
  | 40, _, _ => exact (congrArg (fun a => H[a]?) (show ad 8 41 = A 28 from had 41)).trans (show H[A 28]? = _ from hP 28 (A 28, .inl (ci, 240, .inl (fun _ => 0))) rfl)
  | 41, _, _ => exact (congrArg (fun a => H[a]?) (show ad 8 42 = A 29 from had 42)).trans (show H[A 29]? = _ from hP 29 (A 29, .inl (ci, 60, .inl (fun _ => 0))) rfl)
  | 42, _, h => exact absurd h (by decide)
  | k + 43, h, _ => exact absurd h (by omega)
theorem jfin_C {o j : Nat} (hB : o < 8) (hv : jvd o j = true) : j < 16 := by
  have h1 := jvd_le hv
  have h2 : jx_n (jx_c o) ≤ 15 := jvd_lt ⟨o, hB⟩
  omega
theorem jfin_M {j : Nat} (hv : jvd 8 j = true) : j < 44 := by
  have h1 : j ≤ 43 := jvd_le hv
  omega
theorem jA_C {l : Launch} {D : va_G} {ci : ClassId} {ad : Nat → Nat → Nat} {t : Nat} {A : Nat → Nat} {f1 f3 f6 : Nat → Int32} {q : Nat} (had : ∀ o j, o < 8 → ad o j = A (ixC o j)) (h : jA (eC l D ci ad t) q) : ∃ o j, ∃ hB : o < 8, ∃ hj : j < 16, jvd o j = true ∧ q = A (ixC o j) ∧ ∃ e, (LC ci A f1 f3 f6)[ixC o j]? = some (q, e) := by
  obtain ⟨o, j, hv, rfl⟩ := h
  obtain ⟨hB, hv⟩ := jvd_of hv
  have hB : o < 8 := hB
  have hj := jfin_C hB hv
  have e : ja (eC l D ci ad t) o j = A (ixC o j) := had o j hB
  obtain ⟨e1, x1⟩ := LC_at ci A f1 f3 f6 _ (ixC_inj ⟨o, hB⟩ ⟨j, hj⟩ hv).1
  refine ⟨o, j, hB, hj, hv, e, e1, ?_⟩
  rw [e]
  exact x1
theorem jA_M {l : Launch} {D : va_G} {ci : ClassId} {ad : Nat → Nat → Nat} {t : Nat} {A : Nat → Nat} {q : Nat} (had : ∀ j, ad 8 j = A (ixM 8 j)) (h : jA (eM l D ci ad t) q) : ∃ j, ∃ hj : j < 44, jvd 8 j = true ∧ q = A (ixM 8 j) ∧ ∃ e, (LM ci A)[ixM 8 j]? = some (q, e) := by
  obtain ⟨o, j, hv, rfl⟩ := h
  obtain ⟨hB, hv⟩ := jvd_of hv
  have hB : o = 8 := hB
  subst hB
  have hj := jfin_M hv
  have e : ja (eM l D ci ad t) 8 j = A (ixM 8 j) := had j
  obtain ⟨e1, x1⟩ := LM_at ci A _ (ixM_inj ⟨j, hj⟩ hv).1
  refine ⟨j, hj, hv, e, e1, ?_⟩
  rw [e]
  exact x1
theorem jH_C {l : Launch} {D : va_G} {ci : ClassId} {ad : Nat → Nat → Nat} {t : Nat} {A : Nat → Nat} {f1 f3 f6 : Nat → Int32} {Z : Nat → Prop} {H : Heap} (hP : va_P D vwCl (LC ci A f1 f3 f6) H) (hD : va_D Z (LC ci A f1 f3 f6)) (had : ∀ o j, o < 8 → ad o j = A (ixC o j)) : jH (eC l D ci ad t) (c00 f1 f3 f6) H := by
  refine ⟨?_, ?_, ?_⟩
  · intro o j o' j' h h' e
    obtain ⟨hB, hv⟩ := jvd_of h
    obtain ⟨hB', hv'⟩ := jvd_of h'
    have hB : o < 8 := hB
    have hB' : o' < 8 := hB'
    have hj := jfin_C hB hv
    have hj' := jfin_C hB' hv'
    have q := ixC_inj ⟨o, hB⟩ ⟨j, hj⟩ hv
    have q' := ixC_inj ⟨o', hB'⟩ ⟨j', hj'⟩ hv'
    obtain ⟨e1, x1⟩ := LC_at ci A f1 f3 f6 _ q.1
    obtain ⟨e2, x2⟩ := LC_at ci A f1 f3 f6 _ q'.1
    have e3 : A (ixC o j) = A (ixC o' j') := by
      rw [← had o j hB, ← had o' j' hB']
      exact e
    have r := q.2 ⟨o', hB'⟩ ⟨j', hj'⟩ hv' (hD.1 _ _ _ _ x1 x2 e3)
    exact ⟨congrArg Fin.val r.1, congrArg Fin.val r.2⟩
  · intro o hB
    have hB : o < 8 := hB
    match o, hB with
    | 0, _ =>
      obtain ⟨r, h1, h2⟩ := (show va_at D vwCl (A 0, .inr (5, [.ref (A 7), .ref (A 1), .ref (A 11), .ref (A 16), .ref (A 20), .ref (A 29), .ref (A 34), .ref (A 43), .int 0, .int 0, .int 0, .int (-9), .int 0, .int 0, .int 0])) H from hP 0 _ rfl)
      cases h1
      show t_OB (ad 0 0) (D.1 5) 15 (D.2 5) H (fun k => jx_v (eC l D ci ad t) (c00 f1 f3 f6) 5 0 k)
      rw [show ad 0 0 = A 0 from had 0 0 (by decide)]
      exact t_OB.to h2 (obC_0 had)
    | 1, _ =>
      obtain ⟨r, h1, h2⟩ := (show va_at D vwCl (A 7, .inr (4, [.ref (A 10), .ref (A 8), .ref (A 9)])) H from hP 7 _ rfl)
      cases h1
      show t_OB (ad 1 0) (D.1 4) 3 (D.2 4) H (fun k => jx_v (eC l D ci ad t) (c00 f1 f3 f6) 4 1 k)
      rw [show ad 1 0 = A 7 from had 1 0 (by decide)]
      exact t_OB.to h2 (obC_1 had)
    | 2, _ =>
      obtain ⟨r, h1, h2⟩ := (show va_at D vwCl (A 1, .inr (1, [.int 0, .int 0, .ref (A 2), .ref (A 3), .ref (A 4), .ref (A 5), .ref (A 6)])) H from hP 1 _ rfl)
      cases h1
      show t_OB (ad 2 0) (D.1 1) 7 (D.2 1) H (fun k => jx_v (eC l D ci ad t) (c00 f1 f3 f6) 1 2 k)
      rw [show ad 2 0 = A 1 from had 2 0 (by decide)]
      exact t_OB.to h2 (obC_2 had)
    | 3, _ =>
      obtain ⟨r, h1, h2⟩ := (show va_at D vwCl (A 11, .inr (2, [.int 0, .int 0, .int 0, .ref (A 15), .ref (A 12), .ref (A 13), .ref (A 14)])) H from hP 11 _ rfl)
      cases h1
      show t_OB (ad 3 0) (D.1 2) 7 (D.2 2) H (fun k => jx_v (eC l D ci ad t) (c00 f1 f3 f6) 2 3 k)
      rw [show ad 3 0 = A 11 from had 3 0 (by decide)]
      exact t_OB.to h2 (obC_3 had)
    | 4, _ =>
      obtain ⟨r, h1, h2⟩ := (show va_at D vwCl (A 16, .inr (3, [.int 0, .ref (A 17), .ref (A 18), .ref (A 19)])) H from hP 16 _ rfl)
      cases h1
      show t_OB (ad 4 0) (D.1 3) 4 (D.2 3) H (fun k => jx_v (eC l D ci ad t) (c00 f1 f3 f6) 3 4 k)
      rw [show ad 4 0 = A 16 from had 4 0 (by decide)]
      exact t_OB.to h2 (obC_4 had)
    | 5, _ =>
      obtain ⟨r, h1, h2⟩ := (show va_at D vwCl (A 20, .inr (0, [.ref (A 21), .int 0, .int 0, .ref (A 1), .ref (A 22), .ref (A 23), .ref (A 24), .ref (A 25), .ref (A 26), .ref (A 27), .ref (A 28), .int 0, .int 0, .int 0])) H from hP 20 _ rfl)
      cases h1
      show t_OB (ad 5 0) (D.1 0) 14 (D.2 0) H (fun k => jx_v (eC l D ci ad t) (c00 f1 f3 f6) 0 5 k)
      rw [show ad 5 0 = A 20 from had 5 0 (by decide)]
      exact t_OB.to h2 (obC_5 had)
    | 6, _ =>
      obtain ⟨r, h1, h2⟩ := (show va_at D vwCl (A 29, .inr (2, [.int 0, .int 0, .int 0, .ref (A 33), .ref (A 30), .ref (A 31), .ref (A 32)])) H from hP 29 _ rfl)
      cases h1
      show t_OB (ad 6 0) (D.1 2) 7 (D.2 2) H (fun k => jx_v (eC l D ci ad t) (c00 f1 f3 f6) 2 6 k)
      rw [show ad 6 0 = A 29 from had 6 0 (by decide)]
      exact t_OB.to h2 (obC_6 had)
    | 7, _ =>
      obtain ⟨r, h1, h2⟩ := (show va_at D vwCl (A 34, .inr (0, [.ref (A 35), .int 0, .int 0, .ref (A 1), .ref (A 36), .ref (A 37), .ref (A 38), .ref (A 39), .ref (A 40), .ref (A 41), .ref (A 42), .int 0, .int 0, .int 0])) H from hP 34 _ rfl)
      cases h1
      show t_OB (ad 7 0) (D.1 0) 14 (D.2 0) H (fun k => jx_v (eC l D ci ad t) (c00 f1 f3 f6) 0 7 k)
      rw [show ad 7 0 = A 34 from had 7 0 (by decide)]
      exact t_OB.to h2 (obC_7 had)
    | o + 8, h => exact absurd h (by omega)
  · intro o k hB hn hk
    have hB : o < 8 := hB
    match o, hB, hn, hk with
    | 0, _, hn, hk => exact arC_0 hP had k hn hk
    | 1, _, hn, hk => exact arC_1 hP had k hn hk
    | 2, _, hn, hk => exact arC_2 hP had k hn hk
    | 3, _, hn, hk => exact arC_3 hP had k hn hk
    | 4, _, hn, hk => exact arC_4 hP had k hn hk
    | 5, _, hn, hk => exact arC_5 hP had k hn hk
    | 6, _, hn, hk => exact arC_6 hP had k hn hk
    | 7, _, hn, hk => exact arC_7 hP had k hn hk
    | o + 8, h, _, _ => exact absurd h (by omega)
theorem jH_M {l : Launch} {D : va_G} {ci : ClassId} {ad : Nat → Nat → Nat} {t : Nat} {A : Nat → Nat} {Z : Nat → Prop} {H : Heap} (hP : va_P D vwCl (LM ci A) H) (hD : va_D Z (LM ci A)) (had : ∀ j, ad 8 j = A (ixM 8 j)) : jH (eM l D ci ad t) m00 H := by
  refine ⟨?_, ?_, ?_⟩
  · intro o j o' j' h h' e
    obtain ⟨hB, hv⟩ := jvd_of h
    obtain ⟨hB', hv'⟩ := jvd_of h'
    have hB : o = 8 := hB
    have hB' : o' = 8 := hB'
    subst hB
    subst hB'
    have hj := jfin_M hv
    have hj' := jfin_M hv'
    have q := ixM_inj ⟨j, hj⟩ hv
    have q' := ixM_inj ⟨j', hj'⟩ hv'
    obtain ⟨e1, x1⟩ := LM_at ci A _ q.1
    obtain ⟨e2, x2⟩ := LM_at ci A _ q'.1
    have e3 : A (ixM 8 j) = A (ixM 8 j') := by
      rw [← had j, ← had j']
      exact e
    have r := q.2 ⟨j', hj'⟩ hv' (hD.1 _ _ _ _ x1 x2 e3)
    exact ⟨rfl, congrArg Fin.val r⟩
  · intro o hB
    have hB : o = 8 := hB
    subst hB
    obtain ⟨r, h1, h2⟩ := (show va_at D vwCl (A 0, .inr (6, [.int 0, .int 0, .int 0, .ref (A 1), .ref (A 2), .ref (A 3), .ref (A 4), .ref (A 5), .int 0, .int 0, .ref (A 6), .int 0, .int 0, .int 0, .ref (A 7), .ref (A 8), .ref (A 9), .ref (A 10), .ref (A 11), .int 0, .ref (A 12), .ref (A 13), .ref (A 14), .ref (A 15), .ref (A 16), .ref (A 17), .ref (A 18), .ref (A 19), .int 0, .int 0, .int 0, .ref (A 20), .ref (A 21), .ref (A 22), .int 0, .ref (A 23), .ref (A 24), .ref (A 25), .ref (A 26), .ref (A 27), .ref (A 28), .ref (A 29), .int 0])) H from hP 0 _ rfl)
    cases h1
    show t_OB (ad 8 0) (D.1 6) 43 (D.2 6) H (fun k => jx_v (eM l D ci ad t) m00 6 8 k)
    rw [show ad 8 0 = A 0 from had 0]
    exact t_OB.to h2 (obM_8 had)
  · intro o k hB hn hk
    have hB : o = 8 := hB
    subst hB
    exact arM_8 hP had k hn hk
theorem LC_of {ci : ClassId} {a : Nat} {u : va_W} (h : ∃ (o1 o1q1 o1q2 o1q3 o1q4 o1q5 o2 o2q1 o2q2 o2q3 o3 o3q1 o3q2 o3q3 o3q4 o4 o4q1 o4q2 o4q3 o5 o5q1 o5q2 o5q3 o5q4 o5q5 o5q6 o5q7 o5q8 o6 o6q1 o6q2 o6q3 o6q4 o7 o7q1 o7q2 o7q3 o7q4 o7q5 o7q6 o7q7 o7q8 z : Nat) (o2f o3f o6f : Nat → Int32), u = [(a, .inr (5, [.ref o2, .ref o1, .ref o3, .ref o4, .ref o5, .ref o6, .ref o7, .ref z, .int 0, .int 0, .int 0, .int (-9), .int 0, .int 0, .int 0])), (o1, .inr (1, [.int 0, .int 0, .ref o1q1, .ref o1q2, .ref o1q3, .ref o1q4, .ref o1q5])), (o1q1, .inl (ci, 6, .inl fun _ => 0)), (o1q2, .inl (ci, 6, .inl fun _ => 0)), (o1q3, .inl (ci, 6, .inl fun _ => 0)), (o1q4, .inl (ci, 6, .inl fun _ => 0)), (o1q5, .inl (ci, 6, .inl fun _ => 0)), (o2, .inr (4, [.ref o2q1, .ref o2q2, .ref o2q3])), (o2q2, .inl (ci, 4, .inl fun _ => 0)), (o2q3, .inl (ci, 240, .inl fun _ => 0)), (o2q1, .inl (ci, 4, .inl o2f)), (o3, .inr (2, [.int 0, .int 0, .int 0, .ref o3q1, .ref o3q2, .ref o3q3, .ref o3q4])), (o3q2, .inl (ci, 7, .inl fun _ => 0)), (o3q3, .inl (ci, 7, .inl fun _ => 0)), (o3q4, .inl (ci, 7, .inl fun _ => 0)), (o3q1, .inl (ci, 4, .inl o3f)), (o4, .inr (3, [.int 0, .ref o4q1, .ref o4q2, .ref o4q3])), (o4q1, .inl (ci, 8, .inl fun _ => 0)), (o4q2, .inl (ci, 8, .inl fun _ => 0)), (o4q3, .inl (ci, 8, .inl fun _ => 0)), (o5, .inr (0, [.ref o5q1, .int 0, .int 0, .ref o1, .ref o5q2, .ref o5q3, .ref o5q4, .ref o5q5, .ref o5q6, .ref o5q7, .ref o5q8, .int 0, .int 0, .int 0])), (o5q1, .inl (ci, 40, .inl fun _ => 0)), (o5q2, .inl (ci, 160, .inl fun _ => 0)), (o5q3, .inl (ci, 160, .inl fun _ => 0)), (o5q4, .inl (ci, 240, .inl fun _ => 0)), (o5q5, .inl (ci, 240, .inl fun _ => 0)), (o5q6, .inl (ci, 4, .inl fun _ => 0)), (o5q7, .inl (ci, 4, .inl fun _ => 0)), (o5q8, .inl (ci, 6, .inl fun _ => 0)), (o6, .inr (2, [.int 0, .int 0, .int 0, .ref o6q1, .ref o6q2, .ref o6q3, .ref o6q4])), (o6q2, .inl (ci, 7, .inl fun _ => 0)), (o6q3, .inl (ci, 7, .inl fun _ => 0)), (o6q4, .inl (ci, 7, .inl fun _ => 0)), (o6q1, .inl (ci, 4, .inl o6f)), (o7, .inr (0, [.ref o7q1, .int 0, .int 0, .ref o1, .ref o7q2, .ref o7q3, .ref o7q4, .ref o7q5, .ref o7q6, .ref o7q7, .ref o7q8, .int 0, .int 0, .int 0])), (o7q1, .inl (ci, 40, .inl fun _ => 0)), (o7q2, .inl (ci, 160, .inl fun _ => 0)), (o7q3, .inl (ci, 160, .inl fun _ => 0)), (o7q4, .inl (ci, 240, .inl fun _ => 0)), (o7q5, .inl (ci, 240, .inl fun _ => 0)), (o7q6, .inl (ci, 4, .inl fun _ => 0)), (o7q7, .inl (ci, 4, .inl fun _ => 0)), (o7q8, .inl (ci, 6, .inl fun _ => 0)), (z, .inl (ci, 64, .inl fun _ => 0))] ∧ (∀ j, j < 4 → o2f j = (-9)) ∧ (∀ j, j < 4 → o3f j = 40) ∧ (∀ j, j < 4 → o6f j = 40)) : ∃ (A : Nat → Nat) (f1 f3 f6 : Nat → Int32), A 0 = a ∧ u = LC ci A f1 f3 f6 ∧ (∀ j, j < 4 → f1 j = -9) ∧ (∀ j, j < 4 → f3 j = 40) := by
  obtain ⟨o1, o1q1, o1q2, o1q3, o1q4, o1q5, o2, o2q1, o2q2, o2q3, o3, o3q1, o3q2, o3q3, o3q4, o4, o4q1, o4q2, o4q3, o5, o5q1, o5q2, o5q3, o5q4, o5q5, o5q6, o5q7, o5q8, o6, o6q1, o6q2, o6q3, o6q4, o7, o7q1, o7q2, o7q3, o7q4, o7q5, o7q6, o7q7, o7q8, z, o2f, o3f, o6f, rfl, h1, h3, h6⟩ := h
  exact ⟨fun i => match i with
    | 0 => a
    | 1 => o1
    | 2 => o1q1
    | 3 => o1q2
    | 4 => o1q3
    | 5 => o1q4
    | 6 => o1q5
    | 7 => o2
    | 8 => o2q2
    | 9 => o2q3
    | 10 => o2q1
    | 11 => o3
    | 12 => o3q2
    | 13 => o3q3
    | 14 => o3q4
    | 15 => o3q1
    | 16 => o4
    | 17 => o4q1
    | 18 => o4q2
    | 19 => o4q3
    | 20 => o5
    | 21 => o5q1
    | 22 => o5q2
    | 23 => o5q3
    | 24 => o5q4
    | 25 => o5q5
    | 26 => o5q6
    | 27 => o5q7
    | 28 => o5q8
    | 29 => o6
    | 30 => o6q2
    | 31 => o6q3
    | 32 => o6q4
    | 33 => o6q1
    | 34 => o7
    | 35 => o7q1
    | 36 => o7q2
    | 37 => o7q3
    | 38 => o7q4
    | 39 => o7q5
    | 40 => o7q6
    | 41 => o7q7
    | 42 => o7q8
    | 43 => z
    | _ => 0, o2f, o3f, o6f, rfl, rfl, h1, h3⟩
theorem LM_of {ci : ClassId} {a : Nat} {u : va_W} (h : ∃ q1 q2 q3 q4 q5 q6 q7 q8 q9 q10 q11 q12 q13 q14 q15 q16 q17 q18 q19 q20 q21 q22 q23 q24 q25 q26 q27 q28 q29 : Nat, u = [(a, .inr (6, [.int 0, .int 0, .int 0, .ref q1, .ref q2, .ref q3, .ref q4, .ref q5, .int 0, .int 0, .ref q6, .int 0, .int 0, .int 0, .ref q7, .ref q8, .ref q9, .ref q10, .ref q11, .int 0, .ref q12, .ref q13, .ref q14, .ref q15, .ref q16, .ref q17, .ref q18, .ref q19, .int 0, .int 0, .int 0, .ref q20, .ref q21, .ref q22, .int 0, .ref q23, .ref q24, .ref q25, .ref q26, .ref q27, .ref q28, .ref q29, .int 0])), (q1, .inl (ci, 6, .inl (fun _ => 0))), (q2, .inl (ci, 6, .inl (fun _ => 0))), (q3, .inl (ci, 6, .inl (fun _ => 0))), (q4, .inl (ci, 6, .inl (fun _ => 0))), (q5, .inl (ci, 6, .inl (fun _ => 0))), (q6, .inl (ci, 4, .inl (fun _ => 0))), (q7, .inl (ci, 6, .inl (fun _ => 0))), (q8, .inl (ci, 6, .inl (fun _ => 0))), (q9, .inl (ci, 6, .inl (fun _ => 0))), (q10, .inl (ci, 6, .inl (fun _ => 0))), (q11, .inl (ci, 6, .inl (fun _ => 0))), (q12, .inl (ci, 7, .inl (fun _ => 0))), (q13, .inl (ci, 7, .inl (fun _ => 0))), (q14, .inl (ci, 7, .inl (fun _ => 0))), (q15, .inl (ci, 6, .inl (fun _ => 0))), (q16, .inl (ci, 6, .inl (fun _ => 0))), (q17, .inl (ci, 6, .inl (fun _ => 0))), (q18, .inl (ci, 6, .inl (fun _ => 0))), (q19, .inl (ci, 4, .inl (fun _ => 0))), (q20, .inl (ci, 6, .inl (fun _ => 0))), (q21, .inl (ci, 6, .inl (fun _ => 0))), (q22, .inl (ci, 6, .inl (fun _ => 0))), (q23, .inl (ci, 8, .inl (fun _ => 0))), (q24, .inl (ci, 8, .inl (fun _ => 0))), (q25, .inl (ci, 8, .inl (fun _ => 0))), (q26, .inl (ci, 4, .inl (upd (upd (upd (upd (fun _ => 0) 0 (-1)) 1 (-1)) 2 (-1)) 3 (-1)))), (q27, .inl (ci, 4, .inl (fun _ => 0))), (q28, .inl (ci, 240, .inl (fun _ => 0))), (q29, .inl (ci, 60, .inl (fun _ => 0)))]) : ∃ A : Nat → Nat, A 0 = a ∧ u = LM ci A := by
  obtain ⟨q1, q2, q3, q4, q5, q6, q7, q8, q9, q10, q11, q12, q13, q14, q15, q16, q17, q18, q19, q20, q21, q22, q23, q24, q25, q26, q27, q28, q29, rfl⟩ := h
  exact ⟨fun i => match i with
    | 0 => a
    | 1 => q1
    | 2 => q2
    | 3 => q3
    | 4 => q4
    | 5 => q5
    | 6 => q6
    | 7 => q7
    | 8 => q8
    | 9 => q9
    | 10 => q10
    | 11 => q11
    | 12 => q12
    | 13 => q13
    | 14 => q14
    | 15 => q15
    | 16 => q16
    | 17 => q17
    | 18 => q18
    | 19 => q19
    | 20 => q20
    | 21 => q21
    | 22 => q22
    | 23 => q23
    | 24 => q24
    | 25 => q25
    | 26 => q26
    | 27 => q27
    | 28 => q28
    | 29 => q29
    | _ => 0, rfl, rfl⟩
theorem vaP_l {D : va_G} {cl : List vw_C} {w1 w2 : va_W} {H : Heap} (h : va_P D cl (w1 ++ w2) H) : va_P D cl w1 H := fun k q hk => h k q (by
  rw [List.getElem?_append_left (List.getElem?_eq_some_iff.mp hk).1]
  exact hk)
theorem vaP_r {D : va_G} {cl : List vw_C} {w1 w2 : va_W} {H : Heap} (h : va_P D cl (w1 ++ w2) H) : va_P D cl w2 H := fun k q hk => h (w1.length + k) q (by
  rw [List.getElem?_append_right (Nat.le_add_right _ _), Nat.add_sub_cancel_left]
  exact hk)
theorem vaD_l {A : Nat → Prop} {w1 w2 : va_W} (h : va_D A (w1 ++ w2)) : va_D A w1 := by
  have f : ∀ (k : Nat) (q : Nat × va_E), w1[k]? = some q → (w1 ++ w2)[k]? = some q := fun k q hk => by
    rw [List.getElem?_append_left (List.getElem?_eq_some_iff.mp hk).1]
    exact hk
  exact ⟨fun i j p q h1 h2 e => h.1 i j p q (f i p h1) (f j q h2) e, fun k q hk => h.2 k q (f k q hk)⟩
theorem vaD_r {A : Nat → Prop} {w1 w2 : va_W} (h : va_D A (w1 ++ w2)) : va_D A w2 := by
  have f : ∀ (k : Nat) (q : Nat × va_E), w2[k]? = some q → (w1 ++ w2)[w1.length + k]? = some q := fun k q hk => by
    rw [List.getElem?_append_right (Nat.le_add_right _ _), Nat.add_sub_cancel_left]
    exact hk
  exact ⟨fun i j p q h1 h2 e => Nat.add_left_cancel (h.1 _ _ p q (f i p h1) (f j q h2) e), fun k q hk => h.2 _ q (f k q hk)⟩
theorem vaD_x {A : Nat → Prop} {w1 w2 : va_W} (h : va_D A (w1 ++ w2)) {i j : Nat} {p q : Nat × va_E} (h1 : w1[i]? = some p) (h2 : w2[j]? = some q) : p.1 ≠ q.1 := by
  intro e
  have hi := (List.getElem?_eq_some_iff.mp h1).1
  have := h.1 i (w1.length + j) p q (by rw [List.getElem?_append_left hi]; exact h1) (by rw [List.getElem?_append_right (Nat.le_add_right _ _), Nat.add_sub_cancel_left]; exact h2) e
  omega
