set_option maxHeartbeats 4000000 in
set_option maxRecDepth 100000 in
theorem JF_X6_in {E : jx_E} (hB : jB E 8) {a0 : Int64} {a2 : Int64} {a4 : Int64} {M : jx_M} {r : Int32} {M' : jx_M} (hF : F_X6_in a0 a2 a4 M = some (r, M')) : jC E yX6_in cX6_in 6 (some FieldType.boolean) rm_X6_in [.long a0, .long a2, .long a4] M (fun x M'' => x = some (.int r) ∧ M'' = M') := by
  refine jC.ofJ (L := [(0, .long a0), (2, .long a2), (4, .long a4)]) (by decide +kernel) (Nat.le_of_ble_eq_true rfl) rfl ?_
  unfold F_X6_in at hF
  refine jr_lload_n 0 dX6_in_0 rfl rfl rfl ?_
  refine jr_lload_n 1 dX6_in_1 rfl rfl rfl ?_
  refine jr_lcmp dX6_in_2 rfl ?_
  refine jr_if_lt 17 dX6_in_3 (by decide) rfl (fun c1 => ?_) (fun c1 => ?_)
  · have hF := jif_p hF c1
    refine jr_iconst (v := 0) dX6_in_17 (by decide) rfl ?_
    exact jh_zret rfl (Or.inl rfl) dX6_in_18 hF
  · have hF := jif_n hF c1
    refine jr_lload_n 0 dX6_in_6 rfl rfl rfl ?_
    refine jr_lload 2 dX6_in_7 rfl rfl ?_
    refine jr_lcmp dX6_in_9 rfl ?_
    refine jr_if_gt 17 dX6_in_10 (by decide) rfl (fun c1 => ?_) (fun c1 => ?_)
    · have hF := jif_p hF c1
      refine jr_iconst (v := 0) dX6_in_17 (by decide) rfl ?_
      exact jh_zret rfl (Or.inl rfl) dX6_in_18 hF
    · have hF := jif_n hF c1
      refine jr_iconst (v := 1) dX6_in_13 (by decide) rfl ?_
      refine jr_goto 18 dX6_in_14 (by decide) ?_
      exact jh_zret rfl (Or.inr rfl) dX6_in_18 hF
set_option maxHeartbeats 4000000 in
set_option maxRecDepth 100000 in
theorem JF_X6_lost {E : jx_E} (hB : jB E 8) {M : jx_M} {r : Int64} {M' : jx_M} (hF : F_X6_lost  M = some (r, M')) : jC E yX6_lost cX6_lost 0 (some FieldType.long) rm_X6_lost [] M (fun x M'' => x = some (.long r) ∧ M'' = M') := by
  refine jC.ofJ (L := []) (by decide +kernel) (Nat.le_of_ble_eq_true rfl) rfl ?_
  unfold F_X6_lost at hF
  refine jr_ldc2 (v := (-9223372036854775808)) dX6_lost_0 (List.mem_cons_of_mem _ (lw_g_of 1005 (by decide +kernel) (by decide +kernel))) rfl ?_
  exact jh_lret rfl dX6_lost_3 hF
set_option maxHeartbeats 4000000 in
set_option maxRecDepth 100000 in
theorem JF_X6_isIn {E : jx_E} (hB : jB E 8) {a0 : Int32} {a1 : Int32} {M : jx_M} {r : Int32} {M' : jx_M} (hF : F_X6_isIn a0 a1 M = some (r, M')) : jC E yX6_isIn cX6_isIn 2 (some FieldType.boolean) rm_X6_isIn [.int a0, .int a1] M (fun x M'' => x = some (.int r) ∧ M'' = M') := by
  refine jC.ofJ (L := [(0, .int a0), (1, .int a1)]) (by decide +kernel) (Nat.le_of_ble_eq_true rfl) rfl ?_
  unfold F_X6_isIn at hF
  refine jr_iload_n 0 dX6_isIn_0 rfl rfl rfl ?_
  refine jr_iload_n 1 dX6_isIn_1 rfl rfl rfl ?_
  refine jr_ishr dX6_isIn_2 rfl ?_
  refine jr_iconst (v := 1) dX6_isIn_3 (by decide) rfl ?_
  refine jr_iand dX6_isIn_4 rfl ?_
  refine jr_iconst (v := 1) dX6_isIn_5 (by decide) rfl ?_
  refine jr_icmp_ne 13 dX6_isIn_6 (by decide) rfl (fun c1 => ?_) (fun c1 => ?_)
  · have hF := jif_n hF c1
    refine jr_iconst (v := 0) dX6_isIn_13 (by decide) rfl ?_
    exact jh_zret rfl (Or.inl rfl) dX6_isIn_14 hF
  · have hF := jif_p hF c1
    refine jr_iconst (v := 1) dX6_isIn_9 (by decide) rfl ?_
    refine jr_goto 14 dX6_isIn_10 (by decide) ?_
    exact jh_zret rfl (Or.inr rfl) dX6_isIn_14 hF
set_option maxHeartbeats 4000000 in
set_option maxRecDepth 100000 in
theorem JL_X6_bits_4 {E : jx_E} (hB : jB E 8) {k : Int32 → jx_M → Option (Int32 × jx_M)} {r : Int32} {M' : jx_M} (hk : ∀ (z1 : Int32) (M : jx_M), k z1 M = some (r, M') → jJ E yX6_bits cX6_bits 3 (some FieldType.int) rm_X6_bits (fun x M'' => x = some (.int r) ∧ M'' = M') 21 [(1, .int z1)] [] M) : ∀ (n : Nat) (z1 : Int32) (z2 : Int32) (M : jx_M), L_X6_bits_4 k n z1 z2 M = some (r, M') → jJ E yX6_bits cX6_bits 3 (some FieldType.int) rm_X6_bits (fun x M'' => x = some (.int r) ∧ M'' = M') 4 [(1, .int z1), (2, .int z2)] [] M := by
  intro n
  induction n with
  | zero => intro z1 z2 M hF; exact nomatch (show (none : Option (Int32 × jx_M)) = some _ from hF)
  | succ n ih =>
    intro z1 z2 M hF
    rw [L_X6_bits_4.eq_2] at hF
    refine jr_iload_n 1 dX6_bits_4 rfl rfl rfl ?_
    refine jr_if_le 21 dX6_bits_5 (by decide) rfl (fun c1 => ?_) (fun c1 => ?_)
    · have hF := jif_p hF c1
      refine jr_sub [0] rfl ?_
      exact hk z1 M hF
    · have hF := jif_n hF c1
      refine jr_iload_n 0 dX6_bits_8 rfl rfl rfl ?_
      refine jr_iload_n 1 dX6_bits_9 rfl rfl rfl ?_
      refine jr_iconst (v := 1) dX6_bits_10 (by decide) rfl ?_
      refine jr_iand dX6_bits_11 rfl ?_
      refine jr_iadd dX6_bits_12 rfl ?_
      refine jr_topi (fun x1_1 ex1_1 => ?_)
      have hF := jlet_e hF x1_1 ex1_1
      refine jr_istore_n (L' := [(1, .int x1_1), (2, .int z2)]) dX6_bits_13 rfl (by decide) rfl rfl ?_
      refine jr_iload_n 1 dX6_bits_14 rfl rfl rfl ?_
      refine jr_iconst (v := 1) dX6_bits_15 (by decide) rfl ?_
      refine jr_ishr dX6_bits_16 rfl ?_
      refine jr_topi (fun x2_1 ex2_1 => ?_)
      have hF := jlet_e hF x2_1 ex2_1
      refine jr_istore_n (L' := [(2, .int x2_1), (1, .int x1_1)]) dX6_bits_17 rfl (by decide) rfl rfl ?_
      refine jr_goto 4 dX6_bits_18 (by decide) ?_
      refine jr_sub [1, 0] rfl ?_
      exact ih x1_1 x2_1 M hF
set_option maxHeartbeats 4000000 in
set_option maxRecDepth 100000 in
theorem JF_X6_bits {E : jx_E} (hB : jB E 8) {a0 : Int32} {M : jx_M} {r : Int32} {M' : jx_M} (hF : F_X6_bits a0 M = some (r, M')) : jC E yX6_bits cX6_bits 3 (some FieldType.int) rm_X6_bits [.int a0] M (fun x M'' => x = some (.int r) ∧ M'' = M') := by
  refine jC.ofJ (L := [(0, .int a0)]) (by decide +kernel) (Nat.le_of_ble_eq_true rfl) rfl ?_
  unfold F_X6_bits at hF
  refine jr_iconst (v := 0) dX6_bits_0 (by decide) rfl ?_
  refine jr_istore_n (L' := [(1, .int 0), (0, .int a0)]) dX6_bits_1 rfl (by decide) rfl rfl ?_
  refine jr_iload_n 1 dX6_bits_2 rfl rfl rfl ?_
  refine jr_istore_n (L' := [(2, .int a0), (1, .int 0), (0, .int a0)]) dX6_bits_3 rfl (by decide) rfl rfl ?_
  refine jr_sub [1, 0] rfl ?_
  refine JL_X6_bits_4 hB (fun x1_2 M_1 hF => ?_) jfu 0 a0 M hF
  refine jr_iload_n 0 dX6_bits_21 rfl rfl rfl ?_
  exact jh_iret rfl dX6_bits_22 hF
set_option maxHeartbeats 4000000 in
set_option maxRecDepth 100000 in
theorem JL_X6_told_6 {E : jx_E} (hB : jB E 8) {y0 : Int64} {y2 : Int64} {y4 : Int32} {k : Int64 → jx_M → Option (Int64 × jx_M)} {r : Int64} {M' : jx_M} (hk : ∀ (z5 : Int64) (M : jx_M), k z5 M = some (r, M') → jJ E yX6_told cX6_told 11 (some FieldType.long) rm_X6_told (fun x M'' => x = some (.long r) ∧ M'' = M') 31 [(0, .long y0), (2, .long y2), (4, .int y4), (5, .long z5)] [] M) : ∀ (n : Nat) (z5 : Int64) (z7 : Int64) (M : jx_M), L_X6_told_6 y0 y2 y4 k n z5 z7 M = some (r, M') → jJ E yX6_told cX6_told 11 (some FieldType.long) rm_X6_told (fun x M'' => x = some (.long r) ∧ M'' = M') 6 [(0, .long y0), (2, .long y2), (4, .int y4), (5, .long z5), (7, .long z7)] [] M := by
  intro n
  induction n with
  | zero => intro z5 z7 M hF; exact nomatch (show (none : Option (Int64 × jx_M)) = some _ from hF)
  | succ n ih =>
    intro z5 z7 M hF
    rw [L_X6_told_6.eq_2] at hF
    refine jr_lload 4 dX6_told_6 rfl rfl ?_
    refine jr_lconst (v := 0) dX6_told_8 (by decide) rfl ?_
    refine jr_lcmp dX6_told_9 rfl ?_
    refine jr_if_eq 31 dX6_told_10 (by decide) rfl (fun c1 => ?_) (fun c1 => ?_)
    · have hF := jif_p hF c1
      refine jr_sub [0, 1, 2, 3] rfl ?_
      exact hk z5 M hF
    · have hF := jif_n hF c1
      refine jr_lload 3 dX6_told_13 rfl rfl ?_
      refine jr_lload 4 dX6_told_15 rfl rfl ?_
      obtain ⟨hz_1, hF⟩ := jck_e hF
      refine jr_lrem dX6_told_17 (by simpa using hz_1) rfl ?_
      refine jr_topl (fun x9_1 ex9_1 => ?_)
      have hF := jlet_e hF x9_1 ex9_1
      refine jr_lstore (L' := [(9, .long x9_1), (0, .long y0), (2, .long y2), (4, .int y4), (5, .long z5), (7, .long z7)]) dX6_told_18 (by decide) rfl rfl ?_
      refine jr_lload 5 dX6_told_20 rfl rfl ?_
      refine jr_lstore (L' := [(5, .long z7), (9, .long x9_1), (0, .long y0), (2, .long y2), (4, .int y4), (7, .long z7)]) dX6_told_22 (by decide) rfl rfl ?_
      refine jr_lload 1 dX6_told_24 rfl rfl ?_
      refine jr_lstore (L' := [(7, .long x9_1), (5, .long z7), (9, .long x9_1), (0, .long y0), (2, .long y2), (4, .int y4)]) dX6_told_26 (by decide) rfl rfl ?_
      refine jr_goto 6 dX6_told_28 (by decide) ?_
      refine jr_sub [3, 4, 5, 1, 0] rfl ?_
      exact ih z7 x9_1 M hF
set_option maxHeartbeats 4000000 in
set_option maxRecDepth 100000 in
theorem JF_X6_told {E : jx_E} (hB : jB E 8) {a0 : Int64} {a2 : Int64} {a4 : Int32} {M : jx_M} {r : Int64} {M' : jx_M} (hF : F_X6_told a0 a2 a4 M = some (r, M')) : jC E yX6_told cX6_told 11 (some FieldType.long) rm_X6_told [.long a0, .long a2, .int a4] M (fun x M'' => x = some (.long r) ∧ M'' = M') := by
  refine jC.ofJ (L := [(0, .long a0), (2, .long a2), (4, .int a4)]) (by decide +kernel) (Nat.le_of_ble_eq_true rfl) rfl ?_
  unfold F_X6_told at hF
  refine jr_lload_n 0 dX6_told_0 rfl rfl rfl ?_
  refine jr_lstore (L' := [(5, .long a0), (0, .long a0), (2, .long a2), (4, .int a4)]) dX6_told_1 (by decide) rfl rfl ?_
  refine jr_lload_n 2 dX6_told_3 rfl rfl rfl ?_
  refine jr_lstore (L' := [(7, .long a2), (5, .long a0), (0, .long a0), (2, .long a2), (4, .int a4)]) dX6_told_4 (by decide) rfl rfl ?_
  refine jr_sub [2, 3, 4, 1, 0] rfl ?_
  refine JL_X6_told_6 hB (fun x5_1 M_1 hF => ?_) jfu a0 a2 M hF
  refine jr_iload 2 dX6_told_31 rfl rfl ?_
  refine jr_if_ne 40 dX6_told_33 (by decide) rfl (fun c1 => ?_) (fun c1 => ?_)
  · have hF := jif_n hF c1
    refine jr_lload_n 1 dX6_told_40 rfl rfl rfl ?_
    refine jr_lload 3 dX6_told_41 rfl rfl ?_
    obtain ⟨hz_2, hF⟩ := jck_e hF
    refine jr_ldiv dX6_told_43 (by simpa using hz_2) rfl ?_
    exact jh_lret rfl dX6_told_44 hF
  · have hF := jif_p hF c1
    refine jr_lload_n 0 dX6_told_36 rfl rfl rfl ?_
    refine jr_goto 41 dX6_told_37 (by decide) ?_
    refine jr_lload 3 dX6_told_41 rfl rfl ?_
    obtain ⟨hz_3, hF⟩ := jck_e hF
    refine jr_ldiv dX6_told_43 (by simpa using hz_3) rfl ?_
    exact jh_lret rfl dX6_told_44 hF
set_option maxHeartbeats 4000000 in
set_option maxRecDepth 100000 in
theorem JF_X6_refused {E : jx_E} (hB : jB E 8) {a1 : Int32} {M : jx_M} {r : Int32} {M' : jx_M} (hF : F_X6_refused a1 M = some (r, M')) : jC E yX6_refused cX6_refused 2 (some FieldType.int) rm_X6_refused [.ref (ja E 8 0), .int a1] M (fun x M'' => x = some (.int r) ∧ M'' = M') := by
  refine jC.ofJ (L := [(0, .ref (ja E 8 0)), (1, .int a1)]) (by decide +kernel) (Nat.le_of_ble_eq_true rfl) rfl ?_
  unfold F_X6_refused at hF
  refine jr_aload_n 0 dX6_refused_0 rfl rfl rfl ?_
  refine jr_iconst (v := 0) dX6_refused_1 (by decide) rfl ?_
  refine pf_X6_99 rfl rfl hB dX6_refused_2 ⟨rfl, rfl⟩ rfl (fun M_1 eM_1 => ?_)
  have hF := jlet_e hF M_1 eM_1
  refine jr_iload_n 1 dX6_refused_5 rfl rfl rfl ?_
  exact jh_iret rfl dX6_refused_6 hF
set_option maxHeartbeats 4000000 in
set_option maxRecDepth 100000 in
theorem JF_X6_failed {E : jx_E} (hB : jB E 8) {a1 : Int32} {M : jx_M} {r : Int32} {M' : jx_M} (hF : F_X6_failed a1 M = some (r, M')) : jC E yX6_failed cX6_failed 2 (some FieldType.int) rm_X6_failed [.ref (ja E 8 0), .int a1] M (fun x M'' => x = some (.int r) ∧ M'' = M') := by
  refine jC.ofJ (L := [(0, .ref (ja E 8 0)), (1, .int a1)]) (by decide +kernel) (Nat.le_of_ble_eq_true rfl) rfl ?_
  unfold F_X6_failed at hF
  refine jr_aload_n 0 dX6_failed_0 rfl rfl rfl ?_
  refine jr_iload_n 1 dX6_failed_1 rfl rfl rfl ?_
  refine pf_X6_99 rfl rfl hB dX6_failed_2 ⟨rfl, rfl⟩ rfl (fun M_1 eM_1 => ?_)
  have hF := jlet_e hF M_1 eM_1
  refine jr_bipush (v := (-10)) dX6_failed_5 (by decide) rfl ?_
  refine jr_iload_n 1 dX6_failed_7 rfl rfl rfl ?_
  refine jr_isub dX6_failed_8 rfl ?_
  exact jh_iret rfl dX6_failed_9 hF
set_option maxHeartbeats 4000000 in
set_option maxRecDepth 100000 in
theorem JF_X6_failedLong {E : jx_E} (hB : jB E 8) {a1 : Int32} {M : jx_M} {r : Int64} {M' : jx_M} (hF : F_X6_failedLong a1 M = some (r, M')) : jC E yX6_failedLong cX6_failedLong 2 (some FieldType.long) rm_X6_failedLong [.ref (ja E 8 0), .int a1] M (fun x M'' => x = some (.long r) ∧ M'' = M') := by
  refine jC.ofJ (L := [(0, .ref (ja E 8 0)), (1, .int a1)]) (by decide +kernel) (Nat.le_of_ble_eq_true rfl) rfl ?_
  unfold F_X6_failedLong at hF
  refine jr_aload_n 0 dX6_failedLong_0 rfl rfl rfl ?_
  refine jr_iload_n 1 dX6_failedLong_1 rfl rfl rfl ?_
  refine pf_X6_99 rfl rfl hB dX6_failedLong_2 ⟨rfl, rfl⟩ rfl (fun M_1 eM_1 => ?_)
  have hF := jlet_e hF M_1 eM_1
  obtain ⟨r_1, M_2, hc_1, hF⟩ := jbd_e hF
  refine jh_callS1 (v := .long r_1) (as := []) (st := []) (JF_X6_lost hB hc_1) cw_X6_103 (iv_X6_lost) ⟨rfl, rfl, by decide, by decide⟩ rfl rfl (Nat.le_of_ble_eq_true rfl) dX6_failedLong_5 rfl ?_
  exact jh_lret rfl dX6_failedLong_8 hF
set_option maxHeartbeats 4000000 in
set_option maxRecDepth 100000 in
theorem JF_X6_noPerson {E : jx_E} (hB : jB E 8) {a1 : Int32} {M : jx_M} {r : Int32} {M' : jx_M} (hF : F_X6_noPerson a1 M = some (r, M')) : jC E yX6_noPerson cX6_noPerson 2 (some FieldType.boolean) rm_X6_noPerson [.ref (ja E 8 0), .int a1] M (fun x M'' => x = some (.int r) ∧ M'' = M') := by
  refine jC.ofJ (L := [(0, .ref (ja E 8 0)), (1, .int a1)]) (by decide +kernel) (Nat.le_of_ble_eq_true rfl) rfl ?_
  unfold F_X6_noPerson at hF
  refine jr_iload_n 1 dX6_noPerson_0 rfl rfl rfl ?_
  refine jr_i2l dX6_noPerson_1 rfl ?_
  refine jr_lconst (v := 0) dX6_noPerson_2 (by decide) rfl ?_
  refine jr_aload_n 0 dX6_noPerson_3 rfl rfl rfl ?_
  refine gf_X6_107 rfl rfl hB dX6_noPerson_4 rfl ?_
  refine jr_i2l dX6_noPerson_7 rfl ?_
  refine jr_lconst (v := 1) dX6_noPerson_8 (by decide) rfl ?_
  refine jr_lsub dX6_noPerson_9 rfl ?_
  obtain ⟨r_1, M_1, hc_1, hF⟩ := jbd_e hF
  refine jh_callS1 (v := .int r_1) (as := [.long a1.toInt64, .long 0, .long (((M 8 2 0).toInt64) - 1)]) (st := []) (JF_X6_in hB hc_1) cw_X6_110 (iv_X6_in) ⟨rfl, rfl, by decide, by decide⟩ rfl rfl (Nat.le_of_ble_eq_true rfl) dX6_noPerson_10 rfl ?_
  refine jr_if_ne 20 dX6_noPerson_13 (by decide) rfl (fun c1 => ?_) (fun c1 => ?_)
  · have hF := jif_n hF c1
    refine jr_iconst (v := 0) dX6_noPerson_20 (by decide) rfl ?_
    exact jh_zret rfl (Or.inl rfl) dX6_noPerson_21 hF
  · have hF := jif_p hF c1
    refine jr_iconst (v := 1) dX6_noPerson_16 (by decide) rfl ?_
    refine jr_goto 21 dX6_noPerson_17 (by decide) ?_
    exact jh_zret rfl (Or.inr rfl) dX6_noPerson_21 hF
set_option maxHeartbeats 4000000 in
set_option maxRecDepth 100000 in
theorem JF_X6_noPost {E : jx_E} (hB : jB E 8) {a1 : Int32} {M : jx_M} {r : Int32} {M' : jx_M} (hF : F_X6_noPost a1 M = some (r, M')) : jC E yX6_noPost cX6_noPost 2 (some FieldType.boolean) rm_X6_noPost [.ref (ja E 8 0), .int a1] M (fun x M'' => x = some (.int r) ∧ M'' = M') := by
  refine jC.ofJ (L := [(0, .ref (ja E 8 0)), (1, .int a1)]) (by decide +kernel) (Nat.le_of_ble_eq_true rfl) rfl ?_
  unfold F_X6_noPost at hF
  refine jr_iload_n 1 dX6_noPost_0 rfl rfl rfl ?_
  refine jr_i2l dX6_noPost_1 rfl ?_
  refine jr_lconst (v := 0) dX6_noPost_2 (by decide) rfl ?_
  refine jr_aload_n 0 dX6_noPost_3 rfl rfl rfl ?_
  refine gf_X6_114 rfl rfl hB dX6_noPost_4 rfl ?_
  refine jr_i2l dX6_noPost_7 rfl ?_
  refine jr_lconst (v := 1) dX6_noPost_8 (by decide) rfl ?_
  refine jr_lsub dX6_noPost_9 rfl ?_
  obtain ⟨r_1, M_1, hc_1, hF⟩ := jbd_e hF
  refine jh_callS1 (v := .int r_1) (as := [.long a1.toInt64, .long 0, .long (((M 8 1 0).toInt64) - 1)]) (st := []) (JF_X6_in hB hc_1) cw_X6_110 (iv_X6_in) ⟨rfl, rfl, by decide, by decide⟩ rfl rfl (Nat.le_of_ble_eq_true rfl) dX6_noPost_10 rfl ?_
  refine jr_if_ne 20 dX6_noPost_13 (by decide) rfl (fun c1 => ?_) (fun c1 => ?_)
  · have hF := jif_n hF c1
    refine jr_iconst (v := 0) dX6_noPost_20 (by decide) rfl ?_
    exact jh_zret rfl (Or.inl rfl) dX6_noPost_21 hF
  · have hF := jif_p hF c1
    refine jr_iconst (v := 1) dX6_noPost_16 (by decide) rfl ?_
    refine jr_goto 21 dX6_noPost_17 (by decide) ?_
    exact jh_zret rfl (Or.inr rfl) dX6_noPost_21 hF
set_option maxHeartbeats 4000000 in
set_option maxRecDepth 100000 in
theorem JF_X6_isDecade {E : jx_E} (hB : jB E 8) {a0 : Int32} {M : jx_M} {r : Int32} {M' : jx_M} (hF : F_X6_isDecade a0 M = some (r, M')) : jC E yX6_isDecade cX6_isDecade 1 (some FieldType.boolean) rm_X6_isDecade [.int a0] M (fun x M'' => x = some (.int r) ∧ M'' = M') := by
  refine jC.ofJ (L := [(0, .int a0)]) (by decide +kernel) (Nat.le_of_ble_eq_true rfl) rfl ?_
  unfold F_X6_isDecade at hF
  refine jr_iload_n 0 dX6_isDecade_0 rfl rfl rfl ?_
  refine jr_i2l dX6_isDecade_1 rfl ?_
  refine jr_lconst (v := 0) dX6_isDecade_2 (by decide) rfl ?_
  refine jr_ldc2 (v := 39) dX6_isDecade_3 (List.mem_cons_of_mem _ (lw_g_of 864 (by decide +kernel) (by decide +kernel))) rfl ?_
  obtain ⟨r_1, M_1, hc_1, hF⟩ := jbd_e hF
  refine jh_callS1 (v := .int r_1) (as := [.long a0.toInt64, .long 0, .long 39]) (st := []) (JF_X6_in hB hc_1) cw_X6_110 (iv_X6_in) ⟨rfl, rfl, by decide, by decide⟩ rfl rfl (Nat.le_of_ble_eq_true rfl) dX6_isDecade_6 rfl ?_
  obtain ⟨hb_1, hF⟩ := jck_e hF
  exact jh_zret rfl (jin_2 hb_1) dX6_isDecade_9 hF
set_option maxHeartbeats 4000000 in
set_option maxRecDepth 100000 in
theorem JF_X6_all {E : jx_E} (hB : jB E 8) {M : jx_M} {r : Int32} {M' : jx_M} (hF : F_X6_all  M = some (r, M')) : jC E yX6_all cX6_all 1 (some FieldType.int) rm_X6_all [.ref (ja E 8 0)] M (fun x M'' => x = some (.int r) ∧ M'' = M') := by
  refine jC.ofJ (L := [(0, .ref (ja E 8 0))]) (by decide +kernel) (Nat.le_of_ble_eq_true rfl) rfl ?_
  unfold F_X6_all at hF
  refine jr_iconst (v := 1) dX6_all_0 (by decide) rfl ?_
  refine jr_aload_n 0 dX6_all_1 rfl rfl rfl ?_
  refine gf_X6_107 rfl rfl hB dX6_all_2 rfl ?_
  refine jr_ishl dX6_all_5 rfl ?_
  refine jr_iconst (v := 1) dX6_all_6 (by decide) rfl ?_
  refine jr_isub dX6_all_7 rfl ?_
  exact jh_iret rfl dX6_all_8 hF
set_option maxHeartbeats 4000000 in
set_option maxRecDepth 100000 in
theorem JF_X6_codeAt {E : jx_E} (hB : jB E 8) {a1 : Int32} {a2 : Int32} {M : jx_M} {r : Int32} {M' : jx_M} (hF : F_X6_codeAt a1 a2 M = some (r, M')) : jC E yX6_codeAt cX6_codeAt 3 (some FieldType.int) rm_X6_codeAt [.ref (ja E 8 0), .int a1, .int a2] M (fun x M'' => x = some (.int r) ∧ M'' = M') := by
  refine jC.ofJ (L := [(0, .ref (ja E 8 0)), (1, .int a1), (2, .int a2)]) (by decide +kernel) (Nat.le_of_ble_eq_true rfl) rfl ?_
  unfold F_X6_codeAt at hF
  refine jr_aload_n 0 dX6_codeAt_0 rfl rfl rfl ?_
  refine gf_X6_119 rfl rfl hB dX6_codeAt_1 rfl ?_
  refine jr_iload_n 2 dX6_codeAt_4 rfl rfl rfl ?_
  refine jr_icmp_ge 22 dX6_codeAt_5 (by decide) rfl (fun c1 => ?_) (fun c1 => ?_)
  · have hF := jif_p hF c1
    refine jr_bipush (v := (-9)) dX6_codeAt_22 (by decide) rfl ?_
    exact jh_iret rfl dX6_codeAt_24 hF
  · have hF := jif_n hF c1
    refine jr_aload_n 0 dX6_codeAt_8 rfl rfl rfl ?_
    refine gf_X6_91 rfl rfl hB dX6_codeAt_9 rfl ?_
    refine jr_iload_n 1 dX6_codeAt_12 rfl rfl rfl ?_
    refine jr_aload_n 0 dX6_codeAt_13 rfl rfl rfl ?_
    refine gf_X6_119 rfl rfl hB dX6_codeAt_14 rfl ?_
    refine jr_iadd dX6_codeAt_17 rfl ?_
    obtain ⟨hb_1, hF⟩ := jck_e hF
    refine jh_iald (ci := 6) (k := 40) rfl hB (by decide) rfl rfl hb_1 dX6_codeAt_18 rfl ?_
    refine jr_goto 24 dX6_codeAt_19 (by decide) ?_
    exact jh_iret rfl dX6_codeAt_24 hF
set_option maxHeartbeats 4000000 in
set_option maxRecDepth 100000 in
theorem JF_X6_figure {E : jx_E} (hB : jB E 8) {a1 : Int32} {a2 : Int32} {a3 : Int32} {a4 : Int32} {M : jx_M} {r : Int32} {M' : jx_M} (hF : F_X6_figure a1 a2 a3 a4 M = some (r, M')) : jC E yX6_figure cX6_figure 7 (some FieldType.int) rm_X6_figure [.ref (ja E 8 0), .int a1, .int a2, .int a3, .int a4] M (fun x M'' => x = some (.int r) ∧ M'' = M') := by
  refine jC.ofJ (L := [(0, .ref (ja E 8 0)), (1, .int a1), (2, .int a2), (3, .int a3), (4, .int a4)]) (by decide +kernel) (Nat.le_of_ble_eq_true rfl) rfl ?_
  unfold F_X6_figure at hF
  refine jr_aload_n 0 dX6_figure_0 rfl rfl rfl ?_
  refine jr_iload_n 1 dX6_figure_1 rfl rfl rfl ?_
  refine jr_iload_n 2 dX6_figure_2 rfl rfl rfl ?_
  obtain ⟨r_1, M_1, hc_1, hF⟩ := jbd_e hF
  refine jh_callV1 (v := .int r_1) (o := 8) (as := [.int a1, .int a2]) (st := []) (JF_X6_codeAt hB hc_1) cw_X6_122 (iv_X6_codeAt) ⟨rfl, rfl, by decide, by decide⟩ rfl hB rfl rfl (Nat.le_of_ble_eq_true rfl) dX6_figure_3 rfl ?_
  refine jr_bipush (v := 48) dX6_figure_6 (by decide) rfl ?_
  refine jr_isub dX6_figure_8 rfl ?_
  refine jr_topi (fun x5_1 ex5_1 => ?_)
  have hF := jlet_e hF x5_1 ex5_1
  refine jr_istore (L' := [(5, .int x5_1), (0, .ref (ja E 8 0)), (1, .int a1), (2, .int a2), (3, .int a3), (4, .int a4)]) dX6_figure_9 (by decide) rfl rfl ?_
  refine jr_iload 0 dX6_figure_11 rfl rfl ?_
  refine jr_i2l dX6_figure_13 rfl ?_
  refine jr_iload_n 4 dX6_figure_14 rfl rfl rfl ?_
  refine jr_i2l dX6_figure_15 rfl ?_
  refine jr_iload 5 dX6_figure_16 rfl rfl ?_
  refine jr_i2l dX6_figure_18 rfl ?_
  obtain ⟨r_2, M_2, hc_2, hF⟩ := jbd_e hF
  refine jh_callS1 (v := .int r_2) (as := [.long x5_1.toInt64, .long a3.toInt64, .long a4.toInt64]) (st := []) (JF_X6_in hB hc_2) cw_X6_110 (iv_X6_in) ⟨rfl, rfl, by decide, by decide⟩ rfl rfl (Nat.le_of_ble_eq_true rfl) dX6_figure_19 rfl ?_
  refine jr_istore (L' := [(6, .int r_2), (5, .int x5_1), (0, .ref (ja E 8 0)), (1, .int a1), (2, .int a2), (3, .int a3), (4, .int a4)]) dX6_figure_22 (by decide) rfl rfl ?_
  refine jr_aload_n 2 dX6_figure_24 rfl rfl rfl ?_
  refine jr_dup dX6_figure_25 rfl rfl ?_
  refine gf_X6_119 rfl rfl hB dX6_figure_26 rfl ?_
  refine jr_iload 0 dX6_figure_29 rfl rfl ?_
  refine jr_if_eq 38 dX6_figure_31 (by decide) rfl (fun c1 => ?_) (fun c1 => ?_)
  · have hF := jif_p hF c1
    refine jr_iconst (v := 0) dX6_figure_38 (by decide) rfl ?_
    refine jr_iadd dX6_figure_39 rfl ?_
    refine pf_X6_119 rfl rfl hB dX6_figure_40 ⟨rfl, rfl⟩ rfl (fun M_3 eM_3 => ?_)
    have hF := jlet_e hF M_3 eM_3
    refine jr_iload 0 dX6_figure_43 rfl rfl ?_
    refine jr_if_eq 53 dX6_figure_45 (by decide) rfl (fun c1 => ?_) (fun c1 => ?_)
    · have hF := jif_p hF c1
      refine jr_bipush (v := (-9)) dX6_figure_53 (by decide) rfl ?_
      exact jh_iret rfl dX6_figure_55 hF
    · have hF := jif_n hF c1
      refine jr_iload 1 dX6_figure_48 rfl rfl ?_
      refine jr_goto 55 dX6_figure_50 (by decide) ?_
      exact jh_iret rfl dX6_figure_55 hF
  · have hF := jif_n hF c1
    refine jr_iconst (v := 1) dX6_figure_34 (by decide) rfl ?_
    refine jr_goto 39 dX6_figure_35 (by decide) ?_
    refine jr_iadd dX6_figure_39 rfl ?_
    refine pf_X6_119 rfl rfl hB dX6_figure_40 ⟨rfl, rfl⟩ rfl (fun M_4 eM_4 => ?_)
    have hF := jlet_e hF M_4 eM_4
    refine jr_iload 0 dX6_figure_43 rfl rfl ?_
    refine jr_if_eq 53 dX6_figure_45 (by decide) rfl (fun c1 => ?_) (fun c1 => ?_)
    · have hF := jif_p hF c1
      refine jr_bipush (v := (-9)) dX6_figure_53 (by decide) rfl ?_
      exact jh_iret rfl dX6_figure_55 hF
    · have hF := jif_n hF c1
      refine jr_iload 1 dX6_figure_48 rfl rfl ?_
      refine jr_goto 55 dX6_figure_50 (by decide) ?_
      exact jh_iret rfl dX6_figure_55 hF
set_option maxHeartbeats 4000000 in
set_option maxRecDepth 100000 in
theorem JF_X6_readsPerson {E : jx_E} (hB : jB E 8) {a1 : Int32} {a2 : Int32} {M : jx_M} {r : Int32} {M' : jx_M} (hF : F_X6_readsPerson a1 a2 M = some (r, M')) : jC E yX6_readsPerson cX6_readsPerson 8 (some FieldType.boolean) rm_X6_readsPerson [.ref (ja E 8 0), .int a1, .int a2] M (fun x M'' => x = some (.int r) ∧ M'' = M') := by
  refine jC.ofJ (L := [(0, .ref (ja E 8 0)), (1, .int a1), (2, .int a2)]) (by decide +kernel) (Nat.le_of_ble_eq_true rfl) rfl ?_
  unfold F_X6_readsPerson at hF
  refine jr_aload_n 0 dX6_readsPerson_0 rfl rfl rfl ?_
  refine gf_X6_126 rfl rfl hB dX6_readsPerson_1 rfl ?_
  refine jr_bipush (v := 6) dX6_readsPerson_4 (by decide) rfl ?_
  refine jr_icmp_eq 20 dX6_readsPerson_6 (by decide) rfl (fun c1 => ?_) (fun c1 => ?_)
  · have hF := jif_p hF c1
    refine jr_iconst (v := 0) dX6_readsPerson_20 (by decide) rfl ?_
    exact jh_zret rfl (Or.inl rfl) dX6_readsPerson_21 hF
  · have hF := jif_n hF c1
    refine jr_aload_n 0 dX6_readsPerson_9 rfl rfl rfl ?_
    refine jr_iload_n 1 dX6_readsPerson_10 rfl rfl rfl ?_
    refine jr_iload_n 2 dX6_readsPerson_11 rfl rfl rfl ?_
    obtain ⟨r_1, M_1, hc_1, hF⟩ := jbd_e hF
    refine jh_callV1 (v := .int r_1) (o := 8) (as := [.int a1, .int a2]) (st := []) (JF_X6_codeAt hB hc_1) cw_X6_122 (iv_X6_codeAt) ⟨rfl, rfl, by decide, by decide⟩ rfl hB rfl rfl (Nat.le_of_ble_eq_true rfl) dX6_readsPerson_12 rfl ?_
    refine jr_bipush (v := 59) dX6_readsPerson_15 (by decide) rfl ?_
    refine jr_icmp_eq 22 dX6_readsPerson_17 (by decide) rfl (fun c1 => ?_) (fun c1 => ?_)
    · have hF := jif_p hF c1
      refine jr_aload_n 0 dX6_readsPerson_22 rfl rfl rfl ?_
      refine jr_dup dX6_readsPerson_23 rfl rfl ?_
      refine gf_X6_119 rfl rfl hB dX6_readsPerson_24 rfl ?_
      refine jr_iconst (v := 1) dX6_readsPerson_27 (by decide) rfl ?_
      refine jr_iadd dX6_readsPerson_28 rfl ?_
      refine pf_X6_119 rfl rfl hB dX6_readsPerson_29 ⟨rfl, rfl⟩ rfl (fun M_2 eM_2 => ?_)
      have hF := jlet_e hF M_2 eM_2
      refine jr_aload_n 0 dX6_readsPerson_32 rfl rfl rfl ?_
      refine jr_iload_n 1 dX6_readsPerson_33 rfl rfl rfl ?_
      refine jr_iload_n 2 dX6_readsPerson_34 rfl rfl rfl ?_
      obtain ⟨r_2, M_3, hc_2, hF⟩ := jbd_e hF
      refine jh_callV1 (v := .int r_2) (o := 8) (as := [.int a1, .int a2]) (st := []) (JF_X6_codeAt hB hc_2) cw_X6_122 (iv_X6_codeAt) ⟨rfl, rfl, by decide, by decide⟩ rfl hB rfl rfl (Nat.le_of_ble_eq_true rfl) dX6_readsPerson_35 rfl ?_
      refine jr_istore_n (L' := [(3, .int r_2), (0, .ref (ja E 8 0)), (1, .int a1), (2, .int a2)]) dX6_readsPerson_38 rfl (by decide) rfl rfl ?_
      refine jr_iload_n 0 dX6_readsPerson_39 rfl rfl rfl ?_
      refine jr_bipush (v := 100) dX6_readsPerson_40 (by decide) rfl ?_
      refine jr_icmp_eq 59 dX6_readsPerson_42 (by decide) rfl (fun c1 => ?_) (fun c1 => ?_)
      · have hF := jif_p hF c1
        refine jr_aload_n 1 dX6_readsPerson_59 rfl rfl rfl ?_
        refine jr_dup dX6_readsPerson_60 rfl rfl ?_
        refine gf_X6_119 rfl rfl hB dX6_readsPerson_61 rfl ?_
        refine jr_iconst (v := 1) dX6_readsPerson_64 (by decide) rfl ?_
        refine jr_iadd dX6_readsPerson_65 rfl ?_
        refine pf_X6_119 rfl rfl hB dX6_readsPerson_66 ⟨rfl, rfl⟩ rfl (fun M_4 eM_4 => ?_)
        have hF := jlet_e hF M_4 eM_4
        refine jr_aload_n 1 dX6_readsPerson_69 rfl rfl rfl ?_
        refine jr_iload_n 2 dX6_readsPerson_70 rfl rfl rfl ?_
        refine jr_iload_n 3 dX6_readsPerson_71 rfl rfl rfl ?_
        refine jr_iconst (v := 0) dX6_readsPerson_72 (by decide) rfl ?_
        refine jr_aload_n 1 dX6_readsPerson_73 rfl rfl rfl ?_
        refine gf_X6_129 rfl rfl hB dX6_readsPerson_74 rfl ?_
        refine jr_iconst (v := 1) dX6_readsPerson_77 (by decide) rfl ?_
        refine jr_isub dX6_readsPerson_78 rfl ?_
        obtain ⟨r_3, M_5, hc_3, hF⟩ := jbd_e hF
        refine jh_callV1 (v := .int r_3) (o := 8) (as := [.int a1, .int a2, .int 0, .int ((M_4 8 12 0) - 1)]) (st := []) (JF_X6_figure hB hc_3) cw_X6_132 (iv_X6_figure) ⟨rfl, rfl, by decide, by decide⟩ rfl hB rfl rfl (Nat.le_of_ble_eq_true rfl) dX6_readsPerson_79 rfl ?_
        refine jr_istore (L' := [(4, .int r_3), (3, .int r_2), (0, .ref (ja E 8 0)), (1, .int a1), (2, .int a2)]) dX6_readsPerson_82 (by decide) rfl rfl ?_
        refine jr_iload 0 dX6_readsPerson_84 rfl rfl ?_
        obtain ⟨j_1, ej_1⟩ : ∃ jj : Int32 → jx_M → Option (Int32 × jx_M), jj = (fun v_1 M_6 => jlet (fun (v_2 : Int32) (M_7 : jx_M) => jlet (fun (v_3 : Int32) (M_8 : jx_M) => if 0 ≤ v_3 then jlet (fun (v_4 : Int32) (M_9 : jx_M) => jck (jin (M_8 8 13 0) 6) (jlet (jx_w M_9 8 14 (M_8 8 13 0) v_4) (fun M_10 => jck (jin (M_10 8 13 0) 6) (jlet (jx_w M_10 8 15 (M_10 8 13 0) r_3) (fun M_11 => jck (jin (M_11 8 13 0) 6) (jlet (jx_w M_11 8 16 (M_11 8 13 0) v_1) (fun M_12 => jck (jin (M_12 8 13 0) 6) (jlet (jx_w M_12 8 17 (M_12 8 13 0) v_2) (fun M_13 => jck (jin (M_13 8 13 0) 6) (jlet (jx_w M_13 8 18 (M_13 8 13 0) v_3) (fun M_14 => jlet (jx_p M_14 8 13 ((M_14 8 13 0) + 1)) (fun M_15 => some (1, M_15))))))))))))) (fun j_4 => if r_2 = 100 then j_4 0 M_8 else if r_2 = 104 then j_4 1 M_8 else j_4 2 M_8) else some (0, M_8)) (fun j_3 => if 0 ≤ v_2 then jbd (F_X6_figure a1 a2 1 9 M_7) (fun r_4 M_16 => j_3 r_4 M_16) else j_3 (-9) M_7)) (fun j_2 => if 0 ≤ v_1 then jbd (F_X6_figure a1 a2 1 9 M_6) (fun r_5 M_17 => j_2 r_5 M_17) else j_2 (-9) M_6)) := ⟨_, rfl⟩
        have hF := jlet_e hF j_1 ej_1
        have hj_1 : ∀ (v_1 : Int32) (M_6 : jx_M), j_1 v_1 M_6 = some (r, M') → jJ E yX6_readsPerson cX6_readsPerson 8 (some FieldType.boolean) rm_X6_readsPerson (fun x M'' => x = some (.int r) ∧ M'' = M') 103 [(0, .ref (ja E 8 0)), (1, .int a1), (2, .int a2), (3, .int r_2), (4, .int r_3)] [.int v_1] M_6 := by
          intro v_1 M_6 hF
          rw [ej_1] at hF
          refine jr_istore (L' := [(5, .int v_1), (0, .ref (ja E 8 0)), (1, .int a1), (2, .int a2), (3, .int r_2), (4, .int r_3)]) dX6_readsPerson_103 (by decide) rfl rfl ?_
          refine jr_iload 0 dX6_readsPerson_105 rfl rfl ?_
          obtain ⟨j_2, ej_2⟩ : ∃ jj : Int32 → jx_M → Option (Int32 × jx_M), jj = (fun v_2 M_7 => jlet (fun (v_3 : Int32) (M_8 : jx_M) => if 0 ≤ v_3 then jlet (fun (v_4 : Int32) (M_9 : jx_M) => jck (jin (M_8 8 13 0) 6) (jlet (jx_w M_9 8 14 (M_8 8 13 0) v_4) (fun M_10 => jck (jin (M_10 8 13 0) 6) (jlet (jx_w M_10 8 15 (M_10 8 13 0) r_3) (fun M_11 => jck (jin (M_11 8 13 0) 6) (jlet (jx_w M_11 8 16 (M_11 8 13 0) v_1) (fun M_12 => jck (jin (M_12 8 13 0) 6) (jlet (jx_w M_12 8 17 (M_12 8 13 0) v_2) (fun M_13 => jck (jin (M_13 8 13 0) 6) (jlet (jx_w M_13 8 18 (M_13 8 13 0) v_3) (fun M_14 => jlet (jx_p M_14 8 13 ((M_14 8 13 0) + 1)) (fun M_15 => some (1, M_15))))))))))))) (fun j_4 => if r_2 = 100 then j_4 0 M_8 else if r_2 = 104 then j_4 1 M_8 else j_4 2 M_8) else some (0, M_8)) (fun j_3 => if 0 ≤ v_2 then jbd (F_X6_figure a1 a2 1 9 M_7) (fun r_4 M_16 => j_3 r_4 M_16) else j_3 (-9) M_7)) := ⟨_, rfl⟩
          have hF := jlet_e hF j_2 ej_2
          have hj_2 : ∀ (v_2 : Int32) (M_7 : jx_M), j_2 v_2 M_7 = some (r, M') → jJ E yX6_readsPerson cX6_readsPerson 8 (some FieldType.boolean) rm_X6_readsPerson (fun x M'' => x = some (.int r) ∧ M'' = M') 124 [(0, .ref (ja E 8 0)), (1, .int a1), (2, .int a2), (3, .int r_2), (4, .int r_3), (5, .int v_1)] [.int v_2] M_7 := by
            intro v_2 M_7 hF
            rw [ej_2] at hF
            refine jr_istore (L' := [(6, .int v_2), (0, .ref (ja E 8 0)), (1, .int a1), (2, .int a2), (3, .int r_2), (4, .int r_3), (5, .int v_1)]) dX6_readsPerson_124 (by decide) rfl rfl ?_
            refine jr_iload 0 dX6_readsPerson_126 rfl rfl ?_
            obtain ⟨j_3, ej_3⟩ : ∃ jj : Int32 → jx_M → Option (Int32 × jx_M), jj = (fun v_3 M_8 => if 0 ≤ v_3 then jlet (fun (v_4 : Int32) (M_9 : jx_M) => jck (jin (M_8 8 13 0) 6) (jlet (jx_w M_9 8 14 (M_8 8 13 0) v_4) (fun M_10 => jck (jin (M_10 8 13 0) 6) (jlet (jx_w M_10 8 15 (M_10 8 13 0) r_3) (fun M_11 => jck (jin (M_11 8 13 0) 6) (jlet (jx_w M_11 8 16 (M_11 8 13 0) v_1) (fun M_12 => jck (jin (M_12 8 13 0) 6) (jlet (jx_w M_12 8 17 (M_12 8 13 0) v_2) (fun M_13 => jck (jin (M_13 8 13 0) 6) (jlet (jx_w M_13 8 18 (M_13 8 13 0) v_3) (fun M_14 => jlet (jx_p M_14 8 13 ((M_14 8 13 0) + 1)) (fun M_15 => some (1, M_15))))))))))))) (fun j_4 => if r_2 = 100 then j_4 0 M_8 else if r_2 = 104 then j_4 1 M_8 else j_4 2 M_8) else some (0, M_8)) := ⟨_, rfl⟩
            have hF := jlet_e hF j_3 ej_3
            have hj_3 : ∀ (v_3 : Int32) (M_8 : jx_M), j_3 v_3 M_8 = some (r, M') → jJ E yX6_readsPerson cX6_readsPerson 8 (some FieldType.boolean) rm_X6_readsPerson (fun x M'' => x = some (.int r) ∧ M'' = M') 145 [(0, .ref (ja E 8 0)), (3, .int r_2), (4, .int r_3), (5, .int v_1), (6, .int v_2)] [.int v_3] M_8 := by
              intro v_3 M_8 hF
              rw [ej_3] at hF
              refine jr_istore (L' := [(7, .int v_3), (0, .ref (ja E 8 0)), (3, .int r_2), (4, .int r_3), (5, .int v_1), (6, .int v_2)]) dX6_readsPerson_145 (by decide) rfl rfl ?_
              refine jr_iload 0 dX6_readsPerson_147 rfl rfl ?_
              refine jr_if_ge 154 dX6_readsPerson_149 (by decide) rfl (fun c1 => ?_) (fun c1 => ?_)
              · have hF := jif_p hF c1
                refine jr_aload_n 1 dX6_readsPerson_154 rfl rfl rfl ?_
                refine gf_X6_28 rfl rfl hB dX6_readsPerson_155 rfl ?_
                refine jr_aload_n 1 dX6_readsPerson_158 rfl rfl rfl ?_
                refine gf_X6_126 rfl rfl hB dX6_readsPerson_159 rfl ?_
                refine jr_iload_n 2 dX6_readsPerson_162 rfl rfl rfl ?_
                refine jr_bipush (v := 100) dX6_readsPerson_163 (by decide) rfl ?_
                obtain ⟨j_4, ej_4⟩ : ∃ jj : Int32 → jx_M → Option (Int32 × jx_M), jj = (fun v_4 M_9 => jck (jin (M_8 8 13 0) 6) (jlet (jx_w M_9 8 14 (M_8 8 13 0) v_4) (fun M_10 => jck (jin (M_10 8 13 0) 6) (jlet (jx_w M_10 8 15 (M_10 8 13 0) r_3) (fun M_11 => jck (jin (M_11 8 13 0) 6) (jlet (jx_w M_11 8 16 (M_11 8 13 0) v_1) (fun M_12 => jck (jin (M_12 8 13 0) 6) (jlet (jx_w M_12 8 17 (M_12 8 13 0) v_2) (fun M_13 => jck (jin (M_13 8 13 0) 6) (jlet (jx_w M_13 8 18 (M_13 8 13 0) v_3) (fun M_14 => jlet (jx_p M_14 8 13 ((M_14 8 13 0) + 1)) (fun M_15 => some (1, M_15))))))))))))) := ⟨_, rfl⟩
                have hF := jlet_e hF j_4 ej_4
                have hj_4 : ∀ (v_4 : Int32) (M_9 : jx_M), j_4 v_4 M_9 = some (r, M') → jJ E yX6_readsPerson cX6_readsPerson 8 (some FieldType.boolean) rm_X6_readsPerson (fun x M'' => x = some (.int r) ∧ M'' = M') 183 [(0, .ref (ja E 8 0)), (4, .int r_3), (5, .int v_1), (6, .int v_2), (7, .int v_3)] [.int v_4, .int (M_8 8 13 0), .ref (ja E 8 15)] M_9 := by
                  intro v_4 M_9 hF
                  rw [ej_4] at hF
                  obtain ⟨hb_1, hF⟩ := jck_e hF
                  refine jh_iast (ci := 6) (k := 14) rfl hB (by decide) rfl rfl hb_1 dX6_readsPerson_183 rfl (fun M_10 eM_10 => ?_)
                  have hF := jlet_e hF M_10 eM_10
                  refine jr_aload_n 0 dX6_readsPerson_184 rfl rfl rfl ?_
                  refine gf_X6_31 rfl rfl hB dX6_readsPerson_185 rfl ?_
                  refine jr_aload_n 0 dX6_readsPerson_188 rfl rfl rfl ?_
                  refine gf_X6_126 rfl rfl hB dX6_readsPerson_189 rfl ?_
                  refine jr_iload 1 dX6_readsPerson_192 rfl rfl ?_
                  obtain ⟨hb_2, hF⟩ := jck_e hF
                  refine jh_iast (ci := 6) (k := 15) rfl hB (by decide) rfl rfl hb_2 dX6_readsPerson_194 rfl (fun M_11 eM_11 => ?_)
                  have hF := jlet_e hF M_11 eM_11
                  refine jr_aload_n 0 dX6_readsPerson_195 rfl rfl rfl ?_
                  refine gf_X6_34 rfl rfl hB dX6_readsPerson_196 rfl ?_
                  refine jr_aload_n 0 dX6_readsPerson_199 rfl rfl rfl ?_
                  refine gf_X6_126 rfl rfl hB dX6_readsPerson_200 rfl ?_
                  refine jr_iload 2 dX6_readsPerson_203 rfl rfl ?_
                  obtain ⟨hb_3, hF⟩ := jck_e hF
                  refine jh_iast (ci := 6) (k := 16) rfl hB (by decide) rfl rfl hb_3 dX6_readsPerson_205 rfl (fun M_12 eM_12 => ?_)
                  have hF := jlet_e hF M_12 eM_12
                  refine jr_aload_n 0 dX6_readsPerson_206 rfl rfl rfl ?_
                  refine gf_X6_37 rfl rfl hB dX6_readsPerson_207 rfl ?_
                  refine jr_aload_n 0 dX6_readsPerson_210 rfl rfl rfl ?_
                  refine gf_X6_126 rfl rfl hB dX6_readsPerson_211 rfl ?_
                  refine jr_iload 3 dX6_readsPerson_214 rfl rfl ?_
                  obtain ⟨hb_4, hF⟩ := jck_e hF
                  refine jh_iast (ci := 6) (k := 17) rfl hB (by decide) rfl rfl hb_4 dX6_readsPerson_216 rfl (fun M_13 eM_13 => ?_)
                  have hF := jlet_e hF M_13 eM_13
                  refine jr_aload_n 0 dX6_readsPerson_217 rfl rfl rfl ?_
                  refine gf_X6_40 rfl rfl hB dX6_readsPerson_218 rfl ?_
                  refine jr_aload_n 0 dX6_readsPerson_221 rfl rfl rfl ?_
                  refine gf_X6_126 rfl rfl hB dX6_readsPerson_222 rfl ?_
                  refine jr_iload 4 dX6_readsPerson_225 rfl rfl ?_
                  obtain ⟨hb_5, hF⟩ := jck_e hF
                  refine jh_iast (ci := 6) (k := 18) rfl hB (by decide) rfl rfl hb_5 dX6_readsPerson_227 rfl (fun M_14 eM_14 => ?_)
                  have hF := jlet_e hF M_14 eM_14
                  refine jr_aload_n 0 dX6_readsPerson_228 rfl rfl rfl ?_
                  refine jr_dup dX6_readsPerson_229 rfl rfl ?_
                  refine gf_X6_126 rfl rfl hB dX6_readsPerson_230 rfl ?_
                  refine jr_iconst (v := 1) dX6_readsPerson_233 (by decide) rfl ?_
                  refine jr_iadd dX6_readsPerson_234 rfl ?_
                  refine pf_X6_126 rfl rfl hB dX6_readsPerson_235 ⟨rfl, rfl⟩ rfl (fun M_15 eM_15 => ?_)
                  have hF := jlet_e hF M_15 eM_15
                  refine jr_iconst (v := 1) dX6_readsPerson_238 (by decide) rfl ?_
                  exact jh_zret rfl (Or.inr rfl) dX6_readsPerson_239 hF
                refine jr_icmp_ne 172 dX6_readsPerson_165 (by decide) rfl (fun c1 => ?_) (fun c1 => ?_)
                · have hF := jif_n hF c1
                  refine jr_iload_n 2 dX6_readsPerson_172 rfl rfl rfl ?_
                  refine jr_bipush (v := 104) dX6_readsPerson_173 (by decide) rfl ?_
                  refine jr_icmp_ne 182 dX6_readsPerson_175 (by decide) rfl (fun c1 => ?_) (fun c1 => ?_)
                  · have hF := jif_n hF c1
                    refine jr_iconst (v := 2) dX6_readsPerson_182 (by decide) rfl ?_
                    refine jr_sub [1, 3, 4, 5, 0] rfl ?_
                    exact hj_4 2 M_8 hF
                  · have hF := jif_p hF c1
                    refine jr_iconst (v := 1) dX6_readsPerson_178 (by decide) rfl ?_
                    refine jr_goto 183 dX6_readsPerson_179 (by decide) ?_
                    refine jr_sub [1, 3, 4, 5, 0] rfl ?_
                    exact hj_4 1 M_8 hF
                · have hF := jif_p hF c1
                  refine jr_iconst (v := 0) dX6_readsPerson_168 (by decide) rfl ?_
                  refine jr_goto 183 dX6_readsPerson_169 (by decide) ?_
                  refine jr_sub [1, 3, 4, 5, 0] rfl ?_
                  exact hj_4 0 M_8 hF
              · have hF := jif_n hF c1
                refine jr_iconst (v := 0) dX6_readsPerson_152 (by decide) rfl ?_
                exact jh_zret rfl (Or.inl rfl) dX6_readsPerson_153 hF
            refine jr_if_ge 136 dX6_readsPerson_128 (by decide) rfl (fun c1 => ?_) (fun c1 => ?_)
            · have hF := jif_p hF c1
              refine jr_aload_n 1 dX6_readsPerson_136 rfl rfl rfl ?_
              refine jr_iload_n 2 dX6_readsPerson_137 rfl rfl rfl ?_
              refine jr_iload_n 3 dX6_readsPerson_138 rfl rfl rfl ?_
              refine jr_iconst (v := 1) dX6_readsPerson_139 (by decide) rfl ?_
              refine jr_bipush (v := 9) dX6_readsPerson_140 (by decide) rfl ?_
              obtain ⟨r_4, M_16, hc_4, hF⟩ := jbd_e hF
              refine jh_callV1 (v := .int r_4) (o := 8) (as := [.int a1, .int a2, .int 1, .int 9]) (st := []) (JF_X6_figure hB hc_4) cw_X6_132 (iv_X6_figure) ⟨rfl, rfl, by decide, by decide⟩ rfl hB rfl rfl (Nat.le_of_ble_eq_true rfl) dX6_readsPerson_142 rfl ?_
              refine jr_sub [1, 4, 5, 6, 0] rfl ?_
              exact hj_3 r_4 M_16 hF
            · have hF := jif_n hF c1
              refine jr_bipush (v := (-9)) dX6_readsPerson_131 (by decide) rfl ?_
              refine jr_goto 145 dX6_readsPerson_133 (by decide) ?_
              refine jr_sub [1, 4, 5, 6, 0] rfl ?_
              exact hj_3 (-9) M_7 hF
          refine jr_if_ge 115 dX6_readsPerson_107 (by decide) rfl (fun c1 => ?_) (fun c1 => ?_)
          · have hF := jif_p hF c1
            refine jr_aload_n 1 dX6_readsPerson_115 rfl rfl rfl ?_
            refine jr_iload_n 2 dX6_readsPerson_116 rfl rfl rfl ?_
            refine jr_iload_n 3 dX6_readsPerson_117 rfl rfl rfl ?_
            refine jr_iconst (v := 1) dX6_readsPerson_118 (by decide) rfl ?_
            refine jr_bipush (v := 9) dX6_readsPerson_119 (by decide) rfl ?_
            obtain ⟨r_5, M_17, hc_5, hF⟩ := jbd_e hF
            refine jh_callV1 (v := .int r_5) (o := 8) (as := [.int a1, .int a2, .int 1, .int 9]) (st := []) (JF_X6_figure hB hc_5) cw_X6_132 (iv_X6_figure) ⟨rfl, rfl, by decide, by decide⟩ rfl hB rfl rfl (Nat.le_of_ble_eq_true rfl) dX6_readsPerson_121 rfl ?_
            refine jr_sub [1, 2, 3, 4, 5, 0] rfl ?_
            exact hj_2 r_5 M_17 hF
          · have hF := jif_n hF c1
            refine jr_bipush (v := (-9)) dX6_readsPerson_110 (by decide) rfl ?_
            refine jr_goto 124 dX6_readsPerson_112 (by decide) ?_
            refine jr_sub [1, 2, 3, 4, 5, 0] rfl ?_
            exact hj_2 (-9) M_6 hF
        refine jr_if_ge 94 dX6_readsPerson_86 (by decide) rfl (fun c1 => ?_) (fun c1 => ?_)
        · have hF := jif_p hF c1
          refine jr_aload_n 2 dX6_readsPerson_94 rfl rfl rfl ?_
          refine jr_iload_n 3 dX6_readsPerson_95 rfl rfl rfl ?_
          refine jr_iload_n 4 dX6_readsPerson_96 rfl rfl rfl ?_
          refine jr_iconst (v := 0) dX6_readsPerson_97 (by decide) rfl ?_
          refine jr_bipush (v := 9) dX6_readsPerson_98 (by decide) rfl ?_
          obtain ⟨r_6, M_18, hc_6, hF⟩ := jbd_e hF
          refine jh_callV1 (v := .int r_6) (o := 8) (as := [.int a1, .int a2, .int 0, .int 9]) (st := []) (JF_X6_figure hB hc_6) cw_X6_132 (iv_X6_figure) ⟨rfl, rfl, by decide, by decide⟩ rfl hB rfl rfl (Nat.le_of_ble_eq_true rfl) dX6_readsPerson_100 rfl ?_
          refine jr_sub [2, 3, 4, 1, 0] rfl ?_
          exact hj_1 r_6 M_18 hF
        · have hF := jif_n hF c1
          refine jr_bipush (v := (-9)) dX6_readsPerson_89 (by decide) rfl ?_
          refine jr_goto 103 dX6_readsPerson_91 (by decide) ?_
          refine jr_sub [2, 3, 4, 1, 0] rfl ?_
          exact hj_1 (-9) M_5 hF
      · have hF := jif_n hF c1
        refine jr_iload_n 0 dX6_readsPerson_45 rfl rfl rfl ?_
        refine jr_bipush (v := 104) dX6_readsPerson_46 (by decide) rfl ?_
        refine jr_icmp_eq 59 dX6_readsPerson_48 (by decide) rfl (fun c1 => ?_) (fun c1 => ?_)
        · have hF := jif_p hF c1
          refine jr_aload_n 1 dX6_readsPerson_59 rfl rfl rfl ?_
          refine jr_dup dX6_readsPerson_60 rfl rfl ?_
          refine gf_X6_119 rfl rfl hB dX6_readsPerson_61 rfl ?_
          refine jr_iconst (v := 1) dX6_readsPerson_64 (by decide) rfl ?_
          refine jr_iadd dX6_readsPerson_65 rfl ?_
          refine pf_X6_119 rfl rfl hB dX6_readsPerson_66 ⟨rfl, rfl⟩ rfl (fun M_19 eM_19 => ?_)
          have hF := jlet_e hF M_19 eM_19
          refine jr_aload_n 1 dX6_readsPerson_69 rfl rfl rfl ?_
          refine jr_iload_n 2 dX6_readsPerson_70 rfl rfl rfl ?_
          refine jr_iload_n 3 dX6_readsPerson_71 rfl rfl rfl ?_
          refine jr_iconst (v := 0) dX6_readsPerson_72 (by decide) rfl ?_
          refine jr_aload_n 1 dX6_readsPerson_73 rfl rfl rfl ?_
          refine gf_X6_129 rfl rfl hB dX6_readsPerson_74 rfl ?_
          refine jr_iconst (v := 1) dX6_readsPerson_77 (by decide) rfl ?_
          refine jr_isub dX6_readsPerson_78 rfl ?_
          obtain ⟨r_7, M_20, hc_7, hF⟩ := jbd_e hF
          refine jh_callV1 (v := .int r_7) (o := 8) (as := [.int a1, .int a2, .int 0, .int ((M_19 8 12 0) - 1)]) (st := []) (JF_X6_figure hB hc_7) cw_X6_132 (iv_X6_figure) ⟨rfl, rfl, by decide, by decide⟩ rfl hB rfl rfl (Nat.le_of_ble_eq_true rfl) dX6_readsPerson_79 rfl ?_
          refine jr_istore (L' := [(4, .int r_7), (3, .int r_2), (0, .ref (ja E 8 0)), (1, .int a1), (2, .int a2)]) dX6_readsPerson_82 (by decide) rfl rfl ?_
          refine jr_iload 0 dX6_readsPerson_84 rfl rfl ?_
          obtain ⟨j_5, ej_5⟩ : ∃ jj : Int32 → jx_M → Option (Int32 × jx_M), jj = (fun v_5 M_21 => jlet (fun (v_6 : Int32) (M_22 : jx_M) => jlet (fun (v_7 : Int32) (M_23 : jx_M) => if 0 ≤ v_7 then jlet (fun (v_8 : Int32) (M_24 : jx_M) => jck (jin (M_23 8 13 0) 6) (jlet (jx_w M_24 8 14 (M_23 8 13 0) v_8) (fun M_25 => jck (jin (M_25 8 13 0) 6) (jlet (jx_w M_25 8 15 (M_25 8 13 0) r_7) (fun M_26 => jck (jin (M_26 8 13 0) 6) (jlet (jx_w M_26 8 16 (M_26 8 13 0) v_5) (fun M_27 => jck (jin (M_27 8 13 0) 6) (jlet (jx_w M_27 8 17 (M_27 8 13 0) v_6) (fun M_28 => jck (jin (M_28 8 13 0) 6) (jlet (jx_w M_28 8 18 (M_28 8 13 0) v_7) (fun M_29 => jlet (jx_p M_29 8 13 ((M_29 8 13 0) + 1)) (fun M_30 => some (1, M_30))))))))))))) (fun j_8 => if r_2 = 100 then j_8 0 M_23 else if r_2 = 104 then j_8 1 M_23 else j_8 2 M_23) else some (0, M_23)) (fun j_7 => if 0 ≤ v_6 then jbd (F_X6_figure a1 a2 1 9 M_22) (fun r_8 M_31 => j_7 r_8 M_31) else j_7 (-9) M_22)) (fun j_6 => if 0 ≤ v_5 then jbd (F_X6_figure a1 a2 1 9 M_21) (fun r_9 M_32 => j_6 r_9 M_32) else j_6 (-9) M_21)) := ⟨_, rfl⟩
          have hF := jlet_e hF j_5 ej_5
          have hj_5 : ∀ (v_5 : Int32) (M_21 : jx_M), j_5 v_5 M_21 = some (r, M') → jJ E yX6_readsPerson cX6_readsPerson 8 (some FieldType.boolean) rm_X6_readsPerson (fun x M'' => x = some (.int r) ∧ M'' = M') 103 [(0, .ref (ja E 8 0)), (1, .int a1), (2, .int a2), (3, .int r_2), (4, .int r_7)] [.int v_5] M_21 := by
            intro v_5 M_21 hF
            rw [ej_5] at hF
            refine jr_istore (L' := [(5, .int v_5), (0, .ref (ja E 8 0)), (1, .int a1), (2, .int a2), (3, .int r_2), (4, .int r_7)]) dX6_readsPerson_103 (by decide) rfl rfl ?_
            refine jr_iload 0 dX6_readsPerson_105 rfl rfl ?_
            obtain ⟨j_6, ej_6⟩ : ∃ jj : Int32 → jx_M → Option (Int32 × jx_M), jj = (fun v_6 M_22 => jlet (fun (v_7 : Int32) (M_23 : jx_M) => if 0 ≤ v_7 then jlet (fun (v_8 : Int32) (M_24 : jx_M) => jck (jin (M_23 8 13 0) 6) (jlet (jx_w M_24 8 14 (M_23 8 13 0) v_8) (fun M_25 => jck (jin (M_25 8 13 0) 6) (jlet (jx_w M_25 8 15 (M_25 8 13 0) r_7) (fun M_26 => jck (jin (M_26 8 13 0) 6) (jlet (jx_w M_26 8 16 (M_26 8 13 0) v_5) (fun M_27 => jck (jin (M_27 8 13 0) 6) (jlet (jx_w M_27 8 17 (M_27 8 13 0) v_6) (fun M_28 => jck (jin (M_28 8 13 0) 6) (jlet (jx_w M_28 8 18 (M_28 8 13 0) v_7) (fun M_29 => jlet (jx_p M_29 8 13 ((M_29 8 13 0) + 1)) (fun M_30 => some (1, M_30))))))))))))) (fun j_8 => if r_2 = 100 then j_8 0 M_23 else if r_2 = 104 then j_8 1 M_23 else j_8 2 M_23) else some (0, M_23)) (fun j_7 => if 0 ≤ v_6 then jbd (F_X6_figure a1 a2 1 9 M_22) (fun r_8 M_31 => j_7 r_8 M_31) else j_7 (-9) M_22)) := ⟨_, rfl⟩
            have hF := jlet_e hF j_6 ej_6
            have hj_6 : ∀ (v_6 : Int32) (M_22 : jx_M), j_6 v_6 M_22 = some (r, M') → jJ E yX6_readsPerson cX6_readsPerson 8 (some FieldType.boolean) rm_X6_readsPerson (fun x M'' => x = some (.int r) ∧ M'' = M') 124 [(0, .ref (ja E 8 0)), (1, .int a1), (2, .int a2), (3, .int r_2), (4, .int r_7), (5, .int v_5)] [.int v_6] M_22 := by
              intro v_6 M_22 hF
              rw [ej_6] at hF
              refine jr_istore (L' := [(6, .int v_6), (0, .ref (ja E 8 0)), (1, .int a1), (2, .int a2), (3, .int r_2), (4, .int r_7), (5, .int v_5)]) dX6_readsPerson_124 (by decide) rfl rfl ?_
              refine jr_iload 0 dX6_readsPerson_126 rfl rfl ?_
              obtain ⟨j_7, ej_7⟩ : ∃ jj : Int32 → jx_M → Option (Int32 × jx_M), jj = (fun v_7 M_23 => if 0 ≤ v_7 then jlet (fun (v_8 : Int32) (M_24 : jx_M) => jck (jin (M_23 8 13 0) 6) (jlet (jx_w M_24 8 14 (M_23 8 13 0) v_8) (fun M_25 => jck (jin (M_25 8 13 0) 6) (jlet (jx_w M_25 8 15 (M_25 8 13 0) r_7) (fun M_26 => jck (jin (M_26 8 13 0) 6) (jlet (jx_w M_26 8 16 (M_26 8 13 0) v_5) (fun M_27 => jck (jin (M_27 8 13 0) 6) (jlet (jx_w M_27 8 17 (M_27 8 13 0) v_6) (fun M_28 => jck (jin (M_28 8 13 0) 6) (jlet (jx_w M_28 8 18 (M_28 8 13 0) v_7) (fun M_29 => jlet (jx_p M_29 8 13 ((M_29 8 13 0) + 1)) (fun M_30 => some (1, M_30))))))))))))) (fun j_8 => if r_2 = 100 then j_8 0 M_23 else if r_2 = 104 then j_8 1 M_23 else j_8 2 M_23) else some (0, M_23)) := ⟨_, rfl⟩
              have hF := jlet_e hF j_7 ej_7
              have hj_7 : ∀ (v_7 : Int32) (M_23 : jx_M), j_7 v_7 M_23 = some (r, M') → jJ E yX6_readsPerson cX6_readsPerson 8 (some FieldType.boolean) rm_X6_readsPerson (fun x M'' => x = some (.int r) ∧ M'' = M') 145 [(0, .ref (ja E 8 0)), (3, .int r_2), (4, .int r_7), (5, .int v_5), (6, .int v_6)] [.int v_7] M_23 := by
                intro v_7 M_23 hF
                rw [ej_7] at hF
                refine jr_istore (L' := [(7, .int v_7), (0, .ref (ja E 8 0)), (3, .int r_2), (4, .int r_7), (5, .int v_5), (6, .int v_6)]) dX6_readsPerson_145 (by decide) rfl rfl ?_
                refine jr_iload 0 dX6_readsPerson_147 rfl rfl ?_
                refine jr_if_ge 154 dX6_readsPerson_149 (by decide) rfl (fun c1 => ?_) (fun c1 => ?_)
                · have hF := jif_p hF c1
                  refine jr_aload_n 1 dX6_readsPerson_154 rfl rfl rfl ?_
                  refine gf_X6_28 rfl rfl hB dX6_readsPerson_155 rfl ?_
                  refine jr_aload_n 1 dX6_readsPerson_158 rfl rfl rfl ?_
                  refine gf_X6_126 rfl rfl hB dX6_readsPerson_159 rfl ?_
                  refine jr_iload_n 2 dX6_readsPerson_162 rfl rfl rfl ?_
                  refine jr_bipush (v := 100) dX6_readsPerson_163 (by decide) rfl ?_
                  obtain ⟨j_8, ej_8⟩ : ∃ jj : Int32 → jx_M → Option (Int32 × jx_M), jj = (fun v_8 M_24 => jck (jin (M_23 8 13 0) 6) (jlet (jx_w M_24 8 14 (M_23 8 13 0) v_8) (fun M_25 => jck (jin (M_25 8 13 0) 6) (jlet (jx_w M_25 8 15 (M_25 8 13 0) r_7) (fun M_26 => jck (jin (M_26 8 13 0) 6) (jlet (jx_w M_26 8 16 (M_26 8 13 0) v_5) (fun M_27 => jck (jin (M_27 8 13 0) 6) (jlet (jx_w M_27 8 17 (M_27 8 13 0) v_6) (fun M_28 => jck (jin (M_28 8 13 0) 6) (jlet (jx_w M_28 8 18 (M_28 8 13 0) v_7) (fun M_29 => jlet (jx_p M_29 8 13 ((M_29 8 13 0) + 1)) (fun M_30 => some (1, M_30))))))))))))) := ⟨_, rfl⟩
                  have hF := jlet_e hF j_8 ej_8
                  have hj_8 : ∀ (v_8 : Int32) (M_24 : jx_M), j_8 v_8 M_24 = some (r, M') → jJ E yX6_readsPerson cX6_readsPerson 8 (some FieldType.boolean) rm_X6_readsPerson (fun x M'' => x = some (.int r) ∧ M'' = M') 183 [(0, .ref (ja E 8 0)), (4, .int r_7), (5, .int v_5), (6, .int v_6), (7, .int v_7)] [.int v_8, .int (M_23 8 13 0), .ref (ja E 8 15)] M_24 := by
                    intro v_8 M_24 hF
                    rw [ej_8] at hF
                    obtain ⟨hb_6, hF⟩ := jck_e hF
                    refine jh_iast (ci := 6) (k := 14) rfl hB (by decide) rfl rfl hb_6 dX6_readsPerson_183 rfl (fun M_25 eM_25 => ?_)
                    have hF := jlet_e hF M_25 eM_25
                    refine jr_aload_n 0 dX6_readsPerson_184 rfl rfl rfl ?_
                    refine gf_X6_31 rfl rfl hB dX6_readsPerson_185 rfl ?_
                    refine jr_aload_n 0 dX6_readsPerson_188 rfl rfl rfl ?_
                    refine gf_X6_126 rfl rfl hB dX6_readsPerson_189 rfl ?_
                    refine jr_iload 1 dX6_readsPerson_192 rfl rfl ?_
                    obtain ⟨hb_7, hF⟩ := jck_e hF
                    refine jh_iast (ci := 6) (k := 15) rfl hB (by decide) rfl rfl hb_7 dX6_readsPerson_194 rfl (fun M_26 eM_26 => ?_)
                    have hF := jlet_e hF M_26 eM_26
                    refine jr_aload_n 0 dX6_readsPerson_195 rfl rfl rfl ?_
                    refine gf_X6_34 rfl rfl hB dX6_readsPerson_196 rfl ?_
                    refine jr_aload_n 0 dX6_readsPerson_199 rfl rfl rfl ?_
                    refine gf_X6_126 rfl rfl hB dX6_readsPerson_200 rfl ?_
                    refine jr_iload 2 dX6_readsPerson_203 rfl rfl ?_
                    obtain ⟨hb_8, hF⟩ := jck_e hF
                    refine jh_iast (ci := 6) (k := 16) rfl hB (by decide) rfl rfl hb_8 dX6_readsPerson_205 rfl (fun M_27 eM_27 => ?_)
                    have hF := jlet_e hF M_27 eM_27
                    refine jr_aload_n 0 dX6_readsPerson_206 rfl rfl rfl ?_
                    refine gf_X6_37 rfl rfl hB dX6_readsPerson_207 rfl ?_
                    refine jr_aload_n 0 dX6_readsPerson_210 rfl rfl rfl ?_
                    refine gf_X6_126 rfl rfl hB dX6_readsPerson_211 rfl ?_
                    refine jr_iload 3 dX6_readsPerson_214 rfl rfl ?_
                    obtain ⟨hb_9, hF⟩ := jck_e hF
                    refine jh_iast (ci := 6) (k := 17) rfl hB (by decide) rfl rfl hb_9 dX6_readsPerson_216 rfl (fun M_28 eM_28 => ?_)
                    have hF := jlet_e hF M_28 eM_28
                    refine jr_aload_n 0 dX6_readsPerson_217 rfl rfl rfl ?_
                    refine gf_X6_40 rfl rfl hB dX6_readsPerson_218 rfl ?_
                    refine jr_aload_n 0 dX6_readsPerson_221 rfl rfl rfl ?_
                    refine gf_X6_126 rfl rfl hB dX6_readsPerson_222 rfl ?_
                    refine jr_iload 4 dX6_readsPerson_225 rfl rfl ?_
                    obtain ⟨hb_10, hF⟩ := jck_e hF
                    refine jh_iast (ci := 6) (k := 18) rfl hB (by decide) rfl rfl hb_10 dX6_readsPerson_227 rfl (fun M_29 eM_29 => ?_)
                    have hF := jlet_e hF M_29 eM_29
                    refine jr_aload_n 0 dX6_readsPerson_228 rfl rfl rfl ?_
                    refine jr_dup dX6_readsPerson_229 rfl rfl ?_
                    refine gf_X6_126 rfl rfl hB dX6_readsPerson_230 rfl ?_
                    refine jr_iconst (v := 1) dX6_readsPerson_233 (by decide) rfl ?_
                    refine jr_iadd dX6_readsPerson_234 rfl ?_
                    refine pf_X6_126 rfl rfl hB dX6_readsPerson_235 ⟨rfl, rfl⟩ rfl (fun M_30 eM_30 => ?_)
                    have hF := jlet_e hF M_30 eM_30
                    refine jr_iconst (v := 1) dX6_readsPerson_238 (by decide) rfl ?_
                    exact jh_zret rfl (Or.inr rfl) dX6_readsPerson_239 hF
                  refine jr_icmp_ne 172 dX6_readsPerson_165 (by decide) rfl (fun c1 => ?_) (fun c1 => ?_)
                  · have hF := jif_n hF c1
                    refine jr_iload_n 2 dX6_readsPerson_172 rfl rfl rfl ?_
                    refine jr_bipush (v := 104) dX6_readsPerson_173 (by decide) rfl ?_
                    refine jr_icmp_ne 182 dX6_readsPerson_175 (by decide) rfl (fun c1 => ?_) (fun c1 => ?_)
                    · have hF := jif_n hF c1
                      refine jr_iconst (v := 2) dX6_readsPerson_182 (by decide) rfl ?_
                      refine jr_sub [1, 3, 4, 5, 0] rfl ?_
                      exact hj_8 2 M_23 hF
                    · have hF := jif_p hF c1
                      refine jr_iconst (v := 1) dX6_readsPerson_178 (by decide) rfl ?_
                      refine jr_goto 183 dX6_readsPerson_179 (by decide) ?_
                      refine jr_sub [1, 3, 4, 5, 0] rfl ?_
                      exact hj_8 1 M_23 hF
                  · have hF := jif_p hF c1
                    refine jr_iconst (v := 0) dX6_readsPerson_168 (by decide) rfl ?_
                    refine jr_goto 183 dX6_readsPerson_169 (by decide) ?_
                    refine jr_sub [1, 3, 4, 5, 0] rfl ?_
                    exact hj_8 0 M_23 hF
                · have hF := jif_n hF c1
                  refine jr_iconst (v := 0) dX6_readsPerson_152 (by decide) rfl ?_
                  exact jh_zret rfl (Or.inl rfl) dX6_readsPerson_153 hF
              refine jr_if_ge 136 dX6_readsPerson_128 (by decide) rfl (fun c1 => ?_) (fun c1 => ?_)
              · have hF := jif_p hF c1
                refine jr_aload_n 1 dX6_readsPerson_136 rfl rfl rfl ?_
                refine jr_iload_n 2 dX6_readsPerson_137 rfl rfl rfl ?_
                refine jr_iload_n 3 dX6_readsPerson_138 rfl rfl rfl ?_
                refine jr_iconst (v := 1) dX6_readsPerson_139 (by decide) rfl ?_
                refine jr_bipush (v := 9) dX6_readsPerson_140 (by decide) rfl ?_
                obtain ⟨r_8, M_31, hc_8, hF⟩ := jbd_e hF
                refine jh_callV1 (v := .int r_8) (o := 8) (as := [.int a1, .int a2, .int 1, .int 9]) (st := []) (JF_X6_figure hB hc_8) cw_X6_132 (iv_X6_figure) ⟨rfl, rfl, by decide, by decide⟩ rfl hB rfl rfl (Nat.le_of_ble_eq_true rfl) dX6_readsPerson_142 rfl ?_
                refine jr_sub [1, 4, 5, 6, 0] rfl ?_
                exact hj_7 r_8 M_31 hF
              · have hF := jif_n hF c1
                refine jr_bipush (v := (-9)) dX6_readsPerson_131 (by decide) rfl ?_
                refine jr_goto 145 dX6_readsPerson_133 (by decide) ?_
                refine jr_sub [1, 4, 5, 6, 0] rfl ?_
                exact hj_7 (-9) M_22 hF
            refine jr_if_ge 115 dX6_readsPerson_107 (by decide) rfl (fun c1 => ?_) (fun c1 => ?_)
            · have hF := jif_p hF c1
              refine jr_aload_n 1 dX6_readsPerson_115 rfl rfl rfl ?_
              refine jr_iload_n 2 dX6_readsPerson_116 rfl rfl rfl ?_
              refine jr_iload_n 3 dX6_readsPerson_117 rfl rfl rfl ?_
              refine jr_iconst (v := 1) dX6_readsPerson_118 (by decide) rfl ?_
              refine jr_bipush (v := 9) dX6_readsPerson_119 (by decide) rfl ?_
              obtain ⟨r_9, M_32, hc_9, hF⟩ := jbd_e hF
              refine jh_callV1 (v := .int r_9) (o := 8) (as := [.int a1, .int a2, .int 1, .int 9]) (st := []) (JF_X6_figure hB hc_9) cw_X6_132 (iv_X6_figure) ⟨rfl, rfl, by decide, by decide⟩ rfl hB rfl rfl (Nat.le_of_ble_eq_true rfl) dX6_readsPerson_121 rfl ?_
              refine jr_sub [1, 2, 3, 4, 5, 0] rfl ?_
              exact hj_6 r_9 M_32 hF
            · have hF := jif_n hF c1
              refine jr_bipush (v := (-9)) dX6_readsPerson_110 (by decide) rfl ?_
              refine jr_goto 124 dX6_readsPerson_112 (by decide) ?_
              refine jr_sub [1, 2, 3, 4, 5, 0] rfl ?_
              exact hj_6 (-9) M_21 hF
          refine jr_if_ge 94 dX6_readsPerson_86 (by decide) rfl (fun c1 => ?_) (fun c1 => ?_)
          · have hF := jif_p hF c1
            refine jr_aload_n 2 dX6_readsPerson_94 rfl rfl rfl ?_
            refine jr_iload_n 3 dX6_readsPerson_95 rfl rfl rfl ?_
            refine jr_iload_n 4 dX6_readsPerson_96 rfl rfl rfl ?_
            refine jr_iconst (v := 0) dX6_readsPerson_97 (by decide) rfl ?_
            refine jr_bipush (v := 9) dX6_readsPerson_98 (by decide) rfl ?_
            obtain ⟨r_10, M_33, hc_10, hF⟩ := jbd_e hF
            refine jh_callV1 (v := .int r_10) (o := 8) (as := [.int a1, .int a2, .int 0, .int 9]) (st := []) (JF_X6_figure hB hc_10) cw_X6_132 (iv_X6_figure) ⟨rfl, rfl, by decide, by decide⟩ rfl hB rfl rfl (Nat.le_of_ble_eq_true rfl) dX6_readsPerson_100 rfl ?_
            refine jr_sub [2, 3, 4, 1, 0] rfl ?_
            exact hj_5 r_10 M_33 hF
          · have hF := jif_n hF c1
            refine jr_bipush (v := (-9)) dX6_readsPerson_89 (by decide) rfl ?_
            refine jr_goto 103 dX6_readsPerson_91 (by decide) ?_
            refine jr_sub [2, 3, 4, 1, 0] rfl ?_
            exact hj_5 (-9) M_20 hF
        · have hF := jif_n hF c1
          refine jr_iload_n 0 dX6_readsPerson_51 rfl rfl rfl ?_
          refine jr_bipush (v := 101) dX6_readsPerson_52 (by decide) rfl ?_
          refine jr_icmp_eq 59 dX6_readsPerson_54 (by decide) rfl (fun c1 => ?_) (fun c1 => ?_)
          · have hF := jif_p hF c1
            refine jr_aload_n 1 dX6_readsPerson_59 rfl rfl rfl ?_
            refine jr_dup dX6_readsPerson_60 rfl rfl ?_
            refine gf_X6_119 rfl rfl hB dX6_readsPerson_61 rfl ?_
            refine jr_iconst (v := 1) dX6_readsPerson_64 (by decide) rfl ?_
            refine jr_iadd dX6_readsPerson_65 rfl ?_
            refine pf_X6_119 rfl rfl hB dX6_readsPerson_66 ⟨rfl, rfl⟩ rfl (fun M_34 eM_34 => ?_)
            have hF := jlet_e hF M_34 eM_34
            refine jr_aload_n 1 dX6_readsPerson_69 rfl rfl rfl ?_
            refine jr_iload_n 2 dX6_readsPerson_70 rfl rfl rfl ?_
            refine jr_iload_n 3 dX6_readsPerson_71 rfl rfl rfl ?_
            refine jr_iconst (v := 0) dX6_readsPerson_72 (by decide) rfl ?_
            refine jr_aload_n 1 dX6_readsPerson_73 rfl rfl rfl ?_
            refine gf_X6_129 rfl rfl hB dX6_readsPerson_74 rfl ?_
            refine jr_iconst (v := 1) dX6_readsPerson_77 (by decide) rfl ?_
            refine jr_isub dX6_readsPerson_78 rfl ?_
            obtain ⟨r_11, M_35, hc_11, hF⟩ := jbd_e hF
            refine jh_callV1 (v := .int r_11) (o := 8) (as := [.int a1, .int a2, .int 0, .int ((M_34 8 12 0) - 1)]) (st := []) (JF_X6_figure hB hc_11) cw_X6_132 (iv_X6_figure) ⟨rfl, rfl, by decide, by decide⟩ rfl hB rfl rfl (Nat.le_of_ble_eq_true rfl) dX6_readsPerson_79 rfl ?_
            refine jr_istore (L' := [(4, .int r_11), (3, .int r_2), (0, .ref (ja E 8 0)), (1, .int a1), (2, .int a2)]) dX6_readsPerson_82 (by decide) rfl rfl ?_
            refine jr_iload 0 dX6_readsPerson_84 rfl rfl ?_
            obtain ⟨j_9, ej_9⟩ : ∃ jj : Int32 → jx_M → Option (Int32 × jx_M), jj = (fun v_9 M_36 => jlet (fun (v_10 : Int32) (M_37 : jx_M) => jlet (fun (v_11 : Int32) (M_38 : jx_M) => if 0 ≤ v_11 then jlet (fun (v_12 : Int32) (M_39 : jx_M) => jck (jin (M_38 8 13 0) 6) (jlet (jx_w M_39 8 14 (M_38 8 13 0) v_12) (fun M_40 => jck (jin (M_40 8 13 0) 6) (jlet (jx_w M_40 8 15 (M_40 8 13 0) r_11) (fun M_41 => jck (jin (M_41 8 13 0) 6) (jlet (jx_w M_41 8 16 (M_41 8 13 0) v_9) (fun M_42 => jck (jin (M_42 8 13 0) 6) (jlet (jx_w M_42 8 17 (M_42 8 13 0) v_10) (fun M_43 => jck (jin (M_43 8 13 0) 6) (jlet (jx_w M_43 8 18 (M_43 8 13 0) v_11) (fun M_44 => jlet (jx_p M_44 8 13 ((M_44 8 13 0) + 1)) (fun M_45 => some (1, M_45))))))))))))) (fun j_12 => if r_2 = 100 then j_12 0 M_38 else if r_2 = 104 then j_12 1 M_38 else j_12 2 M_38) else some (0, M_38)) (fun j_11 => if 0 ≤ v_10 then jbd (F_X6_figure a1 a2 1 9 M_37) (fun r_12 M_46 => j_11 r_12 M_46) else j_11 (-9) M_37)) (fun j_10 => if 0 ≤ v_9 then jbd (F_X6_figure a1 a2 1 9 M_36) (fun r_13 M_47 => j_10 r_13 M_47) else j_10 (-9) M_36)) := ⟨_, rfl⟩
            have hF := jlet_e hF j_9 ej_9
            have hj_9 : ∀ (v_9 : Int32) (M_36 : jx_M), j_9 v_9 M_36 = some (r, M') → jJ E yX6_readsPerson cX6_readsPerson 8 (some FieldType.boolean) rm_X6_readsPerson (fun x M'' => x = some (.int r) ∧ M'' = M') 103 [(0, .ref (ja E 8 0)), (1, .int a1), (2, .int a2), (3, .int r_2), (4, .int r_11)] [.int v_9] M_36 := by
              intro v_9 M_36 hF
              rw [ej_9] at hF
              refine jr_istore (L' := [(5, .int v_9), (0, .ref (ja E 8 0)), (1, .int a1), (2, .int a2), (3, .int r_2), (4, .int r_11)]) dX6_readsPerson_103 (by decide) rfl rfl ?_
              refine jr_iload 0 dX6_readsPerson_105 rfl rfl ?_
              obtain ⟨j_10, ej_10⟩ : ∃ jj : Int32 → jx_M → Option (Int32 × jx_M), jj = (fun v_10 M_37 => jlet (fun (v_11 : Int32) (M_38 : jx_M) => if 0 ≤ v_11 then jlet (fun (v_12 : Int32) (M_39 : jx_M) => jck (jin (M_38 8 13 0) 6) (jlet (jx_w M_39 8 14 (M_38 8 13 0) v_12) (fun M_40 => jck (jin (M_40 8 13 0) 6) (jlet (jx_w M_40 8 15 (M_40 8 13 0) r_11) (fun M_41 => jck (jin (M_41 8 13 0) 6) (jlet (jx_w M_41 8 16 (M_41 8 13 0) v_9) (fun M_42 => jck (jin (M_42 8 13 0) 6) (jlet (jx_w M_42 8 17 (M_42 8 13 0) v_10) (fun M_43 => jck (jin (M_43 8 13 0) 6) (jlet (jx_w M_43 8 18 (M_43 8 13 0) v_11) (fun M_44 => jlet (jx_p M_44 8 13 ((M_44 8 13 0) + 1)) (fun M_45 => some (1, M_45))))))))))))) (fun j_12 => if r_2 = 100 then j_12 0 M_38 else if r_2 = 104 then j_12 1 M_38 else j_12 2 M_38) else some (0, M_38)) (fun j_11 => if 0 ≤ v_10 then jbd (F_X6_figure a1 a2 1 9 M_37) (fun r_12 M_46 => j_11 r_12 M_46) else j_11 (-9) M_37)) := ⟨_, rfl⟩
              have hF := jlet_e hF j_10 ej_10
              have hj_10 : ∀ (v_10 : Int32) (M_37 : jx_M), j_10 v_10 M_37 = some (r, M') → jJ E yX6_readsPerson cX6_readsPerson 8 (some FieldType.boolean) rm_X6_readsPerson (fun x M'' => x = some (.int r) ∧ M'' = M') 124 [(0, .ref (ja E 8 0)), (1, .int a1), (2, .int a2), (3, .int r_2), (4, .int r_11), (5, .int v_9)] [.int v_10] M_37 := by
                intro v_10 M_37 hF
                rw [ej_10] at hF
                refine jr_istore (L' := [(6, .int v_10), (0, .ref (ja E 8 0)), (1, .int a1), (2, .int a2), (3, .int r_2), (4, .int r_11), (5, .int v_9)]) dX6_readsPerson_124 (by decide) rfl rfl ?_
                refine jr_iload 0 dX6_readsPerson_126 rfl rfl ?_
                obtain ⟨j_11, ej_11⟩ : ∃ jj : Int32 → jx_M → Option (Int32 × jx_M), jj = (fun v_11 M_38 => if 0 ≤ v_11 then jlet (fun (v_12 : Int32) (M_39 : jx_M) => jck (jin (M_38 8 13 0) 6) (jlet (jx_w M_39 8 14 (M_38 8 13 0) v_12) (fun M_40 => jck (jin (M_40 8 13 0) 6) (jlet (jx_w M_40 8 15 (M_40 8 13 0) r_11) (fun M_41 => jck (jin (M_41 8 13 0) 6) (jlet (jx_w M_41 8 16 (M_41 8 13 0) v_9) (fun M_42 => jck (jin (M_42 8 13 0) 6) (jlet (jx_w M_42 8 17 (M_42 8 13 0) v_10) (fun M_43 => jck (jin (M_43 8 13 0) 6) (jlet (jx_w M_43 8 18 (M_43 8 13 0) v_11) (fun M_44 => jlet (jx_p M_44 8 13 ((M_44 8 13 0) + 1)) (fun M_45 => some (1, M_45))))))))))))) (fun j_12 => if r_2 = 100 then j_12 0 M_38 else if r_2 = 104 then j_12 1 M_38 else j_12 2 M_38) else some (0, M_38)) := ⟨_, rfl⟩
                have hF := jlet_e hF j_11 ej_11
                have hj_11 : ∀ (v_11 : Int32) (M_38 : jx_M), j_11 v_11 M_38 = some (r, M') → jJ E yX6_readsPerson cX6_readsPerson 8 (some FieldType.boolean) rm_X6_readsPerson (fun x M'' => x = some (.int r) ∧ M'' = M') 145 [(0, .ref (ja E 8 0)), (3, .int r_2), (4, .int r_11), (5, .int v_9), (6, .int v_10)] [.int v_11] M_38 := by
                  intro v_11 M_38 hF
                  rw [ej_11] at hF
                  refine jr_istore (L' := [(7, .int v_11), (0, .ref (ja E 8 0)), (3, .int r_2), (4, .int r_11), (5, .int v_9), (6, .int v_10)]) dX6_readsPerson_145 (by decide) rfl rfl ?_
                  refine jr_iload 0 dX6_readsPerson_147 rfl rfl ?_
                  refine jr_if_ge 154 dX6_readsPerson_149 (by decide) rfl (fun c1 => ?_) (fun c1 => ?_)
                  · have hF := jif_p hF c1
                    refine jr_aload_n 1 dX6_readsPerson_154 rfl rfl rfl ?_
                    refine gf_X6_28 rfl rfl hB dX6_readsPerson_155 rfl ?_
                    refine jr_aload_n 1 dX6_readsPerson_158 rfl rfl rfl ?_
                    refine gf_X6_126 rfl rfl hB dX6_readsPerson_159 rfl ?_
                    refine jr_iload_n 2 dX6_readsPerson_162 rfl rfl rfl ?_
                    refine jr_bipush (v := 100) dX6_readsPerson_163 (by decide) rfl ?_
                    obtain ⟨j_12, ej_12⟩ : ∃ jj : Int32 → jx_M → Option (Int32 × jx_M), jj = (fun v_12 M_39 => jck (jin (M_38 8 13 0) 6) (jlet (jx_w M_39 8 14 (M_38 8 13 0) v_12) (fun M_40 => jck (jin (M_40 8 13 0) 6) (jlet (jx_w M_40 8 15 (M_40 8 13 0) r_11) (fun M_41 => jck (jin (M_41 8 13 0) 6) (jlet (jx_w M_41 8 16 (M_41 8 13 0) v_9) (fun M_42 => jck (jin (M_42 8 13 0) 6) (jlet (jx_w M_42 8 17 (M_42 8 13 0) v_10) (fun M_43 => jck (jin (M_43 8 13 0) 6) (jlet (jx_w M_43 8 18 (M_43 8 13 0) v_11) (fun M_44 => jlet (jx_p M_44 8 13 ((M_44 8 13 0) + 1)) (fun M_45 => some (1, M_45))))))))))))) := ⟨_, rfl⟩
                    have hF := jlet_e hF j_12 ej_12
                    have hj_12 : ∀ (v_12 : Int32) (M_39 : jx_M), j_12 v_12 M_39 = some (r, M') → jJ E yX6_readsPerson cX6_readsPerson 8 (some FieldType.boolean) rm_X6_readsPerson (fun x M'' => x = some (.int r) ∧ M'' = M') 183 [(0, .ref (ja E 8 0)), (4, .int r_11), (5, .int v_9), (6, .int v_10), (7, .int v_11)] [.int v_12, .int (M_38 8 13 0), .ref (ja E 8 15)] M_39 := by
                      intro v_12 M_39 hF
                      rw [ej_12] at hF
                      obtain ⟨hb_11, hF⟩ := jck_e hF
                      refine jh_iast (ci := 6) (k := 14) rfl hB (by decide) rfl rfl hb_11 dX6_readsPerson_183 rfl (fun M_40 eM_40 => ?_)
                      have hF := jlet_e hF M_40 eM_40
                      refine jr_aload_n 0 dX6_readsPerson_184 rfl rfl rfl ?_
                      refine gf_X6_31 rfl rfl hB dX6_readsPerson_185 rfl ?_
                      refine jr_aload_n 0 dX6_readsPerson_188 rfl rfl rfl ?_
                      refine gf_X6_126 rfl rfl hB dX6_readsPerson_189 rfl ?_
                      refine jr_iload 1 dX6_readsPerson_192 rfl rfl ?_
                      obtain ⟨hb_12, hF⟩ := jck_e hF
                      refine jh_iast (ci := 6) (k := 15) rfl hB (by decide) rfl rfl hb_12 dX6_readsPerson_194 rfl (fun M_41 eM_41 => ?_)
                      have hF := jlet_e hF M_41 eM_41
                      refine jr_aload_n 0 dX6_readsPerson_195 rfl rfl rfl ?_
                      refine gf_X6_34 rfl rfl hB dX6_readsPerson_196 rfl ?_
                      refine jr_aload_n 0 dX6_readsPerson_199 rfl rfl rfl ?_
                      refine gf_X6_126 rfl rfl hB dX6_readsPerson_200 rfl ?_
                      refine jr_iload 2 dX6_readsPerson_203 rfl rfl ?_
                      obtain ⟨hb_13, hF⟩ := jck_e hF
                      refine jh_iast (ci := 6) (k := 16) rfl hB (by decide) rfl rfl hb_13 dX6_readsPerson_205 rfl (fun M_42 eM_42 => ?_)
                      have hF := jlet_e hF M_42 eM_42
                      refine jr_aload_n 0 dX6_readsPerson_206 rfl rfl rfl ?_
                      refine gf_X6_37 rfl rfl hB dX6_readsPerson_207 rfl ?_
                      refine jr_aload_n 0 dX6_readsPerson_210 rfl rfl rfl ?_
                      refine gf_X6_126 rfl rfl hB dX6_readsPerson_211 rfl ?_
                      refine jr_iload 3 dX6_readsPerson_214 rfl rfl ?_
                      obtain ⟨hb_14, hF⟩ := jck_e hF
                      refine jh_iast (ci := 6) (k := 17) rfl hB (by decide) rfl rfl hb_14 dX6_readsPerson_216 rfl (fun M_43 eM_43 => ?_)
                      have hF := jlet_e hF M_43 eM_43
                      refine jr_aload_n 0 dX6_readsPerson_217 rfl rfl rfl ?_
                      refine gf_X6_40 rfl rfl hB dX6_readsPerson_218 rfl ?_
                      refine jr_aload_n 0 dX6_readsPerson_221 rfl rfl rfl ?_
                      refine gf_X6_126 rfl rfl hB dX6_readsPerson_222 rfl ?_
                      refine jr_iload 4 dX6_readsPerson_225 rfl rfl ?_
                      obtain ⟨hb_15, hF⟩ := jck_e hF
                      refine jh_iast (ci := 6) (k := 18) rfl hB (by decide) rfl rfl hb_15 dX6_readsPerson_227 rfl (fun M_44 eM_44 => ?_)
                      have hF := jlet_e hF M_44 eM_44
                      refine jr_aload_n 0 dX6_readsPerson_228 rfl rfl rfl ?_
                      refine jr_dup dX6_readsPerson_229 rfl rfl ?_
                      refine gf_X6_126 rfl rfl hB dX6_readsPerson_230 rfl ?_
                      refine jr_iconst (v := 1) dX6_readsPerson_233 (by decide) rfl ?_
                      refine jr_iadd dX6_readsPerson_234 rfl ?_
                      refine pf_X6_126 rfl rfl hB dX6_readsPerson_235 ⟨rfl, rfl⟩ rfl (fun M_45 eM_45 => ?_)
                      have hF := jlet_e hF M_45 eM_45
                      refine jr_iconst (v := 1) dX6_readsPerson_238 (by decide) rfl ?_
                      exact jh_zret rfl (Or.inr rfl) dX6_readsPerson_239 hF
                    refine jr_icmp_ne 172 dX6_readsPerson_165 (by decide) rfl (fun c1 => ?_) (fun c1 => ?_)
                    · have hF := jif_n hF c1
                      refine jr_iload_n 2 dX6_readsPerson_172 rfl rfl rfl ?_
                      refine jr_bipush (v := 104) dX6_readsPerson_173 (by decide) rfl ?_
                      refine jr_icmp_ne 182 dX6_readsPerson_175 (by decide) rfl (fun c1 => ?_) (fun c1 => ?_)
                      · have hF := jif_n hF c1
                        refine jr_iconst (v := 2) dX6_readsPerson_182 (by decide) rfl ?_
                        refine jr_sub [1, 3, 4, 5, 0] rfl ?_
                        exact hj_12 2 M_38 hF
                      · have hF := jif_p hF c1
                        refine jr_iconst (v := 1) dX6_readsPerson_178 (by decide) rfl ?_
                        refine jr_goto 183 dX6_readsPerson_179 (by decide) ?_
                        refine jr_sub [1, 3, 4, 5, 0] rfl ?_
                        exact hj_12 1 M_38 hF
                    · have hF := jif_p hF c1
                      refine jr_iconst (v := 0) dX6_readsPerson_168 (by decide) rfl ?_
                      refine jr_goto 183 dX6_readsPerson_169 (by decide) ?_
                      refine jr_sub [1, 3, 4, 5, 0] rfl ?_
                      exact hj_12 0 M_38 hF
                  · have hF := jif_n hF c1
                    refine jr_iconst (v := 0) dX6_readsPerson_152 (by decide) rfl ?_
                    exact jh_zret rfl (Or.inl rfl) dX6_readsPerson_153 hF
                refine jr_if_ge 136 dX6_readsPerson_128 (by decide) rfl (fun c1 => ?_) (fun c1 => ?_)
                · have hF := jif_p hF c1
                  refine jr_aload_n 1 dX6_readsPerson_136 rfl rfl rfl ?_
                  refine jr_iload_n 2 dX6_readsPerson_137 rfl rfl rfl ?_
                  refine jr_iload_n 3 dX6_readsPerson_138 rfl rfl rfl ?_
                  refine jr_iconst (v := 1) dX6_readsPerson_139 (by decide) rfl ?_
                  refine jr_bipush (v := 9) dX6_readsPerson_140 (by decide) rfl ?_
                  obtain ⟨r_12, M_46, hc_12, hF⟩ := jbd_e hF
                  refine jh_callV1 (v := .int r_12) (o := 8) (as := [.int a1, .int a2, .int 1, .int 9]) (st := []) (JF_X6_figure hB hc_12) cw_X6_132 (iv_X6_figure) ⟨rfl, rfl, by decide, by decide⟩ rfl hB rfl rfl (Nat.le_of_ble_eq_true rfl) dX6_readsPerson_142 rfl ?_
                  refine jr_sub [1, 4, 5, 6, 0] rfl ?_
                  exact hj_11 r_12 M_46 hF
                · have hF := jif_n hF c1
                  refine jr_bipush (v := (-9)) dX6_readsPerson_131 (by decide) rfl ?_
                  refine jr_goto 145 dX6_readsPerson_133 (by decide) ?_
                  refine jr_sub [1, 4, 5, 6, 0] rfl ?_
                  exact hj_11 (-9) M_37 hF
              refine jr_if_ge 115 dX6_readsPerson_107 (by decide) rfl (fun c1 => ?_) (fun c1 => ?_)
              · have hF := jif_p hF c1
                refine jr_aload_n 1 dX6_readsPerson_115 rfl rfl rfl ?_
                refine jr_iload_n 2 dX6_readsPerson_116 rfl rfl rfl ?_
                refine jr_iload_n 3 dX6_readsPerson_117 rfl rfl rfl ?_
                refine jr_iconst (v := 1) dX6_readsPerson_118 (by decide) rfl ?_
                refine jr_bipush (v := 9) dX6_readsPerson_119 (by decide) rfl ?_
                obtain ⟨r_13, M_47, hc_13, hF⟩ := jbd_e hF
                refine jh_callV1 (v := .int r_13) (o := 8) (as := [.int a1, .int a2, .int 1, .int 9]) (st := []) (JF_X6_figure hB hc_13) cw_X6_132 (iv_X6_figure) ⟨rfl, rfl, by decide, by decide⟩ rfl hB rfl rfl (Nat.le_of_ble_eq_true rfl) dX6_readsPerson_121 rfl ?_
                refine jr_sub [1, 2, 3, 4, 5, 0] rfl ?_
                exact hj_10 r_13 M_47 hF
              · have hF := jif_n hF c1
                refine jr_bipush (v := (-9)) dX6_readsPerson_110 (by decide) rfl ?_
                refine jr_goto 124 dX6_readsPerson_112 (by decide) ?_
                refine jr_sub [1, 2, 3, 4, 5, 0] rfl ?_
                exact hj_10 (-9) M_36 hF
            refine jr_if_ge 94 dX6_readsPerson_86 (by decide) rfl (fun c1 => ?_) (fun c1 => ?_)
            · have hF := jif_p hF c1
              refine jr_aload_n 2 dX6_readsPerson_94 rfl rfl rfl ?_
              refine jr_iload_n 3 dX6_readsPerson_95 rfl rfl rfl ?_
              refine jr_iload_n 4 dX6_readsPerson_96 rfl rfl rfl ?_
              refine jr_iconst (v := 0) dX6_readsPerson_97 (by decide) rfl ?_
              refine jr_bipush (v := 9) dX6_readsPerson_98 (by decide) rfl ?_
              obtain ⟨r_14, M_48, hc_14, hF⟩ := jbd_e hF
              refine jh_callV1 (v := .int r_14) (o := 8) (as := [.int a1, .int a2, .int 0, .int 9]) (st := []) (JF_X6_figure hB hc_14) cw_X6_132 (iv_X6_figure) ⟨rfl, rfl, by decide, by decide⟩ rfl hB rfl rfl (Nat.le_of_ble_eq_true rfl) dX6_readsPerson_100 rfl ?_
              refine jr_sub [2, 3, 4, 1, 0] rfl ?_
              exact hj_9 r_14 M_48 hF
            · have hF := jif_n hF c1
              refine jr_bipush (v := (-9)) dX6_readsPerson_89 (by decide) rfl ?_
              refine jr_goto 103 dX6_readsPerson_91 (by decide) ?_
              refine jr_sub [2, 3, 4, 1, 0] rfl ?_
              exact hj_9 (-9) M_35 hF
          · have hF := jif_n hF c1
            refine jr_iconst (v := 0) dX6_readsPerson_57 (by decide) rfl ?_
            exact jh_zret rfl (Or.inl rfl) dX6_readsPerson_58 hF
    · have hF := jif_n hF c1
      refine jr_iconst (v := 0) dX6_readsPerson_20 (by decide) rfl ?_
      exact jh_zret rfl (Or.inl rfl) dX6_readsPerson_21 hF
set_option maxHeartbeats 4000000 in
set_option maxRecDepth 100000 in
theorem JL_X6_readsLand_79 {E : jx_E} (hB : jB E 8) {y1 : Int32} {y2 : Int32} {k : Int32 → jx_M → Option (Int32 × jx_M)} {r : Int32} {M' : jx_M} (hk : ∀ (z3 : Int32) (M : jx_M), k z3 M = some (r, M') → jJ E yX6_readsLand cX6_readsLand 4 (some FieldType.boolean) rm_X6_readsLand (fun x M'' => x = some (.int r) ∧ M'' = M') 109 [(3, .int z3)] [] M) : ∀ (n : Nat) (z3 : Int32) (M : jx_M), L_X6_readsLand_79 y1 y2 k n z3 M = some (r, M') → jJ E yX6_readsLand cX6_readsLand 4 (some FieldType.boolean) rm_X6_readsLand (fun x M'' => x = some (.int r) ∧ M'' = M') 79 [(0, .ref (ja E 8 0)), (1, .int y1), (2, .int y2), (3, .int z3)] [] M := by
  intro n
  induction n with
  | zero => intro z3 M hF; exact nomatch (show (none : Option (Int32 × jx_M)) = some _ from hF)
  | succ n ih =>
    intro z3 M hF
    rw [L_X6_readsLand_79.eq_2] at hF
    refine jr_iload_n 3 dX6_readsLand_79 rfl rfl rfl ?_
    refine jr_if_eq 109 dX6_readsLand_80 (by decide) rfl (fun c1 => ?_) (fun c1 => ?_)
    · have hF := jif_p hF c1
      refine jr_sub [3] rfl ?_
      exact hk z3 M hF
    · have hF := jif_n hF c1
      refine jr_aload_n 0 dX6_readsLand_83 rfl rfl rfl ?_
      refine gf_X6_126 rfl rfl hB dX6_readsLand_84 rfl ?_
      refine jr_iconst (v := 2) dX6_readsLand_87 (by decide) rfl ?_
      refine jr_icmp_lt 99 dX6_readsLand_88 (by decide) rfl (fun c1 => ?_) (fun c1 => ?_)
      · have hF := jif_p hF c1
        refine jr_aload_n 0 dX6_readsLand_99 rfl rfl rfl ?_
        refine jr_iload_n 1 dX6_readsLand_100 rfl rfl rfl ?_
        refine jr_iload_n 2 dX6_readsLand_101 rfl rfl rfl ?_
        obtain ⟨r_2, M_6, hc_2, hF⟩ := jbd_e hF
        refine jh_callV1 (v := .int r_2) (o := 8) (as := [.int y1, .int y2]) (st := []) (JF_X6_readsPerson hB hc_2) cw_X6_136 (iv_X6_readsPerson) ⟨rfl, rfl, by decide, by decide⟩ rfl hB rfl rfl (Nat.le_of_ble_eq_true rfl) dX6_readsLand_102 rfl ?_
        refine jr_istore_n (L' := [(3, .int r_2), (0, .ref (ja E 8 0)), (1, .int y1), (2, .int y2)]) dX6_readsLand_105 rfl (by decide) rfl rfl ?_
        refine jr_goto 79 dX6_readsLand_106 (by decide) ?_
        refine jr_sub [1, 2, 3, 0] rfl ?_
        exact ih r_2 M_6 hF
      · have hF := jif_n hF c1
        refine jr_aload_n 0 dX6_readsLand_91 rfl rfl rfl ?_
        refine gf_X6_119 rfl rfl hB dX6_readsLand_92 rfl ?_
        refine jr_iload_n 2 dX6_readsLand_95 rfl rfl rfl ?_
        refine jr_icmp_ge 109 dX6_readsLand_96 (by decide) rfl (fun c1 => ?_) (fun c1 => ?_)
        · have hF := jif_p hF c1
          refine jr_sub [3] rfl ?_
          exact hk z3 M hF
        · have hF := jif_n hF c1
          refine jr_aload_n 0 dX6_readsLand_99 rfl rfl rfl ?_
          refine jr_iload_n 1 dX6_readsLand_100 rfl rfl rfl ?_
          refine jr_iload_n 2 dX6_readsLand_101 rfl rfl rfl ?_
          obtain ⟨r_3, M_7, hc_3, hF⟩ := jbd_e hF
          refine jh_callV1 (v := .int r_3) (o := 8) (as := [.int y1, .int y2]) (st := []) (JF_X6_readsPerson hB hc_3) cw_X6_136 (iv_X6_readsPerson) ⟨rfl, rfl, by decide, by decide⟩ rfl hB rfl rfl (Nat.le_of_ble_eq_true rfl) dX6_readsLand_102 rfl ?_
          refine jr_istore_n (L' := [(3, .int r_3), (0, .ref (ja E 8 0)), (1, .int y1), (2, .int y2)]) dX6_readsLand_105 rfl (by decide) rfl rfl ?_
          refine jr_goto 79 dX6_readsLand_106 (by decide) ?_
          refine jr_sub [1, 2, 3, 0] rfl ?_
          exact ih r_3 M_7 hF
set_option maxHeartbeats 4000000 in
set_option maxRecDepth 100000 in
theorem JF_X6_readsLand {E : jx_E} (hB : jB E 8) {a1 : Int32} {a2 : Int32} {M : jx_M} {r : Int32} {M' : jx_M} (hF : F_X6_readsLand a1 a2 M = some (r, M')) : jC E yX6_readsLand cX6_readsLand 4 (some FieldType.boolean) rm_X6_readsLand [.ref (ja E 8 0), .int a1, .int a2] M (fun x M'' => x = some (.int r) ∧ M'' = M') := by
  refine jC.ofJ (L := [(0, .ref (ja E 8 0)), (1, .int a1), (2, .int a2)]) (by decide +kernel) (Nat.le_of_ble_eq_true rfl) rfl ?_
  unfold F_X6_readsLand at hF
  refine jr_aload_n 0 dX6_readsLand_0 rfl rfl rfl ?_
  refine jr_iconst (v := 0) dX6_readsLand_1 (by decide) rfl ?_
  refine pf_X6_119 rfl rfl hB dX6_readsLand_2 ⟨rfl, rfl⟩ rfl (fun M_1 eM_1 => ?_)
  have hF := jlet_e hF M_1 eM_1
  refine jr_aload_n 0 dX6_readsLand_5 rfl rfl rfl ?_
  refine jr_iconst (v := 0) dX6_readsLand_6 (by decide) rfl ?_
  refine pf_X6_126 rfl rfl hB dX6_readsLand_7 ⟨rfl, rfl⟩ rfl (fun M_2 eM_2 => ?_)
  have hF := jlet_e hF M_2 eM_2
  refine jr_aload_n 0 dX6_readsLand_10 rfl rfl rfl ?_
  refine jr_iload_n 1 dX6_readsLand_11 rfl rfl rfl ?_
  refine jr_iload_n 2 dX6_readsLand_12 rfl rfl rfl ?_
  obtain ⟨r_1, M_3, hc_1, hF⟩ := jbd_e hF
  refine jh_callV1 (v := .int r_1) (o := 8) (as := [.int a1, .int a2]) (st := []) (JF_X6_codeAt hB hc_1) cw_X6_122 (iv_X6_codeAt) ⟨rfl, rfl, by decide, by decide⟩ rfl hB rfl rfl (Nat.le_of_ble_eq_true rfl) dX6_readsLand_13 rfl ?_
  refine jr_bipush (v := 99) dX6_readsLand_16 (by decide) rfl ?_
  refine jr_icmp_ne 25 dX6_readsLand_18 (by decide) rfl (fun c1 => ?_) (fun c1 => ?_)
  · have hF := jif_n hF c1
    refine jr_iconst (v := 0) dX6_readsLand_25 (by decide) rfl ?_
    refine jr_istore_n (L' := [(3, .int 0), (0, .ref (ja E 8 0)), (1, .int a1), (2, .int a2)]) dX6_readsLand_26 rfl (by decide) rfl rfl ?_
    refine jr_aload_n 1 dX6_readsLand_27 rfl rfl rfl ?_
    refine jr_dup dX6_readsLand_28 rfl rfl ?_
    refine gf_X6_119 rfl rfl hB dX6_readsLand_29 rfl ?_
    refine jr_iload_n 0 dX6_readsLand_32 rfl rfl rfl ?_
    refine jr_if_eq 40 dX6_readsLand_33 (by decide) rfl (fun c1 => ?_) (fun c1 => absurd c1 (by decide))
    refine jr_iconst (v := 0) dX6_readsLand_40 (by decide) rfl ?_
    refine jr_iadd dX6_readsLand_41 rfl ?_
    refine pf_X6_119 rfl rfl hB dX6_readsLand_42 ⟨rfl, rfl⟩ rfl (fun M_4 eM_4 => ?_)
    have hF := jlet_e hF M_4 eM_4
    refine jr_aload_n 1 dX6_readsLand_45 rfl rfl rfl ?_
    refine jr_iload_n 0 dX6_readsLand_46 rfl rfl rfl ?_
    refine jr_if_eq 61 dX6_readsLand_47 (by decide) rfl (fun c1 => ?_) (fun c1 => absurd c1 (by decide))
    refine jr_bipush (v := (-9)) dX6_readsLand_61 (by decide) rfl ?_
    refine pf_X6_129 rfl rfl hB dX6_readsLand_63 ⟨rfl, rfl⟩ rfl (fun M_5 eM_5 => ?_)
    have hF := jlet_e hF M_5 eM_5
    refine jr_aload_n 1 dX6_readsLand_66 rfl rfl rfl ?_
    refine gf_X6_129 rfl rfl hB dX6_readsLand_67 rfl ?_
    refine jr_if_le 77 dX6_readsLand_70 (by decide) rfl (fun c1 => ?_) (fun c1 => ?_)
    · have hF := jif_p hF c1
      refine jr_iconst (v := 0) dX6_readsLand_77 (by decide) rfl ?_
      refine jr_istore_n (L' := [(3, .int 0), (0, .ref (ja E 8 0)), (1, .int a1), (2, .int a2)]) dX6_readsLand_78 rfl (by decide) rfl rfl ?_
      refine jr_sub [1, 2, 3, 0] rfl ?_
      refine JL_X6_readsLand_79 hB (fun x3_1 M_8 hF => ?_) jfu 0 M_5 hF
      refine jr_iload_n 0 dX6_readsLand_109 rfl rfl rfl ?_
      obtain ⟨hb_1, hF⟩ := jck_e hF
      exact jh_zret rfl (jin_2 hb_1) dX6_readsLand_110 hF
    · have hF := jif_n hF c1
      refine jr_iconst (v := 1) dX6_readsLand_73 (by decide) rfl ?_
      refine jr_goto 78 dX6_readsLand_74 (by decide) ?_
      refine jr_istore_n (L' := [(3, .int 1), (0, .ref (ja E 8 0)), (1, .int a1), (2, .int a2)]) dX6_readsLand_78 rfl (by decide) rfl rfl ?_
      refine jr_sub [1, 2, 3, 0] rfl ?_
      refine JL_X6_readsLand_79 hB (fun x3_2 M_9 hF => ?_) jfu 1 M_5 hF
      refine jr_iload_n 0 dX6_readsLand_109 rfl rfl rfl ?_
      obtain ⟨hb_2, hF⟩ := jck_e hF
      exact jh_zret rfl (jin_2 hb_2) dX6_readsLand_110 hF
  · have hF := jif_p hF c1
    refine jr_iconst (v := 1) dX6_readsLand_21 (by decide) rfl ?_
    refine jr_goto 26 dX6_readsLand_22 (by decide) ?_
    refine jr_istore_n (L' := [(3, .int 1), (0, .ref (ja E 8 0)), (1, .int a1), (2, .int a2)]) dX6_readsLand_26 rfl (by decide) rfl rfl ?_
    refine jr_aload_n 1 dX6_readsLand_27 rfl rfl rfl ?_
    refine jr_dup dX6_readsLand_28 rfl rfl ?_
    refine gf_X6_119 rfl rfl hB dX6_readsLand_29 rfl ?_
    refine jr_iload_n 0 dX6_readsLand_32 rfl rfl rfl ?_
    refine jr_if_eq 40 dX6_readsLand_33 (by decide) rfl (fun c1 => absurd c1 (by decide)) (fun c1 => ?_)
    refine jr_iconst (v := 1) dX6_readsLand_36 (by decide) rfl ?_
    refine jr_goto 41 dX6_readsLand_37 (by decide) ?_
    refine jr_iadd dX6_readsLand_41 rfl ?_
    refine pf_X6_119 rfl rfl hB dX6_readsLand_42 ⟨rfl, rfl⟩ rfl (fun M_10 eM_10 => ?_)
    have hF := jlet_e hF M_10 eM_10
    refine jr_aload_n 1 dX6_readsLand_45 rfl rfl rfl ?_
    refine jr_iload_n 0 dX6_readsLand_46 rfl rfl rfl ?_
    refine jr_if_eq 61 dX6_readsLand_47 (by decide) rfl (fun c1 => absurd c1 (by decide)) (fun c1 => ?_)
    refine jr_aload_n 1 dX6_readsLand_50 rfl rfl rfl ?_
    refine jr_iload_n 2 dX6_readsLand_51 rfl rfl rfl ?_
    refine jr_iload_n 3 dX6_readsLand_52 rfl rfl rfl ?_
    refine jr_iconst (v := 1) dX6_readsLand_53 (by decide) rfl ?_
    refine jr_iconst (v := 4) dX6_readsLand_54 (by decide) rfl ?_
    obtain ⟨r_4, M_11, hc_4, hF⟩ := jbd_e hF
    refine jh_callV1 (v := .int r_4) (o := 8) (as := [.int a1, .int a2, .int 1, .int 4]) (st := [.ref (ja E 8 0)]) (JF_X6_figure hB hc_4) cw_X6_132 (iv_X6_figure) ⟨rfl, rfl, by decide, by decide⟩ rfl hB rfl rfl (Nat.le_of_ble_eq_true rfl) dX6_readsLand_55 rfl ?_
    refine jr_goto 63 dX6_readsLand_58 (by decide) ?_
    refine pf_X6_129 rfl rfl hB dX6_readsLand_63 ⟨rfl, rfl⟩ rfl (fun M_12 eM_12 => ?_)
    have hF := jlet_e hF M_12 eM_12
    refine jr_aload_n 1 dX6_readsLand_66 rfl rfl rfl ?_
    refine gf_X6_129 rfl rfl hB dX6_readsLand_67 rfl ?_
    refine jr_if_le 77 dX6_readsLand_70 (by decide) rfl (fun c1 => ?_) (fun c1 => ?_)
    · have hF := jif_p hF c1
      refine jr_iconst (v := 0) dX6_readsLand_77 (by decide) rfl ?_
      refine jr_istore_n (L' := [(3, .int 0), (0, .ref (ja E 8 0)), (1, .int a1), (2, .int a2)]) dX6_readsLand_78 rfl (by decide) rfl rfl ?_
      refine jr_sub [1, 2, 3, 0] rfl ?_
      refine JL_X6_readsLand_79 hB (fun x3_3 M_13 hF => ?_) jfu 0 M_12 hF
      refine jr_iload_n 0 dX6_readsLand_109 rfl rfl rfl ?_
      obtain ⟨hb_3, hF⟩ := jck_e hF
      exact jh_zret rfl (jin_2 hb_3) dX6_readsLand_110 hF
    · have hF := jif_n hF c1
      refine jr_iconst (v := 1) dX6_readsLand_73 (by decide) rfl ?_
      refine jr_goto 78 dX6_readsLand_74 (by decide) ?_
      refine jr_istore_n (L' := [(3, .int 1), (0, .ref (ja E 8 0)), (1, .int a1), (2, .int a2)]) dX6_readsLand_78 rfl (by decide) rfl rfl ?_
      refine jr_sub [1, 2, 3, 0] rfl ?_
      refine JL_X6_readsLand_79 hB (fun x3_4 M_14 hF => ?_) jfu 1 M_12 hF
      refine jr_iload_n 0 dX6_readsLand_109 rfl rfl rfl ?_
      obtain ⟨hb_4, hF⟩ := jck_e hF
      exact jh_zret rfl (jin_2 hb_4) dX6_readsLand_110 hF
set_option maxHeartbeats 4000000 in
set_option maxRecDepth 100000 in
theorem JF_X6_isBeyond {E : jx_E} (hB : jB E 8) {a0 : Int32} {a1 : Int64} {a3 : Int32} {M : jx_M} {r : Int32} {M' : jx_M} (hF : F_X6_isBeyond a0 a1 a3 M = some (r, M')) : jC E yX6_isBeyond cX6_isBeyond 4 (some FieldType.boolean) rm_X6_isBeyond [.int a0, .long a1, .int a3] M (fun x M'' => x = some (.int r) ∧ M'' = M') := by
  refine jC.ofJ (L := [(0, .int a0), (1, .long a1), (3, .int a3)]) (by decide +kernel) (Nat.le_of_ble_eq_true rfl) rfl ?_
  unfold F_X6_isBeyond at hF
  refine jr_iload_n 0 dX6_isBeyond_0 rfl rfl rfl ?_
  refine jr_if_lt 20 dX6_isBeyond_1 (by decide) rfl (fun c1 => ?_) (fun c1 => ?_)
  · have hF := jif_p hF c1
    refine jr_iconst (v := 1) dX6_isBeyond_20 (by decide) rfl ?_
    refine jr_goto 25 dX6_isBeyond_21 (by decide) ?_
    exact jh_zret rfl (Or.inr rfl) dX6_isBeyond_25 hF
  · have hF := jif_n hF c1
    refine jr_lload_n 1 dX6_isBeyond_4 rfl rfl rfl ?_
    refine jr_lconst (v := 0) dX6_isBeyond_5 (by decide) rfl ?_
    refine jr_lcmp dX6_isBeyond_6 rfl ?_
    refine jr_if_lt 20 dX6_isBeyond_7 (by decide) rfl (fun c1 => ?_) (fun c1 => ?_)
    · have hF := jif_p hF c1
      refine jr_iconst (v := 1) dX6_isBeyond_20 (by decide) rfl ?_
      refine jr_goto 25 dX6_isBeyond_21 (by decide) ?_
      exact jh_zret rfl (Or.inr rfl) dX6_isBeyond_25 hF
    · have hF := jif_n hF c1
      refine jr_iload_n 0 dX6_isBeyond_10 rfl rfl rfl ?_
      refine jr_i2l dX6_isBeyond_11 rfl ?_
      refine jr_lload_n 1 dX6_isBeyond_12 rfl rfl rfl ?_
      refine jr_ladd dX6_isBeyond_13 rfl ?_
      refine jr_iload_n 2 dX6_isBeyond_14 rfl rfl rfl ?_
      refine jr_i2l dX6_isBeyond_15 rfl ?_
      refine jr_lcmp dX6_isBeyond_16 rfl ?_
      refine jr_if_le 24 dX6_isBeyond_17 (by decide) rfl (fun c1 => ?_) (fun c1 => ?_)
      · have hF := jif_p hF c1
        refine jr_iconst (v := 0) dX6_isBeyond_24 (by decide) rfl ?_
        exact jh_zret rfl (Or.inl rfl) dX6_isBeyond_25 hF
      · have hF := jif_n hF c1
        refine jr_iconst (v := 1) dX6_isBeyond_20 (by decide) rfl ?_
        refine jr_goto 25 dX6_isBeyond_21 (by decide) ?_
        exact jh_zret rfl (Or.inr rfl) dX6_isBeyond_25 hF
set_option maxHeartbeats 4000000 in
set_option maxRecDepth 100000 in
theorem JF_X6_cellsBarred {E : jx_E} (hB : jB E 8) {a1 : Int32} {a2 : Int32} {a3 : Int32} {a4 : Int64} {M : jx_M} {r : Int32} {M' : jx_M} (hF : F_X6_cellsBarred a1 a2 a3 a4 M = some (r, M')) : jC E yX6_cellsBarred cX6_cellsBarred 6 (some FieldType.int) rm_X6_cellsBarred [.ref (ja E 8 0), .int a1, .int a2, .int a3, .long a4] M (fun x M'' => x = some (.int r) ∧ M'' = M') := by
  refine jC.ofJ (L := [(0, .ref (ja E 8 0)), (1, .int a1), (2, .int a2), (3, .int a3), (4, .long a4)]) (by decide +kernel) (Nat.le_of_ble_eq_true rfl) rfl ?_
  unfold F_X6_cellsBarred at hF
  refine jr_aload_n 0 dX6_cellsBarred_0 rfl rfl rfl ?_
  refine gf_X6_85 rfl rfl hB dX6_cellsBarred_1 rfl ?_
  refine jr_iload_n 1 dX6_cellsBarred_4 rfl rfl rfl ?_
  obtain ⟨hb_1, hF⟩ := jck_e hF
  refine jh_iald (ci := 6) (k := 38) rfl hB (by decide) rfl rfl hb_1 dX6_cellsBarred_5 rfl ?_
  refine jr_if_lt 25 dX6_cellsBarred_6 (by decide) rfl (fun c1 => ?_) (fun c1 => ?_)
  · have hF := jif_p hF c1
    refine jr_aload_n 0 dX6_cellsBarred_25 rfl rfl rfl ?_
    refine gf_X6_85 rfl rfl hB dX6_cellsBarred_26 rfl ?_
    refine jr_iload_n 1 dX6_cellsBarred_29 rfl rfl rfl ?_
    obtain ⟨hb_2, hF⟩ := jck_e hF
    refine jh_iald (ci := 6) (k := 38) rfl hB (by decide) rfl rfl hb_2 dX6_cellsBarred_30 rfl ?_
    refine jr_if_ge 40 dX6_cellsBarred_31 (by decide) rfl (fun c1 => ?_) (fun c1 => ?_)
    · have hF := jif_p hF c1
      refine jr_lload 4 dX6_cellsBarred_40 rfl rfl ?_
      refine jr_lconst (v := 0) dX6_cellsBarred_42 (by decide) rfl ?_
      refine jr_lcmp dX6_cellsBarred_43 rfl ?_
      refine jr_if_ge 53 dX6_cellsBarred_44 (by decide) rfl (fun c1 => ?_) (fun c1 => ?_)
      · have hF := jif_p hF c1
        refine jr_iload_n 3 dX6_cellsBarred_53 rfl rfl rfl ?_
        refine jr_lload 4 dX6_cellsBarred_54 rfl rfl ?_
        refine jr_aload_n 0 dX6_cellsBarred_56 rfl rfl rfl ?_
        refine gf_X6_85 rfl rfl hB dX6_cellsBarred_57 rfl ?_
        refine jr_iload_n 1 dX6_cellsBarred_60 rfl rfl rfl ?_
        obtain ⟨hb_3, hF⟩ := jck_e hF
        refine jh_iald (ci := 6) (k := 38) rfl hB (by decide) rfl rfl hb_3 dX6_cellsBarred_61 rfl ?_
        obtain ⟨r_1, M_1, hc_1, hF⟩ := jbd_e hF
        refine jh_callS1 (v := .int r_1) (as := [.int a3, .long a4, .int (jx_r M 8 38 a1)]) (st := []) (JF_X6_isBeyond hB hc_1) cw_X6_144 (iv_X6_isBeyond) ⟨rfl, rfl, by decide, by decide⟩ rfl rfl (Nat.le_of_ble_eq_true rfl) dX6_cellsBarred_62 rfl ?_
        refine jr_if_eq 76 dX6_cellsBarred_65 (by decide) rfl (fun c1 => ?_) (fun c1 => ?_)
        · have hF := jif_p hF c1
          refine jr_iconst (v := 0) dX6_cellsBarred_76 (by decide) rfl ?_
          exact jh_iret rfl dX6_cellsBarred_77 hF
        · have hF := jif_n hF c1
          refine jr_aload_n 0 dX6_cellsBarred_68 rfl rfl rfl ?_
          refine jr_iconst (v := 3) dX6_cellsBarred_69 (by decide) rfl ?_
          obtain ⟨r_2, M_2, hc_2, hF⟩ := jbd_e hF
          refine jh_callV1 (v := .int r_2) (o := 8) (as := [.int 3]) (st := []) (JF_X6_failed hB hc_2) cw_X6_140 (iv_X6_failed) ⟨rfl, rfl, by decide, by decide⟩ rfl hB rfl rfl (Nat.le_of_ble_eq_true rfl) dX6_cellsBarred_70 rfl ?_
          refine jr_goto 77 dX6_cellsBarred_73 (by decide) ?_
          exact jh_iret rfl dX6_cellsBarred_77 hF
      · have hF := jif_n hF c1
        refine jr_aload_n 0 dX6_cellsBarred_47 rfl rfl rfl ?_
        refine jr_iconst (v := 4) dX6_cellsBarred_48 (by decide) rfl ?_
        obtain ⟨r_3, M_3, hc_3, hF⟩ := jbd_e hF
        refine jh_callV1 (v := .int r_3) (o := 8) (as := [.int 4]) (st := []) (JF_X6_failed hB hc_3) cw_X6_140 (iv_X6_failed) ⟨rfl, rfl, by decide, by decide⟩ rfl hB rfl rfl (Nat.le_of_ble_eq_true rfl) dX6_cellsBarred_49 rfl ?_
        exact jh_iret rfl dX6_cellsBarred_52 hF
    · have hF := jif_n hF c1
      refine jr_aload_n 0 dX6_cellsBarred_34 rfl rfl rfl ?_
      refine jr_iconst (v := 1) dX6_cellsBarred_35 (by decide) rfl ?_
      obtain ⟨r_4, M_4, hc_4, hF⟩ := jbd_e hF
      refine jh_callV1 (v := .int r_4) (o := 8) (as := [.int 1]) (st := []) (JF_X6_failed hB hc_4) cw_X6_140 (iv_X6_failed) ⟨rfl, rfl, by decide, by decide⟩ rfl hB rfl rfl (Nat.le_of_ble_eq_true rfl) dX6_cellsBarred_36 rfl ?_
      exact jh_iret rfl dX6_cellsBarred_39 hF
  · have hF := jif_n hF c1
    refine jr_aload_n 0 dX6_cellsBarred_9 rfl rfl rfl ?_
    refine gf_X6_88 rfl rfl hB dX6_cellsBarred_10 rfl ?_
    refine jr_iload_n 1 dX6_cellsBarred_13 rfl rfl rfl ?_
    obtain ⟨hb_4, hF⟩ := jck_e hF
    refine jh_iald (ci := 6) (k := 39) rfl hB (by decide) rfl rfl hb_4 dX6_cellsBarred_14 rfl ?_
    refine jr_iload_n 2 dX6_cellsBarred_15 rfl rfl rfl ?_
    refine jr_icmp_eq 25 dX6_cellsBarred_16 (by decide) rfl (fun c1 => ?_) (fun c1 => ?_)
    · have hF := jif_p hF c1
      refine jr_aload_n 0 dX6_cellsBarred_25 rfl rfl rfl ?_
      refine gf_X6_85 rfl rfl hB dX6_cellsBarred_26 rfl ?_
      refine jr_iload_n 1 dX6_cellsBarred_29 rfl rfl rfl ?_
      obtain ⟨hb_5, hF⟩ := jck_e hF
      refine jh_iald (ci := 6) (k := 38) rfl hB (by decide) rfl rfl hb_5 dX6_cellsBarred_30 rfl ?_
      refine jr_if_ge 40 dX6_cellsBarred_31 (by decide) rfl (fun c1 => ?_) (fun c1 => ?_)
      · have hF := jif_p hF c1
        refine jr_lload 4 dX6_cellsBarred_40 rfl rfl ?_
        refine jr_lconst (v := 0) dX6_cellsBarred_42 (by decide) rfl ?_
        refine jr_lcmp dX6_cellsBarred_43 rfl ?_
        refine jr_if_ge 53 dX6_cellsBarred_44 (by decide) rfl (fun c1 => ?_) (fun c1 => ?_)
        · have hF := jif_p hF c1
          refine jr_iload_n 3 dX6_cellsBarred_53 rfl rfl rfl ?_
          refine jr_lload 4 dX6_cellsBarred_54 rfl rfl ?_
          refine jr_aload_n 0 dX6_cellsBarred_56 rfl rfl rfl ?_
          refine gf_X6_85 rfl rfl hB dX6_cellsBarred_57 rfl ?_
          refine jr_iload_n 1 dX6_cellsBarred_60 rfl rfl rfl ?_
          obtain ⟨hb_6, hF⟩ := jck_e hF
          refine jh_iald (ci := 6) (k := 38) rfl hB (by decide) rfl rfl hb_6 dX6_cellsBarred_61 rfl ?_
          obtain ⟨r_5, M_5, hc_5, hF⟩ := jbd_e hF
          refine jh_callS1 (v := .int r_5) (as := [.int a3, .long a4, .int (jx_r M 8 38 a1)]) (st := []) (JF_X6_isBeyond hB hc_5) cw_X6_144 (iv_X6_isBeyond) ⟨rfl, rfl, by decide, by decide⟩ rfl rfl (Nat.le_of_ble_eq_true rfl) dX6_cellsBarred_62 rfl ?_
          refine jr_if_eq 76 dX6_cellsBarred_65 (by decide) rfl (fun c1 => ?_) (fun c1 => ?_)
          · have hF := jif_p hF c1
            refine jr_iconst (v := 0) dX6_cellsBarred_76 (by decide) rfl ?_
            exact jh_iret rfl dX6_cellsBarred_77 hF
          · have hF := jif_n hF c1
            refine jr_aload_n 0 dX6_cellsBarred_68 rfl rfl rfl ?_
            refine jr_iconst (v := 3) dX6_cellsBarred_69 (by decide) rfl ?_
            obtain ⟨r_6, M_6, hc_6, hF⟩ := jbd_e hF
            refine jh_callV1 (v := .int r_6) (o := 8) (as := [.int 3]) (st := []) (JF_X6_failed hB hc_6) cw_X6_140 (iv_X6_failed) ⟨rfl, rfl, by decide, by decide⟩ rfl hB rfl rfl (Nat.le_of_ble_eq_true rfl) dX6_cellsBarred_70 rfl ?_
            refine jr_goto 77 dX6_cellsBarred_73 (by decide) ?_
            exact jh_iret rfl dX6_cellsBarred_77 hF
        · have hF := jif_n hF c1
          refine jr_aload_n 0 dX6_cellsBarred_47 rfl rfl rfl ?_
          refine jr_iconst (v := 4) dX6_cellsBarred_48 (by decide) rfl ?_
          obtain ⟨r_7, M_7, hc_7, hF⟩ := jbd_e hF
          refine jh_callV1 (v := .int r_7) (o := 8) (as := [.int 4]) (st := []) (JF_X6_failed hB hc_7) cw_X6_140 (iv_X6_failed) ⟨rfl, rfl, by decide, by decide⟩ rfl hB rfl rfl (Nat.le_of_ble_eq_true rfl) dX6_cellsBarred_49 rfl ?_
          exact jh_iret rfl dX6_cellsBarred_52 hF
      · have hF := jif_n hF c1
        refine jr_aload_n 0 dX6_cellsBarred_34 rfl rfl rfl ?_
        refine jr_iconst (v := 1) dX6_cellsBarred_35 (by decide) rfl ?_
        obtain ⟨r_8, M_8, hc_8, hF⟩ := jbd_e hF
        refine jh_callV1 (v := .int r_8) (o := 8) (as := [.int 1]) (st := []) (JF_X6_failed hB hc_8) cw_X6_140 (iv_X6_failed) ⟨rfl, rfl, by decide, by decide⟩ rfl hB rfl rfl (Nat.le_of_ble_eq_true rfl) dX6_cellsBarred_36 rfl ?_
        exact jh_iret rfl dX6_cellsBarred_39 hF
    · have hF := jif_n hF c1
      refine jr_aload_n 0 dX6_cellsBarred_19 rfl rfl rfl ?_
      refine jr_iconst (v := 2) dX6_cellsBarred_20 (by decide) rfl ?_
      obtain ⟨r_9, M_9, hc_9, hF⟩ := jbd_e hF
      refine jh_callV1 (v := .int r_9) (o := 8) (as := [.int 2]) (st := []) (JF_X6_failed hB hc_9) cw_X6_140 (iv_X6_failed) ⟨rfl, rfl, by decide, by decide⟩ rfl hB rfl rfl (Nat.le_of_ble_eq_true rfl) dX6_cellsBarred_21 rfl ?_
      exact jh_iret rfl dX6_cellsBarred_24 hF
set_option maxHeartbeats 4000000 in
set_option maxRecDepth 100000 in
theorem JF_X6_noSheet {E : jx_E} (hB : jB E 8) {a0 : Int32} {M : jx_M} {r : Int32} {M' : jx_M} (hF : F_X6_noSheet a0 M = some (r, M')) : jC E yX6_noSheet cX6_noSheet 1 (some FieldType.boolean) rm_X6_noSheet [.int a0] M (fun x M'' => x = some (.int r) ∧ M'' = M') := by
  refine jC.ofJ (L := [(0, .int a0)]) (by decide +kernel) (Nat.le_of_ble_eq_true rfl) rfl ?_
  unfold F_X6_noSheet at hF
  refine jr_iload_n 0 dX6_noSheet_0 rfl rfl rfl ?_
  refine jr_i2l dX6_noSheet_1 rfl ?_
  refine jr_lconst (v := 0) dX6_noSheet_2 (by decide) rfl ?_
  refine jr_ldc2 (v := 3) dX6_noSheet_3 (List.mem_cons_of_mem _ (lw_g_of 794 (by decide +kernel) (by decide +kernel))) rfl ?_
  obtain ⟨r_1, M_1, hc_1, hF⟩ := jbd_e hF
  refine jh_callS1 (v := .int r_1) (as := [.long a0.toInt64, .long 0, .long 3]) (st := []) (JF_X6_in hB hc_1) cw_X6_110 (iv_X6_in) ⟨rfl, rfl, by decide, by decide⟩ rfl rfl (Nat.le_of_ble_eq_true rfl) dX6_noSheet_6 rfl ?_
  refine jr_if_ne 16 dX6_noSheet_9 (by decide) rfl (fun c1 => ?_) (fun c1 => ?_)
  · have hF := jif_n hF c1
    refine jr_iconst (v := 0) dX6_noSheet_16 (by decide) rfl ?_
    exact jh_zret rfl (Or.inl rfl) dX6_noSheet_17 hF
  · have hF := jif_p hF c1
    refine jr_iconst (v := 1) dX6_noSheet_12 (by decide) rfl ?_
    refine jr_goto 17 dX6_noSheet_13 (by decide) ?_
    exact jh_zret rfl (Or.inr rfl) dX6_noSheet_17 hF
set_option maxHeartbeats 4000000 in
set_option maxRecDepth 100000 in
theorem JL_X6_land_98 {E : jx_E} (hB : jB E 8) {k : jx_M → Option (Int32 × jx_M)} {r : Int32} {M' : jx_M} (hk : ∀ (M : jx_M), k M = some (r, M') → jJ E yX6_land cX6_land 7 (some FieldType.int) rm_X6_land (fun x M'' => x = some (.int r) ∧ M'' = M') 183 [(0, .ref (ja E 8 0))] [] M) : ∀ (n : Nat) (z6 : Int32) (M : jx_M), L_X6_land_98 k n z6 M = some (r, M') → jJ E yX6_land cX6_land 7 (some FieldType.int) rm_X6_land (fun x M'' => x = some (.int r) ∧ M'' = M') 98 [(0, .ref (ja E 8 0)), (6, .int z6)] [] M := by
  intro n
  induction n with
  | zero => intro z6 M hF; exact nomatch (show (none : Option (Int32 × jx_M)) = some _ from hF)
  | succ n ih =>
    intro z6 M hF
    rw [L_X6_land_98.eq_2] at hF
    refine jr_iload 1 dX6_land_98 rfl rfl ?_
    refine jr_aload_n 0 dX6_land_100 rfl rfl rfl ?_
    refine gf_X6_107 rfl rfl hB dX6_land_101 rfl ?_
    refine jr_icmp_ge 183 dX6_land_104 (by decide) rfl (fun c1 => ?_) (fun c1 => ?_)
    · have hF := jif_p hF c1
      refine jr_sub [0] rfl ?_
      exact hk M hF
    · have hF := jif_n hF c1
      refine jr_aload_n 0 dX6_land_107 rfl rfl rfl ?_
      refine gf_X6_7 rfl rfl hB dX6_land_108 rfl ?_
      refine jr_iload 1 dX6_land_111 rfl rfl ?_
      refine jr_aload_n 0 dX6_land_113 rfl rfl rfl ?_
      refine gf_X6_28 rfl rfl hB dX6_land_114 rfl ?_
      refine jr_iload 1 dX6_land_117 rfl rfl ?_
      obtain ⟨hb_1, hF⟩ := jck_e hF
      refine jh_iald (ci := 6) (k := 14) rfl hB (by decide) rfl rfl hb_1 dX6_land_119 rfl ?_
      obtain ⟨hb_2, hF⟩ := jck_e hF
      refine jh_iast (ci := 6) (k := 3) rfl hB (by decide) rfl rfl hb_2 dX6_land_120 rfl (fun M_7 eM_7 => ?_)
      have hF := jlet_e hF M_7 eM_7
      refine jr_aload_n 0 dX6_land_121 rfl rfl rfl ?_
      refine gf_X6_13 rfl rfl hB dX6_land_122 rfl ?_
      refine jr_iload 1 dX6_land_125 rfl rfl ?_
      refine jr_aload_n 0 dX6_land_127 rfl rfl rfl ?_
      refine gf_X6_31 rfl rfl hB dX6_land_128 rfl ?_
      refine jr_iload 1 dX6_land_131 rfl rfl ?_
      obtain ⟨hb_3, hF⟩ := jck_e hF
      refine jh_iald (ci := 6) (k := 15) rfl hB (by decide) rfl rfl hb_3 dX6_land_133 rfl ?_
      obtain ⟨hb_4, hF⟩ := jck_e hF
      refine jh_iast (ci := 6) (k := 4) rfl hB (by decide) rfl rfl hb_4 dX6_land_134 rfl (fun M_8 eM_8 => ?_)
      have hF := jlet_e hF M_8 eM_8
      refine jr_aload_n 0 dX6_land_135 rfl rfl rfl ?_
      refine gf_X6_16 rfl rfl hB dX6_land_136 rfl ?_
      refine jr_iload 1 dX6_land_139 rfl rfl ?_
      refine jr_aload_n 0 dX6_land_141 rfl rfl rfl ?_
      refine gf_X6_34 rfl rfl hB dX6_land_142 rfl ?_
      refine jr_iload 1 dX6_land_145 rfl rfl ?_
      obtain ⟨hb_5, hF⟩ := jck_e hF
      refine jh_iald (ci := 6) (k := 16) rfl hB (by decide) rfl rfl hb_5 dX6_land_147 rfl ?_
      obtain ⟨hb_6, hF⟩ := jck_e hF
      refine jh_iast (ci := 6) (k := 5) rfl hB (by decide) rfl rfl hb_6 dX6_land_148 rfl (fun M_9 eM_9 => ?_)
      have hF := jlet_e hF M_9 eM_9
      refine jr_aload_n 0 dX6_land_149 rfl rfl rfl ?_
      refine gf_X6_19 rfl rfl hB dX6_land_150 rfl ?_
      refine jr_iload 1 dX6_land_153 rfl rfl ?_
      refine jr_aload_n 0 dX6_land_155 rfl rfl rfl ?_
      refine gf_X6_37 rfl rfl hB dX6_land_156 rfl ?_
      refine jr_iload 1 dX6_land_159 rfl rfl ?_
      obtain ⟨hb_7, hF⟩ := jck_e hF
      refine jh_iald (ci := 6) (k := 17) rfl hB (by decide) rfl rfl hb_7 dX6_land_161 rfl ?_
      obtain ⟨hb_8, hF⟩ := jck_e hF
      refine jh_iast (ci := 6) (k := 6) rfl hB (by decide) rfl rfl hb_8 dX6_land_162 rfl (fun M_10 eM_10 => ?_)
      have hF := jlet_e hF M_10 eM_10
      refine jr_aload_n 0 dX6_land_163 rfl rfl rfl ?_
      refine gf_X6_22 rfl rfl hB dX6_land_164 rfl ?_
      refine jr_iload 1 dX6_land_167 rfl rfl ?_
      refine jr_aload_n 0 dX6_land_169 rfl rfl rfl ?_
      refine gf_X6_40 rfl rfl hB dX6_land_170 rfl ?_
      refine jr_iload 1 dX6_land_173 rfl rfl ?_
      obtain ⟨hb_9, hF⟩ := jck_e hF
      refine jh_iald (ci := 6) (k := 18) rfl hB (by decide) rfl rfl hb_9 dX6_land_175 rfl ?_
      obtain ⟨hb_10, hF⟩ := jck_e hF
      refine jh_iast (ci := 6) (k := 7) rfl hB (by decide) rfl rfl hb_10 dX6_land_176 rfl (fun M_11 eM_11 => ?_)
      have hF := jlet_e hF M_11 eM_11
      obtain ⟨x6_1, ex6_1⟩ : ∃ z : Int32, z = z6 + 1 := ⟨_, rfl⟩
      have hF := jlet_e hF x6_1 ex6_1
      refine jr_iinc (v := x6_1) (L' := [(6, .int x6_1), (0, .ref (ja E 8 0))]) 1 dX6_land_177 rfl (by rw [ex6_1]; rfl) (by decide) rfl rfl ?_
      refine jr_goto 98 dX6_land_180 (by decide) ?_
      refine jr_sub [1, 0] rfl ?_
      exact ih x6_1 M_11 hF
set_option maxHeartbeats 4000000 in
set_option maxRecDepth 100000 in
theorem JL_X6_land_186 {E : jx_E} (hB : jB E 8) {k : jx_M → Option (Int32 × jx_M)} {r : Int32} {M' : jx_M} (hk : ∀ (M : jx_M), k M = some (r, M') → jJ E yX6_land cX6_land 7 (some FieldType.int) rm_X6_land (fun x M'' => x = some (.int r) ∧ M'' = M') 207 [(0, .ref (ja E 8 0))] [] M) : ∀ (n : Nat) (z6 : Int32) (M : jx_M), L_X6_land_186 k n z6 M = some (r, M') → jJ E yX6_land cX6_land 7 (some FieldType.int) rm_X6_land (fun x M'' => x = some (.int r) ∧ M'' = M') 186 [(0, .ref (ja E 8 0)), (6, .int z6)] [] M := by
  intro n
  induction n with
  | zero => intro z6 M hF; exact nomatch (show (none : Option (Int32 × jx_M)) = some _ from hF)
  | succ n ih =>
    intro z6 M hF
    rw [L_X6_land_186.eq_2] at hF
    refine jr_iload 1 dX6_land_186 rfl rfl ?_
    refine jr_iconst (v := 4) dX6_land_188 (by decide) rfl ?_
    refine jr_icmp_ge 207 dX6_land_189 (by decide) rfl (fun c1 => ?_) (fun c1 => ?_)
    · have hF := jif_p hF c1
      refine jr_sub [0] rfl ?_
      exact hk M hF
    · have hF := jif_n hF c1
      refine jr_aload_n 0 dX6_land_192 rfl rfl rfl ?_
      refine gf_X6_25 rfl rfl hB dX6_land_193 rfl ?_
      refine jr_iload 1 dX6_land_196 rfl rfl ?_
      refine jr_bipush (v := 40) dX6_land_198 (by decide) rfl ?_
      obtain ⟨hb_11, hF⟩ := jck_e hF
      refine jh_iast (ci := 6) (k := 10) rfl hB (by decide) rfl rfl hb_11 dX6_land_200 rfl (fun M_13 eM_13 => ?_)
      have hF := jlet_e hF M_13 eM_13
      obtain ⟨x6_2, ex6_2⟩ : ∃ z : Int32, z = z6 + 1 := ⟨_, rfl⟩
      have hF := jlet_e hF x6_2 ex6_2
      refine jr_iinc (v := x6_2) (L' := [(6, .int x6_2), (0, .ref (ja E 8 0))]) 1 dX6_land_201 rfl (by rw [ex6_2]; rfl) (by decide) rfl rfl ?_
      refine jr_goto 186 dX6_land_204 (by decide) ?_
      refine jr_sub [1, 0] rfl ?_
      exact ih x6_2 M_13 hF
set_option maxHeartbeats 4000000 in
set_option maxRecDepth 100000 in
theorem JF_X6_land {E : jx_E} (hB : jB E 8) {a1 : Int32} {a2 : Int32} {a3 : Int32} {a4 : Int32} {M : jx_M} {r : Int32} {M' : jx_M} (hF : F_X6_land a1 a2 a3 a4 M = some (r, M')) : jC E yX6_land cX6_land 7 (some FieldType.int) rm_X6_land [.ref (ja E 8 0), .int a1, .int a2, .int a3, .int a4] M (fun x M'' => x = some (.int r) ∧ M'' = M') := by
  refine jC.ofJ (L := [(0, .ref (ja E 8 0)), (1, .int a1), (2, .int a2), (3, .int a3), (4, .int a4)]) (by decide +kernel) (Nat.le_of_ble_eq_true rfl) rfl ?_
  unfold F_X6_land at hF
  refine jr_iload_n 1 dX6_land_0 rfl rfl rfl ?_
  obtain ⟨r_1, M_1, hc_1, hF⟩ := jbd_e hF
  refine jh_callS1 (v := .int r_1) (as := [.int a1]) (st := []) (JF_X6_noSheet hB hc_1) cw_X6_148 (iv_X6_noSheet) ⟨rfl, rfl, by decide, by decide⟩ rfl rfl (Nat.le_of_ble_eq_true rfl) dX6_land_1 rfl ?_
  refine jr_if_eq 13 dX6_land_4 (by decide) rfl (fun c1 => ?_) (fun c1 => ?_)
  · have hF := jif_p hF c1
    refine jr_iload_n 2 dX6_land_13 rfl rfl rfl ?_
    refine jr_i2l dX6_land_14 rfl ?_
    refine jr_lconst (v := 0) dX6_land_15 (by decide) rfl ?_
    refine jr_ldc2 (v := 2) dX6_land_16 (List.mem_cons_of_mem _ (lw_g_of 802 (by decide +kernel) (by decide +kernel))) rfl ?_
    obtain ⟨r_2, M_2, hc_2, hF⟩ := jbd_e hF
    refine jh_callS1 (v := .int r_2) (as := [.long a2.toInt64, .long 0, .long 2]) (st := []) (JF_X6_in hB hc_2) cw_X6_110 (iv_X6_in) ⟨rfl, rfl, by decide, by decide⟩ rfl rfl (Nat.le_of_ble_eq_true rfl) dX6_land_19 rfl ?_
    refine jr_if_ne 32 dX6_land_22 (by decide) rfl (fun c1 => ?_) (fun c1 => ?_)
    · have hF := jif_n hF c1
      refine jr_aload_n 0 dX6_land_32 rfl rfl rfl ?_
      refine jr_iload_n 1 dX6_land_33 rfl rfl rfl ?_
      refine jr_iload_n 2 dX6_land_34 rfl rfl rfl ?_
      refine jr_iload_n 3 dX6_land_35 rfl rfl rfl ?_
      refine jr_iload 4 dX6_land_36 rfl rfl ?_
      refine jr_i2l dX6_land_38 rfl ?_
      obtain ⟨r_3, M_3, hc_3, hF⟩ := jbd_e hF
      refine jh_callV1 (v := .int r_3) (o := 8) (as := [.int a1, .int a2, .int a3, .long a4.toInt64]) (st := []) (JF_X6_cellsBarred hB hc_3) cw_X6_157 (iv_X6_cellsBarred) ⟨rfl, rfl, by decide, by decide⟩ rfl hB rfl rfl (Nat.le_of_ble_eq_true rfl) dX6_land_39 rfl ?_
      refine jr_istore (L' := [(5, .int r_3), (0, .ref (ja E 8 0)), (1, .int a1), (2, .int a2), (3, .int a3), (4, .int a4)]) dX6_land_42 (by decide) rfl rfl ?_
      refine jr_iload 0 dX6_land_44 rfl rfl ?_
      refine jr_if_ge 52 dX6_land_46 (by decide) rfl (fun c1 => ?_) (fun c1 => ?_)
      · have hF := jif_p hF c1
        refine jr_aload_n 1 dX6_land_52 rfl rfl rfl ?_
        refine jr_bipush (v := 60) dX6_land_53 (by decide) rfl ?_
        refine jr_iload_n 2 dX6_land_55 rfl rfl rfl ?_
        refine jr_imul dX6_land_56 rfl ?_
        refine jr_iload_n 4 dX6_land_57 rfl rfl rfl ?_
        refine jr_iadd dX6_land_58 rfl ?_
        refine jr_iload 5 dX6_land_59 rfl rfl ?_
        obtain ⟨r_4, M_4, hc_4, hF⟩ := jbd_e hF
        refine jh_callV1 (v := .int r_4) (o := 8) (as := [.int ((60 * a1) + a3), .int a4]) (st := []) (JF_X6_readsLand hB hc_4) cw_X6_161 (iv_X6_readsLand) ⟨rfl, rfl, by decide, by decide⟩ rfl hB rfl rfl (Nat.le_of_ble_eq_true rfl) dX6_land_61 rfl ?_
        refine jr_if_ne 79 dX6_land_64 (by decide) rfl (fun c1 => ?_) (fun c1 => ?_)
        · have hF := jif_n hF c1
          refine jr_aload_n 1 dX6_land_79 rfl rfl rfl ?_
          refine jr_aload_n 1 dX6_land_80 rfl rfl rfl ?_
          refine gf_X6_129 rfl rfl hB dX6_land_81 rfl ?_
          refine pf_X6_114 rfl rfl hB dX6_land_84 ⟨rfl, rfl⟩ rfl (fun M_5 eM_5 => ?_)
          have hF := jlet_e hF M_5 eM_5
          refine jr_aload_n 1 dX6_land_87 rfl rfl rfl ?_
          refine jr_aload_n 1 dX6_land_88 rfl rfl rfl ?_
          refine gf_X6_126 rfl rfl hB dX6_land_89 rfl ?_
          refine pf_X6_107 rfl rfl hB dX6_land_92 ⟨rfl, rfl⟩ rfl (fun M_6 eM_6 => ?_)
          have hF := jlet_e hF M_6 eM_6
          refine jr_iconst (v := 0) dX6_land_95 (by decide) rfl ?_
          refine jr_istore (L' := [(6, .int 0), (5, .int r_3), (0, .ref (ja E 8 0)), (1, .int a1), (2, .int a2), (3, .int a3), (4, .int a4)]) dX6_land_96 (by decide) rfl rfl ?_
          refine jr_sub [2, 0] rfl ?_
          refine JL_X6_land_98 hB (fun M_12 hF => ?_) jfu 0 M_6 hF
          refine jr_iconst (v := 0) dX6_land_183 (by decide) rfl ?_
          refine jr_istore (L' := [(6, .int 0), (0, .ref (ja E 8 0))]) dX6_land_184 (by decide) rfl rfl ?_
          refine jr_sub [1, 0] rfl ?_
          refine JL_X6_land_186 hB (fun M_14 hF => ?_) jfu 0 M_12 hF
          refine jr_aload_n 0 dX6_land_207 rfl rfl rfl ?_
          refine jr_iconst (v := 0) dX6_land_208 (by decide) rfl ?_
          refine pf_X6_164 rfl rfl hB dX6_land_209 ⟨rfl, rfl⟩ rfl (fun M_15 eM_15 => ?_)
          have hF := jlet_e hF M_15 eM_15
          refine jr_aload_n 0 dX6_land_212 rfl rfl rfl ?_
          refine jr_iconst (v := 0) dX6_land_213 (by decide) rfl ?_
          refine pf_X6_167 rfl rfl hB dX6_land_214 ⟨rfl, rfl⟩ rfl (fun M_16 eM_16 => ?_)
          have hF := jlet_e hF M_16 eM_16
          refine jr_aload_n 0 dX6_land_217 rfl rfl rfl ?_
          refine jr_iconst (v := 0) dX6_land_218 (by decide) rfl ?_
          refine pf_X6_170 rfl rfl hB dX6_land_219 ⟨rfl, rfl⟩ rfl (fun M_17 eM_17 => ?_)
          have hF := jlet_e hF M_17 eM_17
          refine jr_aload_n 0 dX6_land_222 rfl rfl rfl ?_
          refine jr_iconst (v := 0) dX6_land_223 (by decide) rfl ?_
          refine pf_X6_173 rfl rfl hB dX6_land_224 ⟨rfl, rfl⟩ rfl (fun M_18 eM_18 => ?_)
          have hF := jlet_e hF M_18 eM_18
          refine jr_aload_n 0 dX6_land_227 rfl rfl rfl ?_
          refine jr_aload_n 0 dX6_land_228 rfl rfl rfl ?_
          refine gf_X6_107 rfl rfl hB dX6_land_229 rfl ?_
          obtain ⟨r_5, M_19, hc_5, hF⟩ := jbd_e hF
          refine jh_callV1 (v := .int r_5) (o := 8) (as := [.int (M_18 8 2 0)]) (st := []) (JF_X6_refused hB hc_5) cw_X6_152 (iv_X6_refused) ⟨rfl, rfl, by decide, by decide⟩ rfl hB rfl rfl (Nat.le_of_ble_eq_true rfl) dX6_land_232 rfl ?_
          exact jh_iret rfl dX6_land_235 hF
        · have hF := jif_p hF c1
          refine jr_aload_n 1 dX6_land_67 rfl rfl rfl ?_
          refine jr_bipush (v := (-100)) dX6_land_68 (by decide) rfl ?_
          refine jr_aload_n 1 dX6_land_70 rfl rfl rfl ?_
          refine gf_X6_119 rfl rfl hB dX6_land_71 rfl ?_
          refine jr_isub dX6_land_74 rfl ?_
          obtain ⟨r_6, M_20, hc_6, hF⟩ := jbd_e hF
          refine jh_callV1 (v := .int r_6) (o := 8) (as := [.int ((-100) - (M_4 8 11 0))]) (st := []) (JF_X6_refused hB hc_6) cw_X6_152 (iv_X6_refused) ⟨rfl, rfl, by decide, by decide⟩ rfl hB rfl rfl (Nat.le_of_ble_eq_true rfl) dX6_land_75 rfl ?_
          exact jh_iret rfl dX6_land_78 hF
      · have hF := jif_n hF c1
        refine jr_iload 0 dX6_land_49 rfl rfl ?_
        exact jh_iret rfl dX6_land_51 hF
    · have hF := jif_p hF c1
      refine jr_aload_n 0 dX6_land_25 rfl rfl rfl ?_
      refine jr_bipush (v := (-2)) dX6_land_26 (by decide) rfl ?_
      obtain ⟨r_7, M_21, hc_7, hF⟩ := jbd_e hF
      refine jh_callV1 (v := .int r_7) (o := 8) (as := [.int (-2)]) (st := []) (JF_X6_refused hB hc_7) cw_X6_152 (iv_X6_refused) ⟨rfl, rfl, by decide, by decide⟩ rfl hB rfl rfl (Nat.le_of_ble_eq_true rfl) dX6_land_28 rfl ?_
      exact jh_iret rfl dX6_land_31 hF
  · have hF := jif_n hF c1
    refine jr_aload_n 0 dX6_land_7 rfl rfl rfl ?_
    refine jr_iconst (v := (-1)) dX6_land_8 (by decide) rfl ?_
    obtain ⟨r_8, M_22, hc_8, hF⟩ := jbd_e hF
    refine jh_callV1 (v := .int r_8) (o := 8) (as := [.int (-1)]) (st := []) (JF_X6_refused hB hc_8) cw_X6_152 (iv_X6_refused) ⟨rfl, rfl, by decide, by decide⟩ rfl hB rfl rfl (Nat.le_of_ble_eq_true rfl) dX6_land_9 rfl ?_
    exact jh_iret rfl dX6_land_12 hF
set_option maxHeartbeats 4000000 in
set_option maxRecDepth 100000 in
theorem JF_X6_sleepOf {E : jx_E} (hB : jB E 8) {a1 : Int32} {M : jx_M} {r : Int32} {M' : jx_M} (hF : F_X6_sleepOf a1 M = some (r, M')) : jC E yX6_sleepOf cX6_sleepOf 3 (some FieldType.int) rm_X6_sleepOf [.ref (ja E 8 0), .int a1] M (fun x M'' => x = some (.int r) ∧ M'' = M') := by
  refine jC.ofJ (L := [(0, .ref (ja E 8 0)), (1, .int a1)]) (by decide +kernel) (Nat.le_of_ble_eq_true rfl) rfl ?_
  unfold F_X6_sleepOf at hF
  refine jr_aload_n 0 dX6_sleepOf_0 rfl rfl rfl ?_
  refine gf_X6_22 rfl rfl hB dX6_sleepOf_1 rfl ?_
  refine jr_iload_n 1 dX6_sleepOf_4 rfl rfl rfl ?_
  obtain ⟨hb_1, hF⟩ := jck_e hF
  refine jh_iald (ci := 6) (k := 7) rfl hB (by decide) rfl rfl hb_1 dX6_sleepOf_5 rfl ?_
  refine jr_topi (fun x2_1 ex2_1 => ?_)
  have hF := jlet_e hF x2_1 ex2_1
  refine jr_istore_n (L' := [(2, .int x2_1), (0, .ref (ja E 8 0)), (1, .int a1)]) dX6_sleepOf_6 rfl (by decide) rfl rfl ?_
  refine jr_aload_n 1 dX6_sleepOf_7 rfl rfl rfl ?_
  refine gf_X6_7 rfl rfl hB dX6_sleepOf_8 rfl ?_
  refine jr_iload_n 2 dX6_sleepOf_11 rfl rfl rfl ?_
  obtain ⟨hb_2, hF⟩ := jck_e hF
  refine jh_iald (ci := 6) (k := 3) rfl hB (by decide) rfl rfl hb_2 dX6_sleepOf_12 rfl ?_
  refine jr_if_ne 20 dX6_sleepOf_13 (by decide) rfl (fun c1 => ?_) (fun c1 => ?_)
  · have hF := jif_n hF c1
    refine jr_aload_n 1 dX6_sleepOf_20 rfl rfl rfl ?_
    refine gf_X6_7 rfl rfl hB dX6_sleepOf_21 rfl ?_
    refine jr_iload_n 2 dX6_sleepOf_24 rfl rfl rfl ?_
    obtain ⟨hb_3, hF⟩ := jck_e hF
    refine jh_iald (ci := 6) (k := 3) rfl hB (by decide) rfl rfl hb_3 dX6_sleepOf_25 rfl ?_
    refine jr_iconst (v := 1) dX6_sleepOf_26 (by decide) rfl ?_
    refine jr_icmp_ne 36 dX6_sleepOf_27 (by decide) rfl (fun c1 => ?_) (fun c1 => ?_)
    · have hF := jif_n hF c1
      refine jr_iconst (v := 2) dX6_sleepOf_36 (by decide) rfl ?_
      refine jr_iload_n 0 dX6_sleepOf_37 rfl rfl rfl ?_
      refine jr_iconst (v := 2) dX6_sleepOf_38 (by decide) rfl ?_
      refine jr_iadd dX6_sleepOf_39 rfl ?_
      refine jr_imul dX6_sleepOf_40 rfl ?_
      exact jh_iret rfl dX6_sleepOf_41 hF
    · have hF := jif_p hF c1
      refine jr_iload_n 0 dX6_sleepOf_30 rfl rfl rfl ?_
      refine jr_iconst (v := 2) dX6_sleepOf_31 (by decide) rfl ?_
      refine jr_iadd dX6_sleepOf_32 rfl ?_
      refine jr_goto 41 dX6_sleepOf_33 (by decide) ?_
      exact jh_iret rfl dX6_sleepOf_41 hF
  · have hF := jif_p hF c1
    refine jr_iload_n 0 dX6_sleepOf_16 rfl rfl rfl ?_
    refine jr_goto 41 dX6_sleepOf_17 (by decide) ?_
    exact jh_iret rfl dX6_sleepOf_41 hF
set_option maxHeartbeats 4000000 in
set_option maxRecDepth 100000 in
theorem JF_X6_ofPerson {E : jx_E} (hB : jB E 8) {a1 : Int32} {a2 : Int32} {M : jx_M} {r : Int32} {M' : jx_M} (hF : F_X6_ofPerson a1 a2 M = some (r, M')) : jC E yX6_ofPerson cX6_ofPerson 3 (some FieldType.int) rm_X6_ofPerson [.ref (ja E 8 0), .int a1, .int a2] M (fun x M'' => x = some (.int r) ∧ M'' = M') := by
  refine jC.ofJ (L := [(0, .ref (ja E 8 0)), (1, .int a1), (2, .int a2)]) (by decide +kernel) (Nat.le_of_ble_eq_true rfl) rfl ?_
  unfold F_X6_ofPerson at hF
  refine jr_aload_n 0 dX6_ofPerson_0 rfl rfl rfl ?_
  refine jr_iload_n 1 dX6_ofPerson_1 rfl rfl rfl ?_
  obtain ⟨r_1, M_1, hc_1, hF⟩ := jbd_e hF
  refine jh_callV1 (v := .int r_1) (o := 8) (as := [.int a1]) (st := []) (JF_X6_noPerson hB hc_1) cw_X6_176 (iv_X6_noPerson) ⟨rfl, rfl, by decide, by decide⟩ rfl hB rfl rfl (Nat.le_of_ble_eq_true rfl) dX6_ofPerson_2 rfl ?_
  refine jr_if_eq 10 dX6_ofPerson_5 (by decide) rfl (fun c1 => ?_) (fun c1 => ?_)
  · have hF := jif_p hF c1
    refine jr_iload_n 2 dX6_ofPerson_10 rfl rfl rfl ?_
    by_cases s0 : a2 = 0
    · have hF := jif_p hF s0
      refine jr_tabIn (v := 0) (off := 41) 52 dX6_ofPerson_11 s0 (by decide) (by decide) ?_
      refine jr_aload_n 0 dX6_ofPerson_52 rfl rfl rfl ?_
      refine gf_X6_7 rfl rfl hB dX6_ofPerson_53 rfl ?_
      refine jr_iload_n 1 dX6_ofPerson_56 rfl rfl rfl ?_
      obtain ⟨hb_1, hF⟩ := jck_e hF
      refine jh_iald (ci := 6) (k := 3) rfl hB (by decide) rfl rfl hb_1 dX6_ofPerson_57 rfl ?_
      exact jh_iret rfl dX6_ofPerson_58 hF
    · have hF := jif_n hF s0
      by_cases s1 : a2 = 1
      · have hF := jif_p hF s1
        refine jr_tabIn (v := 1) (off := 48) 59 dX6_ofPerson_11 s1 (by decide) (by decide) ?_
        refine jr_aload_n 0 dX6_ofPerson_59 rfl rfl rfl ?_
        refine gf_X6_13 rfl rfl hB dX6_ofPerson_60 rfl ?_
        refine jr_iload_n 1 dX6_ofPerson_63 rfl rfl rfl ?_
        obtain ⟨hb_2, hF⟩ := jck_e hF
        refine jh_iald (ci := 6) (k := 4) rfl hB (by decide) rfl rfl hb_2 dX6_ofPerson_64 rfl ?_
        exact jh_iret rfl dX6_ofPerson_65 hF
      · have hF := jif_n hF s1
        by_cases s2 : a2 = 2
        · have hF := jif_p hF s2
          refine jr_tabIn (v := 2) (off := 55) 66 dX6_ofPerson_11 s2 (by decide) (by decide) ?_
          refine jr_aload_n 0 dX6_ofPerson_66 rfl rfl rfl ?_
          refine gf_X6_16 rfl rfl hB dX6_ofPerson_67 rfl ?_
          refine jr_iload_n 1 dX6_ofPerson_70 rfl rfl rfl ?_
          obtain ⟨hb_3, hF⟩ := jck_e hF
          refine jh_iald (ci := 6) (k := 5) rfl hB (by decide) rfl rfl hb_3 dX6_ofPerson_71 rfl ?_
          exact jh_iret rfl dX6_ofPerson_72 hF
        · have hF := jif_n hF s2
          by_cases s3 : a2 = 3
          · have hF := jif_p hF s3
            refine jr_tabIn (v := 3) (off := 62) 73 dX6_ofPerson_11 s3 (by decide) (by decide) ?_
            refine jr_aload_n 0 dX6_ofPerson_73 rfl rfl rfl ?_
            refine gf_X6_19 rfl rfl hB dX6_ofPerson_74 rfl ?_
            refine jr_iload_n 1 dX6_ofPerson_77 rfl rfl rfl ?_
            obtain ⟨hb_4, hF⟩ := jck_e hF
            refine jh_iald (ci := 6) (k := 6) rfl hB (by decide) rfl rfl hb_4 dX6_ofPerson_78 rfl ?_
            exact jh_iret rfl dX6_ofPerson_79 hF
          · have hF := jif_n hF s3
            by_cases s4 : a2 = 4
            · have hF := jif_p hF s4
              refine jr_tabIn (v := 4) (off := 69) 80 dX6_ofPerson_11 s4 (by decide) (by decide) ?_
              refine jr_aload_n 0 dX6_ofPerson_80 rfl rfl rfl ?_
              refine gf_X6_22 rfl rfl hB dX6_ofPerson_81 rfl ?_
              refine jr_iload_n 1 dX6_ofPerson_84 rfl rfl rfl ?_
              obtain ⟨hb_5, hF⟩ := jck_e hF
              refine jh_iald (ci := 6) (k := 7) rfl hB (by decide) rfl rfl hb_5 dX6_ofPerson_85 rfl ?_
              exact jh_iret rfl dX6_ofPerson_86 hF
            · have hF := jif_n hF s4
              by_cases s5 : a2 = 5
              · have hF := jif_p hF s5
                refine jr_tabIn (v := 5) (off := 76) 87 dX6_ofPerson_11 s5 (by decide) (by decide) ?_
                refine jr_aload_n 0 dX6_ofPerson_87 rfl rfl rfl ?_
                refine jr_iload_n 1 dX6_ofPerson_88 rfl rfl rfl ?_
                obtain ⟨r_2, M_2, hc_2, hF⟩ := jbd_e hF
                refine jh_callV1 (v := .int r_2) (o := 8) (as := [.int a1]) (st := []) (JF_X6_sleepOf hB hc_2) cw_X6_179 (iv_X6_sleepOf) ⟨rfl, rfl, by decide, by decide⟩ rfl hB rfl rfl (Nat.le_of_ble_eq_true rfl) dX6_ofPerson_89 rfl ?_
                exact jh_iret rfl dX6_ofPerson_92 hF
              · have hF := jif_n hF s5
                by_cases s6 : a2 = 6
                · have hF := jif_p hF s6
                  refine jr_tabIn (v := 6) (off := 82) 93 dX6_ofPerson_11 s6 (by decide) (by decide) ?_
                  refine jr_aload_n 0 dX6_ofPerson_93 rfl rfl rfl ?_
                  refine gf_X6_164 rfl rfl hB dX6_ofPerson_94 rfl ?_
                  refine jr_iload_n 1 dX6_ofPerson_97 rfl rfl rfl ?_
                  obtain ⟨r_3, M_3, hc_3, hF⟩ := jbd_e hF
                  refine jh_callS1 (v := .int r_3) (as := [.int (M_1 8 8 0), .int a1]) (st := []) (JF_X6_isIn hB hc_3) cw_X6_182 (iv_X6_isIn) ⟨rfl, rfl, by decide, by decide⟩ rfl rfl (Nat.le_of_ble_eq_true rfl) dX6_ofPerson_98 rfl ?_
                  refine jr_if_eq 108 dX6_ofPerson_101 (by decide) rfl (fun c1 => ?_) (fun c1 => ?_)
                  · have hF := jif_p hF c1
                    refine jr_iconst (v := 0) dX6_ofPerson_108 (by decide) rfl ?_
                    exact jh_iret rfl dX6_ofPerson_109 hF
                  · have hF := jif_n hF c1
                    refine jr_iconst (v := 1) dX6_ofPerson_104 (by decide) rfl ?_
                    refine jr_goto 109 dX6_ofPerson_105 (by decide) ?_
                    exact jh_iret rfl dX6_ofPerson_109 hF
                · have hF := jif_n hF s6
                  refine jr_tabOut 6 110 dX6_ofPerson_11 (by decide) (fun j hj => ?_) (by decide) ?_
                  · rcases (show j = 0 ∨ j = 1 ∨ j = 2 ∨ j = 3 ∨ j = 4 ∨ j = 5 ∨ j = 6 by omega) with rfl | rfl | rfl | rfl | rfl | rfl | rfl
                    · exact s0
                    · exact s1
                    · exact s2
                    · exact s3
                    · exact s4
                    · exact s5
                    · exact s6
                  refine jr_bipush (v := (-2)) dX6_ofPerson_110 (by decide) rfl ?_
                  exact jh_iret rfl dX6_ofPerson_112 hF
  · have hF := jif_n hF c1
    refine jr_iconst (v := (-1)) dX6_ofPerson_8 (by decide) rfl ?_
    exact jh_iret rfl dX6_ofPerson_9 hF
set_option maxHeartbeats 4000000 in
set_option maxRecDepth 100000 in
theorem JF_X6_law {E : jx_E} (hB : jB E 8) {a1 : Int32} {M : jx_M} {r : Int32} {M' : jx_M} (hF : F_X6_law a1 M = some (r, M')) : jC E yX6_law cX6_law 3 (some FieldType.int) rm_X6_law [.ref (ja E 8 0), .int a1] M (fun x M'' => x = some (.int r) ∧ M'' = M') := by
  refine jC.ofJ (L := [(0, .ref (ja E 8 0)), (1, .int a1)]) (by decide +kernel) (Nat.le_of_ble_eq_true rfl) rfl ?_
  unfold F_X6_law at hF
  refine jr_iload_n 1 dX6_law_0 rfl rfl rfl ?_
  refine jr_i2l dX6_law_1 rfl ?_
  refine jr_lconst (v := 0) dX6_law_2 (by decide) rfl ?_
  refine jr_ldc2 (v := 2) dX6_law_3 (List.mem_cons_of_mem _ (lw_g_of 802 (by decide +kernel) (by decide +kernel))) rfl ?_
  obtain ⟨r_1, M_1, hc_1, hF⟩ := jbd_e hF
  refine jh_callS1 (v := .int r_1) (as := [.long a1.toInt64, .long 0, .long 2]) (st := []) (JF_X6_in hB hc_1) cw_X6_110 (iv_X6_in) ⟨rfl, rfl, by decide, by decide⟩ rfl rfl (Nat.le_of_ble_eq_true rfl) dX6_law_6 rfl ?_
  refine jr_if_ne 15 dX6_law_9 (by decide) rfl (fun c1 => ?_) (fun c1 => ?_)
  · have hF := jif_n hF c1
    refine jr_aload_n 0 dX6_law_15 rfl rfl rfl ?_
    refine gf_X6_107 rfl rfl hB dX6_law_16 rfl ?_
    refine jr_if_ne 25 dX6_law_19 (by decide) rfl (fun c1 => ?_) (fun c1 => ?_)
    · have hF := jif_n hF c1
      refine jr_aload_n 0 dX6_law_25 rfl rfl rfl ?_
      refine gf_X6_167 rfl rfl hB dX6_law_26 rfl ?_
      refine jr_topi (fun x2_1 ex2_1 => ?_)
      have hF := jlet_e hF x2_1 ex2_1
      refine jr_istore_n (L' := [(2, .int x2_1), (0, .ref (ja E 8 0)), (1, .int a1)]) dX6_law_29 rfl (by decide) rfl rfl ?_
      refine jr_aload_n 1 dX6_law_30 rfl rfl rfl ?_
      refine jr_iload_n 2 dX6_law_31 rfl rfl rfl ?_
      refine pf_X6_167 rfl rfl hB dX6_law_32 ⟨rfl, rfl⟩ rfl (fun M_2 eM_2 => ?_)
      have hF := jlet_e hF M_2 eM_2
      refine jr_iload_n 0 dX6_law_35 rfl rfl rfl ?_
      exact jh_iret rfl dX6_law_36 hF
    · have hF := jif_p hF c1
      refine jr_bipush (v := (-3)) dX6_law_22 (by decide) rfl ?_
      exact jh_iret rfl dX6_law_24 hF
  · have hF := jif_p hF c1
    refine jr_bipush (v := (-2)) dX6_law_12 (by decide) rfl ?_
    exact jh_iret rfl dX6_law_14 hF
set_option maxHeartbeats 4000000 in
set_option maxRecDepth 100000 in
theorem JF_X6_refuse {E : jx_E} (hB : jB E 8) {a1 : Int32} {a2 : Int32} {M : jx_M} {r : Int32} {M' : jx_M} (hF : F_X6_refuse a1 a2 M = some (r, M')) : jC E yX6_refuse cX6_refuse 4 (some FieldType.int) rm_X6_refuse [.ref (ja E 8 0), .int a1, .int a2] M (fun x M'' => x = some (.int r) ∧ M'' = M') := by
  refine jC.ofJ (L := [(0, .ref (ja E 8 0)), (1, .int a1), (2, .int a2)]) (by decide +kernel) (Nat.le_of_ble_eq_true rfl) rfl ?_
  unfold F_X6_refuse at hF
  refine jr_aload_n 0 dX6_refuse_0 rfl rfl rfl ?_
  refine jr_iload_n 1 dX6_refuse_1 rfl rfl rfl ?_
  obtain ⟨r_1, M_1, hc_1, hF⟩ := jbd_e hF
  refine jh_callV1 (v := .int r_1) (o := 8) (as := [.int a1]) (st := []) (JF_X6_noPerson hB hc_1) cw_X6_176 (iv_X6_noPerson) ⟨rfl, rfl, by decide, by decide⟩ rfl hB rfl rfl (Nat.le_of_ble_eq_true rfl) dX6_refuse_2 rfl ?_
  refine jr_if_eq 10 dX6_refuse_5 (by decide) rfl (fun c1 => ?_) (fun c1 => ?_)
  · have hF := jif_p hF c1
    refine jr_aload_n 0 dX6_refuse_10 rfl rfl rfl ?_
    refine gf_X6_164 rfl rfl hB dX6_refuse_11 rfl ?_
    refine jr_iload_n 1 dX6_refuse_14 rfl rfl rfl ?_
    obtain ⟨r_2, M_2, hc_2, hF⟩ := jbd_e hF
    refine jh_callS1 (v := .int r_2) (as := [.int (M_1 8 8 0), .int a1]) (st := []) (JF_X6_isIn hB hc_2) cw_X6_182 (iv_X6_isIn) ⟨rfl, rfl, by decide, by decide⟩ rfl rfl (Nat.le_of_ble_eq_true rfl) dX6_refuse_15 rfl ?_
    refine jr_istore_n (L' := [(3, .int r_2), (0, .ref (ja E 8 0)), (1, .int a1), (2, .int a2)]) dX6_refuse_18 rfl (by decide) rfl rfl ?_
    refine jr_aload_n 1 dX6_refuse_19 rfl rfl rfl ?_
    refine jr_iload_n 3 dX6_refuse_20 rfl rfl rfl ?_
    refine jr_if_eq 35 dX6_refuse_21 (by decide) rfl (fun c1 => ?_) (fun c1 => ?_)
    · have hF := jif_p hF c1
      refine jr_aload_n 1 dX6_refuse_35 rfl rfl rfl ?_
      refine gf_X6_164 rfl rfl hB dX6_refuse_36 rfl ?_
      refine jr_iconst (v := 1) dX6_refuse_39 (by decide) rfl ?_
      refine jr_iload_n 2 dX6_refuse_40 rfl rfl rfl ?_
      refine jr_ishl dX6_refuse_41 rfl ?_
      refine jr_iconst (v := (-1)) dX6_refuse_42 (by decide) rfl ?_
      refine jr_ixor dX6_refuse_43 rfl ?_
      refine jr_iand dX6_refuse_44 rfl ?_
      refine pf_X6_164 rfl rfl hB dX6_refuse_45 ⟨rfl, rfl⟩ rfl (fun M_3 eM_3 => ?_)
      have hF := jlet_e hF M_3 eM_3
      refine jr_iload_n 0 dX6_refuse_48 rfl rfl rfl ?_
      refine jr_iload_n 3 dX6_refuse_49 rfl rfl rfl ?_
      refine jr_icmp_ne 57 dX6_refuse_50 (by decide) rfl (fun c1 => ?_) (fun c1 => ?_)
      · have hF := jif_n hF c1
        refine jr_iconst (v := 1) dX6_refuse_57 (by decide) rfl ?_
        exact jh_iret rfl dX6_refuse_58 hF
      · have hF := jif_p hF c1
        refine jr_iconst (v := 0) dX6_refuse_53 (by decide) rfl ?_
        refine jr_goto 58 dX6_refuse_54 (by decide) ?_
        exact jh_iret rfl dX6_refuse_58 hF
    · have hF := jif_n hF c1
      refine jr_aload_n 1 dX6_refuse_24 rfl rfl rfl ?_
      refine gf_X6_164 rfl rfl hB dX6_refuse_25 rfl ?_
      refine jr_iconst (v := 1) dX6_refuse_28 (by decide) rfl ?_
      refine jr_iload_n 2 dX6_refuse_29 rfl rfl rfl ?_
      refine jr_ishl dX6_refuse_30 rfl ?_
      refine jr_ior dX6_refuse_31 rfl ?_
      refine jr_goto 45 dX6_refuse_32 (by decide) ?_
      refine pf_X6_164 rfl rfl hB dX6_refuse_45 ⟨rfl, rfl⟩ rfl (fun M_4 eM_4 => ?_)
      have hF := jlet_e hF M_4 eM_4
      refine jr_iload_n 0 dX6_refuse_48 rfl rfl rfl ?_
      refine jr_iload_n 3 dX6_refuse_49 rfl rfl rfl ?_
      refine jr_icmp_ne 57 dX6_refuse_50 (by decide) rfl (fun c1 => ?_) (fun c1 => ?_)
      · have hF := jif_n hF c1
        refine jr_iconst (v := 1) dX6_refuse_57 (by decide) rfl ?_
        exact jh_iret rfl dX6_refuse_58 hF
      · have hF := jif_p hF c1
        refine jr_iconst (v := 0) dX6_refuse_53 (by decide) rfl ?_
        refine jr_goto 58 dX6_refuse_54 (by decide) ?_
        exact jh_iret rfl dX6_refuse_58 hF
  · have hF := jif_n hF c1
    refine jr_iconst (v := (-1)) dX6_refuse_8 (by decide) rfl ?_
    exact jh_iret rfl dX6_refuse_9 hF
set_option maxHeartbeats 4000000 in
set_option maxRecDepth 100000 in
theorem JF_X6_will {E : jx_E} (hB : jB E 8) {a1 : Int32} {a2 : Int32} {a3 : Int32} {M : jx_M} {r : Int32} {M' : jx_M} (hF : F_X6_will a1 a2 a3 M = some (r, M')) : jC E yX6_will cX6_will 4 (some FieldType.int) rm_X6_will [.ref (ja E 8 0), .int a1, .int a2, .int a3] M (fun x M'' => x = some (.int r) ∧ M'' = M') := by
  refine jC.ofJ (L := [(0, .ref (ja E 8 0)), (1, .int a1), (2, .int a2), (3, .int a3)]) (by decide +kernel) (Nat.le_of_ble_eq_true rfl) rfl ?_
  unfold F_X6_will at hF
  refine jr_aload_n 0 dX6_will_0 rfl rfl rfl ?_
  refine jr_iload_n 1 dX6_will_1 rfl rfl rfl ?_
  obtain ⟨r_1, M_1, hc_1, hF⟩ := jbd_e hF
  refine jh_callV1 (v := .int r_1) (o := 8) (as := [.int a1]) (st := []) (JF_X6_noPost hB hc_1) cw_X6_185 (iv_X6_noPost) ⟨rfl, rfl, by decide, by decide⟩ rfl hB rfl rfl (Nat.le_of_ble_eq_true rfl) dX6_will_2 rfl ?_
  refine jr_if_ne 16 dX6_will_5 (by decide) rfl (fun c1 => ?_) (fun c1 => ?_)
  · have hF := jif_n hF c1
    refine jr_iconst (v := (-1)) dX6_will_16 (by decide) rfl ?_
    exact jh_iret rfl dX6_will_17 hF
  · have hF := jif_p hF c1
    refine jr_aload_n 0 dX6_will_8 rfl rfl rfl ?_
    refine jr_iload_n 2 dX6_will_9 rfl rfl rfl ?_
    obtain ⟨r_2, M_2, hc_2, hF⟩ := jbd_e hF
    refine jh_callV1 (v := .int r_2) (o := 8) (as := [.int a2]) (st := []) (JF_X6_noPerson hB hc_2) cw_X6_176 (iv_X6_noPerson) ⟨rfl, rfl, by decide, by decide⟩ rfl hB rfl rfl (Nat.le_of_ble_eq_true rfl) dX6_will_10 rfl ?_
    refine jr_if_eq 18 dX6_will_13 (by decide) rfl (fun c1 => ?_) (fun c1 => ?_)
    · have hF := jif_p hF c1
      refine jr_iload_n 3 dX6_will_18 rfl rfl rfl ?_
      obtain ⟨r_3, M_3, hc_3, hF⟩ := jbd_e hF
      refine jh_callS1 (v := .int r_3) (as := [.int a3]) (st := []) (JF_X6_isDecade hB hc_3) cw_X6_188 (iv_X6_isDecade) ⟨rfl, rfl, by decide, by decide⟩ rfl rfl (Nat.le_of_ble_eq_true rfl) dX6_will_19 rfl ?_
      refine jr_if_ne 28 dX6_will_22 (by decide) rfl (fun c1 => ?_) (fun c1 => ?_)
      · have hF := jif_n hF c1
        refine jr_aload_n 0 dX6_will_28 rfl rfl rfl ?_
        refine gf_X6_170 rfl rfl hB dX6_will_29 rfl ?_
        refine jr_bipush (v := 6) dX6_will_32 (by decide) rfl ?_
        refine jr_icmp_ne 40 dX6_will_34 (by decide) rfl (fun c1 => ?_) (fun c1 => ?_)
        · have hF := jif_n hF c1
          refine jr_aload_n 0 dX6_will_40 rfl rfl rfl ?_
          refine gf_X6_43 rfl rfl hB dX6_will_41 rfl ?_
          refine jr_aload_n 0 dX6_will_44 rfl rfl rfl ?_
          refine gf_X6_170 rfl rfl hB dX6_will_45 rfl ?_
          refine jr_iload_n 1 dX6_will_48 rfl rfl rfl ?_
          obtain ⟨hb_1, hF⟩ := jck_e hF
          refine jh_iast (ci := 6) (k := 20) rfl hB (by decide) rfl rfl hb_1 dX6_will_49 rfl (fun M_4 eM_4 => ?_)
          have hF := jlet_e hF M_4 eM_4
          refine jr_aload_n 0 dX6_will_50 rfl rfl rfl ?_
          refine gf_X6_46 rfl rfl hB dX6_will_51 rfl ?_
          refine jr_aload_n 0 dX6_will_54 rfl rfl rfl ?_
          refine gf_X6_170 rfl rfl hB dX6_will_55 rfl ?_
          refine jr_iload_n 2 dX6_will_58 rfl rfl rfl ?_
          obtain ⟨hb_2, hF⟩ := jck_e hF
          refine jh_iast (ci := 6) (k := 21) rfl hB (by decide) rfl rfl hb_2 dX6_will_59 rfl (fun M_5 eM_5 => ?_)
          have hF := jlet_e hF M_5 eM_5
          refine jr_aload_n 0 dX6_will_60 rfl rfl rfl ?_
          refine gf_X6_49 rfl rfl hB dX6_will_61 rfl ?_
          refine jr_aload_n 0 dX6_will_64 rfl rfl rfl ?_
          refine gf_X6_170 rfl rfl hB dX6_will_65 rfl ?_
          refine jr_iload_n 3 dX6_will_68 rfl rfl rfl ?_
          obtain ⟨hb_3, hF⟩ := jck_e hF
          refine jh_iast (ci := 6) (k := 22) rfl hB (by decide) rfl rfl hb_3 dX6_will_69 rfl (fun M_6 eM_6 => ?_)
          have hF := jlet_e hF M_6 eM_6
          refine jr_aload_n 0 dX6_will_70 rfl rfl rfl ?_
          refine jr_dup dX6_will_71 rfl rfl ?_
          refine gf_X6_170 rfl rfl hB dX6_will_72 rfl ?_
          refine jr_iconst (v := 1) dX6_will_75 (by decide) rfl ?_
          refine jr_iadd dX6_will_76 rfl ?_
          refine pf_X6_170 rfl rfl hB dX6_will_77 ⟨rfl, rfl⟩ rfl (fun M_7 eM_7 => ?_)
          have hF := jlet_e hF M_7 eM_7
          refine jr_aload_n 0 dX6_will_80 rfl rfl rfl ?_
          refine gf_X6_170 rfl rfl hB dX6_will_81 rfl ?_
          refine jr_iconst (v := 1) dX6_will_84 (by decide) rfl ?_
          refine jr_isub dX6_will_85 rfl ?_
          exact jh_iret rfl dX6_will_86 hF
        · have hF := jif_p hF c1
          refine jr_bipush (v := (-4)) dX6_will_37 (by decide) rfl ?_
          exact jh_iret rfl dX6_will_39 hF
      · have hF := jif_p hF c1
        refine jr_bipush (v := (-2)) dX6_will_25 (by decide) rfl ?_
        exact jh_iret rfl dX6_will_27 hF
    · have hF := jif_n hF c1
      refine jr_iconst (v := (-1)) dX6_will_16 (by decide) rfl ?_
      exact jh_iret rfl dX6_will_17 hF
set_option maxHeartbeats 4000000 in
set_option maxRecDepth 100000 in
theorem JF_X6_burn {E : jx_E} (hB : jB E 8) {a1 : Int32} {M : jx_M} {r : Int32} {M' : jx_M} (hF : F_X6_burn a1 M = some (r, M')) : jC E yX6_burn cX6_burn 2 (some FieldType.int) rm_X6_burn [.ref (ja E 8 0), .int a1] M (fun x M'' => x = some (.int r) ∧ M'' = M') := by
  refine jC.ofJ (L := [(0, .ref (ja E 8 0)), (1, .int a1)]) (by decide +kernel) (Nat.le_of_ble_eq_true rfl) rfl ?_
  unfold F_X6_burn at hF
  refine jr_iload_n 1 dX6_burn_0 rfl rfl rfl ?_
  refine jr_i2l dX6_burn_1 rfl ?_
  refine jr_lconst (v := 0) dX6_burn_2 (by decide) rfl ?_
  refine jr_aload_n 0 dX6_burn_3 rfl rfl rfl ?_
  refine gf_X6_170 rfl rfl hB dX6_burn_4 rfl ?_
  refine jr_i2l dX6_burn_7 rfl ?_
  obtain ⟨r_1, M_1, hc_1, hF⟩ := jbd_e hF
  refine jh_callS1 (v := .int r_1) (as := [.long a1.toInt64, .long 0, .long ((M 8 19 0).toInt64)]) (st := []) (JF_X6_in hB hc_1) cw_X6_110 (iv_X6_in) ⟨rfl, rfl, by decide, by decide⟩ rfl rfl (Nat.le_of_ble_eq_true rfl) dX6_burn_8 rfl ?_
  refine jr_if_ne 17 dX6_burn_11 (by decide) rfl (fun c1 => ?_) (fun c1 => ?_)
  · have hF := jif_n hF c1
    refine jr_aload_n 0 dX6_burn_17 rfl rfl rfl ?_
    refine jr_dup dX6_burn_18 rfl rfl ?_
    refine gf_X6_170 rfl rfl hB dX6_burn_19 rfl ?_
    refine jr_iload_n 1 dX6_burn_22 rfl rfl rfl ?_
    refine jr_isub dX6_burn_23 rfl ?_
    refine pf_X6_170 rfl rfl hB dX6_burn_24 ⟨rfl, rfl⟩ rfl (fun M_2 eM_2 => ?_)
    have hF := jlet_e hF M_2 eM_2
    refine jr_aload_n 0 dX6_burn_27 rfl rfl rfl ?_
    refine gf_X6_170 rfl rfl hB dX6_burn_28 rfl ?_
    exact jh_iret rfl dX6_burn_31 hF
  · have hF := jif_p hF c1
    refine jr_bipush (v := (-2)) dX6_burn_14 (by decide) rfl ?_
    exact jh_iret rfl dX6_burn_16 hF
set_option maxHeartbeats 4000000 in
set_option maxRecDepth 100000 in
theorem JF_X6_giveUp {E : jx_E} (hB : jB E 8) {a1 : Int32} {a2 : Int32} {M : jx_M} {r : Int32} {M' : jx_M} (hF : F_X6_giveUp a1 a2 M = some (r, M')) : jC E yX6_giveUp cX6_giveUp 4 (some FieldType.int) rm_X6_giveUp [.ref (ja E 8 0), .int a1, .int a2] M (fun x M'' => x = some (.int r) ∧ M'' = M') := by
  refine jC.ofJ (L := [(0, .ref (ja E 8 0)), (1, .int a1), (2, .int a2)]) (by decide +kernel) (Nat.le_of_ble_eq_true rfl) rfl ?_
  unfold F_X6_giveUp at hF
  refine jr_aload_n 0 dX6_giveUp_0 rfl rfl rfl ?_
  refine jr_iload_n 1 dX6_giveUp_1 rfl rfl rfl ?_
  obtain ⟨r_1, M_1, hc_1, hF⟩ := jbd_e hF
  refine jh_callV1 (v := .int r_1) (o := 8) (as := [.int a1]) (st := []) (JF_X6_noPost hB hc_1) cw_X6_185 (iv_X6_noPost) ⟨rfl, rfl, by decide, by decide⟩ rfl hB rfl rfl (Nat.le_of_ble_eq_true rfl) dX6_giveUp_2 rfl ?_
  refine jr_if_eq 10 dX6_giveUp_5 (by decide) rfl (fun c1 => ?_) (fun c1 => ?_)
  · have hF := jif_p hF c1
    refine jr_iload_n 2 dX6_giveUp_10 rfl rfl rfl ?_
    refine jr_i2l dX6_giveUp_11 rfl ?_
    refine jr_lconst (v := 0) dX6_giveUp_12 (by decide) rfl ?_
    refine jr_ldc2 (v := 40) dX6_giveUp_13 (List.mem_cons_of_mem _ (lw_g_of 873 (by decide +kernel) (by decide +kernel))) rfl ?_
    obtain ⟨r_2, M_2, hc_2, hF⟩ := jbd_e hF
    refine jh_callS1 (v := .int r_2) (as := [.long a2.toInt64, .long 0, .long 40]) (st := []) (JF_X6_in hB hc_2) cw_X6_110 (iv_X6_in) ⟨rfl, rfl, by decide, by decide⟩ rfl rfl (Nat.le_of_ble_eq_true rfl) dX6_giveUp_16 rfl ?_
    refine jr_if_ne 25 dX6_giveUp_19 (by decide) rfl (fun c1 => ?_) (fun c1 => ?_)
    · have hF := jif_n hF c1
      refine jr_aload_n 0 dX6_giveUp_25 rfl rfl rfl ?_
      refine gf_X6_25 rfl rfl hB dX6_giveUp_26 rfl ?_
      refine jr_iload_n 1 dX6_giveUp_29 rfl rfl rfl ?_
      obtain ⟨hb_1, hF⟩ := jck_e hF
      refine jh_iald (ci := 6) (k := 10) rfl hB (by decide) rfl rfl hb_1 dX6_giveUp_30 rfl ?_
      refine jr_topi (fun x3_1 ex3_1 => ?_)
      have hF := jlet_e hF x3_1 ex3_1
      refine jr_istore_n (L' := [(3, .int x3_1), (0, .ref (ja E 8 0)), (1, .int a1), (2, .int a2)]) dX6_giveUp_31 rfl (by decide) rfl rfl ?_
      refine jr_aload_n 1 dX6_giveUp_32 rfl rfl rfl ?_
      refine gf_X6_25 rfl rfl hB dX6_giveUp_33 rfl ?_
      refine jr_iload_n 2 dX6_giveUp_36 rfl rfl rfl ?_
      refine jr_iload_n 3 dX6_giveUp_37 rfl rfl rfl ?_
      obtain ⟨hb_2, hF⟩ := jck_e hF
      refine jh_iast (ci := 6) (k := 10) rfl hB (by decide) rfl rfl hb_2 dX6_giveUp_38 rfl (fun M_3 eM_3 => ?_)
      have hF := jlet_e hF M_3 eM_3
      refine jr_iload_n 0 dX6_giveUp_39 rfl rfl rfl ?_
      exact jh_iret rfl dX6_giveUp_40 hF
    · have hF := jif_p hF c1
      refine jr_bipush (v := (-2)) dX6_giveUp_22 (by decide) rfl ?_
      exact jh_iret rfl dX6_giveUp_24 hF
  · have hF := jif_n hF c1
    refine jr_iconst (v := (-1)) dX6_giveUp_8 (by decide) rfl ?_
    exact jh_iret rfl dX6_giveUp_9 hF
set_option maxHeartbeats 4000000 in
set_option maxRecDepth 100000 in
theorem JL_X6_begin_2 {E : jx_E} (hB : jB E 8) {k : jx_M → Option (Unit × jx_M)} {r : Unit} {M' : jx_M} (hk : ∀ (M : jx_M), k M = some (r, M') → jJ E yX6_begin cX6_begin 2 none rm_X6_begin (fun x M'' => x = none ∧ M'' = M') 35 [(0, .ref (ja E 8 0))] [] M) : ∀ (n : Nat) (z1 : Int32) (M : jx_M), L_X6_begin_2 k n z1 M = some (r, M') → jJ E yX6_begin cX6_begin 2 none rm_X6_begin (fun x M'' => x = none ∧ M'' = M') 2 [(0, .ref (ja E 8 0)), (1, .int z1)] [] M := by
  intro n
  induction n with
  | zero => intro z1 M hF; exact nomatch (show (none : Option (Unit × jx_M)) = some _ from hF)
  | succ n ih =>
    intro z1 M hF
    rw [L_X6_begin_2.eq_2] at hF
    refine jr_iload_n 1 dX6_begin_2 rfl rfl rfl ?_
    refine jr_bipush (v := 6) dX6_begin_3 (by decide) rfl ?_
    refine jr_icmp_ge 35 dX6_begin_5 (by decide) rfl (fun c1 => ?_) (fun c1 => ?_)
    · have hF := jif_p hF c1
      refine jr_sub [0] rfl ?_
      exact hk M hF
    · have hF := jif_n hF c1
      refine jr_aload_n 0 dX6_begin_8 rfl rfl rfl ?_
      refine gf_X6_52 rfl rfl hB dX6_begin_9 rfl ?_
      refine jr_iload_n 1 dX6_begin_12 rfl rfl rfl ?_
      refine jr_iconst (v := 0) dX6_begin_13 (by decide) rfl ?_
      obtain ⟨hb_1, hF⟩ := jck_e hF
      refine jh_iast (ci := 6) (k := 23) rfl hB (by decide) rfl rfl hb_1 dX6_begin_14 rfl (fun M_1 eM_1 => ?_)
      have hF := jlet_e hF M_1 eM_1
      refine jr_aload_n 0 dX6_begin_15 rfl rfl rfl ?_
      refine gf_X6_55 rfl rfl hB dX6_begin_16 rfl ?_
      refine jr_iload_n 1 dX6_begin_19 rfl rfl rfl ?_
      refine jr_iconst (v := 0) dX6_begin_20 (by decide) rfl ?_
      obtain ⟨hb_2, hF⟩ := jck_e hF
      refine jh_iast (ci := 6) (k := 24) rfl hB (by decide) rfl rfl hb_2 dX6_begin_21 rfl (fun M_2 eM_2 => ?_)
      have hF := jlet_e hF M_2 eM_2
      refine jr_aload_n 0 dX6_begin_22 rfl rfl rfl ?_
      refine gf_X6_61 rfl rfl hB dX6_begin_23 rfl ?_
      refine jr_iload_n 1 dX6_begin_26 rfl rfl rfl ?_
      refine jr_iconst (v := 0) dX6_begin_27 (by decide) rfl ?_
      obtain ⟨hb_3, hF⟩ := jck_e hF
      refine jh_iast (ci := 6) (k := 26) rfl hB (by decide) rfl rfl hb_3 dX6_begin_28 rfl (fun M_3 eM_3 => ?_)
      have hF := jlet_e hF M_3 eM_3
      obtain ⟨x1_1, ex1_1⟩ : ∃ z : Int32, z = z1 + 1 := ⟨_, rfl⟩
      have hF := jlet_e hF x1_1 ex1_1
      refine jr_iinc (v := x1_1) (L' := [(1, .int x1_1), (0, .ref (ja E 8 0))]) 1 dX6_begin_29 rfl (by rw [ex1_1]; rfl) (by decide) rfl rfl ?_
      refine jr_goto 2 dX6_begin_32 (by decide) ?_
      refine jr_sub [1, 0] rfl ?_
      exact ih x1_1 M_3 hF
set_option maxHeartbeats 4000000 in
set_option maxRecDepth 100000 in
theorem JL_X6_begin_37 {E : jx_E} (hB : jB E 8) {k : jx_M → Option (Unit × jx_M)} {r : Unit} {M' : jx_M} (hk : ∀ (M : jx_M), k M = some (r, M') → jJ E yX6_begin cX6_begin 2 none rm_X6_begin (fun x M'' => x = none ∧ M'' = M') 56 [(0, .ref (ja E 8 0))] [] M) : ∀ (n : Nat) (z1 : Int32) (M : jx_M), L_X6_begin_37 k n z1 M = some (r, M') → jJ E yX6_begin cX6_begin 2 none rm_X6_begin (fun x M'' => x = none ∧ M'' = M') 37 [(0, .ref (ja E 8 0)), (1, .int z1)] [] M := by
  intro n
  induction n with
  | zero => intro z1 M hF; exact nomatch (show (none : Option (Unit × jx_M)) = some _ from hF)
  | succ n ih =>
    intro z1 M hF
    rw [L_X6_begin_37.eq_2] at hF
    refine jr_iload_n 1 dX6_begin_37 rfl rfl rfl ?_
    refine jr_iconst (v := 4) dX6_begin_38 (by decide) rfl ?_
    refine jr_icmp_ge 56 dX6_begin_39 (by decide) rfl (fun c1 => ?_) (fun c1 => ?_)
    · have hF := jif_p hF c1
      refine jr_sub [0] rfl ?_
      exact hk M hF
    · have hF := jif_n hF c1
      refine jr_aload_n 0 dX6_begin_42 rfl rfl rfl ?_
      refine gf_X6_64 rfl rfl hB dX6_begin_43 rfl ?_
      refine jr_iload_n 1 dX6_begin_46 rfl rfl rfl ?_
      refine jr_bipush (v := (-9)) dX6_begin_47 (by decide) rfl ?_
      obtain ⟨hb_4, hF⟩ := jck_e hF
      refine jh_iast (ci := 6) (k := 27) rfl hB (by decide) rfl rfl hb_4 dX6_begin_49 rfl (fun M_5 eM_5 => ?_)
      have hF := jlet_e hF M_5 eM_5
      obtain ⟨x1_2, ex1_2⟩ : ∃ z : Int32, z = z1 + 1 := ⟨_, rfl⟩
      have hF := jlet_e hF x1_2 ex1_2
      refine jr_iinc (v := x1_2) (L' := [(1, .int x1_2), (0, .ref (ja E 8 0))]) 1 dX6_begin_50 rfl (by rw [ex1_2]; rfl) (by decide) rfl rfl ?_
      refine jr_goto 37 dX6_begin_53 (by decide) ?_
      refine jr_sub [1, 0] rfl ?_
      exact ih x1_2 M_5 hF
set_option maxHeartbeats 4000000 in
set_option maxRecDepth 100000 in
theorem JF_X6_begin {E : jx_E} (hB : jB E 8) {M : jx_M} {r : Unit} {M' : jx_M} (hF : F_X6_begin  M = some (r, M')) : jC E yX6_begin cX6_begin 2 none rm_X6_begin [.ref (ja E 8 0)] M (fun x M'' => x = none ∧ M'' = M') := by
  refine jC.ofJ (L := [(0, .ref (ja E 8 0))]) (by decide +kernel) (Nat.le_of_ble_eq_true rfl) rfl ?_
  unfold F_X6_begin at hF
  refine jr_iconst (v := 0) dX6_begin_0 (by decide) rfl ?_
  refine jr_istore_n (L' := [(1, .int 0), (0, .ref (ja E 8 0))]) dX6_begin_1 rfl (by decide) rfl rfl ?_
  refine jr_sub [1, 0] rfl ?_
  refine JL_X6_begin_2 hB (fun M_4 hF => ?_) jfu 0 M hF
  refine jr_iconst (v := 0) dX6_begin_35 (by decide) rfl ?_
  refine jr_istore_n (L' := [(1, .int 0), (0, .ref (ja E 8 0))]) dX6_begin_36 rfl (by decide) rfl rfl ?_
  refine jr_sub [1, 0] rfl ?_
  refine JL_X6_begin_37 hB (fun M_6 hF => ?_) jfu 0 M_4 hF
  refine jr_aload_n 0 dX6_begin_56 rfl rfl rfl ?_
  refine jr_iconst (v := 0) dX6_begin_57 (by decide) rfl ?_
  refine pf_X6_193 rfl rfl hB dX6_begin_58 ⟨rfl, rfl⟩ rfl (fun M_7 eM_7 => ?_)
  have hF := jlet_e hF M_7 eM_7
  exact jh_vret rfl dX6_begin_61 hF
set_option maxHeartbeats 4000000 in
set_option maxRecDepth 100000 in
theorem JF_X6_mayLie {E : jx_E} (hB : jB E 8) {a1 : Int32} {M : jx_M} {r : Int32} {M' : jx_M} (hF : F_X6_mayLie a1 M = some (r, M')) : jC E yX6_mayLie cX6_mayLie 2 (some FieldType.boolean) rm_X6_mayLie [.ref (ja E 8 0), .int a1] M (fun x M'' => x = some (.int r) ∧ M'' = M') := by
  refine jC.ofJ (L := [(0, .ref (ja E 8 0)), (1, .int a1)]) (by decide +kernel) (Nat.le_of_ble_eq_true rfl) rfl ?_
  unfold F_X6_mayLie at hF
  refine jr_aload_n 0 dX6_mayLie_0 rfl rfl rfl ?_
  refine gf_X6_52 rfl rfl hB dX6_mayLie_1 rfl ?_
  refine jr_iload_n 1 dX6_mayLie_4 rfl rfl rfl ?_
  obtain ⟨hb_1, hF⟩ := jck_e hF
  refine jh_iald (ci := 6) (k := 23) rfl hB (by decide) rfl rfl hb_1 dX6_mayLie_5 rfl ?_
  refine jr_iconst (v := 1) dX6_mayLie_6 (by decide) rfl ?_
  refine jr_icmp_ne 36 dX6_mayLie_7 (by decide) rfl (fun c1 => ?_) (fun c1 => ?_)
  · have hF := jif_n hF c1
    refine jr_iconst (v := 0) dX6_mayLie_36 (by decide) rfl ?_
    exact jh_zret rfl (Or.inl rfl) dX6_mayLie_37 hF
  · have hF := jif_p hF c1
    refine jr_aload_n 0 dX6_mayLie_10 rfl rfl rfl ?_
    refine gf_X6_196 rfl rfl hB dX6_mayLie_11 rfl ?_
    refine jr_iload_n 1 dX6_mayLie_14 rfl rfl rfl ?_
    obtain ⟨r_1, M_1, hc_1, hF⟩ := jbd_e hF
    refine jh_callS1 (v := .int r_1) (as := [.int (M 8 30 0), .int a1]) (st := []) (JF_X6_isIn hB hc_1) cw_X6_182 (iv_X6_isIn) ⟨rfl, rfl, by decide, by decide⟩ rfl rfl (Nat.le_of_ble_eq_true rfl) dX6_mayLie_15 rfl ?_
    refine jr_if_eq 36 dX6_mayLie_18 (by decide) rfl (fun c1 => ?_) (fun c1 => ?_)
    · have hF := jif_p hF c1
      refine jr_iconst (v := 0) dX6_mayLie_36 (by decide) rfl ?_
      exact jh_zret rfl (Or.inl rfl) dX6_mayLie_37 hF
    · have hF := jif_n hF c1
      refine jr_aload_n 0 dX6_mayLie_21 rfl rfl rfl ?_
      refine gf_X6_164 rfl rfl hB dX6_mayLie_22 rfl ?_
      refine jr_iload_n 1 dX6_mayLie_25 rfl rfl rfl ?_
      obtain ⟨r_2, M_2, hc_2, hF⟩ := jbd_e hF
      refine jh_callS1 (v := .int r_2) (as := [.int (M_1 8 8 0), .int a1]) (st := []) (JF_X6_isIn hB hc_2) cw_X6_182 (iv_X6_isIn) ⟨rfl, rfl, by decide, by decide⟩ rfl rfl (Nat.le_of_ble_eq_true rfl) dX6_mayLie_26 rfl ?_
      refine jr_if_ne 36 dX6_mayLie_29 (by decide) rfl (fun c1 => ?_) (fun c1 => ?_)
      · have hF := jif_n hF c1
        refine jr_iconst (v := 0) dX6_mayLie_36 (by decide) rfl ?_
        exact jh_zret rfl (Or.inl rfl) dX6_mayLie_37 hF
      · have hF := jif_p hF c1
        refine jr_iconst (v := 1) dX6_mayLie_32 (by decide) rfl ?_
        refine jr_goto 37 dX6_mayLie_33 (by decide) ?_
        exact jh_zret rfl (Or.inr rfl) dX6_mayLie_37 hF
set_option maxHeartbeats 4000000 in
set_option maxRecDepth 100000 in
theorem JF_X6_isRather {E : jx_E} (hB : jB E 8) {a1 : Int32} {a2 : Int32} {a3 : Int32} {M : jx_M} {r : Int32} {M' : jx_M} (hF : F_X6_isRather a1 a2 a3 M = some (r, M')) : jC E yX6_isRather cX6_isRather 6 (some FieldType.boolean) rm_X6_isRather [.ref (ja E 8 0), .int a1, .int a2, .int a3] M (fun x M'' => x = some (.int r) ∧ M'' = M') := by
  refine jC.ofJ (L := [(0, .ref (ja E 8 0)), (1, .int a1), (2, .int a2), (3, .int a3)]) (by decide +kernel) (Nat.le_of_ble_eq_true rfl) rfl ?_
  unfold F_X6_isRather at hF
  refine jr_aload_n 0 dX6_isRather_0 rfl rfl rfl ?_
  refine gf_X6_167 rfl rfl hB dX6_isRather_1 rfl ?_
  refine jr_iconst (v := 1) dX6_isRather_4 (by decide) rfl ?_
  refine jr_icmp_ne 29 dX6_isRather_5 (by decide) rfl (fun c1 => ?_) (fun c1 => ?_)
  · have hF := jif_n hF c1
    refine jr_aload_n 0 dX6_isRather_29 rfl rfl rfl ?_
    refine gf_X6_13 rfl rfl hB dX6_isRather_30 rfl ?_
    refine jr_iload_n 1 dX6_isRather_33 rfl rfl rfl ?_
    obtain ⟨hb_1, hF⟩ := jck_e hF
    refine jh_iald (ci := 6) (k := 4) rfl hB (by decide) rfl rfl hb_1 dX6_isRather_34 rfl ?_
    refine jr_iload_n 3 dX6_isRather_35 rfl rfl rfl ?_
    refine jr_icmp_le 50 dX6_isRather_36 (by decide) rfl (fun c1 => ?_) (fun c1 => ?_)
    · have hF := jif_p hF c1
      refine jr_iload_n 3 dX6_isRather_50 rfl rfl rfl ?_
      refine jr_aload_n 0 dX6_isRather_51 rfl rfl rfl ?_
      refine gf_X6_13 rfl rfl hB dX6_isRather_52 rfl ?_
      refine jr_iload_n 1 dX6_isRather_55 rfl rfl rfl ?_
      obtain ⟨hb_2, hF⟩ := jck_e hF
      refine jh_iald (ci := 6) (k := 4) rfl hB (by decide) rfl rfl hb_2 dX6_isRather_56 rfl ?_
      refine jr_isub dX6_isRather_57 rfl ?_
      refine jr_topi (fun x4_1 ex4_1 => ?_)
      have hF := jlet_e hF x4_1 ex4_1
      refine jr_istore (L' := [(4, .int x4_1), (0, .ref (ja E 8 0)), (1, .int a1), (2, .int a2), (3, .int a3)]) dX6_isRather_58 (by decide) rfl rfl ?_
      refine jr_aload_n 1 dX6_isRather_60 rfl rfl rfl ?_
      refine gf_X6_13 rfl rfl hB dX6_isRather_61 rfl ?_
      refine jr_iload_n 3 dX6_isRather_64 rfl rfl rfl ?_
      obtain ⟨hb_3, hF⟩ := jck_e hF
      refine jh_iald (ci := 6) (k := 4) rfl hB (by decide) rfl rfl hb_3 dX6_isRather_65 rfl ?_
      refine jr_iload_n 4 dX6_isRather_66 rfl rfl rfl ?_
      refine jr_icmp_le 81 dX6_isRather_67 (by decide) rfl (fun c1 => ?_) (fun c1 => ?_)
      · have hF := jif_p hF c1
        refine jr_iload_n 4 dX6_isRather_81 rfl rfl rfl ?_
        refine jr_aload_n 1 dX6_isRather_82 rfl rfl rfl ?_
        refine gf_X6_13 rfl rfl hB dX6_isRather_83 rfl ?_
        refine jr_iload_n 3 dX6_isRather_86 rfl rfl rfl ?_
        obtain ⟨hb_4, hF⟩ := jck_e hF
        refine jh_iald (ci := 6) (k := 4) rfl hB (by decide) rfl rfl hb_4 dX6_isRather_87 rfl ?_
        refine jr_isub dX6_isRather_88 rfl ?_
        refine jr_topi (fun x5_1 ex5_1 => ?_)
        have hF := jlet_e hF x5_1 ex5_1
        refine jr_istore (L' := [(5, .int x5_1), (4, .int x4_1), (0, .ref (ja E 8 0)), (1, .int a1), (2, .int a2), (3, .int a3)]) dX6_isRather_89 (by decide) rfl rfl ?_
        refine jr_aload_n 2 dX6_isRather_91 rfl rfl rfl ?_
        refine gf_X6_167 rfl rfl hB dX6_isRather_92 rfl ?_
        refine jr_iconst (v := 2) dX6_isRather_95 (by decide) rfl ?_
        refine jr_icmp_ne 110 dX6_isRather_96 (by decide) rfl (fun c1 => ?_) (fun c1 => ?_)
        · have hF := jif_n hF c1
          refine jr_iconst (v := 0) dX6_isRather_110 (by decide) rfl ?_
          exact jh_zret rfl (Or.inl rfl) dX6_isRather_111 hF
        · have hF := jif_p hF c1
          refine jr_iload 1 dX6_isRather_99 rfl rfl ?_
          refine jr_iload 0 dX6_isRather_101 rfl rfl ?_
          refine jr_icmp_ge 110 dX6_isRather_103 (by decide) rfl (fun c1 => ?_) (fun c1 => ?_)
          · have hF := jif_p hF c1
            refine jr_iconst (v := 0) dX6_isRather_110 (by decide) rfl ?_
            exact jh_zret rfl (Or.inl rfl) dX6_isRather_111 hF
          · have hF := jif_n hF c1
            refine jr_iconst (v := 1) dX6_isRather_106 (by decide) rfl ?_
            refine jr_goto 111 dX6_isRather_107 (by decide) ?_
            exact jh_zret rfl (Or.inr rfl) dX6_isRather_111 hF
      · have hF := jif_n hF c1
        refine jr_aload_n 1 dX6_isRather_70 rfl rfl rfl ?_
        refine gf_X6_13 rfl rfl hB dX6_isRather_71 rfl ?_
        refine jr_iload_n 3 dX6_isRather_74 rfl rfl rfl ?_
        obtain ⟨hb_5, hF⟩ := jck_e hF
        refine jh_iald (ci := 6) (k := 4) rfl hB (by decide) rfl rfl hb_5 dX6_isRather_75 rfl ?_
        refine jr_iload_n 4 dX6_isRather_76 rfl rfl rfl ?_
        refine jr_isub dX6_isRather_77 rfl ?_
        refine jr_goto 89 dX6_isRather_78 (by decide) ?_
        refine jr_topi (fun x5_2 ex5_2 => ?_)
        have hF := jlet_e hF x5_2 ex5_2
        refine jr_istore (L' := [(5, .int x5_2), (4, .int x4_1), (0, .ref (ja E 8 0)), (1, .int a1), (2, .int a2), (3, .int a3)]) dX6_isRather_89 (by decide) rfl rfl ?_
        refine jr_aload_n 2 dX6_isRather_91 rfl rfl rfl ?_
        refine gf_X6_167 rfl rfl hB dX6_isRather_92 rfl ?_
        refine jr_iconst (v := 2) dX6_isRather_95 (by decide) rfl ?_
        refine jr_icmp_ne 110 dX6_isRather_96 (by decide) rfl (fun c1 => ?_) (fun c1 => ?_)
        · have hF := jif_n hF c1
          refine jr_iconst (v := 0) dX6_isRather_110 (by decide) rfl ?_
          exact jh_zret rfl (Or.inl rfl) dX6_isRather_111 hF
        · have hF := jif_p hF c1
          refine jr_iload 1 dX6_isRather_99 rfl rfl ?_
          refine jr_iload 0 dX6_isRather_101 rfl rfl ?_
          refine jr_icmp_ge 110 dX6_isRather_103 (by decide) rfl (fun c1 => ?_) (fun c1 => ?_)
          · have hF := jif_p hF c1
            refine jr_iconst (v := 0) dX6_isRather_110 (by decide) rfl ?_
            exact jh_zret rfl (Or.inl rfl) dX6_isRather_111 hF
          · have hF := jif_n hF c1
            refine jr_iconst (v := 1) dX6_isRather_106 (by decide) rfl ?_
            refine jr_goto 111 dX6_isRather_107 (by decide) ?_
            exact jh_zret rfl (Or.inr rfl) dX6_isRather_111 hF
    · have hF := jif_n hF c1
      refine jr_aload_n 0 dX6_isRather_39 rfl rfl rfl ?_
      refine gf_X6_13 rfl rfl hB dX6_isRather_40 rfl ?_
      refine jr_iload_n 1 dX6_isRather_43 rfl rfl rfl ?_
      obtain ⟨hb_6, hF⟩ := jck_e hF
      refine jh_iald (ci := 6) (k := 4) rfl hB (by decide) rfl rfl hb_6 dX6_isRather_44 rfl ?_
      refine jr_iload_n 3 dX6_isRather_45 rfl rfl rfl ?_
      refine jr_isub dX6_isRather_46 rfl ?_
      refine jr_goto 58 dX6_isRather_47 (by decide) ?_
      refine jr_topi (fun x4_2 ex4_2 => ?_)
      have hF := jlet_e hF x4_2 ex4_2
      refine jr_istore (L' := [(4, .int x4_2), (0, .ref (ja E 8 0)), (1, .int a1), (2, .int a2), (3, .int a3)]) dX6_isRather_58 (by decide) rfl rfl ?_
      refine jr_aload_n 1 dX6_isRather_60 rfl rfl rfl ?_
      refine gf_X6_13 rfl rfl hB dX6_isRather_61 rfl ?_
      refine jr_iload_n 3 dX6_isRather_64 rfl rfl rfl ?_
      obtain ⟨hb_7, hF⟩ := jck_e hF
      refine jh_iald (ci := 6) (k := 4) rfl hB (by decide) rfl rfl hb_7 dX6_isRather_65 rfl ?_
      refine jr_iload_n 4 dX6_isRather_66 rfl rfl rfl ?_
      refine jr_icmp_le 81 dX6_isRather_67 (by decide) rfl (fun c1 => ?_) (fun c1 => ?_)
      · have hF := jif_p hF c1
        refine jr_iload_n 4 dX6_isRather_81 rfl rfl rfl ?_
        refine jr_aload_n 1 dX6_isRather_82 rfl rfl rfl ?_
        refine gf_X6_13 rfl rfl hB dX6_isRather_83 rfl ?_
        refine jr_iload_n 3 dX6_isRather_86 rfl rfl rfl ?_
        obtain ⟨hb_8, hF⟩ := jck_e hF
        refine jh_iald (ci := 6) (k := 4) rfl hB (by decide) rfl rfl hb_8 dX6_isRather_87 rfl ?_
        refine jr_isub dX6_isRather_88 rfl ?_
        refine jr_topi (fun x5_3 ex5_3 => ?_)
        have hF := jlet_e hF x5_3 ex5_3
        refine jr_istore (L' := [(5, .int x5_3), (4, .int x4_2), (0, .ref (ja E 8 0)), (1, .int a1), (2, .int a2), (3, .int a3)]) dX6_isRather_89 (by decide) rfl rfl ?_
        refine jr_aload_n 2 dX6_isRather_91 rfl rfl rfl ?_
        refine gf_X6_167 rfl rfl hB dX6_isRather_92 rfl ?_
        refine jr_iconst (v := 2) dX6_isRather_95 (by decide) rfl ?_
        refine jr_icmp_ne 110 dX6_isRather_96 (by decide) rfl (fun c1 => ?_) (fun c1 => ?_)
        · have hF := jif_n hF c1
          refine jr_iconst (v := 0) dX6_isRather_110 (by decide) rfl ?_
          exact jh_zret rfl (Or.inl rfl) dX6_isRather_111 hF
        · have hF := jif_p hF c1
          refine jr_iload 1 dX6_isRather_99 rfl rfl ?_
          refine jr_iload 0 dX6_isRather_101 rfl rfl ?_
          refine jr_icmp_ge 110 dX6_isRather_103 (by decide) rfl (fun c1 => ?_) (fun c1 => ?_)
          · have hF := jif_p hF c1
            refine jr_iconst (v := 0) dX6_isRather_110 (by decide) rfl ?_
            exact jh_zret rfl (Or.inl rfl) dX6_isRather_111 hF
          · have hF := jif_n hF c1
            refine jr_iconst (v := 1) dX6_isRather_106 (by decide) rfl ?_
            refine jr_goto 111 dX6_isRather_107 (by decide) ?_
            exact jh_zret rfl (Or.inr rfl) dX6_isRather_111 hF
      · have hF := jif_n hF c1
        refine jr_aload_n 1 dX6_isRather_70 rfl rfl rfl ?_
        refine gf_X6_13 rfl rfl hB dX6_isRather_71 rfl ?_
        refine jr_iload_n 3 dX6_isRather_74 rfl rfl rfl ?_
        obtain ⟨hb_9, hF⟩ := jck_e hF
        refine jh_iald (ci := 6) (k := 4) rfl hB (by decide) rfl rfl hb_9 dX6_isRather_75 rfl ?_
        refine jr_iload_n 4 dX6_isRather_76 rfl rfl rfl ?_
        refine jr_isub dX6_isRather_77 rfl ?_
        refine jr_goto 89 dX6_isRather_78 (by decide) ?_
        refine jr_topi (fun x5_4 ex5_4 => ?_)
        have hF := jlet_e hF x5_4 ex5_4
        refine jr_istore (L' := [(5, .int x5_4), (4, .int x4_2), (0, .ref (ja E 8 0)), (1, .int a1), (2, .int a2), (3, .int a3)]) dX6_isRather_89 (by decide) rfl rfl ?_
        refine jr_aload_n 2 dX6_isRather_91 rfl rfl rfl ?_
        refine gf_X6_167 rfl rfl hB dX6_isRather_92 rfl ?_
        refine jr_iconst (v := 2) dX6_isRather_95 (by decide) rfl ?_
        refine jr_icmp_ne 110 dX6_isRather_96 (by decide) rfl (fun c1 => ?_) (fun c1 => ?_)
        · have hF := jif_n hF c1
          refine jr_iconst (v := 0) dX6_isRather_110 (by decide) rfl ?_
          exact jh_zret rfl (Or.inl rfl) dX6_isRather_111 hF
        · have hF := jif_p hF c1
          refine jr_iload 1 dX6_isRather_99 rfl rfl ?_
          refine jr_iload 0 dX6_isRather_101 rfl rfl ?_
          refine jr_icmp_ge 110 dX6_isRather_103 (by decide) rfl (fun c1 => ?_) (fun c1 => ?_)
          · have hF := jif_p hF c1
            refine jr_iconst (v := 0) dX6_isRather_110 (by decide) rfl ?_
            exact jh_zret rfl (Or.inl rfl) dX6_isRather_111 hF
          · have hF := jif_n hF c1
            refine jr_iconst (v := 1) dX6_isRather_106 (by decide) rfl ?_
            refine jr_goto 111 dX6_isRather_107 (by decide) ?_
            exact jh_zret rfl (Or.inr rfl) dX6_isRather_111 hF
  · have hF := jif_p hF c1
    refine jr_aload_n 0 dX6_isRather_8 rfl rfl rfl ?_
    refine gf_X6_55 rfl rfl hB dX6_isRather_9 rfl ?_
    refine jr_iload_n 1 dX6_isRather_12 rfl rfl rfl ?_
    obtain ⟨hb_10, hF⟩ := jck_e hF
    refine jh_iald (ci := 6) (k := 24) rfl hB (by decide) rfl rfl hb_10 dX6_isRather_13 rfl ?_
    refine jr_aload_n 0 dX6_isRather_14 rfl rfl rfl ?_
    refine gf_X6_55 rfl rfl hB dX6_isRather_15 rfl ?_
    refine jr_iload_n 2 dX6_isRather_18 rfl rfl rfl ?_
    obtain ⟨hb_11, hF⟩ := jck_e hF
    refine jh_iald (ci := 6) (k := 24) rfl hB (by decide) rfl rfl hb_11 dX6_isRather_19 rfl ?_
    refine jr_icmp_le 27 dX6_isRather_20 (by decide) rfl (fun c1 => ?_) (fun c1 => ?_)
    · have hF := jif_p hF c1
      refine jr_iconst (v := 0) dX6_isRather_27 (by decide) rfl ?_
      exact jh_zret rfl (Or.inl rfl) dX6_isRather_28 hF
    · have hF := jif_n hF c1
      refine jr_iconst (v := 1) dX6_isRather_23 (by decide) rfl ?_
      refine jr_goto 28 dX6_isRather_24 (by decide) ?_
      exact jh_zret rfl (Or.inr rfl) dX6_isRather_28 hF
set_option maxHeartbeats 4000000 in
set_option maxRecDepth 100000 in
theorem JL_X6_lierAt_2 {E : jx_E} (hB : jB E 8) {y1 : Int32} {y2 : Int32} {k : jx_M → Option (Int32 × jx_M)} {r : Int32} {M' : jx_M} (hk : ∀ (M : jx_M), k M = some (r, M') → jJ E yX6_lierAt cX6_lierAt 5 (some FieldType.int) rm_X6_lierAt (fun x M'' => x = some (.int r) ∧ M'' = M') 56 [(0, .ref (ja E 8 0)), (1, .int y1)] [] M) : ∀ (n : Nat) (z3 : Int32) (M : jx_M), L_X6_lierAt_2 y1 y2 k n z3 M = some (r, M') → jJ E yX6_lierAt cX6_lierAt 5 (some FieldType.int) rm_X6_lierAt (fun x M'' => x = some (.int r) ∧ M'' = M') 2 [(0, .ref (ja E 8 0)), (1, .int y1), (2, .int y2), (3, .int z3)] [] M := by
  intro n
  induction n with
  | zero => intro z3 M hF; exact nomatch (show (none : Option (Int32 × jx_M)) = some _ from hF)
  | succ n ih =>
    intro z3 M hF
    rw [L_X6_lierAt_2.eq_2] at hF
    refine jr_iload_n 3 dX6_lierAt_2 rfl rfl rfl ?_
    refine jr_aload_n 0 dX6_lierAt_3 rfl rfl rfl ?_
    refine gf_X6_170 rfl rfl hB dX6_lierAt_4 rfl ?_
    refine jr_icmp_ge 56 dX6_lierAt_7 (by decide) rfl (fun c1 => ?_) (fun c1 => ?_)
    · have hF := jif_p hF c1
      refine jr_sub [0, 1] rfl ?_
      exact hk M hF
    · have hF := jif_n hF c1
      refine jr_aload_n 0 dX6_lierAt_10 rfl rfl rfl ?_
      refine gf_X6_43 rfl rfl hB dX6_lierAt_11 rfl ?_
      refine jr_iload_n 3 dX6_lierAt_14 rfl rfl rfl ?_
      obtain ⟨hb_1, hF⟩ := jck_e hF
      refine jh_iald (ci := 6) (k := 20) rfl hB (by decide) rfl rfl hb_1 dX6_lierAt_15 rfl ?_
      refine jr_iload_n 1 dX6_lierAt_16 rfl rfl rfl ?_
      refine jr_icmp_ne 50 dX6_lierAt_17 (by decide) rfl (fun c1 => ?_) (fun c1 => ?_)
      · have hF := jif_n hF c1
        obtain ⟨x3_1, ex3_1⟩ : ∃ z : Int32, z = z3 + 1 := ⟨_, rfl⟩
        have hF := jlet_e hF x3_1 ex3_1
        refine jr_iinc (v := x3_1) (L' := [(3, .int x3_1), (0, .ref (ja E 8 0)), (1, .int y1), (2, .int y2)]) 3 dX6_lierAt_50 rfl (by rw [ex3_1]; rfl) (by decide) rfl rfl ?_
        refine jr_goto 2 dX6_lierAt_53 (by decide) ?_
        refine jr_sub [1, 2, 3, 0] rfl ?_
        exact ih x3_1 M hF
      · have hF := jif_p hF c1
        refine jr_aload_n 0 dX6_lierAt_20 rfl rfl rfl ?_
        refine gf_X6_49 rfl rfl hB dX6_lierAt_21 rfl ?_
        refine jr_iload_n 3 dX6_lierAt_24 rfl rfl rfl ?_
        obtain ⟨hb_2, hF⟩ := jck_e hF
        refine jh_iald (ci := 6) (k := 22) rfl hB (by decide) rfl rfl hb_2 dX6_lierAt_25 rfl ?_
        refine jr_iload_n 2 dX6_lierAt_26 rfl rfl rfl ?_
        refine jr_icmp_ne 50 dX6_lierAt_27 (by decide) rfl (fun c1 => ?_) (fun c1 => ?_)
        · have hF := jif_n hF c1
          obtain ⟨x3_2, ex3_2⟩ : ∃ z : Int32, z = z3 + 1 := ⟨_, rfl⟩
          have hF := jlet_e hF x3_2 ex3_2
          refine jr_iinc (v := x3_2) (L' := [(3, .int x3_2), (0, .ref (ja E 8 0)), (1, .int y1), (2, .int y2)]) 3 dX6_lierAt_50 rfl (by rw [ex3_2]; rfl) (by decide) rfl rfl ?_
          refine jr_goto 2 dX6_lierAt_53 (by decide) ?_
          refine jr_sub [1, 2, 3, 0] rfl ?_
          exact ih x3_2 M hF
        · have hF := jif_p hF c1
          refine jr_aload_n 0 dX6_lierAt_30 rfl rfl rfl ?_
          refine jr_aload_n 0 dX6_lierAt_31 rfl rfl rfl ?_
          refine gf_X6_46 rfl rfl hB dX6_lierAt_32 rfl ?_
          refine jr_iload_n 3 dX6_lierAt_35 rfl rfl rfl ?_
          obtain ⟨hb_3, hF⟩ := jck_e hF
          refine jh_iald (ci := 6) (k := 21) rfl hB (by decide) rfl rfl hb_3 dX6_lierAt_36 rfl ?_
          obtain ⟨r_1, M_1, hc_1, hF⟩ := jbd_e hF
          refine jh_callV1 (v := .int r_1) (o := 8) (as := [.int (jx_r M 8 21 z3)]) (st := []) (JF_X6_mayLie hB hc_1) cw_X6_199 (iv_X6_mayLie) ⟨rfl, rfl, by decide, by decide⟩ rfl hB rfl rfl (Nat.le_of_ble_eq_true rfl) dX6_lierAt_37 rfl ?_
          refine jr_if_eq 50 dX6_lierAt_40 (by decide) rfl (fun c1 => ?_) (fun c1 => ?_)
          · have hF := jif_p hF c1
            obtain ⟨x3_3, ex3_3⟩ : ∃ z : Int32, z = z3 + 1 := ⟨_, rfl⟩
            have hF := jlet_e hF x3_3 ex3_3
            refine jr_iinc (v := x3_3) (L' := [(3, .int x3_3), (0, .ref (ja E 8 0)), (1, .int y1), (2, .int y2)]) 3 dX6_lierAt_50 rfl (by rw [ex3_3]; rfl) (by decide) rfl rfl ?_
            refine jr_goto 2 dX6_lierAt_53 (by decide) ?_
            refine jr_sub [1, 2, 3, 0] rfl ?_
            exact ih x3_3 M_1 hF
          · have hF := jif_n hF c1
            refine jr_aload_n 0 dX6_lierAt_43 rfl rfl rfl ?_
            refine gf_X6_46 rfl rfl hB dX6_lierAt_44 rfl ?_
            refine jr_iload_n 3 dX6_lierAt_47 rfl rfl rfl ?_
            obtain ⟨hb_4, hF⟩ := jck_e hF
            refine jh_iald (ci := 6) (k := 21) rfl hB (by decide) rfl rfl hb_4 dX6_lierAt_48 rfl ?_
            exact jh_iret rfl dX6_lierAt_49 hF
set_option maxHeartbeats 4000000 in
set_option maxRecDepth 100000 in
theorem JL_X6_lierAt_62 {E : jx_E} (hB : jB E 8) {y1 : Int32} {k : Int32 → jx_M → Option (Int32 × jx_M)} {r : Int32} {M' : jx_M} (hk : ∀ (z3 : Int32) (M : jx_M), k z3 M = some (r, M') → jJ E yX6_lierAt cX6_lierAt 5 (some FieldType.int) rm_X6_lierAt (fun x M'' => x = some (.int r) ∧ M'' = M') 108 [(3, .int z3)] [] M) : ∀ (n : Nat) (z3 : Int32) (z4 : Int32) (M : jx_M), L_X6_lierAt_62 y1 k n z3 z4 M = some (r, M') → jJ E yX6_lierAt cX6_lierAt 5 (some FieldType.int) rm_X6_lierAt (fun x M'' => x = some (.int r) ∧ M'' = M') 62 [(0, .ref (ja E 8 0)), (1, .int y1), (3, .int z3), (4, .int z4)] [] M := by
  intro n
  induction n with
  | zero => intro z3 z4 M hF; exact nomatch (show (none : Option (Int32 × jx_M)) = some _ from hF)
  | succ n ih =>
    intro z3 z4 M hF
    rw [L_X6_lierAt_62.eq_2] at hF
    refine jr_iload 3 dX6_lierAt_62 rfl rfl ?_
    refine jr_aload_n 0 dX6_lierAt_64 rfl rfl rfl ?_
    refine gf_X6_107 rfl rfl hB dX6_lierAt_65 rfl ?_
    refine jr_icmp_ge 108 dX6_lierAt_68 (by decide) rfl (fun c1 => ?_) (fun c1 => ?_)
    · have hF := jif_p hF c1
      refine jr_sub [2] rfl ?_
      exact hk z3 M hF
    · have hF := jif_n hF c1
      refine jr_aload_n 0 dX6_lierAt_71 rfl rfl rfl ?_
      refine jr_iload 3 dX6_lierAt_72 rfl rfl ?_
      obtain ⟨r_2, M_3, hc_2, hF⟩ := jbd_e hF
      refine jh_callV1 (v := .int r_2) (o := 8) (as := [.int z4]) (st := []) (JF_X6_mayLie hB hc_2) cw_X6_199 (iv_X6_mayLie) ⟨rfl, rfl, by decide, by decide⟩ rfl hB rfl rfl (Nat.le_of_ble_eq_true rfl) dX6_lierAt_74 rfl ?_
      refine jr_if_eq 100 dX6_lierAt_77 (by decide) rfl (fun c1 => ?_) (fun c1 => ?_)
      · have hF := jif_p hF c1
        refine jr_iload_n 2 dX6_lierAt_100 rfl rfl rfl ?_
        refine jr_istore_n (L' := [(3, .int z3), (0, .ref (ja E 8 0)), (1, .int y1), (4, .int z4)]) dX6_lierAt_101 rfl (by decide) rfl rfl ?_
        obtain ⟨x4_1, ex4_1⟩ : ∃ z : Int32, z = z4 + 1 := ⟨_, rfl⟩
        have hF := jlet_e hF x4_1 ex4_1
        refine jr_iinc (v := x4_1) (L' := [(4, .int x4_1), (3, .int z3), (0, .ref (ja E 8 0)), (1, .int y1)]) 3 dX6_lierAt_102 rfl (by rw [ex4_1]; rfl) (by decide) rfl rfl ?_
        refine jr_goto 62 dX6_lierAt_105 (by decide) ?_
        refine jr_sub [2, 3, 1, 0] rfl ?_
        exact ih z3 x4_1 M_3 hF
      · have hF := jif_n hF c1
        refine jr_iload_n 2 dX6_lierAt_80 rfl rfl rfl ?_
        refine jr_if_lt 95 dX6_lierAt_81 (by decide) rfl (fun c1 => ?_) (fun c1 => ?_)
        · have hF := jif_p hF c1
          refine jr_iload 3 dX6_lierAt_95 rfl rfl ?_
          refine jr_goto 101 dX6_lierAt_97 (by decide) ?_
          refine jr_istore_n (L' := [(3, .int z4), (0, .ref (ja E 8 0)), (1, .int y1), (4, .int z4)]) dX6_lierAt_101 rfl (by decide) rfl rfl ?_
          obtain ⟨x4_2, ex4_2⟩ : ∃ z : Int32, z = z4 + 1 := ⟨_, rfl⟩
          have hF := jlet_e hF x4_2 ex4_2
          refine jr_iinc (v := x4_2) (L' := [(4, .int x4_2), (3, .int z4), (0, .ref (ja E 8 0)), (1, .int y1)]) 3 dX6_lierAt_102 rfl (by rw [ex4_2]; rfl) (by decide) rfl rfl ?_
          refine jr_goto 62 dX6_lierAt_105 (by decide) ?_
          refine jr_sub [2, 3, 1, 0] rfl ?_
          exact ih z4 x4_2 M_3 hF
        · have hF := jif_n hF c1
          refine jr_aload_n 0 dX6_lierAt_84 rfl rfl rfl ?_
          refine jr_iload 3 dX6_lierAt_85 rfl rfl ?_
          refine jr_iload_n 2 dX6_lierAt_87 rfl rfl rfl ?_
          refine jr_iload_n 1 dX6_lierAt_88 rfl rfl rfl ?_
          obtain ⟨r_3, M_4, hc_3, hF⟩ := jbd_e hF
          refine jh_callV1 (v := .int r_3) (o := 8) (as := [.int z4, .int z3, .int y1]) (st := []) (JF_X6_isRather hB hc_3) cw_X6_202 (iv_X6_isRather) ⟨rfl, rfl, by decide, by decide⟩ rfl hB rfl rfl (Nat.le_of_ble_eq_true rfl) dX6_lierAt_89 rfl ?_
          refine jr_if_eq 100 dX6_lierAt_92 (by decide) rfl (fun c1 => ?_) (fun c1 => ?_)
          · have hF := jif_p hF c1
            refine jr_iload_n 2 dX6_lierAt_100 rfl rfl rfl ?_
            refine jr_istore_n (L' := [(3, .int z3), (0, .ref (ja E 8 0)), (1, .int y1), (4, .int z4)]) dX6_lierAt_101 rfl (by decide) rfl rfl ?_
            obtain ⟨x4_3, ex4_3⟩ : ∃ z : Int32, z = z4 + 1 := ⟨_, rfl⟩
            have hF := jlet_e hF x4_3 ex4_3
            refine jr_iinc (v := x4_3) (L' := [(4, .int x4_3), (3, .int z3), (0, .ref (ja E 8 0)), (1, .int y1)]) 3 dX6_lierAt_102 rfl (by rw [ex4_3]; rfl) (by decide) rfl rfl ?_
            refine jr_goto 62 dX6_lierAt_105 (by decide) ?_
            refine jr_sub [2, 3, 1, 0] rfl ?_
            exact ih z3 x4_3 M_4 hF
          · have hF := jif_n hF c1
            refine jr_iload 3 dX6_lierAt_95 rfl rfl ?_
            refine jr_goto 101 dX6_lierAt_97 (by decide) ?_
            refine jr_istore_n (L' := [(3, .int z4), (0, .ref (ja E 8 0)), (1, .int y1), (4, .int z4)]) dX6_lierAt_101 rfl (by decide) rfl rfl ?_
            obtain ⟨x4_4, ex4_4⟩ : ∃ z : Int32, z = z4 + 1 := ⟨_, rfl⟩
            have hF := jlet_e hF x4_4 ex4_4
            refine jr_iinc (v := x4_4) (L' := [(4, .int x4_4), (3, .int z4), (0, .ref (ja E 8 0)), (1, .int y1)]) 3 dX6_lierAt_102 rfl (by rw [ex4_4]; rfl) (by decide) rfl rfl ?_
            refine jr_goto 62 dX6_lierAt_105 (by decide) ?_
            refine jr_sub [2, 3, 1, 0] rfl ?_
            exact ih z4 x4_4 M_4 hF
set_option maxHeartbeats 4000000 in
set_option maxRecDepth 100000 in
theorem JF_X6_lierAt {E : jx_E} (hB : jB E 8) {a1 : Int32} {a2 : Int32} {M : jx_M} {r : Int32} {M' : jx_M} (hF : F_X6_lierAt a1 a2 M = some (r, M')) : jC E yX6_lierAt cX6_lierAt 5 (some FieldType.int) rm_X6_lierAt [.ref (ja E 8 0), .int a1, .int a2] M (fun x M'' => x = some (.int r) ∧ M'' = M') := by
  refine jC.ofJ (L := [(0, .ref (ja E 8 0)), (1, .int a1), (2, .int a2)]) (by decide +kernel) (Nat.le_of_ble_eq_true rfl) rfl ?_
  unfold F_X6_lierAt at hF
  refine jr_iconst (v := 0) dX6_lierAt_0 (by decide) rfl ?_
  refine jr_istore_n (L' := [(3, .int 0), (0, .ref (ja E 8 0)), (1, .int a1), (2, .int a2)]) dX6_lierAt_1 rfl (by decide) rfl rfl ?_
  refine jr_sub [1, 2, 3, 0] rfl ?_
  refine JL_X6_lierAt_2 hB (fun M_2 hF => ?_) jfu 0 M hF
  refine jr_bipush (v := (-9)) dX6_lierAt_56 (by decide) rfl ?_
  refine jr_istore_n (L' := [(3, .int (-9)), (0, .ref (ja E 8 0)), (1, .int a1)]) dX6_lierAt_58 rfl (by decide) rfl rfl ?_
  refine jr_iconst (v := 0) dX6_lierAt_59 (by decide) rfl ?_
  refine jr_istore (L' := [(4, .int 0), (3, .int (-9)), (0, .ref (ja E 8 0)), (1, .int a1)]) dX6_lierAt_60 (by decide) rfl rfl ?_
  refine jr_sub [2, 3, 1, 0] rfl ?_
  refine JL_X6_lierAt_62 hB (fun x3_4 M_5 hF => ?_) jfu (-9) 0 M_2 hF
  refine jr_iload_n 0 dX6_lierAt_108 rfl rfl rfl ?_
  exact jh_iret rfl dX6_lierAt_109 hF
set_option maxHeartbeats 4000000 in
set_option maxRecDepth 100000 in
theorem JL_X6_wakeAll_10 {E : jx_E} (hB : jB E 8) {y1 : Int32} {k : jx_M → Option (Unit × jx_M)} {r : Unit} {M' : jx_M} (hk : ∀ (M : jx_M), k M = some (r, M') → jJ E yX6_wakeAll cX6_wakeAll 4 none rm_X6_wakeAll (fun x M'' => x = none ∧ M'' = M') 74 [] [] M) : ∀ (n : Nat) (z2 : Int32) (M : jx_M), L_X6_wakeAll_10 y1 k n z2 M = some (r, M') → jJ E yX6_wakeAll cX6_wakeAll 4 none rm_X6_wakeAll (fun x M'' => x = none ∧ M'' = M') 10 [(0, .ref (ja E 8 0)), (1, .int y1), (2, .int z2)] [] M := by
  intro n
  induction n with
  | zero => intro z2 M hF; exact nomatch (show (none : Option (Unit × jx_M)) = some _ from hF)
  | succ n ih =>
    intro z2 M hF
    rw [L_X6_wakeAll_10.eq_2] at hF
    refine jr_iload_n 2 dX6_wakeAll_10 rfl rfl rfl ?_
    refine jr_aload_n 0 dX6_wakeAll_11 rfl rfl rfl ?_
    refine gf_X6_114 rfl rfl hB dX6_wakeAll_12 rfl ?_
    refine jr_icmp_ge 74 dX6_wakeAll_15 (by decide) rfl (fun c1 => ?_) (fun c1 => ?_)
    · have hF := jif_p hF c1
      refine jr_sub [] rfl ?_
      exact hk M hF
    · have hF := jif_n hF c1
      refine jr_aload_n 0 dX6_wakeAll_18 rfl rfl rfl ?_
      refine gf_X6_64 rfl rfl hB dX6_wakeAll_19 rfl ?_
      refine jr_iload_n 2 dX6_wakeAll_22 rfl rfl rfl ?_
      obtain ⟨hb_1, hF⟩ := jck_e hF
      refine jh_iald (ci := 6) (k := 27) rfl hB (by decide) rfl rfl hb_1 dX6_wakeAll_23 rfl ?_
      refine jr_topi (fun x3_1 ex3_1 => ?_)
      have hF := jlet_e hF x3_1 ex3_1
      refine jr_istore_n (L' := [(3, .int x3_1), (0, .ref (ja E 8 0)), (1, .int y1), (2, .int z2)]) dX6_wakeAll_24 rfl (by decide) rfl rfl ?_
      refine jr_iload_n 0 dX6_wakeAll_25 rfl rfl rfl ?_
      refine jr_if_lt 68 dX6_wakeAll_26 (by decide) rfl (fun c1 => ?_) (fun c1 => ?_)
      · have hF := jif_p hF c1
        obtain ⟨x2_1, ex2_1⟩ : ∃ z : Int32, z = z2 + 1 := ⟨_, rfl⟩
        have hF := jlet_e hF x2_1 ex2_1
        refine jr_iinc (v := x2_1) (L' := [(2, .int x2_1), (3, .int x3_1), (0, .ref (ja E 8 0)), (1, .int y1)]) 3 dX6_wakeAll_68 rfl (by rw [ex2_1]; rfl) (by decide) rfl rfl ?_
        refine jr_goto 10 dX6_wakeAll_71 (by decide) ?_
        refine jr_sub [2, 3, 0] rfl ?_
        exact ih x2_1 M hF
      · have hF := jif_n hF c1
        refine jr_aload_n 1 dX6_wakeAll_29 rfl rfl rfl ?_
        refine gf_X6_58 rfl rfl hB dX6_wakeAll_30 rfl ?_
        refine jr_iload_n 0 dX6_wakeAll_33 rfl rfl rfl ?_
        obtain ⟨hb_2, hF⟩ := jck_e hF
        refine jh_iald (ci := 6) (k := 25) rfl hB (by decide) rfl rfl hb_2 dX6_wakeAll_34 rfl ?_
        refine jr_iload_n 2 dX6_wakeAll_35 rfl rfl rfl ?_
        refine jr_icmp_ne 68 dX6_wakeAll_36 (by decide) rfl (fun c1 => ?_) (fun c1 => ?_)
        · have hF := jif_n hF c1
          obtain ⟨x2_2, ex2_2⟩ : ∃ z : Int32, z = z2 + 1 := ⟨_, rfl⟩
          have hF := jlet_e hF x2_2 ex2_2
          refine jr_iinc (v := x2_2) (L' := [(2, .int x2_2), (3, .int x3_1), (0, .ref (ja E 8 0)), (1, .int y1)]) 3 dX6_wakeAll_68 rfl (by rw [ex2_2]; rfl) (by decide) rfl rfl ?_
          refine jr_goto 10 dX6_wakeAll_71 (by decide) ?_
          refine jr_sub [2, 3, 0] rfl ?_
          exact ih x2_2 M hF
        · have hF := jif_p hF c1
          refine jr_aload_n 1 dX6_wakeAll_39 rfl rfl rfl ?_
          refine gf_X6_64 rfl rfl hB dX6_wakeAll_40 rfl ?_
          refine jr_iload_n 3 dX6_wakeAll_43 rfl rfl rfl ?_
          refine jr_bipush (v := (-9)) dX6_wakeAll_44 (by decide) rfl ?_
          obtain ⟨hb_3, hF⟩ := jck_e hF
          refine jh_iast (ci := 6) (k := 27) rfl hB (by decide) rfl rfl hb_3 dX6_wakeAll_46 rfl (fun M_3 eM_3 => ?_)
          have hF := jlet_e hF M_3 eM_3
          refine jr_aload_n 1 dX6_wakeAll_47 rfl rfl rfl ?_
          refine gf_X6_52 rfl rfl hB dX6_wakeAll_48 rfl ?_
          refine jr_iload_n 0 dX6_wakeAll_51 rfl rfl rfl ?_
          refine jr_iconst (v := 1) dX6_wakeAll_52 (by decide) rfl ?_
          obtain ⟨hb_4, hF⟩ := jck_e hF
          refine jh_iast (ci := 6) (k := 23) rfl hB (by decide) rfl rfl hb_4 dX6_wakeAll_53 rfl (fun M_4 eM_4 => ?_)
          have hF := jlet_e hF M_4 eM_4
          refine jr_aload_n 1 dX6_wakeAll_54 rfl rfl rfl ?_
          refine jr_dup dX6_wakeAll_55 rfl rfl ?_
          refine gf_X6_196 rfl rfl hB dX6_wakeAll_56 rfl ?_
          refine jr_iconst (v := 1) dX6_wakeAll_59 (by decide) rfl ?_
          refine jr_iload_n 0 dX6_wakeAll_60 rfl rfl rfl ?_
          refine jr_ishl dX6_wakeAll_61 rfl ?_
          refine jr_iconst (v := (-1)) dX6_wakeAll_62 (by decide) rfl ?_
          refine jr_ixor dX6_wakeAll_63 rfl ?_
          refine jr_iand dX6_wakeAll_64 rfl ?_
          refine pf_X6_196 rfl rfl hB dX6_wakeAll_65 ⟨rfl, rfl⟩ rfl (fun M_5 eM_5 => ?_)
          have hF := jlet_e hF M_5 eM_5
          obtain ⟨x2_3, ex2_3⟩ : ∃ z : Int32, z = z2 + 1 := ⟨_, rfl⟩
          have hF := jlet_e hF x2_3 ex2_3
          refine jr_iinc (v := x2_3) (L' := [(2, .int x2_3), (3, .int x3_1), (0, .ref (ja E 8 0)), (1, .int y1)]) 3 dX6_wakeAll_68 rfl (by rw [ex2_3]; rfl) (by decide) rfl rfl ?_
          refine jr_goto 10 dX6_wakeAll_71 (by decide) ?_
          refine jr_sub [2, 3, 0] rfl ?_
          exact ih x2_3 M_5 hF
set_option maxHeartbeats 4000000 in
set_option maxRecDepth 100000 in
theorem JF_X6_wakeAll {E : jx_E} (hB : jB E 8) {a1 : Int32} {M : jx_M} {r : Unit} {M' : jx_M} (hF : F_X6_wakeAll a1 M = some (r, M')) : jC E yX6_wakeAll cX6_wakeAll 4 none rm_X6_wakeAll [.ref (ja E 8 0), .int a1] M (fun x M'' => x = none ∧ M'' = M') := by
  refine jC.ofJ (L := [(0, .ref (ja E 8 0)), (1, .int a1)]) (by decide +kernel) (Nat.le_of_ble_eq_true rfl) rfl ?_
  unfold F_X6_wakeAll at hF
  refine jr_aload_n 0 dX6_wakeAll_0 rfl rfl rfl ?_
  refine jr_aload_n 0 dX6_wakeAll_1 rfl rfl rfl ?_
  obtain ⟨r_1, M_1, hc_1, hF⟩ := jbd_e hF
  refine jh_callV1 (v := .int r_1) (o := 8) (as := []) (st := [.ref (ja E 8 0)]) (JF_X6_all hB hc_1) cw_X6_206 (iv_X6_all) ⟨rfl, rfl, by decide, by decide⟩ rfl hB rfl rfl (Nat.le_of_ble_eq_true rfl) dX6_wakeAll_2 rfl ?_
  refine pf_X6_196 rfl rfl hB dX6_wakeAll_5 ⟨rfl, rfl⟩ rfl (fun M_2 eM_2 => ?_)
  have hF := jlet_e hF M_2 eM_2
  refine jr_iconst (v := 0) dX6_wakeAll_8 (by decide) rfl ?_
  refine jr_istore_n (L' := [(2, .int 0), (0, .ref (ja E 8 0)), (1, .int a1)]) dX6_wakeAll_9 rfl (by decide) rfl rfl ?_
  refine jr_sub [1, 2, 0] rfl ?_
  refine JL_X6_wakeAll_10 hB (fun M_6 hF => ?_) jfu 0 M_2 hF
  exact jh_vret rfl dX6_wakeAll_74 hF
set_option maxHeartbeats 4000000 in
set_option maxRecDepth 100000 in
theorem JL_X6_goDecade_2 {E : jx_E} (hB : jB E 8) {y1 : Int32} {k : jx_M → Option (Unit × jx_M)} {r : Unit} {M' : jx_M} (hk : ∀ (M : jx_M), k M = some (r, M') → jJ E yX6_goDecade cX6_goDecade 4 none rm_X6_goDecade (fun x M'' => x = none ∧ M'' = M') 81 [(0, .ref (ja E 8 0)), (1, .int y1)] [] M) : ∀ (n : Nat) (z2 : Int32) (M : jx_M), L_X6_goDecade_2 y1 k n z2 M = some (r, M') → jJ E yX6_goDecade cX6_goDecade 4 none rm_X6_goDecade (fun x M'' => x = none ∧ M'' = M') 2 [(0, .ref (ja E 8 0)), (1, .int y1), (2, .int z2)] [] M := by
  intro n
  induction n with
  | zero => intro z2 M hF; exact nomatch (show (none : Option (Unit × jx_M)) = some _ from hF)
  | succ n ih =>
    intro z2 M hF
    rw [L_X6_goDecade_2.eq_2] at hF
    refine jr_iload_n 2 dX6_goDecade_2 rfl rfl rfl ?_
    refine jr_aload_n 0 dX6_goDecade_3 rfl rfl rfl ?_
    refine gf_X6_107 rfl rfl hB dX6_goDecade_4 rfl ?_
    refine jr_icmp_ge 81 dX6_goDecade_7 (by decide) rfl (fun c1 => ?_) (fun c1 => ?_)
    · have hF := jif_p hF c1
      refine jr_sub [0, 1] rfl ?_
      exact hk M hF
    · have hF := jif_n hF c1
      refine jr_aload_n 0 dX6_goDecade_10 rfl rfl rfl ?_
      refine gf_X6_52 rfl rfl hB dX6_goDecade_11 rfl ?_
      refine jr_iload_n 2 dX6_goDecade_14 rfl rfl rfl ?_
      obtain ⟨hb_1, hF⟩ := jck_e hF
      refine jh_iald (ci := 6) (k := 23) rfl hB (by decide) rfl rfl hb_1 dX6_goDecade_15 rfl ?_
      refine jr_iconst (v := 1) dX6_goDecade_16 (by decide) rfl ?_
      refine jr_icmp_ne 39 dX6_goDecade_17 (by decide) rfl (fun c1 => ?_) (fun c1 => ?_)
      · have hF := jif_n hF c1
        refine jr_iconst (v := 0) dX6_goDecade_39 (by decide) rfl ?_
        refine jr_istore_n (L' := [(3, .int 0), (0, .ref (ja E 8 0)), (1, .int y1), (2, .int z2)]) dX6_goDecade_40 rfl (by decide) rfl rfl ?_
        refine jr_aload_n 1 dX6_goDecade_41 rfl rfl rfl ?_
        refine gf_X6_52 rfl rfl hB dX6_goDecade_42 rfl ?_
        refine jr_iload_n 3 dX6_goDecade_45 rfl rfl rfl ?_
        refine jr_aload_n 1 dX6_goDecade_46 rfl rfl rfl ?_
        refine gf_X6_16 rfl rfl hB dX6_goDecade_47 rfl ?_
        refine jr_iload_n 3 dX6_goDecade_50 rfl rfl rfl ?_
        obtain ⟨hb_2, hF⟩ := jck_e hF
        refine jh_iald (ci := 6) (k := 5) rfl hB (by decide) rfl rfl hb_2 dX6_goDecade_51 rfl ?_
        refine jr_iload_n 2 dX6_goDecade_52 rfl rfl rfl ?_
        refine jr_icmp_ne 60 dX6_goDecade_53 (by decide) rfl (fun c1 => ?_) (fun c1 => ?_)
        · have hF := jif_n hF c1
          refine jr_iload_n 0 dX6_goDecade_60 rfl rfl rfl ?_
          refine jr_if_eq 68 dX6_goDecade_61 (by decide) rfl (fun c1 => ?_) (fun c1 => absurd c1 (by decide))
          refine jr_aload_n 1 dX6_goDecade_68 rfl rfl rfl ?_
          refine gf_X6_52 rfl rfl hB dX6_goDecade_69 rfl ?_
          refine jr_iload_n 3 dX6_goDecade_72 rfl rfl rfl ?_
          obtain ⟨hb_3, hF⟩ := jck_e hF
          refine jh_iald (ci := 6) (k := 23) rfl hB (by decide) rfl rfl hb_3 dX6_goDecade_73 rfl ?_
          obtain ⟨hb_4, hF⟩ := jck_e hF
          refine jh_iast (ci := 6) (k := 23) rfl hB (by decide) rfl rfl hb_4 dX6_goDecade_74 rfl (fun M_1 eM_1 => ?_)
          have hF := jlet_e hF M_1 eM_1
          obtain ⟨x2_1, ex2_1⟩ : ∃ z : Int32, z = z2 + 1 := ⟨_, rfl⟩
          have hF := jlet_e hF x2_1 ex2_1
          refine jr_iinc (v := x2_1) (L' := [(2, .int x2_1), (3, .int 0), (0, .ref (ja E 8 0)), (1, .int y1)]) 3 dX6_goDecade_75 rfl (by rw [ex2_1]; rfl) (by decide) rfl rfl ?_
          refine jr_goto 2 dX6_goDecade_78 (by decide) ?_
          refine jr_sub [2, 3, 0] rfl ?_
          exact ih x2_1 M_1 hF
        · have hF := jif_p hF c1
          refine jr_iconst (v := 1) dX6_goDecade_56 (by decide) rfl ?_
          refine jr_goto 74 dX6_goDecade_57 (by decide) ?_
          obtain ⟨hb_5, hF⟩ := jck_e hF
          refine jh_iast (ci := 6) (k := 23) rfl hB (by decide) rfl rfl hb_5 dX6_goDecade_74 rfl (fun M_2 eM_2 => ?_)
          have hF := jlet_e hF M_2 eM_2
          obtain ⟨x2_2, ex2_2⟩ : ∃ z : Int32, z = z2 + 1 := ⟨_, rfl⟩
          have hF := jlet_e hF x2_2 ex2_2
          refine jr_iinc (v := x2_2) (L' := [(2, .int x2_2), (3, .int 0), (0, .ref (ja E 8 0)), (1, .int y1)]) 3 dX6_goDecade_75 rfl (by rw [ex2_2]; rfl) (by decide) rfl rfl ?_
          refine jr_goto 2 dX6_goDecade_78 (by decide) ?_
          refine jr_sub [2, 3, 0] rfl ?_
          exact ih x2_2 M_2 hF
      · have hF := jif_p hF c1
        refine jr_aload_n 0 dX6_goDecade_20 rfl rfl rfl ?_
        refine gf_X6_55 rfl rfl hB dX6_goDecade_21 rfl ?_
        refine jr_iload_n 2 dX6_goDecade_24 rfl rfl rfl ?_
        obtain ⟨hb_6, hF⟩ := jck_e hF
        refine jh_iald (ci := 6) (k := 24) rfl hB (by decide) rfl rfl hb_6 dX6_goDecade_25 rfl ?_
        refine jr_aload_n 0 dX6_goDecade_26 rfl rfl rfl ?_
        refine gf_X6_19 rfl rfl hB dX6_goDecade_27 rfl ?_
        refine jr_iload_n 2 dX6_goDecade_30 rfl rfl rfl ?_
        obtain ⟨hb_7, hF⟩ := jck_e hF
        refine jh_iald (ci := 6) (k := 6) rfl hB (by decide) rfl rfl hb_7 dX6_goDecade_31 rfl ?_
        refine jr_icmp_lt 39 dX6_goDecade_32 (by decide) rfl (fun c1 => ?_) (fun c1 => ?_)
        · have hF := jif_p hF c1
          refine jr_iconst (v := 0) dX6_goDecade_39 (by decide) rfl ?_
          refine jr_istore_n (L' := [(3, .int 0), (0, .ref (ja E 8 0)), (1, .int y1), (2, .int z2)]) dX6_goDecade_40 rfl (by decide) rfl rfl ?_
          refine jr_aload_n 1 dX6_goDecade_41 rfl rfl rfl ?_
          refine gf_X6_52 rfl rfl hB dX6_goDecade_42 rfl ?_
          refine jr_iload_n 3 dX6_goDecade_45 rfl rfl rfl ?_
          refine jr_aload_n 1 dX6_goDecade_46 rfl rfl rfl ?_
          refine gf_X6_16 rfl rfl hB dX6_goDecade_47 rfl ?_
          refine jr_iload_n 3 dX6_goDecade_50 rfl rfl rfl ?_
          obtain ⟨hb_8, hF⟩ := jck_e hF
          refine jh_iald (ci := 6) (k := 5) rfl hB (by decide) rfl rfl hb_8 dX6_goDecade_51 rfl ?_
          refine jr_iload_n 2 dX6_goDecade_52 rfl rfl rfl ?_
          refine jr_icmp_ne 60 dX6_goDecade_53 (by decide) rfl (fun c1 => ?_) (fun c1 => ?_)
          · have hF := jif_n hF c1
            refine jr_iload_n 0 dX6_goDecade_60 rfl rfl rfl ?_
            refine jr_if_eq 68 dX6_goDecade_61 (by decide) rfl (fun c1 => ?_) (fun c1 => absurd c1 (by decide))
            refine jr_aload_n 1 dX6_goDecade_68 rfl rfl rfl ?_
            refine gf_X6_52 rfl rfl hB dX6_goDecade_69 rfl ?_
            refine jr_iload_n 3 dX6_goDecade_72 rfl rfl rfl ?_
            obtain ⟨hb_9, hF⟩ := jck_e hF
            refine jh_iald (ci := 6) (k := 23) rfl hB (by decide) rfl rfl hb_9 dX6_goDecade_73 rfl ?_
            obtain ⟨hb_10, hF⟩ := jck_e hF
            refine jh_iast (ci := 6) (k := 23) rfl hB (by decide) rfl rfl hb_10 dX6_goDecade_74 rfl (fun M_3 eM_3 => ?_)
            have hF := jlet_e hF M_3 eM_3
            obtain ⟨x2_3, ex2_3⟩ : ∃ z : Int32, z = z2 + 1 := ⟨_, rfl⟩
            have hF := jlet_e hF x2_3 ex2_3
            refine jr_iinc (v := x2_3) (L' := [(2, .int x2_3), (3, .int 0), (0, .ref (ja E 8 0)), (1, .int y1)]) 3 dX6_goDecade_75 rfl (by rw [ex2_3]; rfl) (by decide) rfl rfl ?_
            refine jr_goto 2 dX6_goDecade_78 (by decide) ?_
            refine jr_sub [2, 3, 0] rfl ?_
            exact ih x2_3 M_3 hF
          · have hF := jif_p hF c1
            refine jr_iconst (v := 1) dX6_goDecade_56 (by decide) rfl ?_
            refine jr_goto 74 dX6_goDecade_57 (by decide) ?_
            obtain ⟨hb_11, hF⟩ := jck_e hF
            refine jh_iast (ci := 6) (k := 23) rfl hB (by decide) rfl rfl hb_11 dX6_goDecade_74 rfl (fun M_4 eM_4 => ?_)
            have hF := jlet_e hF M_4 eM_4
            obtain ⟨x2_4, ex2_4⟩ : ∃ z : Int32, z = z2 + 1 := ⟨_, rfl⟩
            have hF := jlet_e hF x2_4 ex2_4
            refine jr_iinc (v := x2_4) (L' := [(2, .int x2_4), (3, .int 0), (0, .ref (ja E 8 0)), (1, .int y1)]) 3 dX6_goDecade_75 rfl (by rw [ex2_4]; rfl) (by decide) rfl rfl ?_
            refine jr_goto 2 dX6_goDecade_78 (by decide) ?_
            refine jr_sub [2, 3, 0] rfl ?_
            exact ih x2_4 M_4 hF
        · have hF := jif_n hF c1
          refine jr_iconst (v := 1) dX6_goDecade_35 (by decide) rfl ?_
          refine jr_goto 40 dX6_goDecade_36 (by decide) ?_
          refine jr_istore_n (L' := [(3, .int 1), (0, .ref (ja E 8 0)), (1, .int y1), (2, .int z2)]) dX6_goDecade_40 rfl (by decide) rfl rfl ?_
          refine jr_aload_n 1 dX6_goDecade_41 rfl rfl rfl ?_
          refine gf_X6_52 rfl rfl hB dX6_goDecade_42 rfl ?_
          refine jr_iload_n 3 dX6_goDecade_45 rfl rfl rfl ?_
          refine jr_aload_n 1 dX6_goDecade_46 rfl rfl rfl ?_
          refine gf_X6_16 rfl rfl hB dX6_goDecade_47 rfl ?_
          refine jr_iload_n 3 dX6_goDecade_50 rfl rfl rfl ?_
          obtain ⟨hb_12, hF⟩ := jck_e hF
          refine jh_iald (ci := 6) (k := 5) rfl hB (by decide) rfl rfl hb_12 dX6_goDecade_51 rfl ?_
          refine jr_iload_n 2 dX6_goDecade_52 rfl rfl rfl ?_
          refine jr_icmp_ne 60 dX6_goDecade_53 (by decide) rfl (fun c1 => ?_) (fun c1 => ?_)
          · have hF := jif_n hF c1
            refine jr_iload_n 0 dX6_goDecade_60 rfl rfl rfl ?_
            refine jr_if_eq 68 dX6_goDecade_61 (by decide) rfl (fun c1 => absurd c1 (by decide)) (fun c1 => ?_)
            refine jr_iconst (v := 3) dX6_goDecade_64 (by decide) rfl ?_
            refine jr_goto 74 dX6_goDecade_65 (by decide) ?_
            obtain ⟨hb_13, hF⟩ := jck_e hF
            refine jh_iast (ci := 6) (k := 23) rfl hB (by decide) rfl rfl hb_13 dX6_goDecade_74 rfl (fun M_5 eM_5 => ?_)
            have hF := jlet_e hF M_5 eM_5
            obtain ⟨x2_5, ex2_5⟩ : ∃ z : Int32, z = z2 + 1 := ⟨_, rfl⟩
            have hF := jlet_e hF x2_5 ex2_5
            refine jr_iinc (v := x2_5) (L' := [(2, .int x2_5), (3, .int 1), (0, .ref (ja E 8 0)), (1, .int y1)]) 3 dX6_goDecade_75 rfl (by rw [ex2_5]; rfl) (by decide) rfl rfl ?_
            refine jr_goto 2 dX6_goDecade_78 (by decide) ?_
            refine jr_sub [2, 3, 0] rfl ?_
            exact ih x2_5 M_5 hF
          · have hF := jif_p hF c1
            refine jr_iconst (v := 1) dX6_goDecade_56 (by decide) rfl ?_
            refine jr_goto 74 dX6_goDecade_57 (by decide) ?_
            obtain ⟨hb_14, hF⟩ := jck_e hF
            refine jh_iast (ci := 6) (k := 23) rfl hB (by decide) rfl rfl hb_14 dX6_goDecade_74 rfl (fun M_6 eM_6 => ?_)
            have hF := jlet_e hF M_6 eM_6
            obtain ⟨x2_6, ex2_6⟩ : ∃ z : Int32, z = z2 + 1 := ⟨_, rfl⟩
            have hF := jlet_e hF x2_6 ex2_6
            refine jr_iinc (v := x2_6) (L' := [(2, .int x2_6), (3, .int 1), (0, .ref (ja E 8 0)), (1, .int y1)]) 3 dX6_goDecade_75 rfl (by rw [ex2_6]; rfl) (by decide) rfl rfl ?_
            refine jr_goto 2 dX6_goDecade_78 (by decide) ?_
            refine jr_sub [2, 3, 0] rfl ?_
            exact ih x2_6 M_6 hF
set_option maxHeartbeats 4000000 in
set_option maxRecDepth 100000 in
theorem JL_X6_goDecade_93 {E : jx_E} (hB : jB E 8) {y1 : Int32} {k : jx_M → Option (Unit × jx_M)} {r : Unit} {M' : jx_M} (hk : ∀ (M : jx_M), k M = some (r, M') → jJ E yX6_goDecade cX6_goDecade 4 none rm_X6_goDecade (fun x M'' => x = none ∧ M'' = M') 184 [(0, .ref (ja E 8 0))] [] M) : ∀ (n : Nat) (z2 : Int32) (M : jx_M), L_X6_goDecade_93 y1 k n z2 M = some (r, M') → jJ E yX6_goDecade cX6_goDecade 4 none rm_X6_goDecade (fun x M'' => x = none ∧ M'' = M') 93 [(0, .ref (ja E 8 0)), (1, .int y1), (2, .int z2)] [] M := by
  intro n
  induction n with
  | zero => intro z2 M hF; exact nomatch (show (none : Option (Unit × jx_M)) = some _ from hF)
  | succ n ih =>
    intro z2 M hF
    rw [L_X6_goDecade_93.eq_2] at hF
    refine jr_iload_n 2 dX6_goDecade_93 rfl rfl rfl ?_
    refine jr_aload_n 0 dX6_goDecade_94 rfl rfl rfl ?_
    refine gf_X6_114 rfl rfl hB dX6_goDecade_95 rfl ?_
    refine jr_icmp_ge 184 dX6_goDecade_98 (by decide) rfl (fun c1 => ?_) (fun c1 => ?_)
    · have hF := jif_p hF c1
      refine jr_sub [0] rfl ?_
      exact hk M hF
    · have hF := jif_n hF c1
      refine jr_aload_n 0 dX6_goDecade_101 rfl rfl rfl ?_
      refine gf_X6_64 rfl rfl hB dX6_goDecade_102 rfl ?_
      refine jr_iload_n 2 dX6_goDecade_105 rfl rfl rfl ?_
      obtain ⟨hb_15, hF⟩ := jck_e hF
      refine jh_iald (ci := 6) (k := 27) rfl hB (by decide) rfl rfl hb_15 dX6_goDecade_106 rfl ?_
      refine jr_if_ge 178 dX6_goDecade_107 (by decide) rfl (fun c1 => ?_) (fun c1 => ?_)
      · have hF := jif_p hF c1
        obtain ⟨x2_7, ex2_7⟩ : ∃ z : Int32, z = z2 + 1 := ⟨_, rfl⟩
        have hF := jlet_e hF x2_7 ex2_7
        refine jr_iinc (v := x2_7) (L' := [(2, .int x2_7), (0, .ref (ja E 8 0)), (1, .int y1)]) 2 dX6_goDecade_178 rfl (by rw [ex2_7]; rfl) (by decide) rfl rfl ?_
        refine jr_goto 93 dX6_goDecade_181 (by decide) ?_
        refine jr_sub [1, 2, 0] rfl ?_
        exact ih x2_7 M hF
      · have hF := jif_n hF c1
        refine jr_iload_n 1 dX6_goDecade_110 rfl rfl rfl ?_
        refine jr_aload_n 0 dX6_goDecade_111 rfl rfl rfl ?_
        refine gf_X6_25 rfl rfl hB dX6_goDecade_112 rfl ?_
        refine jr_iload_n 2 dX6_goDecade_115 rfl rfl rfl ?_
        obtain ⟨hb_16, hF⟩ := jck_e hF
        refine jh_iald (ci := 6) (k := 10) rfl hB (by decide) rfl rfl hb_16 dX6_goDecade_116 rfl ?_
        refine jr_icmp_ge 178 dX6_goDecade_117 (by decide) rfl (fun c1 => ?_) (fun c1 => ?_)
        · have hF := jif_p hF c1
          obtain ⟨x2_8, ex2_8⟩ : ∃ z : Int32, z = z2 + 1 := ⟨_, rfl⟩
          have hF := jlet_e hF x2_8 ex2_8
          refine jr_iinc (v := x2_8) (L' := [(2, .int x2_8), (0, .ref (ja E 8 0)), (1, .int y1)]) 2 dX6_goDecade_178 rfl (by rw [ex2_8]; rfl) (by decide) rfl rfl ?_
          refine jr_goto 93 dX6_goDecade_181 (by decide) ?_
          refine jr_sub [1, 2, 0] rfl ?_
          exact ih x2_8 M hF
        · have hF := jif_n hF c1
          refine jr_aload_n 0 dX6_goDecade_120 rfl rfl rfl ?_
          refine jr_iload_n 2 dX6_goDecade_121 rfl rfl rfl ?_
          refine jr_iload_n 1 dX6_goDecade_122 rfl rfl rfl ?_
          obtain ⟨r_2, M_10, hc_2, hF⟩ := jbd_e hF
          refine jh_callV1 (v := .int r_2) (o := 8) (as := [.int z2, .int y1]) (st := []) (JF_X6_lierAt hB hc_2) cw_X6_217 (iv_X6_lierAt) ⟨rfl, rfl, by decide, by decide⟩ rfl hB rfl rfl (Nat.le_of_ble_eq_true rfl) dX6_goDecade_123 rfl ?_
          refine jr_istore_n (L' := [(3, .int r_2), (0, .ref (ja E 8 0)), (1, .int y1), (2, .int z2)]) dX6_goDecade_126 rfl (by decide) rfl rfl ?_
          refine jr_aload_n 1 dX6_goDecade_127 rfl rfl rfl ?_
          refine gf_X6_64 rfl rfl hB dX6_goDecade_128 rfl ?_
          refine jr_iload_n 3 dX6_goDecade_131 rfl rfl rfl ?_
          refine jr_iload_n 0 dX6_goDecade_132 rfl rfl rfl ?_
          obtain ⟨hb_17, hF⟩ := jck_e hF
          refine jh_iast (ci := 6) (k := 27) rfl hB (by decide) rfl rfl hb_17 dX6_goDecade_133 rfl (fun M_11 eM_11 => ?_)
          have hF := jlet_e hF M_11 eM_11
          refine jr_aload_n 1 dX6_goDecade_134 rfl rfl rfl ?_
          refine jr_dup dX6_goDecade_135 rfl rfl ?_
          refine gf_X6_214 rfl rfl hB dX6_goDecade_136 rfl ?_
          refine jr_iload_n 0 dX6_goDecade_139 rfl rfl rfl ?_
          refine jr_if_ge 149 dX6_goDecade_140 (by decide) rfl (fun c1 => ?_) (fun c1 => ?_)
          · have hF := jif_p hF c1
            refine jr_iconst (v := 0) dX6_goDecade_149 (by decide) rfl ?_
            refine jr_ior dX6_goDecade_150 rfl ?_
            refine pf_X6_214 rfl rfl hB dX6_goDecade_151 ⟨rfl, rfl⟩ rfl (fun M_12 eM_12 => ?_)
            have hF := jlet_e hF M_12 eM_12
            refine jr_iload_n 0 dX6_goDecade_154 rfl rfl rfl ?_
            refine jr_if_lt 178 dX6_goDecade_155 (by decide) rfl (fun c1 => ?_) (fun c1 => ?_)
            · have hF := jif_p hF c1
              obtain ⟨x2_9, ex2_9⟩ : ∃ z : Int32, z = z2 + 1 := ⟨_, rfl⟩
              have hF := jlet_e hF x2_9 ex2_9
              refine jr_iinc (v := x2_9) (L' := [(2, .int x2_9), (3, .int r_2), (0, .ref (ja E 8 0)), (1, .int y1)]) 3 dX6_goDecade_178 rfl (by rw [ex2_9]; rfl) (by decide) rfl rfl ?_
              refine jr_goto 93 dX6_goDecade_181 (by decide) ?_
              refine jr_sub [2, 3, 0] rfl ?_
              exact ih x2_9 M_12 hF
            · have hF := jif_n hF c1
              refine jr_aload_n 1 dX6_goDecade_158 rfl rfl rfl ?_
              refine gf_X6_52 rfl rfl hB dX6_goDecade_159 rfl ?_
              refine jr_iload_n 0 dX6_goDecade_162 rfl rfl rfl ?_
              refine jr_iconst (v := 2) dX6_goDecade_163 (by decide) rfl ?_
              obtain ⟨hb_18, hF⟩ := jck_e hF
              refine jh_iast (ci := 6) (k := 23) rfl hB (by decide) rfl rfl hb_18 dX6_goDecade_164 rfl (fun M_13 eM_13 => ?_)
              have hF := jlet_e hF M_13 eM_13
              refine jr_aload_n 1 dX6_goDecade_165 rfl rfl rfl ?_
              refine gf_X6_58 rfl rfl hB dX6_goDecade_166 rfl ?_
              refine jr_iload_n 0 dX6_goDecade_169 rfl rfl rfl ?_
              refine jr_iload_n 2 dX6_goDecade_170 rfl rfl rfl ?_
              refine jr_aload_n 1 dX6_goDecade_171 rfl rfl rfl ?_
              refine jr_iload_n 0 dX6_goDecade_172 rfl rfl rfl ?_
              obtain ⟨r_3, M_14, hc_3, hF⟩ := jbd_e hF
              refine jh_callV1 (v := .int r_3) (o := 8) (as := [.int r_2]) (st := [.int y1, .int r_2, .ref (ja E 8 26)]) (JF_X6_sleepOf hB hc_3) cw_X6_179 (iv_X6_sleepOf) ⟨rfl, rfl, by decide, by decide⟩ rfl hB rfl rfl (Nat.le_of_ble_eq_true rfl) dX6_goDecade_173 rfl ?_
              refine jr_iadd dX6_goDecade_176 rfl ?_
              obtain ⟨hb_19, hF⟩ := jck_e hF
              refine jh_iast (ci := 6) (k := 25) rfl hB (by decide) rfl rfl hb_19 dX6_goDecade_177 rfl (fun M_15 eM_15 => ?_)
              have hF := jlet_e hF M_15 eM_15
              obtain ⟨x2_10, ex2_10⟩ : ∃ z : Int32, z = z2 + 1 := ⟨_, rfl⟩
              have hF := jlet_e hF x2_10 ex2_10
              refine jr_iinc (v := x2_10) (L' := [(2, .int x2_10), (3, .int r_2), (0, .ref (ja E 8 0)), (1, .int y1)]) 3 dX6_goDecade_178 rfl (by rw [ex2_10]; rfl) (by decide) rfl rfl ?_
              refine jr_goto 93 dX6_goDecade_181 (by decide) ?_
              refine jr_sub [2, 3, 0] rfl ?_
              exact ih x2_10 M_15 hF
          · have hF := jif_n hF c1
            refine jr_iconst (v := 1) dX6_goDecade_143 (by decide) rfl ?_
            refine jr_iload_n 3 dX6_goDecade_144 rfl rfl rfl ?_
            refine jr_ishl dX6_goDecade_145 rfl ?_
            refine jr_goto 150 dX6_goDecade_146 (by decide) ?_
            refine jr_ior dX6_goDecade_150 rfl ?_
            refine pf_X6_214 rfl rfl hB dX6_goDecade_151 ⟨rfl, rfl⟩ rfl (fun M_16 eM_16 => ?_)
            have hF := jlet_e hF M_16 eM_16
            refine jr_iload_n 0 dX6_goDecade_154 rfl rfl rfl ?_
            refine jr_if_lt 178 dX6_goDecade_155 (by decide) rfl (fun c1 => ?_) (fun c1 => ?_)
            · have hF := jif_p hF c1
              obtain ⟨x2_11, ex2_11⟩ : ∃ z : Int32, z = z2 + 1 := ⟨_, rfl⟩
              have hF := jlet_e hF x2_11 ex2_11
              refine jr_iinc (v := x2_11) (L' := [(2, .int x2_11), (3, .int r_2), (0, .ref (ja E 8 0)), (1, .int y1)]) 3 dX6_goDecade_178 rfl (by rw [ex2_11]; rfl) (by decide) rfl rfl ?_
              refine jr_goto 93 dX6_goDecade_181 (by decide) ?_
              refine jr_sub [2, 3, 0] rfl ?_
              exact ih x2_11 M_16 hF
            · have hF := jif_n hF c1
              refine jr_aload_n 1 dX6_goDecade_158 rfl rfl rfl ?_
              refine gf_X6_52 rfl rfl hB dX6_goDecade_159 rfl ?_
              refine jr_iload_n 0 dX6_goDecade_162 rfl rfl rfl ?_
              refine jr_iconst (v := 2) dX6_goDecade_163 (by decide) rfl ?_
              obtain ⟨hb_20, hF⟩ := jck_e hF
              refine jh_iast (ci := 6) (k := 23) rfl hB (by decide) rfl rfl hb_20 dX6_goDecade_164 rfl (fun M_17 eM_17 => ?_)
              have hF := jlet_e hF M_17 eM_17
              refine jr_aload_n 1 dX6_goDecade_165 rfl rfl rfl ?_
              refine gf_X6_58 rfl rfl hB dX6_goDecade_166 rfl ?_
              refine jr_iload_n 0 dX6_goDecade_169 rfl rfl rfl ?_
              refine jr_iload_n 2 dX6_goDecade_170 rfl rfl rfl ?_
              refine jr_aload_n 1 dX6_goDecade_171 rfl rfl rfl ?_
              refine jr_iload_n 0 dX6_goDecade_172 rfl rfl rfl ?_
              obtain ⟨r_4, M_18, hc_4, hF⟩ := jbd_e hF
              refine jh_callV1 (v := .int r_4) (o := 8) (as := [.int r_2]) (st := [.int y1, .int r_2, .ref (ja E 8 26)]) (JF_X6_sleepOf hB hc_4) cw_X6_179 (iv_X6_sleepOf) ⟨rfl, rfl, by decide, by decide⟩ rfl hB rfl rfl (Nat.le_of_ble_eq_true rfl) dX6_goDecade_173 rfl ?_
              refine jr_iadd dX6_goDecade_176 rfl ?_
              obtain ⟨hb_21, hF⟩ := jck_e hF
              refine jh_iast (ci := 6) (k := 25) rfl hB (by decide) rfl rfl hb_21 dX6_goDecade_177 rfl (fun M_19 eM_19 => ?_)
              have hF := jlet_e hF M_19 eM_19
              obtain ⟨x2_12, ex2_12⟩ : ∃ z : Int32, z = z2 + 1 := ⟨_, rfl⟩
              have hF := jlet_e hF x2_12 ex2_12
              refine jr_iinc (v := x2_12) (L' := [(2, .int x2_12), (3, .int r_2), (0, .ref (ja E 8 0)), (1, .int y1)]) 3 dX6_goDecade_178 rfl (by rw [ex2_12]; rfl) (by decide) rfl rfl ?_
              refine jr_goto 93 dX6_goDecade_181 (by decide) ?_
              refine jr_sub [2, 3, 0] rfl ?_
              exact ih x2_12 M_19 hF
set_option maxHeartbeats 4000000 in
set_option maxRecDepth 100000 in
theorem JL_X6_goDecade_202 {E : jx_E} (hB : jB E 8) {k : jx_M → Option (Unit × jx_M)} {r : Unit} {M' : jx_M} (hk : ∀ (M : jx_M), k M = some (r, M') → jJ E yX6_goDecade cX6_goDecade 4 none rm_X6_goDecade (fun x M'' => x = none ∧ M'' = M') 240 [] [] M) : ∀ (n : Nat) (z2 : Int32) (M : jx_M), L_X6_goDecade_202 k n z2 M = some (r, M') → jJ E yX6_goDecade cX6_goDecade 4 none rm_X6_goDecade (fun x M'' => x = none ∧ M'' = M') 202 [(0, .ref (ja E 8 0)), (2, .int z2)] [] M := by
  intro n
  induction n with
  | zero => intro z2 M hF; exact nomatch (show (none : Option (Unit × jx_M)) = some _ from hF)
  | succ n ih =>
    intro z2 M hF
    rw [L_X6_goDecade_202.eq_2] at hF
    refine jr_iload_n 1 dX6_goDecade_202 rfl rfl rfl ?_
    refine jr_aload_n 0 dX6_goDecade_203 rfl rfl rfl ?_
    refine gf_X6_107 rfl rfl hB dX6_goDecade_204 rfl ?_
    refine jr_icmp_ge 240 dX6_goDecade_207 (by decide) rfl (fun c1 => ?_) (fun c1 => ?_)
    · have hF := jif_p hF c1
      refine jr_sub [] rfl ?_
      exact hk M hF
    · have hF := jif_n hF c1
      refine jr_aload_n 0 dX6_goDecade_210 rfl rfl rfl ?_
      refine gf_X6_61 rfl rfl hB dX6_goDecade_211 rfl ?_
      refine jr_iload_n 1 dX6_goDecade_214 rfl rfl rfl ?_
      refine jr_dup2 dX6_goDecade_215 rfl rfl rfl ?_
      obtain ⟨hb_22, hF⟩ := jck_e hF
      refine jh_iald (ci := 6) (k := 26) rfl hB (by decide) rfl rfl hb_22 dX6_goDecade_216 rfl ?_
      refine jr_aload_n 0 dX6_goDecade_217 rfl rfl rfl ?_
      refine gf_X6_52 rfl rfl hB dX6_goDecade_218 rfl ?_
      refine jr_iload_n 1 dX6_goDecade_221 rfl rfl rfl ?_
      obtain ⟨hb_23, hF⟩ := jck_e hF
      refine jh_iald (ci := 6) (k := 23) rfl hB (by decide) rfl rfl hb_23 dX6_goDecade_222 rfl ?_
      refine jr_iconst (v := 2) dX6_goDecade_223 (by decide) rfl ?_
      refine jr_icmp_ne 231 dX6_goDecade_224 (by decide) rfl (fun c1 => ?_) (fun c1 => ?_)
      · have hF := jif_n hF c1
        refine jr_iconst (v := 0) dX6_goDecade_231 (by decide) rfl ?_
        refine jr_iadd dX6_goDecade_232 rfl ?_
        obtain ⟨hb_24, hF⟩ := jck_e hF
        refine jh_iast (ci := 6) (k := 26) rfl hB (by decide) rfl rfl hb_24 dX6_goDecade_233 rfl (fun M_23 eM_23 => ?_)
        have hF := jlet_e hF M_23 eM_23
        obtain ⟨x2_13, ex2_13⟩ : ∃ z : Int32, z = z2 + 1 := ⟨_, rfl⟩
        have hF := jlet_e hF x2_13 ex2_13
        refine jr_iinc (v := x2_13) (L' := [(2, .int x2_13), (0, .ref (ja E 8 0))]) 1 dX6_goDecade_234 rfl (by rw [ex2_13]; rfl) (by decide) rfl rfl ?_
        refine jr_goto 202 dX6_goDecade_237 (by decide) ?_
        refine jr_sub [1, 0] rfl ?_
        exact ih x2_13 M_23 hF
      · have hF := jif_p hF c1
        refine jr_iconst (v := 1) dX6_goDecade_227 (by decide) rfl ?_
        refine jr_goto 232 dX6_goDecade_228 (by decide) ?_
        refine jr_iadd dX6_goDecade_232 rfl ?_
        obtain ⟨hb_25, hF⟩ := jck_e hF
        refine jh_iast (ci := 6) (k := 26) rfl hB (by decide) rfl rfl hb_25 dX6_goDecade_233 rfl (fun M_24 eM_24 => ?_)
        have hF := jlet_e hF M_24 eM_24
        obtain ⟨x2_14, ex2_14⟩ : ∃ z : Int32, z = z2 + 1 := ⟨_, rfl⟩
        have hF := jlet_e hF x2_14 ex2_14
        refine jr_iinc (v := x2_14) (L' := [(2, .int x2_14), (0, .ref (ja E 8 0))]) 1 dX6_goDecade_234 rfl (by rw [ex2_14]; rfl) (by decide) rfl rfl ?_
        refine jr_goto 202 dX6_goDecade_237 (by decide) ?_
        refine jr_sub [1, 0] rfl ?_
        exact ih x2_14 M_24 hF
set_option maxHeartbeats 4000000 in
set_option maxRecDepth 100000 in
theorem JF_X6_goDecade {E : jx_E} (hB : jB E 8) {a1 : Int32} {M : jx_M} {r : Unit} {M' : jx_M} (hF : F_X6_goDecade a1 M = some (r, M')) : jC E yX6_goDecade cX6_goDecade 4 none rm_X6_goDecade [.ref (ja E 8 0), .int a1] M (fun x M'' => x = none ∧ M'' = M') := by
  refine jC.ofJ (L := [(0, .ref (ja E 8 0)), (1, .int a1)]) (by decide +kernel) (Nat.le_of_ble_eq_true rfl) rfl ?_
  unfold F_X6_goDecade at hF
  refine jr_iconst (v := 0) dX6_goDecade_0 (by decide) rfl ?_
  refine jr_istore_n (L' := [(2, .int 0), (0, .ref (ja E 8 0)), (1, .int a1)]) dX6_goDecade_1 rfl (by decide) rfl rfl ?_
  refine jr_sub [1, 2, 0] rfl ?_
  refine JL_X6_goDecade_2 hB (fun M_7 hF => ?_) jfu 0 M hF
  refine jr_aload_n 0 dX6_goDecade_81 rfl rfl rfl ?_
  refine jr_iload_n 1 dX6_goDecade_82 rfl rfl rfl ?_
  obtain ⟨r_1, M_8, hc_1, hF⟩ := jbd_e hF
  refine jh_callV0 (o := 8) (as := [.int a1]) (st := []) (JF_X6_wakeAll hB hc_1) cw_X6_210 (iv_X6_wakeAll) ⟨rfl, rfl, by decide, by decide⟩ rfl hB rfl rfl (Nat.le_of_ble_eq_true rfl) dX6_goDecade_83 rfl ?_
  refine jr_aload_n 0 dX6_goDecade_86 rfl rfl rfl ?_
  refine jr_iconst (v := 0) dX6_goDecade_87 (by decide) rfl ?_
  refine pf_X6_214 rfl rfl hB dX6_goDecade_88 ⟨rfl, rfl⟩ rfl (fun M_9 eM_9 => ?_)
  have hF := jlet_e hF M_9 eM_9
  refine jr_iconst (v := 0) dX6_goDecade_91 (by decide) rfl ?_
  refine jr_istore_n (L' := [(2, .int 0), (0, .ref (ja E 8 0)), (1, .int a1)]) dX6_goDecade_92 rfl (by decide) rfl rfl ?_
  refine jr_sub [1, 2, 0] rfl ?_
  refine JL_X6_goDecade_93 hB (fun M_20 hF => ?_) jfu 0 M_9 hF
  refine jr_aload_n 0 dX6_goDecade_184 rfl rfl rfl ?_
  refine jr_dup dX6_goDecade_185 rfl rfl ?_
  refine gf_X6_193 rfl rfl hB dX6_goDecade_186 rfl ?_
  refine jr_aload_n 0 dX6_goDecade_189 rfl rfl rfl ?_
  refine gf_X6_214 rfl rfl hB dX6_goDecade_190 rfl ?_
  obtain ⟨r_5, M_21, hc_5, hF⟩ := jbd_e hF
  refine jh_callS1 (v := .int r_5) (as := [.int (M_20 8 28 0)]) (st := [.int (M_20 8 29 0), .ref (ja E 8 0)]) (JF_X6_bits hB hc_5) cw_X6_220 (iv_X6_bits) ⟨rfl, rfl, by decide, by decide⟩ rfl rfl (Nat.le_of_ble_eq_true rfl) dX6_goDecade_193 rfl ?_
  refine jr_iadd dX6_goDecade_196 rfl ?_
  refine pf_X6_193 rfl rfl hB dX6_goDecade_197 ⟨rfl, rfl⟩ rfl (fun M_22 eM_22 => ?_)
  have hF := jlet_e hF M_22 eM_22
  refine jr_iconst (v := 0) dX6_goDecade_200 (by decide) rfl ?_
  refine jr_istore_n (L' := [(2, .int 0), (0, .ref (ja E 8 0))]) dX6_goDecade_201 rfl (by decide) rfl rfl ?_
  refine jr_sub [1, 0] rfl ?_
  refine JL_X6_goDecade_202 hB (fun M_25 hF => ?_) jfu 0 M_22 hF
  exact jh_vret rfl dX6_goDecade_240 hF
set_option maxHeartbeats 4000000 in
set_option maxRecDepth 100000 in
theorem JL_X6_endDecade_2 {E : jx_E} (hB : jB E 8) {k : jx_M → Option (Unit × jx_M)} {r : Unit} {M' : jx_M} (hk : ∀ (M : jx_M), k M = some (r, M') → jJ E yX6_endDecade cX6_endDecade 2 none rm_X6_endDecade (fun x M'' => x = none ∧ M'' = M') 40 [] [] M) : ∀ (n : Nat) (z1 : Int32) (M : jx_M), L_X6_endDecade_2 k n z1 M = some (r, M') → jJ E yX6_endDecade cX6_endDecade 2 none rm_X6_endDecade (fun x M'' => x = none ∧ M'' = M') 2 [(0, .ref (ja E 8 0)), (1, .int z1)] [] M := by
  intro n
  induction n with
  | zero => intro z1 M hF; exact nomatch (show (none : Option (Unit × jx_M)) = some _ from hF)
  | succ n ih =>
    intro z1 M hF
    rw [L_X6_endDecade_2.eq_2] at hF
    refine jr_iload_n 1 dX6_endDecade_2 rfl rfl rfl ?_
    refine jr_aload_n 0 dX6_endDecade_3 rfl rfl rfl ?_
    refine gf_X6_107 rfl rfl hB dX6_endDecade_4 rfl ?_
    refine jr_icmp_ge 40 dX6_endDecade_7 (by decide) rfl (fun c1 => ?_) (fun c1 => ?_)
    · have hF := jif_p hF c1
      refine jr_sub [] rfl ?_
      exact hk M hF
    · have hF := jif_n hF c1
      refine jr_aload_n 0 dX6_endDecade_10 rfl rfl rfl ?_
      refine gf_X6_55 rfl rfl hB dX6_endDecade_11 rfl ?_
      refine jr_iload_n 1 dX6_endDecade_14 rfl rfl rfl ?_
      refine jr_dup2 dX6_endDecade_15 rfl rfl rfl ?_
      obtain ⟨hb_1, hF⟩ := jck_e hF
      refine jh_iald (ci := 6) (k := 24) rfl hB (by decide) rfl rfl hb_1 dX6_endDecade_16 rfl ?_
      refine jr_aload_n 0 dX6_endDecade_17 rfl rfl rfl ?_
      refine gf_X6_52 rfl rfl hB dX6_endDecade_18 rfl ?_
      refine jr_iload_n 1 dX6_endDecade_21 rfl rfl rfl ?_
      obtain ⟨hb_2, hF⟩ := jck_e hF
      refine jh_iald (ci := 6) (k := 23) rfl hB (by decide) rfl rfl hb_2 dX6_endDecade_22 rfl ?_
      refine jr_iconst (v := 1) dX6_endDecade_23 (by decide) rfl ?_
      refine jr_icmp_ne 31 dX6_endDecade_24 (by decide) rfl (fun c1 => ?_) (fun c1 => ?_)
      · have hF := jif_n hF c1
        refine jr_iconst (v := 0) dX6_endDecade_31 (by decide) rfl ?_
        refine jr_iadd dX6_endDecade_32 rfl ?_
        obtain ⟨hb_3, hF⟩ := jck_e hF
        refine jh_iast (ci := 6) (k := 24) rfl hB (by decide) rfl rfl hb_3 dX6_endDecade_33 rfl (fun M_1 eM_1 => ?_)
        have hF := jlet_e hF M_1 eM_1
        obtain ⟨x1_1, ex1_1⟩ : ∃ z : Int32, z = z1 + 1 := ⟨_, rfl⟩
        have hF := jlet_e hF x1_1 ex1_1
        refine jr_iinc (v := x1_1) (L' := [(1, .int x1_1), (0, .ref (ja E 8 0))]) 1 dX6_endDecade_34 rfl (by rw [ex1_1]; rfl) (by decide) rfl rfl ?_
        refine jr_goto 2 dX6_endDecade_37 (by decide) ?_
        refine jr_sub [1, 0] rfl ?_
        exact ih x1_1 M_1 hF
      · have hF := jif_p hF c1
        refine jr_iconst (v := 1) dX6_endDecade_27 (by decide) rfl ?_
        refine jr_goto 32 dX6_endDecade_28 (by decide) ?_
        refine jr_iadd dX6_endDecade_32 rfl ?_
        obtain ⟨hb_4, hF⟩ := jck_e hF
        refine jh_iast (ci := 6) (k := 24) rfl hB (by decide) rfl rfl hb_4 dX6_endDecade_33 rfl (fun M_2 eM_2 => ?_)
        have hF := jlet_e hF M_2 eM_2
        obtain ⟨x1_2, ex1_2⟩ : ∃ z : Int32, z = z1 + 1 := ⟨_, rfl⟩
        have hF := jlet_e hF x1_2 ex1_2
        refine jr_iinc (v := x1_2) (L' := [(1, .int x1_2), (0, .ref (ja E 8 0))]) 1 dX6_endDecade_34 rfl (by rw [ex1_2]; rfl) (by decide) rfl rfl ?_
        refine jr_goto 2 dX6_endDecade_37 (by decide) ?_
        refine jr_sub [1, 0] rfl ?_
        exact ih x1_2 M_2 hF
set_option maxHeartbeats 4000000 in
set_option maxRecDepth 100000 in
theorem JF_X6_endDecade {E : jx_E} (hB : jB E 8) {M : jx_M} {r : Unit} {M' : jx_M} (hF : F_X6_endDecade  M = some (r, M')) : jC E yX6_endDecade cX6_endDecade 2 none rm_X6_endDecade [.ref (ja E 8 0)] M (fun x M'' => x = none ∧ M'' = M') := by
  refine jC.ofJ (L := [(0, .ref (ja E 8 0))]) (by decide +kernel) (Nat.le_of_ble_eq_true rfl) rfl ?_
  unfold F_X6_endDecade at hF
  refine jr_iconst (v := 0) dX6_endDecade_0 (by decide) rfl ?_
  refine jr_istore_n (L' := [(1, .int 0), (0, .ref (ja E 8 0))]) dX6_endDecade_1 rfl (by decide) rfl rfl ?_
  refine jr_sub [1, 0] rfl ?_
  refine JL_X6_endDecade_2 hB (fun M_3 hF => ?_) jfu 0 M hF
  exact jh_vret rfl dX6_endDecade_40 hF
set_option maxHeartbeats 4000000 in
set_option maxRecDepth 100000 in
theorem JL_X6_goTo_11 {E : jx_E} (hB : jB E 8) {y1 : Int32} {k : jx_M → Option (Unit × jx_M)} {r : Unit} {M' : jx_M} (hk : ∀ (M : jx_M), k M = some (r, M') → jJ E yX6_goTo cX6_goTo 3 none rm_X6_goTo (fun x M'' => x = none ∧ M'' = M') 31 [] [] M) : ∀ (n : Nat) (z2 : Int32) (M : jx_M), L_X6_goTo_11 y1 k n z2 M = some (r, M') → jJ E yX6_goTo cX6_goTo 3 none rm_X6_goTo (fun x M'' => x = none ∧ M'' = M') 11 [(0, .ref (ja E 8 0)), (1, .int y1), (2, .int z2)] [] M := by
  intro n
  induction n with
  | zero => intro z2 M hF; exact nomatch (show (none : Option (Unit × jx_M)) = some _ from hF)
  | succ n ih =>
    intro z2 M hF
    rw [L_X6_goTo_11.eq_2] at hF
    refine jr_iload_n 2 dX6_goTo_11 rfl rfl rfl ?_
    refine jr_iload_n 1 dX6_goTo_12 rfl rfl rfl ?_
    refine jr_icmp_gt 31 dX6_goTo_13 (by decide) rfl (fun c1 => ?_) (fun c1 => ?_)
    · have hF := jif_p hF c1
      refine jr_sub [] rfl ?_
      exact hk M hF
    · have hF := jif_n hF c1
      refine jr_aload_n 0 dX6_goTo_16 rfl rfl rfl ?_
      obtain ⟨r_3, M_3, hc_3, hF⟩ := jbd_e hF
      refine jh_callV0 (o := 8) (as := []) (st := []) (JF_X6_endDecade hB hc_3) cw_X6_229 (iv_X6_endDecade) ⟨rfl, rfl, by decide, by decide⟩ rfl hB rfl rfl (Nat.le_of_ble_eq_true rfl) dX6_goTo_17 rfl ?_
      refine jr_aload_n 0 dX6_goTo_20 rfl rfl rfl ?_
      refine jr_iload_n 2 dX6_goTo_21 rfl rfl rfl ?_
      obtain ⟨r_4, M_4, hc_4, hF⟩ := jbd_e hF
      refine jh_callV0 (o := 8) (as := [.int z2]) (st := []) (JF_X6_goDecade hB hc_4) cw_X6_226 (iv_X6_goDecade) ⟨rfl, rfl, by decide, by decide⟩ rfl hB rfl rfl (Nat.le_of_ble_eq_true rfl) dX6_goTo_22 rfl ?_
      obtain ⟨x2_1, ex2_1⟩ : ∃ z : Int32, z = z2 + 1 := ⟨_, rfl⟩
      have hF := jlet_e hF x2_1 ex2_1
      refine jr_iinc (v := x2_1) (L' := [(2, .int x2_1), (0, .ref (ja E 8 0)), (1, .int y1)]) 2 dX6_goTo_25 rfl (by rw [ex2_1]; rfl) (by decide) rfl rfl ?_
      refine jr_goto 11 dX6_goTo_28 (by decide) ?_
      refine jr_sub [1, 2, 0] rfl ?_
      exact ih x2_1 M_4 hF
set_option maxHeartbeats 4000000 in
set_option maxRecDepth 100000 in
theorem JF_X6_goTo {E : jx_E} (hB : jB E 8) {a1 : Int32} {M : jx_M} {r : Unit} {M' : jx_M} (hF : F_X6_goTo a1 M = some (r, M')) : jC E yX6_goTo cX6_goTo 3 none rm_X6_goTo [.ref (ja E 8 0), .int a1] M (fun x M'' => x = none ∧ M'' = M') := by
  refine jC.ofJ (L := [(0, .ref (ja E 8 0)), (1, .int a1)]) (by decide +kernel) (Nat.le_of_ble_eq_true rfl) rfl ?_
  unfold F_X6_goTo at hF
  refine jr_aload_n 0 dX6_goTo_0 rfl rfl rfl ?_
  obtain ⟨r_1, M_1, hc_1, hF⟩ := jbd_e hF
  refine jh_callV0 (o := 8) (as := []) (st := []) (JF_X6_begin hB hc_1) cw_X6_223 (iv_X6_begin) ⟨rfl, rfl, by decide, by decide⟩ rfl hB rfl rfl (Nat.le_of_ble_eq_true rfl) dX6_goTo_1 rfl ?_
  refine jr_aload_n 0 dX6_goTo_4 rfl rfl rfl ?_
  refine jr_iconst (v := 0) dX6_goTo_5 (by decide) rfl ?_
  obtain ⟨r_2, M_2, hc_2, hF⟩ := jbd_e hF
  refine jh_callV0 (o := 8) (as := [.int 0]) (st := []) (JF_X6_goDecade hB hc_2) cw_X6_226 (iv_X6_goDecade) ⟨rfl, rfl, by decide, by decide⟩ rfl hB rfl rfl (Nat.le_of_ble_eq_true rfl) dX6_goTo_6 rfl ?_
  refine jr_iconst (v := 1) dX6_goTo_9 (by decide) rfl ?_
  refine jr_istore_n (L' := [(2, .int 1), (0, .ref (ja E 8 0)), (1, .int a1)]) dX6_goTo_10 rfl (by decide) rfl rfl ?_
  refine jr_sub [1, 2, 0] rfl ?_
  refine JL_X6_goTo_11 hB (fun M_5 hF => ?_) jfu 1 M_2 hF
  exact jh_vret rfl dX6_goTo_31 hF
set_option maxHeartbeats 4000000 in
set_option maxRecDepth 100000 in
theorem JF_X6_refusedFor {E : jx_E} (hB : jB E 8) {a1 : Int32} {M : jx_M} {r : Int32} {M' : jx_M} (hF : F_X6_refusedFor a1 M = some (r, M')) : jC E yX6_refusedFor cX6_refusedFor 2 (some FieldType.int) rm_X6_refusedFor [.ref (ja E 8 0), .int a1] M (fun x M'' => x = some (.int r) ∧ M'' = M') := by
  refine jC.ofJ (L := [(0, .ref (ja E 8 0)), (1, .int a1)]) (by decide +kernel) (Nat.le_of_ble_eq_true rfl) rfl ?_
  unfold F_X6_refusedFor at hF
  refine jr_iload_n 1 dX6_refusedFor_0 rfl rfl rfl ?_
  obtain ⟨r_1, M_1, hc_1, hF⟩ := jbd_e hF
  refine jh_callS1 (v := .int r_1) (as := [.int a1]) (st := []) (JF_X6_isDecade hB hc_1) cw_X6_188 (iv_X6_isDecade) ⟨rfl, rfl, by decide, by decide⟩ rfl rfl (Nat.le_of_ble_eq_true rfl) dX6_refusedFor_1 rfl ?_
  refine jr_if_ne 12 dX6_refusedFor_4 (by decide) rfl (fun c1 => ?_) (fun c1 => ?_)
  · have hF := jif_n hF c1
    refine jr_aload_n 0 dX6_refusedFor_12 rfl rfl rfl ?_
    refine gf_X6_107 rfl rfl hB dX6_refusedFor_13 rfl ?_
    refine jr_if_ne 24 dX6_refusedFor_16 (by decide) rfl (fun c1 => ?_) (fun c1 => ?_)
    · have hF := jif_n hF c1
      refine jr_iconst (v := 0) dX6_refusedFor_24 (by decide) rfl ?_
      exact jh_iret rfl dX6_refusedFor_25 hF
    · have hF := jif_p hF c1
      refine jr_bipush (v := (-3)) dX6_refusedFor_19 (by decide) rfl ?_
      refine jr_goto 25 dX6_refusedFor_21 (by decide) ?_
      exact jh_iret rfl dX6_refusedFor_25 hF
  · have hF := jif_p hF c1
    refine jr_bipush (v := (-2)) dX6_refusedFor_7 (by decide) rfl ?_
    refine jr_goto 25 dX6_refusedFor_9 (by decide) ?_
    exact jh_iret rfl dX6_refusedFor_25 hF
set_option maxHeartbeats 4000000 in
set_option maxRecDepth 100000 in
theorem JF_X6_guard {E : jx_E} (hB : jB E 8) {a1 : Int32} {a2 : Int32} {M : jx_M} {r : Int32} {M' : jx_M} (hF : F_X6_guard a1 a2 M = some (r, M')) : jC E yX6_guard cX6_guard 3 (some FieldType.int) rm_X6_guard [.ref (ja E 8 0), .int a1, .int a2] M (fun x M'' => x = some (.int r) ∧ M'' = M') := by
  refine jC.ofJ (L := [(0, .ref (ja E 8 0)), (1, .int a1), (2, .int a2)]) (by decide +kernel) (Nat.le_of_ble_eq_true rfl) rfl ?_
  unfold F_X6_guard at hF
  refine jr_aload_n 0 dX6_guard_0 rfl rfl rfl ?_
  refine jr_iload_n 1 dX6_guard_1 rfl rfl rfl ?_
  obtain ⟨r_1, M_1, hc_1, hF⟩ := jbd_e hF
  refine jh_callV1 (v := .int r_1) (o := 8) (as := [.int a1]) (st := []) (JF_X6_noPost hB hc_1) cw_X6_185 (iv_X6_noPost) ⟨rfl, rfl, by decide, by decide⟩ rfl hB rfl rfl (Nat.le_of_ble_eq_true rfl) dX6_guard_2 rfl ?_
  refine jr_if_eq 10 dX6_guard_5 (by decide) rfl (fun c1 => ?_) (fun c1 => ?_)
  · have hF := jif_p hF c1
    refine jr_iload_n 2 dX6_guard_10 rfl rfl rfl ?_
    obtain ⟨r_2, M_2, hc_2, hF⟩ := jbd_e hF
    refine jh_callS1 (v := .int r_2) (as := [.int a2]) (st := []) (JF_X6_isDecade hB hc_2) cw_X6_188 (iv_X6_isDecade) ⟨rfl, rfl, by decide, by decide⟩ rfl rfl (Nat.le_of_ble_eq_true rfl) dX6_guard_11 rfl ?_
    refine jr_if_ne 20 dX6_guard_14 (by decide) rfl (fun c1 => ?_) (fun c1 => ?_)
    · have hF := jif_n hF c1
      refine jr_aload_n 0 dX6_guard_20 rfl rfl rfl ?_
      refine jr_iload_n 2 dX6_guard_21 rfl rfl rfl ?_
      obtain ⟨r_3, M_3, hc_3, hF⟩ := jbd_e hF
      refine jh_callV0 (o := 8) (as := [.int a2]) (st := []) (JF_X6_goTo hB hc_3) cw_X6_232 (iv_X6_goTo) ⟨rfl, rfl, by decide, by decide⟩ rfl hB rfl rfl (Nat.le_of_ble_eq_true rfl) dX6_guard_22 rfl ?_
      refine jr_aload_n 0 dX6_guard_25 rfl rfl rfl ?_
      refine gf_X6_64 rfl rfl hB dX6_guard_26 rfl ?_
      refine jr_iload_n 1 dX6_guard_29 rfl rfl rfl ?_
      obtain ⟨hb_1, hF⟩ := jck_e hF
      refine jh_iald (ci := 6) (k := 27) rfl hB (by decide) rfl rfl hb_1 dX6_guard_30 rfl ?_
      exact jh_iret rfl dX6_guard_31 hF
    · have hF := jif_p hF c1
      refine jr_bipush (v := (-2)) dX6_guard_17 (by decide) rfl ?_
      exact jh_iret rfl dX6_guard_19 hF
  · have hF := jif_n hF c1
    refine jr_iconst (v := (-1)) dX6_guard_8 (by decide) rfl ?_
    exact jh_iret rfl dX6_guard_9 hF
set_option maxHeartbeats 4000000 in
set_option maxRecDepth 100000 in
theorem JF_X6_how {E : jx_E} (hB : jB E 8) {a1 : Int32} {a2 : Int32} {M : jx_M} {r : Int32} {M' : jx_M} (hF : F_X6_how a1 a2 M = some (r, M')) : jC E yX6_how cX6_how 3 (some FieldType.int) rm_X6_how [.ref (ja E 8 0), .int a1, .int a2] M (fun x M'' => x = some (.int r) ∧ M'' = M') := by
  refine jC.ofJ (L := [(0, .ref (ja E 8 0)), (1, .int a1), (2, .int a2)]) (by decide +kernel) (Nat.le_of_ble_eq_true rfl) rfl ?_
  unfold F_X6_how at hF
  refine jr_aload_n 0 dX6_how_0 rfl rfl rfl ?_
  refine jr_iload_n 1 dX6_how_1 rfl rfl rfl ?_
  obtain ⟨r_1, M_1, hc_1, hF⟩ := jbd_e hF
  refine jh_callV1 (v := .int r_1) (o := 8) (as := [.int a1]) (st := []) (JF_X6_noPerson hB hc_1) cw_X6_176 (iv_X6_noPerson) ⟨rfl, rfl, by decide, by decide⟩ rfl hB rfl rfl (Nat.le_of_ble_eq_true rfl) dX6_how_2 rfl ?_
  refine jr_if_eq 10 dX6_how_5 (by decide) rfl (fun c1 => ?_) (fun c1 => ?_)
  · have hF := jif_p hF c1
    refine jr_iload_n 2 dX6_how_10 rfl rfl rfl ?_
    obtain ⟨r_2, M_2, hc_2, hF⟩ := jbd_e hF
    refine jh_callS1 (v := .int r_2) (as := [.int a2]) (st := []) (JF_X6_isDecade hB hc_2) cw_X6_188 (iv_X6_isDecade) ⟨rfl, rfl, by decide, by decide⟩ rfl rfl (Nat.le_of_ble_eq_true rfl) dX6_how_11 rfl ?_
    refine jr_if_ne 20 dX6_how_14 (by decide) rfl (fun c1 => ?_) (fun c1 => ?_)
    · have hF := jif_n hF c1
      refine jr_aload_n 0 dX6_how_20 rfl rfl rfl ?_
      refine jr_iload_n 2 dX6_how_21 rfl rfl rfl ?_
      obtain ⟨r_3, M_3, hc_3, hF⟩ := jbd_e hF
      refine jh_callV0 (o := 8) (as := [.int a2]) (st := []) (JF_X6_goTo hB hc_3) cw_X6_232 (iv_X6_goTo) ⟨rfl, rfl, by decide, by decide⟩ rfl hB rfl rfl (Nat.le_of_ble_eq_true rfl) dX6_how_22 rfl ?_
      refine jr_aload_n 0 dX6_how_25 rfl rfl rfl ?_
      refine gf_X6_52 rfl rfl hB dX6_how_26 rfl ?_
      refine jr_iload_n 1 dX6_how_29 rfl rfl rfl ?_
      obtain ⟨hb_1, hF⟩ := jck_e hF
      refine jh_iald (ci := 6) (k := 23) rfl hB (by decide) rfl rfl hb_1 dX6_how_30 rfl ?_
      exact jh_iret rfl dX6_how_31 hF
    · have hF := jif_p hF c1
      refine jr_bipush (v := (-2)) dX6_how_17 (by decide) rfl ?_
      exact jh_iret rfl dX6_how_19 hF
  · have hF := jif_n hF c1
    refine jr_iconst (v := (-1)) dX6_how_8 (by decide) rfl ?_
    exact jh_iret rfl dX6_how_9 hF
set_option maxHeartbeats 4000000 in
set_option maxRecDepth 100000 in
theorem JF_X6_age {E : jx_E} (hB : jB E 8) {a1 : Int32} {a2 : Int32} {M : jx_M} {r : Int32} {M' : jx_M} (hF : F_X6_age a1 a2 M = some (r, M')) : jC E yX6_age cX6_age 3 (some FieldType.int) rm_X6_age [.ref (ja E 8 0), .int a1, .int a2] M (fun x M'' => x = some (.int r) ∧ M'' = M') := by
  refine jC.ofJ (L := [(0, .ref (ja E 8 0)), (1, .int a1), (2, .int a2)]) (by decide +kernel) (Nat.le_of_ble_eq_true rfl) rfl ?_
  unfold F_X6_age at hF
  refine jr_aload_n 0 dX6_age_0 rfl rfl rfl ?_
  refine jr_iload_n 1 dX6_age_1 rfl rfl rfl ?_
  obtain ⟨r_1, M_1, hc_1, hF⟩ := jbd_e hF
  refine jh_callV1 (v := .int r_1) (o := 8) (as := [.int a1]) (st := []) (JF_X6_noPerson hB hc_1) cw_X6_176 (iv_X6_noPerson) ⟨rfl, rfl, by decide, by decide⟩ rfl hB rfl rfl (Nat.le_of_ble_eq_true rfl) dX6_age_2 rfl ?_
  refine jr_if_eq 10 dX6_age_5 (by decide) rfl (fun c1 => ?_) (fun c1 => ?_)
  · have hF := jif_p hF c1
    refine jr_iload_n 2 dX6_age_10 rfl rfl rfl ?_
    obtain ⟨r_2, M_2, hc_2, hF⟩ := jbd_e hF
    refine jh_callS1 (v := .int r_2) (as := [.int a2]) (st := []) (JF_X6_isDecade hB hc_2) cw_X6_188 (iv_X6_isDecade) ⟨rfl, rfl, by decide, by decide⟩ rfl rfl (Nat.le_of_ble_eq_true rfl) dX6_age_11 rfl ?_
    refine jr_if_ne 20 dX6_age_14 (by decide) rfl (fun c1 => ?_) (fun c1 => ?_)
    · have hF := jif_n hF c1
      refine jr_aload_n 0 dX6_age_20 rfl rfl rfl ?_
      refine jr_iload_n 2 dX6_age_21 rfl rfl rfl ?_
      obtain ⟨r_3, M_3, hc_3, hF⟩ := jbd_e hF
      refine jh_callV0 (o := 8) (as := [.int a2]) (st := []) (JF_X6_goTo hB hc_3) cw_X6_232 (iv_X6_goTo) ⟨rfl, rfl, by decide, by decide⟩ rfl hB rfl rfl (Nat.le_of_ble_eq_true rfl) dX6_age_22 rfl ?_
      refine jr_aload_n 0 dX6_age_25 rfl rfl rfl ?_
      obtain ⟨r_4, M_4, hc_4, hF⟩ := jbd_e hF
      refine jh_callV0 (o := 8) (as := []) (st := []) (JF_X6_endDecade hB hc_4) cw_X6_229 (iv_X6_endDecade) ⟨rfl, rfl, by decide, by decide⟩ rfl hB rfl rfl (Nat.le_of_ble_eq_true rfl) dX6_age_26 rfl ?_
      refine jr_aload_n 0 dX6_age_29 rfl rfl rfl ?_
      refine gf_X6_55 rfl rfl hB dX6_age_30 rfl ?_
      refine jr_iload_n 1 dX6_age_33 rfl rfl rfl ?_
      obtain ⟨hb_1, hF⟩ := jck_e hF
      refine jh_iald (ci := 6) (k := 24) rfl hB (by decide) rfl rfl hb_1 dX6_age_34 rfl ?_
      exact jh_iret rfl dX6_age_35 hF
    · have hF := jif_p hF c1
      refine jr_bipush (v := (-2)) dX6_age_17 (by decide) rfl ?_
      exact jh_iret rfl dX6_age_19 hF
  · have hF := jif_n hF c1
    refine jr_iconst (v := (-1)) dX6_age_8 (by decide) rfl ?_
    exact jh_iret rfl dX6_age_9 hF
set_option maxHeartbeats 4000000 in
set_option maxRecDepth 100000 in
theorem JF_X6_empty {E : jx_E} (hB : jB E 8) {a1 : Int32} {M : jx_M} {r : Int32} {M' : jx_M} (hF : F_X6_empty a1 M = some (r, M')) : jC E yX6_empty cX6_empty 3 (some FieldType.int) rm_X6_empty [.ref (ja E 8 0), .int a1] M (fun x M'' => x = some (.int r) ∧ M'' = M') := by
  refine jC.ofJ (L := [(0, .ref (ja E 8 0)), (1, .int a1)]) (by decide +kernel) (Nat.le_of_ble_eq_true rfl) rfl ?_
  unfold F_X6_empty at hF
  refine jr_aload_n 0 dX6_empty_0 rfl rfl rfl ?_
  refine jr_iload_n 1 dX6_empty_1 rfl rfl rfl ?_
  obtain ⟨r_1, M_1, hc_1, hF⟩ := jbd_e hF
  refine jh_callV1 (v := .int r_1) (o := 8) (as := [.int a1]) (st := []) (JF_X6_refusedFor hB hc_1) cw_X6_235 (iv_X6_refusedFor) ⟨rfl, rfl, by decide, by decide⟩ rfl hB rfl rfl (Nat.le_of_ble_eq_true rfl) dX6_empty_2 rfl ?_
  refine jr_istore_n (L' := [(2, .int r_1), (0, .ref (ja E 8 0)), (1, .int a1)]) dX6_empty_5 rfl (by decide) rfl rfl ?_
  refine jr_iload_n 0 dX6_empty_6 rfl rfl rfl ?_
  refine jr_if_ge 12 dX6_empty_7 (by decide) rfl (fun c1 => ?_) (fun c1 => ?_)
  · have hF := jif_p hF c1
    refine jr_aload_n 1 dX6_empty_12 rfl rfl rfl ?_
    refine jr_iload_n 2 dX6_empty_13 rfl rfl rfl ?_
    obtain ⟨r_2, M_2, hc_2, hF⟩ := jbd_e hF
    refine jh_callV0 (o := 8) (as := [.int a1]) (st := []) (JF_X6_goTo hB hc_2) cw_X6_232 (iv_X6_goTo) ⟨rfl, rfl, by decide, by decide⟩ rfl hB rfl rfl (Nat.le_of_ble_eq_true rfl) dX6_empty_14 rfl ?_
    refine jr_aload_n 1 dX6_empty_17 rfl rfl rfl ?_
    refine gf_X6_214 rfl rfl hB dX6_empty_18 rfl ?_
    exact jh_iret rfl dX6_empty_21 hF
  · have hF := jif_n hF c1
    refine jr_iload_n 0 dX6_empty_10 rfl rfl rfl ?_
    exact jh_iret rfl dX6_empty_11 hF
set_option maxHeartbeats 4000000 in
set_option maxRecDepth 100000 in
theorem JF_X6_empties {E : jx_E} (hB : jB E 8) {a1 : Int32} {M : jx_M} {r : Int32} {M' : jx_M} (hF : F_X6_empties a1 M = some (r, M')) : jC E yX6_empties cX6_empties 3 (some FieldType.int) rm_X6_empties [.ref (ja E 8 0), .int a1] M (fun x M'' => x = some (.int r) ∧ M'' = M') := by
  refine jC.ofJ (L := [(0, .ref (ja E 8 0)), (1, .int a1)]) (by decide +kernel) (Nat.le_of_ble_eq_true rfl) rfl ?_
  unfold F_X6_empties at hF
  refine jr_aload_n 0 dX6_empties_0 rfl rfl rfl ?_
  refine jr_iload_n 1 dX6_empties_1 rfl rfl rfl ?_
  obtain ⟨r_1, M_1, hc_1, hF⟩ := jbd_e hF
  refine jh_callV1 (v := .int r_1) (o := 8) (as := [.int a1]) (st := []) (JF_X6_refusedFor hB hc_1) cw_X6_235 (iv_X6_refusedFor) ⟨rfl, rfl, by decide, by decide⟩ rfl hB rfl rfl (Nat.le_of_ble_eq_true rfl) dX6_empties_2 rfl ?_
  refine jr_istore_n (L' := [(2, .int r_1), (0, .ref (ja E 8 0)), (1, .int a1)]) dX6_empties_5 rfl (by decide) rfl rfl ?_
  refine jr_iload_n 0 dX6_empties_6 rfl rfl rfl ?_
  refine jr_if_ge 12 dX6_empties_7 (by decide) rfl (fun c1 => ?_) (fun c1 => ?_)
  · have hF := jif_p hF c1
    refine jr_aload_n 1 dX6_empties_12 rfl rfl rfl ?_
    refine jr_iload_n 2 dX6_empties_13 rfl rfl rfl ?_
    obtain ⟨r_2, M_2, hc_2, hF⟩ := jbd_e hF
    refine jh_callV0 (o := 8) (as := [.int a1]) (st := []) (JF_X6_goTo hB hc_2) cw_X6_232 (iv_X6_goTo) ⟨rfl, rfl, by decide, by decide⟩ rfl hB rfl rfl (Nat.le_of_ble_eq_true rfl) dX6_empties_14 rfl ?_
    refine jr_aload_n 1 dX6_empties_17 rfl rfl rfl ?_
    refine gf_X6_193 rfl rfl hB dX6_empties_18 rfl ?_
    exact jh_iret rfl dX6_empties_21 hF
  · have hF := jif_n hF c1
    refine jr_iload_n 0 dX6_empties_10 rfl rfl rfl ?_
    exact jh_iret rfl dX6_empties_11 hF
set_option maxHeartbeats 4000000 in
set_option maxRecDepth 100000 in
theorem JL_X6_awake_22 {E : jx_E} (hB : jB E 8) {k : Int32 → jx_M → Option (Int32 × jx_M)} {r : Int32} {M' : jx_M} (hk : ∀ (z3 : Int32) (M : jx_M), k z3 M = some (r, M') → jJ E yX6_awake cX6_awake 5 (some FieldType.int) rm_X6_awake (fun x M'' => x = some (.int r) ∧ M'' = M') 59 [(3, .int z3)] [] M) : ∀ (n : Nat) (z3 : Int32) (z4 : Int32) (M : jx_M), L_X6_awake_22 k n z3 z4 M = some (r, M') → jJ E yX6_awake cX6_awake 5 (some FieldType.int) rm_X6_awake (fun x M'' => x = some (.int r) ∧ M'' = M') 22 [(0, .ref (ja E 8 0)), (3, .int z3), (4, .int z4)] [] M := by
  intro n
  induction n with
  | zero => intro z3 z4 M hF; exact nomatch (show (none : Option (Int32 × jx_M)) = some _ from hF)
  | succ n ih =>
    intro z3 z4 M hF
    rw [L_X6_awake_22.eq_2] at hF
    refine jr_iload 2 dX6_awake_22 rfl rfl ?_
    refine jr_aload_n 0 dX6_awake_24 rfl rfl rfl ?_
    refine gf_X6_107 rfl rfl hB dX6_awake_25 rfl ?_
    refine jr_icmp_ge 59 dX6_awake_28 (by decide) rfl (fun c1 => ?_) (fun c1 => ?_)
    · have hF := jif_p hF c1
      refine jr_sub [1] rfl ?_
      exact hk z3 M hF
    · have hF := jif_n hF c1
      refine jr_iload_n 1 dX6_awake_31 rfl rfl rfl ?_
      refine jr_aload_n 0 dX6_awake_32 rfl rfl rfl ?_
      refine gf_X6_52 rfl rfl hB dX6_awake_33 rfl ?_
      refine jr_iload 2 dX6_awake_36 rfl rfl ?_
      obtain ⟨hb_1, hF⟩ := jck_e hF
      refine jh_iald (ci := 6) (k := 23) rfl hB (by decide) rfl rfl hb_1 dX6_awake_38 rfl ?_
      refine jr_iconst (v := 1) dX6_awake_39 (by decide) rfl ?_
      refine jr_icmp_ne 50 dX6_awake_40 (by decide) rfl (fun c1 => ?_) (fun c1 => ?_)
      · have hF := jif_n hF c1
        refine jr_iconst (v := 0) dX6_awake_50 (by decide) rfl ?_
        refine jr_ior dX6_awake_51 rfl ?_
        refine jr_topi (fun x3_1 ex3_1 => ?_)
        have hF := jlet_e hF x3_1 ex3_1
        refine jr_istore_n (L' := [(3, .int x3_1), (0, .ref (ja E 8 0)), (4, .int z4)]) dX6_awake_52 rfl (by decide) rfl rfl ?_
        obtain ⟨x4_1, ex4_1⟩ : ∃ z : Int32, z = z4 + 1 := ⟨_, rfl⟩
        have hF := jlet_e hF x4_1 ex4_1
        refine jr_iinc (v := x4_1) (L' := [(4, .int x4_1), (3, .int x3_1), (0, .ref (ja E 8 0))]) 2 dX6_awake_53 rfl (by rw [ex4_1]; rfl) (by decide) rfl rfl ?_
        refine jr_goto 22 dX6_awake_56 (by decide) ?_
        refine jr_sub [2, 1, 0] rfl ?_
        exact ih x3_1 x4_1 M hF
      · have hF := jif_p hF c1
        refine jr_iconst (v := 1) dX6_awake_43 (by decide) rfl ?_
        refine jr_iload 2 dX6_awake_44 rfl rfl ?_
        refine jr_ishl dX6_awake_46 rfl ?_
        refine jr_goto 51 dX6_awake_47 (by decide) ?_
        refine jr_ior dX6_awake_51 rfl ?_
        refine jr_topi (fun x3_2 ex3_2 => ?_)
        have hF := jlet_e hF x3_2 ex3_2
        refine jr_istore_n (L' := [(3, .int x3_2), (0, .ref (ja E 8 0)), (4, .int z4)]) dX6_awake_52 rfl (by decide) rfl rfl ?_
        obtain ⟨x4_2, ex4_2⟩ : ∃ z : Int32, z = z4 + 1 := ⟨_, rfl⟩
        have hF := jlet_e hF x4_2 ex4_2
        refine jr_iinc (v := x4_2) (L' := [(4, .int x4_2), (3, .int x3_2), (0, .ref (ja E 8 0))]) 2 dX6_awake_53 rfl (by rw [ex4_2]; rfl) (by decide) rfl rfl ?_
        refine jr_goto 22 dX6_awake_56 (by decide) ?_
        refine jr_sub [2, 1, 0] rfl ?_
        exact ih x3_2 x4_2 M hF
set_option maxHeartbeats 4000000 in
set_option maxRecDepth 100000 in
theorem JF_X6_awake {E : jx_E} (hB : jB E 8) {a1 : Int32} {M : jx_M} {r : Int32} {M' : jx_M} (hF : F_X6_awake a1 M = some (r, M')) : jC E yX6_awake cX6_awake 5 (some FieldType.int) rm_X6_awake [.ref (ja E 8 0), .int a1] M (fun x M'' => x = some (.int r) ∧ M'' = M') := by
  refine jC.ofJ (L := [(0, .ref (ja E 8 0)), (1, .int a1)]) (by decide +kernel) (Nat.le_of_ble_eq_true rfl) rfl ?_
  unfold F_X6_awake at hF
  refine jr_aload_n 0 dX6_awake_0 rfl rfl rfl ?_
  refine jr_iload_n 1 dX6_awake_1 rfl rfl rfl ?_
  obtain ⟨r_1, M_1, hc_1, hF⟩ := jbd_e hF
  refine jh_callV1 (v := .int r_1) (o := 8) (as := [.int a1]) (st := []) (JF_X6_refusedFor hB hc_1) cw_X6_235 (iv_X6_refusedFor) ⟨rfl, rfl, by decide, by decide⟩ rfl hB rfl rfl (Nat.le_of_ble_eq_true rfl) dX6_awake_2 rfl ?_
  refine jr_istore_n (L' := [(2, .int r_1), (0, .ref (ja E 8 0)), (1, .int a1)]) dX6_awake_5 rfl (by decide) rfl rfl ?_
  refine jr_iload_n 0 dX6_awake_6 rfl rfl rfl ?_
  refine jr_if_ge 12 dX6_awake_7 (by decide) rfl (fun c1 => ?_) (fun c1 => ?_)
  · have hF := jif_p hF c1
    refine jr_aload_n 1 dX6_awake_12 rfl rfl rfl ?_
    refine jr_iload_n 2 dX6_awake_13 rfl rfl rfl ?_
    obtain ⟨r_2, M_2, hc_2, hF⟩ := jbd_e hF
    refine jh_callV0 (o := 8) (as := [.int a1]) (st := []) (JF_X6_goTo hB hc_2) cw_X6_232 (iv_X6_goTo) ⟨rfl, rfl, by decide, by decide⟩ rfl hB rfl rfl (Nat.le_of_ble_eq_true rfl) dX6_awake_14 rfl ?_
    refine jr_iconst (v := 0) dX6_awake_17 (by decide) rfl ?_
    refine jr_istore_n (L' := [(3, .int 0), (2, .int r_1), (0, .ref (ja E 8 0)), (1, .int a1)]) dX6_awake_18 rfl (by decide) rfl rfl ?_
    refine jr_iconst (v := 0) dX6_awake_19 (by decide) rfl ?_
    refine jr_istore (L' := [(4, .int 0), (3, .int 0), (2, .int r_1), (0, .ref (ja E 8 0)), (1, .int a1)]) dX6_awake_20 (by decide) rfl rfl ?_
    refine jr_sub [3, 1, 0] rfl ?_
    refine JL_X6_awake_22 hB (fun x3_3 M_3 hF => ?_) jfu 0 0 M_2 hF
    refine jr_iload_n 0 dX6_awake_59 rfl rfl rfl ?_
    exact jh_iret rfl dX6_awake_60 hF
  · have hF := jif_n hF c1
    refine jr_iload_n 0 dX6_awake_10 rfl rfl rfl ?_
    exact jh_iret rfl dX6_awake_11 hF
set_option maxHeartbeats 4000000 in
set_option maxRecDepth 100000 in
theorem JF_X6_slept {E : jx_E} (hB : jB E 8) {a1 : Int32} {a2 : Int32} {M : jx_M} {r : Int32} {M' : jx_M} (hF : F_X6_slept a1 a2 M = some (r, M')) : jC E yX6_slept cX6_slept 3 (some FieldType.int) rm_X6_slept [.ref (ja E 8 0), .int a1, .int a2] M (fun x M'' => x = some (.int r) ∧ M'' = M') := by
  refine jC.ofJ (L := [(0, .ref (ja E 8 0)), (1, .int a1), (2, .int a2)]) (by decide +kernel) (Nat.le_of_ble_eq_true rfl) rfl ?_
  unfold F_X6_slept at hF
  refine jr_aload_n 0 dX6_slept_0 rfl rfl rfl ?_
  refine jr_iload_n 1 dX6_slept_1 rfl rfl rfl ?_
  obtain ⟨r_1, M_1, hc_1, hF⟩ := jbd_e hF
  refine jh_callV1 (v := .int r_1) (o := 8) (as := [.int a1]) (st := []) (JF_X6_noPerson hB hc_1) cw_X6_176 (iv_X6_noPerson) ⟨rfl, rfl, by decide, by decide⟩ rfl hB rfl rfl (Nat.le_of_ble_eq_true rfl) dX6_slept_2 rfl ?_
  refine jr_if_eq 10 dX6_slept_5 (by decide) rfl (fun c1 => ?_) (fun c1 => ?_)
  · have hF := jif_p hF c1
    refine jr_iload_n 2 dX6_slept_10 rfl rfl rfl ?_
    obtain ⟨r_2, M_2, hc_2, hF⟩ := jbd_e hF
    refine jh_callS1 (v := .int r_2) (as := [.int a2]) (st := []) (JF_X6_isDecade hB hc_2) cw_X6_188 (iv_X6_isDecade) ⟨rfl, rfl, by decide, by decide⟩ rfl rfl (Nat.le_of_ble_eq_true rfl) dX6_slept_11 rfl ?_
    refine jr_if_ne 20 dX6_slept_14 (by decide) rfl (fun c1 => ?_) (fun c1 => ?_)
    · have hF := jif_n hF c1
      refine jr_aload_n 0 dX6_slept_20 rfl rfl rfl ?_
      refine jr_iload_n 2 dX6_slept_21 rfl rfl rfl ?_
      obtain ⟨r_3, M_3, hc_3, hF⟩ := jbd_e hF
      refine jh_callV0 (o := 8) (as := [.int a2]) (st := []) (JF_X6_goTo hB hc_3) cw_X6_232 (iv_X6_goTo) ⟨rfl, rfl, by decide, by decide⟩ rfl hB rfl rfl (Nat.le_of_ble_eq_true rfl) dX6_slept_22 rfl ?_
      refine jr_aload_n 0 dX6_slept_25 rfl rfl rfl ?_
      refine gf_X6_61 rfl rfl hB dX6_slept_26 rfl ?_
      refine jr_iload_n 1 dX6_slept_29 rfl rfl rfl ?_
      obtain ⟨hb_1, hF⟩ := jck_e hF
      refine jh_iald (ci := 6) (k := 26) rfl hB (by decide) rfl rfl hb_1 dX6_slept_30 rfl ?_
      exact jh_iret rfl dX6_slept_31 hF
    · have hF := jif_p hF c1
      refine jr_bipush (v := (-2)) dX6_slept_17 (by decide) rfl ?_
      exact jh_iret rfl dX6_slept_19 hF
  · have hF := jif_n hF c1
    refine jr_iconst (v := (-1)) dX6_slept_8 (by decide) rfl ?_
    exact jh_iret rfl dX6_slept_9 hF
set_option maxHeartbeats 4000000 in
set_option maxRecDepth 100000 in
theorem JF_X6_noneEmpty {E : jx_E} (hB : jB E 8) {a1 : Int32} {M : jx_M} {r : Int32} {M' : jx_M} (hF : F_X6_noneEmpty a1 M = some (r, M')) : jC E yX6_noneEmpty cX6_noneEmpty 2 (some FieldType.boolean) rm_X6_noneEmpty [.ref (ja E 8 0), .int a1] M (fun x M'' => x = some (.int r) ∧ M'' = M') := by
  refine jC.ofJ (L := [(0, .ref (ja E 8 0)), (1, .int a1)]) (by decide +kernel) (Nat.le_of_ble_eq_true rfl) rfl ?_
  unfold F_X6_noneEmpty at hF
  refine jr_aload_n 0 dX6_noneEmpty_0 rfl rfl rfl ?_
  refine jr_iload_n 1 dX6_noneEmpty_1 rfl rfl rfl ?_
  obtain ⟨r_1, M_1, hc_1, hF⟩ := jbd_e hF
  refine jh_callV0 (o := 8) (as := [.int a1]) (st := []) (JF_X6_goTo hB hc_1) cw_X6_232 (iv_X6_goTo) ⟨rfl, rfl, by decide, by decide⟩ rfl hB rfl rfl (Nat.le_of_ble_eq_true rfl) dX6_noneEmpty_2 rfl ?_
  refine jr_aload_n 0 dX6_noneEmpty_5 rfl rfl rfl ?_
  refine gf_X6_193 rfl rfl hB dX6_noneEmpty_6 rfl ?_
  refine jr_if_ne 16 dX6_noneEmpty_9 (by decide) rfl (fun c1 => ?_) (fun c1 => ?_)
  · have hF := jif_n hF c1
    refine jr_iconst (v := 0) dX6_noneEmpty_16 (by decide) rfl ?_
    exact jh_zret rfl (Or.inl rfl) dX6_noneEmpty_17 hF
  · have hF := jif_p hF c1
    refine jr_iconst (v := 1) dX6_noneEmpty_12 (by decide) rfl ?_
    refine jr_goto 17 dX6_noneEmpty_13 (by decide) ?_
    exact jh_zret rfl (Or.inr rfl) dX6_noneEmpty_17 hF
set_option maxHeartbeats 4000000 in
set_option maxRecDepth 100000 in
theorem JL_X6_fewest_24 {E : jx_E} (hB : jB E 8) {y1 : Int32} {y3 : Int32} {k : Int32 → jx_M → Option (Int32 × jx_M)} {r : Int32} {M' : jx_M} (hk : ∀ (z4 : Int32) (M : jx_M), k z4 M = some (r, M') → jJ E yX6_fewest cX6_fewest 6 (some FieldType.int) rm_X6_fewest (fun x M'' => x = some (.int r) ∧ M'' = M') 87 [(0, .ref (ja E 8 0)), (3, .int y3), (4, .int z4)] [] M) : ∀ (n : Nat) (z4 : Int32) (z5 : Int32) (M : jx_M), L_X6_fewest_24 y1 y3 k n z4 z5 M = some (r, M') → jJ E yX6_fewest cX6_fewest 6 (some FieldType.int) rm_X6_fewest (fun x M'' => x = some (.int r) ∧ M'' = M') 24 [(0, .ref (ja E 8 0)), (1, .int y1), (3, .int y3), (4, .int z4), (5, .int z5)] [] M := by
  intro n
  induction n with
  | zero => intro z4 z5 M hF; exact nomatch (show (none : Option (Int32 × jx_M)) = some _ from hF)
  | succ n ih =>
    intro z4 z5 M hF
    rw [L_X6_fewest_24.eq_2] at hF
    refine jr_iload 4 dX6_fewest_24 rfl rfl ?_
    refine jr_aload_n 0 dX6_fewest_26 rfl rfl rfl ?_
    obtain ⟨r_2, M_2, hc_2, hF⟩ := jbd_e hF
    refine jh_callV1 (v := .int r_2) (o := 8) (as := []) (st := [.int z5]) (JF_X6_all hB hc_2) cw_X6_206 (iv_X6_all) ⟨rfl, rfl, by decide, by decide⟩ rfl hB rfl rfl (Nat.le_of_ble_eq_true rfl) dX6_fewest_27 rfl ?_
    refine jr_icmp_gt 87 dX6_fewest_30 (by decide) rfl (fun c1 => ?_) (fun c1 => ?_)
    · have hF := jif_p hF c1
      refine jr_sub [0, 2, 3] rfl ?_
      exact hk z4 M_2 hF
    · have hF := jif_n hF c1
      refine jr_iload 3 dX6_fewest_33 rfl rfl ?_
      refine jr_if_lt 51 dX6_fewest_35 (by decide) rfl (fun c1 => ?_) (fun c1 => ?_)
      · have hF := jif_p hF c1
        refine jr_aload_n 0 dX6_fewest_51 rfl rfl rfl ?_
        refine jr_aload_n 0 dX6_fewest_52 rfl rfl rfl ?_
        obtain ⟨r_3, M_3, hc_3, hF⟩ := jbd_e hF
        refine jh_callV1 (v := .int r_3) (o := 8) (as := []) (st := [.ref (ja E 8 0)]) (JF_X6_all hB hc_3) cw_X6_206 (iv_X6_all) ⟨rfl, rfl, by decide, by decide⟩ rfl hB rfl rfl (Nat.le_of_ble_eq_true rfl) dX6_fewest_53 rfl ?_
        refine jr_iload 4 dX6_fewest_56 rfl rfl ?_
        refine jr_iconst (v := (-1)) dX6_fewest_58 (by decide) rfl ?_
        refine jr_ixor dX6_fewest_59 rfl ?_
        refine jr_iand dX6_fewest_60 rfl ?_
        refine pf_X6_164 rfl rfl hB dX6_fewest_61 ⟨rfl, rfl⟩ rfl (fun M_4 eM_4 => ?_)
        have hF := jlet_e hF M_4 eM_4
        refine jr_aload_n 0 dX6_fewest_64 rfl rfl rfl ?_
        refine jr_iload_n 1 dX6_fewest_65 rfl rfl rfl ?_
        obtain ⟨r_4, M_5, hc_4, hF⟩ := jbd_e hF
        refine jh_callV1 (v := .int r_4) (o := 8) (as := [.int y1]) (st := []) (JF_X6_noneEmpty hB hc_4) cw_X6_238 (iv_X6_noneEmpty) ⟨rfl, rfl, by decide, by decide⟩ rfl hB rfl rfl (Nat.le_of_ble_eq_true rfl) dX6_fewest_66 rfl ?_
        refine jr_if_eq 77 dX6_fewest_69 (by decide) rfl (fun c1 => ?_) (fun c1 => ?_)
        · have hF := jif_p hF c1
          refine jr_iload 3 dX6_fewest_77 rfl rfl ?_
          refine jr_istore (L' := [(4, .int z4), (0, .ref (ja E 8 0)), (1, .int y1), (3, .int y3), (5, .int z5)]) dX6_fewest_79 (by decide) rfl rfl ?_
          obtain ⟨x5_1, ex5_1⟩ : ∃ z : Int32, z = z5 + 1 := ⟨_, rfl⟩
          have hF := jlet_e hF x5_1 ex5_1
          refine jr_iinc (v := x5_1) (L' := [(5, .int x5_1), (4, .int z4), (0, .ref (ja E 8 0)), (1, .int y1), (3, .int y3)]) 4 dX6_fewest_81 rfl (by rw [ex5_1]; rfl) (by decide) rfl rfl ?_
          refine jr_goto 24 dX6_fewest_84 (by decide) ?_
          refine jr_sub [2, 3, 4, 1, 0] rfl ?_
          exact ih z4 x5_1 M_5 hF
        · have hF := jif_n hF c1
          refine jr_iload 4 dX6_fewest_72 rfl rfl ?_
          refine jr_goto 79 dX6_fewest_74 (by decide) ?_
          refine jr_istore (L' := [(4, .int z5), (0, .ref (ja E 8 0)), (1, .int y1), (3, .int y3), (5, .int z5)]) dX6_fewest_79 (by decide) rfl rfl ?_
          obtain ⟨x5_2, ex5_2⟩ : ∃ z : Int32, z = z5 + 1 := ⟨_, rfl⟩
          have hF := jlet_e hF x5_2 ex5_2
          refine jr_iinc (v := x5_2) (L' := [(5, .int x5_2), (4, .int z5), (0, .ref (ja E 8 0)), (1, .int y1), (3, .int y3)]) 4 dX6_fewest_81 rfl (by rw [ex5_2]; rfl) (by decide) rfl rfl ?_
          refine jr_goto 24 dX6_fewest_84 (by decide) ?_
          refine jr_sub [2, 3, 4, 1, 0] rfl ?_
          exact ih z5 x5_2 M_5 hF
      · have hF := jif_n hF c1
        refine jr_iload 4 dX6_fewest_38 rfl rfl ?_
        obtain ⟨r_5, M_6, hc_5, hF⟩ := jbd_e hF
        refine jh_callS1 (v := .int r_5) (as := [.int z5]) (st := []) (JF_X6_bits hB hc_5) cw_X6_220 (iv_X6_bits) ⟨rfl, rfl, by decide, by decide⟩ rfl rfl (Nat.le_of_ble_eq_true rfl) dX6_fewest_40 rfl ?_
        refine jr_iload 3 dX6_fewest_43 rfl rfl ?_
        obtain ⟨r_6, M_7, hc_6, hF⟩ := jbd_e hF
        refine jh_callS1 (v := .int r_6) (as := [.int z4]) (st := [.int r_5]) (JF_X6_bits hB hc_6) cw_X6_220 (iv_X6_bits) ⟨rfl, rfl, by decide, by decide⟩ rfl rfl (Nat.le_of_ble_eq_true rfl) dX6_fewest_45 rfl ?_
        refine jr_icmp_ge 81 dX6_fewest_48 (by decide) rfl (fun c1 => ?_) (fun c1 => ?_)
        · have hF := jif_p hF c1
          obtain ⟨x5_3, ex5_3⟩ : ∃ z : Int32, z = z5 + 1 := ⟨_, rfl⟩
          have hF := jlet_e hF x5_3 ex5_3
          refine jr_iinc (v := x5_3) (L' := [(5, .int x5_3), (0, .ref (ja E 8 0)), (1, .int y1), (3, .int y3), (4, .int z4)]) 4 dX6_fewest_81 rfl (by rw [ex5_3]; rfl) (by decide) rfl rfl ?_
          refine jr_goto 24 dX6_fewest_84 (by decide) ?_
          refine jr_sub [1, 2, 3, 4, 0] rfl ?_
          exact ih z4 x5_3 M_7 hF
        · have hF := jif_n hF c1
          refine jr_aload_n 0 dX6_fewest_51 rfl rfl rfl ?_
          refine jr_aload_n 0 dX6_fewest_52 rfl rfl rfl ?_
          obtain ⟨r_7, M_8, hc_7, hF⟩ := jbd_e hF
          refine jh_callV1 (v := .int r_7) (o := 8) (as := []) (st := [.ref (ja E 8 0)]) (JF_X6_all hB hc_7) cw_X6_206 (iv_X6_all) ⟨rfl, rfl, by decide, by decide⟩ rfl hB rfl rfl (Nat.le_of_ble_eq_true rfl) dX6_fewest_53 rfl ?_
          refine jr_iload 4 dX6_fewest_56 rfl rfl ?_
          refine jr_iconst (v := (-1)) dX6_fewest_58 (by decide) rfl ?_
          refine jr_ixor dX6_fewest_59 rfl ?_
          refine jr_iand dX6_fewest_60 rfl ?_
          refine pf_X6_164 rfl rfl hB dX6_fewest_61 ⟨rfl, rfl⟩ rfl (fun M_9 eM_9 => ?_)
          have hF := jlet_e hF M_9 eM_9
          refine jr_aload_n 0 dX6_fewest_64 rfl rfl rfl ?_
          refine jr_iload_n 1 dX6_fewest_65 rfl rfl rfl ?_
          obtain ⟨r_8, M_10, hc_8, hF⟩ := jbd_e hF
          refine jh_callV1 (v := .int r_8) (o := 8) (as := [.int y1]) (st := []) (JF_X6_noneEmpty hB hc_8) cw_X6_238 (iv_X6_noneEmpty) ⟨rfl, rfl, by decide, by decide⟩ rfl hB rfl rfl (Nat.le_of_ble_eq_true rfl) dX6_fewest_66 rfl ?_
          refine jr_if_eq 77 dX6_fewest_69 (by decide) rfl (fun c1 => ?_) (fun c1 => ?_)
          · have hF := jif_p hF c1
            refine jr_iload 3 dX6_fewest_77 rfl rfl ?_
            refine jr_istore (L' := [(4, .int z4), (0, .ref (ja E 8 0)), (1, .int y1), (3, .int y3), (5, .int z5)]) dX6_fewest_79 (by decide) rfl rfl ?_
            obtain ⟨x5_4, ex5_4⟩ : ∃ z : Int32, z = z5 + 1 := ⟨_, rfl⟩
            have hF := jlet_e hF x5_4 ex5_4
            refine jr_iinc (v := x5_4) (L' := [(5, .int x5_4), (4, .int z4), (0, .ref (ja E 8 0)), (1, .int y1), (3, .int y3)]) 4 dX6_fewest_81 rfl (by rw [ex5_4]; rfl) (by decide) rfl rfl ?_
            refine jr_goto 24 dX6_fewest_84 (by decide) ?_
            refine jr_sub [2, 3, 4, 1, 0] rfl ?_
            exact ih z4 x5_4 M_10 hF
          · have hF := jif_n hF c1
            refine jr_iload 4 dX6_fewest_72 rfl rfl ?_
            refine jr_goto 79 dX6_fewest_74 (by decide) ?_
            refine jr_istore (L' := [(4, .int z5), (0, .ref (ja E 8 0)), (1, .int y1), (3, .int y3), (5, .int z5)]) dX6_fewest_79 (by decide) rfl rfl ?_
            obtain ⟨x5_5, ex5_5⟩ : ∃ z : Int32, z = z5 + 1 := ⟨_, rfl⟩
            have hF := jlet_e hF x5_5 ex5_5
            refine jr_iinc (v := x5_5) (L' := [(5, .int x5_5), (4, .int z5), (0, .ref (ja E 8 0)), (1, .int y1), (3, .int y3)]) 4 dX6_fewest_81 rfl (by rw [ex5_5]; rfl) (by decide) rfl rfl ?_
            refine jr_goto 24 dX6_fewest_84 (by decide) ?_
            refine jr_sub [2, 3, 4, 1, 0] rfl ?_
            exact ih z5 x5_5 M_10 hF
set_option maxHeartbeats 4000000 in
set_option maxRecDepth 100000 in
theorem JF_X6_fewest {E : jx_E} (hB : jB E 8) {a1 : Int32} {M : jx_M} {r : Int32} {M' : jx_M} (hF : F_X6_fewest a1 M = some (r, M')) : jC E yX6_fewest cX6_fewest 6 (some FieldType.int) rm_X6_fewest [.ref (ja E 8 0), .int a1] M (fun x M'' => x = some (.int r) ∧ M'' = M') := by
  refine jC.ofJ (L := [(0, .ref (ja E 8 0)), (1, .int a1)]) (by decide +kernel) (Nat.le_of_ble_eq_true rfl) rfl ?_
  unfold F_X6_fewest at hF
  refine jr_aload_n 0 dX6_fewest_0 rfl rfl rfl ?_
  refine jr_iload_n 1 dX6_fewest_1 rfl rfl rfl ?_
  obtain ⟨r_1, M_1, hc_1, hF⟩ := jbd_e hF
  refine jh_callV1 (v := .int r_1) (o := 8) (as := [.int a1]) (st := []) (JF_X6_refusedFor hB hc_1) cw_X6_235 (iv_X6_refusedFor) ⟨rfl, rfl, by decide, by decide⟩ rfl hB rfl rfl (Nat.le_of_ble_eq_true rfl) dX6_fewest_2 rfl ?_
  refine jr_istore_n (L' := [(2, .int r_1), (0, .ref (ja E 8 0)), (1, .int a1)]) dX6_fewest_5 rfl (by decide) rfl rfl ?_
  refine jr_iload_n 0 dX6_fewest_6 rfl rfl rfl ?_
  refine jr_if_ge 12 dX6_fewest_7 (by decide) rfl (fun c1 => ?_) (fun c1 => ?_)
  · have hF := jif_p hF c1
    refine jr_aload_n 1 dX6_fewest_12 rfl rfl rfl ?_
    refine gf_X6_164 rfl rfl hB dX6_fewest_13 rfl ?_
    refine jr_topi (fun x3_1 ex3_1 => ?_)
    have hF := jlet_e hF x3_1 ex3_1
    refine jr_istore_n (L' := [(3, .int x3_1), (2, .int r_1), (0, .ref (ja E 8 0)), (1, .int a1)]) dX6_fewest_16 rfl (by decide) rfl rfl ?_
    refine jr_bipush (v := (-9)) dX6_fewest_17 (by decide) rfl ?_
    refine jr_istore (L' := [(4, .int (-9)), (3, .int x3_1), (2, .int r_1), (0, .ref (ja E 8 0)), (1, .int a1)]) dX6_fewest_19 (by decide) rfl rfl ?_
    refine jr_iconst (v := 0) dX6_fewest_21 (by decide) rfl ?_
    refine jr_istore (L' := [(5, .int 0), (4, .int (-9)), (3, .int x3_1), (2, .int r_1), (0, .ref (ja E 8 0)), (1, .int a1)]) dX6_fewest_22 (by decide) rfl rfl ?_
    refine jr_sub [4, 5, 2, 1, 0] rfl ?_
    refine JL_X6_fewest_24 hB (fun x4_1 M_11 hF => ?_) jfu (-9) 0 M_1 hF
    refine jr_aload_n 0 dX6_fewest_87 rfl rfl rfl ?_
    refine jr_iload_n 1 dX6_fewest_88 rfl rfl rfl ?_
    refine pf_X6_164 rfl rfl hB dX6_fewest_89 ⟨rfl, rfl⟩ rfl (fun M_12 eM_12 => ?_)
    have hF := jlet_e hF M_12 eM_12
    refine jr_iload 2 dX6_fewest_92 rfl rfl ?_
    exact jh_iret rfl dX6_fewest_94 hF
  · have hF := jif_n hF c1
    refine jr_iload_n 0 dX6_fewest_10 rfl rfl rfl ?_
    exact jh_iret rfl dX6_fewest_11 hF
set_option maxHeartbeats 4000000 in
set_option maxRecDepth 100000 in
theorem JF_X6_allEmpties {E : jx_E} (hB : jB E 8) {M : jx_M} {r : Int32} {M' : jx_M} (hF : F_X6_allEmpties  M = some (r, M')) : jC E yX6_allEmpties cX6_allEmpties 1 (some FieldType.int) rm_X6_allEmpties [.ref (ja E 8 0)] M (fun x M'' => x = some (.int r) ∧ M'' = M') := by
  refine jC.ofJ (L := [(0, .ref (ja E 8 0))]) (by decide +kernel) (Nat.le_of_ble_eq_true rfl) rfl ?_
  unfold F_X6_allEmpties at hF
  refine jr_aload_n 0 dX6_allEmpties_0 rfl rfl rfl ?_
  refine jr_bipush (v := 39) dX6_allEmpties_1 (by decide) rfl ?_
  obtain ⟨r_1, M_1, hc_1, hF⟩ := jbd_e hF
  refine jh_callV0 (o := 8) (as := [.int 39]) (st := []) (JF_X6_goTo hB hc_1) cw_X6_232 (iv_X6_goTo) ⟨rfl, rfl, by decide, by decide⟩ rfl hB rfl rfl (Nat.le_of_ble_eq_true rfl) dX6_allEmpties_3 rfl ?_
  refine jr_aload_n 0 dX6_allEmpties_6 rfl rfl rfl ?_
  refine gf_X6_193 rfl rfl hB dX6_allEmpties_7 rfl ?_
  exact jh_iret rfl dX6_allEmpties_10 hF
set_option maxHeartbeats 4000000 in
set_option maxRecDepth 100000 in
theorem JL_X6_help_52 {E : jx_E} (hB : jB E 8) {y1 : Int32} {y4 : Int32} {k : Int32 → Int32 → jx_M → Option (Int32 × jx_M)} {r : Int32} {M' : jx_M} (hk : ∀ (z2 : Int32) (z3 : Int32) (M : jx_M), k z2 z3 M = some (r, M') → jJ E yX6_help cX6_help 7 (some FieldType.int) rm_X6_help (fun x M'' => x = some (.int r) ∧ M'' = M') 181 [(0, .ref (ja E 8 0)), (1, .int y1), (2, .int z2), (3, .int z3)] [] M) : ∀ (n : Nat) (z2 : Int32) (z3 : Int32) (z5 : Int32) (M : jx_M), L_X6_help_52 y1 y4 k n z2 z3 z5 M = some (r, M') → jJ E yX6_help cX6_help 7 (some FieldType.int) rm_X6_help (fun x M'' => x = some (.int r) ∧ M'' = M') 52 [(0, .ref (ja E 8 0)), (1, .int y1), (2, .int z2), (3, .int z3), (4, .int y4), (5, .int z5)] [] M := by
  intro n
  induction n with
  | zero => intro z2 z3 z5 M hF; exact nomatch (show (none : Option (Int32 × jx_M)) = some _ from hF)
  | succ n ih =>
    intro z2 z3 z5 M hF
    rw [L_X6_help_52.eq_2] at hF
    refine jr_iload 5 dX6_help_52 rfl rfl ?_
    refine jr_aload_n 0 dX6_help_54 rfl rfl rfl ?_
    refine gf_X6_114 rfl rfl hB dX6_help_55 rfl ?_
    refine jr_aload_n 0 dX6_help_58 rfl rfl rfl ?_
    refine gf_X6_107 rfl rfl hB dX6_help_59 rfl ?_
    refine jr_imul dX6_help_62 rfl ?_
    refine jr_bipush (v := 40) dX6_help_63 (by decide) rfl ?_
    refine jr_imul dX6_help_65 rfl ?_
    refine jr_icmp_ge 181 dX6_help_66 (by decide) rfl (fun c1 => ?_) (fun c1 => ?_)
    · have hF := jif_p hF c1
      refine jr_sub [0, 1, 2, 3] rfl ?_
      exact hk z2 z3 M hF
    · have hF := jif_n hF c1
      refine jr_aload_n 0 dX6_help_69 rfl rfl rfl ?_
      refine gf_X6_43 rfl rfl hB dX6_help_70 rfl ?_
      refine jr_iload 4 dX6_help_73 rfl rfl ?_
      refine jr_iload 5 dX6_help_75 rfl rfl ?_
      refine jr_bipush (v := 40) dX6_help_77 (by decide) rfl ?_
      refine jr_idiv dX6_help_79 (by decide) rfl ?_
      refine jr_aload_n 0 dX6_help_80 rfl rfl rfl ?_
      refine gf_X6_107 rfl rfl hB dX6_help_81 rfl ?_
      obtain ⟨hz_1, hF⟩ := jck_e hF
      refine jr_idiv dX6_help_84 (by simpa using hz_1) rfl ?_
      obtain ⟨hb_1, hF⟩ := jck_e hF
      refine jh_iast (ci := 6) (k := 20) rfl hB (by decide) rfl rfl hb_1 dX6_help_85 rfl (fun M_4 eM_4 => ?_)
      have hF := jlet_e hF M_4 eM_4
      refine jr_aload_n 0 dX6_help_86 rfl rfl rfl ?_
      refine gf_X6_46 rfl rfl hB dX6_help_87 rfl ?_
      refine jr_iload 4 dX6_help_90 rfl rfl ?_
      refine jr_iload 5 dX6_help_92 rfl rfl ?_
      refine jr_bipush (v := 40) dX6_help_94 (by decide) rfl ?_
      refine jr_idiv dX6_help_96 (by decide) rfl ?_
      refine jr_aload_n 0 dX6_help_97 rfl rfl rfl ?_
      refine gf_X6_107 rfl rfl hB dX6_help_98 rfl ?_
      obtain ⟨hz_2, hF⟩ := jck_e hF
      refine jr_irem dX6_help_101 (by simpa using hz_2) rfl ?_
      obtain ⟨hb_2, hF⟩ := jck_e hF
      refine jh_iast (ci := 6) (k := 21) rfl hB (by decide) rfl rfl hb_2 dX6_help_102 rfl (fun M_5 eM_5 => ?_)
      have hF := jlet_e hF M_5 eM_5
      refine jr_aload_n 0 dX6_help_103 rfl rfl rfl ?_
      refine gf_X6_49 rfl rfl hB dX6_help_104 rfl ?_
      refine jr_iload 4 dX6_help_107 rfl rfl ?_
      refine jr_iload 5 dX6_help_109 rfl rfl ?_
      refine jr_bipush (v := 40) dX6_help_111 (by decide) rfl ?_
      refine jr_irem dX6_help_113 (by decide) rfl ?_
      obtain ⟨hb_3, hF⟩ := jck_e hF
      refine jh_iast (ci := 6) (k := 22) rfl hB (by decide) rfl rfl hb_3 dX6_help_114 rfl (fun M_6 eM_6 => ?_)
      have hF := jlet_e hF M_6 eM_6
      refine jr_aload_n 0 dX6_help_115 rfl rfl rfl ?_
      obtain ⟨r_3, M_7, hc_3, hF⟩ := jbd_e hF
      refine jh_callV1 (v := .int r_3) (o := 8) (as := []) (st := []) (JF_X6_allEmpties hB hc_3) cw_X6_241 (iv_X6_allEmpties) ⟨rfl, rfl, by decide, by decide⟩ rfl hB rfl rfl (Nat.le_of_ble_eq_true rfl) dX6_help_116 rfl ?_
      refine jr_istore (L' := [(6, .int r_3), (0, .ref (ja E 8 0)), (1, .int y1), (2, .int z2), (3, .int z3), (4, .int y4), (5, .int z5)]) dX6_help_119 (by decide) rfl rfl ?_
      refine jr_iload 0 dX6_help_121 rfl rfl ?_
      refine jr_iload_n 4 dX6_help_123 rfl rfl rfl ?_
      refine jr_icmp_ge 160 dX6_help_124 (by decide) rfl (fun c1 => ?_) (fun c1 => ?_)
      · have hF := jif_p hF c1
        refine jr_iload_n 3 dX6_help_160 rfl rfl rfl ?_
        refine jr_istore_n (L' := [(2, .int z2), (6, .int r_3), (0, .ref (ja E 8 0)), (1, .int y1), (3, .int z3), (4, .int y4), (5, .int z5)]) dX6_help_161 rfl (by decide) rfl rfl ?_
        refine jr_iload 1 dX6_help_162 rfl rfl ?_
        refine jr_iload_n 4 dX6_help_164 rfl rfl rfl ?_
        refine jr_icmp_ge 173 dX6_help_165 (by decide) rfl (fun c1 => ?_) (fun c1 => ?_)
        · have hF := jif_p hF c1
          refine jr_iload_n 4 dX6_help_173 rfl rfl rfl ?_
          refine jr_istore_n (L' := [(3, .int z3), (2, .int z2), (6, .int r_3), (0, .ref (ja E 8 0)), (1, .int y1), (4, .int y4), (5, .int z5)]) dX6_help_174 rfl (by decide) rfl rfl ?_
          obtain ⟨x5_1, ex5_1⟩ : ∃ z : Int32, z = z5 + 1 := ⟨_, rfl⟩
          have hF := jlet_e hF x5_1 ex5_1
          refine jr_iinc (v := x5_1) (L' := [(5, .int x5_1), (3, .int z3), (2, .int z2), (6, .int r_3), (0, .ref (ja E 8 0)), (1, .int y1), (4, .int y4)]) 6 dX6_help_175 rfl (by rw [ex5_1]; rfl) (by decide) rfl rfl ?_
          refine jr_goto 52 dX6_help_178 (by decide) ?_
          refine jr_sub [4, 5, 2, 1, 6, 0] rfl ?_
          exact ih z2 z3 x5_1 M_7 hF
        · have hF := jif_n hF c1
          refine jr_iload 1 dX6_help_168 rfl rfl ?_
          refine jr_goto 174 dX6_help_170 (by decide) ?_
          refine jr_istore_n (L' := [(3, .int r_3), (2, .int z2), (6, .int r_3), (0, .ref (ja E 8 0)), (1, .int y1), (4, .int y4), (5, .int z5)]) dX6_help_174 rfl (by decide) rfl rfl ?_
          obtain ⟨x5_2, ex5_2⟩ : ∃ z : Int32, z = z5 + 1 := ⟨_, rfl⟩
          have hF := jlet_e hF x5_2 ex5_2
          refine jr_iinc (v := x5_2) (L' := [(5, .int x5_2), (3, .int r_3), (2, .int z2), (6, .int r_3), (0, .ref (ja E 8 0)), (1, .int y1), (4, .int y4)]) 6 dX6_help_175 rfl (by rw [ex5_2]; rfl) (by decide) rfl rfl ?_
          refine jr_goto 52 dX6_help_178 (by decide) ?_
          refine jr_sub [4, 5, 2, 1, 6, 0] rfl ?_
          exact ih z2 r_3 x5_2 M_7 hF
      · have hF := jif_n hF c1
        refine jr_sipush (v := 1000) dX6_help_127 (by decide) rfl ?_
        refine jr_aload_n 1 dX6_help_130 rfl rfl rfl ?_
        refine gf_X6_43 rfl rfl hB dX6_help_131 rfl ?_
        refine jr_iload 5 dX6_help_134 rfl rfl ?_
        obtain ⟨hb_4, hF⟩ := jck_e hF
        refine jh_iald (ci := 6) (k := 20) rfl hB (by decide) rfl rfl hb_4 dX6_help_136 rfl ?_
        refine jr_imul dX6_help_137 rfl ?_
        refine jr_bipush (v := 100) dX6_help_138 (by decide) rfl ?_
        refine jr_aload_n 1 dX6_help_140 rfl rfl rfl ?_
        refine gf_X6_46 rfl rfl hB dX6_help_141 rfl ?_
        refine jr_iload 5 dX6_help_144 rfl rfl ?_
        obtain ⟨hb_5, hF⟩ := jck_e hF
        refine jh_iald (ci := 6) (k := 21) rfl hB (by decide) rfl rfl hb_5 dX6_help_146 rfl ?_
        refine jr_imul dX6_help_147 rfl ?_
        refine jr_iadd dX6_help_148 rfl ?_
        refine jr_aload_n 1 dX6_help_149 rfl rfl rfl ?_
        refine gf_X6_49 rfl rfl hB dX6_help_150 rfl ?_
        refine jr_iload 5 dX6_help_153 rfl rfl ?_
        obtain ⟨hb_6, hF⟩ := jck_e hF
        refine jh_iald (ci := 6) (k := 22) rfl hB (by decide) rfl rfl hb_6 dX6_help_155 rfl ?_
        refine jr_iadd dX6_help_156 rfl ?_
        refine jr_goto 161 dX6_help_157 (by decide) ?_
        refine jr_topi (fun x2_1 ex2_1 => ?_)
        have hF := jlet_e hF x2_1 ex2_1
        refine jr_istore_n (L' := [(2, .int x2_1), (6, .int r_3), (0, .ref (ja E 8 0)), (1, .int y1), (3, .int z3), (4, .int y4), (5, .int z5)]) dX6_help_161 rfl (by decide) rfl rfl ?_
        refine jr_iload 1 dX6_help_162 rfl rfl ?_
        refine jr_iload_n 4 dX6_help_164 rfl rfl rfl ?_
        refine jr_icmp_ge 173 dX6_help_165 (by decide) rfl (fun c1 => ?_) (fun c1 => ?_)
        · have hF := jif_p hF c1
          refine jr_iload_n 4 dX6_help_173 rfl rfl rfl ?_
          refine jr_istore_n (L' := [(3, .int z3), (2, .int x2_1), (6, .int r_3), (0, .ref (ja E 8 0)), (1, .int y1), (4, .int y4), (5, .int z5)]) dX6_help_174 rfl (by decide) rfl rfl ?_
          obtain ⟨x5_3, ex5_3⟩ : ∃ z : Int32, z = z5 + 1 := ⟨_, rfl⟩
          have hF := jlet_e hF x5_3 ex5_3
          refine jr_iinc (v := x5_3) (L' := [(5, .int x5_3), (3, .int z3), (2, .int x2_1), (6, .int r_3), (0, .ref (ja E 8 0)), (1, .int y1), (4, .int y4)]) 6 dX6_help_175 rfl (by rw [ex5_3]; rfl) (by decide) rfl rfl ?_
          refine jr_goto 52 dX6_help_178 (by decide) ?_
          refine jr_sub [4, 5, 2, 1, 6, 0] rfl ?_
          exact ih x2_1 z3 x5_3 M_7 hF
        · have hF := jif_n hF c1
          refine jr_iload 1 dX6_help_168 rfl rfl ?_
          refine jr_goto 174 dX6_help_170 (by decide) ?_
          refine jr_istore_n (L' := [(3, .int r_3), (2, .int x2_1), (6, .int r_3), (0, .ref (ja E 8 0)), (1, .int y1), (4, .int y4), (5, .int z5)]) dX6_help_174 rfl (by decide) rfl rfl ?_
          obtain ⟨x5_4, ex5_4⟩ : ∃ z : Int32, z = z5 + 1 := ⟨_, rfl⟩
          have hF := jlet_e hF x5_4 ex5_4
          refine jr_iinc (v := x5_4) (L' := [(5, .int x5_4), (3, .int r_3), (2, .int x2_1), (6, .int r_3), (0, .ref (ja E 8 0)), (1, .int y1), (4, .int y4)]) 6 dX6_help_175 rfl (by rw [ex5_4]; rfl) (by decide) rfl rfl ?_
          refine jr_goto 52 dX6_help_178 (by decide) ?_
          refine jr_sub [4, 5, 2, 1, 6, 0] rfl ?_
          exact ih x2_1 r_3 x5_4 M_7 hF
set_option maxHeartbeats 4000000 in
set_option maxRecDepth 100000 in
theorem JF_X6_help {E : jx_E} (hB : jB E 8) {a1 : Int32} {M : jx_M} {r : Int32} {M' : jx_M} (hF : F_X6_help a1 M = some (r, M')) : jC E yX6_help cX6_help 7 (some FieldType.int) rm_X6_help [.ref (ja E 8 0), .int a1] M (fun x M'' => x = some (.int r) ∧ M'' = M') := by
  refine jC.ofJ (L := [(0, .ref (ja E 8 0)), (1, .int a1)]) (by decide +kernel) (Nat.le_of_ble_eq_true rfl) rfl ?_
  unfold F_X6_help at hF
  refine jr_iload_n 1 dX6_help_0 rfl rfl rfl ?_
  refine jr_i2l dX6_help_1 rfl ?_
  refine jr_lconst (v := 0) dX6_help_2 (by decide) rfl ?_
  refine jr_lconst (v := 1) dX6_help_3 (by decide) rfl ?_
  obtain ⟨r_1, M_1, hc_1, hF⟩ := jbd_e hF
  refine jh_callS1 (v := .int r_1) (as := [.long a1.toInt64, .long 0, .long 1]) (st := []) (JF_X6_in hB hc_1) cw_X6_110 (iv_X6_in) ⟨rfl, rfl, by decide, by decide⟩ rfl rfl (Nat.le_of_ble_eq_true rfl) dX6_help_4 rfl ?_
  refine jr_if_ne 13 dX6_help_7 (by decide) rfl (fun c1 => ?_) (fun c1 => ?_)
  · have hF := jif_n hF c1
    refine jr_aload_n 0 dX6_help_13 rfl rfl rfl ?_
    refine gf_X6_107 rfl rfl hB dX6_help_14 rfl ?_
    refine jr_if_ne 23 dX6_help_17 (by decide) rfl (fun c1 => ?_) (fun c1 => ?_)
    · have hF := jif_n hF c1
      refine jr_bipush (v := (-9)) dX6_help_23 (by decide) rfl ?_
      refine jr_istore_n (L' := [(2, .int (-9)), (0, .ref (ja E 8 0)), (1, .int a1)]) dX6_help_25 rfl (by decide) rfl rfl ?_
      refine jr_aload_n 1 dX6_help_26 rfl rfl rfl ?_
      obtain ⟨r_2, M_2, hc_2, hF⟩ := jbd_e hF
      refine jh_callV1 (v := .int r_2) (o := 8) (as := []) (st := []) (JF_X6_allEmpties hB hc_2) cw_X6_241 (iv_X6_allEmpties) ⟨rfl, rfl, by decide, by decide⟩ rfl hB rfl rfl (Nat.le_of_ble_eq_true rfl) dX6_help_27 rfl ?_
      refine jr_istore_n (L' := [(3, .int r_2), (2, .int (-9)), (0, .ref (ja E 8 0)), (1, .int a1)]) dX6_help_30 rfl (by decide) rfl rfl ?_
      refine jr_aload_n 2 dX6_help_31 rfl rfl rfl ?_
      refine jr_dup dX6_help_32 rfl rfl ?_
      refine gf_X6_170 rfl rfl hB dX6_help_33 rfl ?_
      refine jr_iconst (v := 1) dX6_help_36 (by decide) rfl ?_
      refine jr_iadd dX6_help_37 rfl ?_
      refine pf_X6_170 rfl rfl hB dX6_help_38 ⟨rfl, rfl⟩ rfl (fun M_3 eM_3 => ?_)
      have hF := jlet_e hF M_3 eM_3
      refine jr_aload_n 2 dX6_help_41 rfl rfl rfl ?_
      refine gf_X6_170 rfl rfl hB dX6_help_42 rfl ?_
      refine jr_iconst (v := 1) dX6_help_45 (by decide) rfl ?_
      refine jr_isub dX6_help_46 rfl ?_
      refine jr_topi (fun x4_1 ex4_1 => ?_)
      have hF := jlet_e hF x4_1 ex4_1
      refine jr_istore (L' := [(4, .int x4_1), (3, .int r_2), (2, .int (-9)), (0, .ref (ja E 8 0)), (1, .int a1)]) dX6_help_47 (by decide) rfl rfl ?_
      refine jr_iconst (v := 0) dX6_help_49 (by decide) rfl ?_
      refine jr_istore (L' := [(5, .int 0), (4, .int x4_1), (3, .int r_2), (2, .int (-9)), (0, .ref (ja E 8 0)), (1, .int a1)]) dX6_help_50 (by decide) rfl rfl ?_
      refine jr_sub [4, 5, 3, 2, 1, 0] rfl ?_
      refine JL_X6_help_52 hB (fun x2_2 x3_1 M_8 hF => ?_) jfu (-9) r_2 0 M_3 hF
      refine jr_aload_n 0 dX6_help_181 rfl rfl rfl ?_
      refine jr_dup dX6_help_182 rfl rfl ?_
      refine gf_X6_170 rfl rfl hB dX6_help_183 rfl ?_
      refine jr_iconst (v := 1) dX6_help_186 (by decide) rfl ?_
      refine jr_isub dX6_help_187 rfl ?_
      refine pf_X6_170 rfl rfl hB dX6_help_188 ⟨rfl, rfl⟩ rfl (fun M_9 eM_9 => ?_)
      have hF := jlet_e hF M_9 eM_9
      refine jr_iload_n 1 dX6_help_191 rfl rfl rfl ?_
      refine jr_if_ne 199 dX6_help_192 (by decide) rfl (fun c1 => ?_) (fun c1 => ?_)
      · have hF := jif_n hF c1
        refine jr_iload_n 3 dX6_help_199 rfl rfl rfl ?_
        exact jh_iret rfl dX6_help_200 hF
      · have hF := jif_p hF c1
        refine jr_iload_n 2 dX6_help_195 rfl rfl rfl ?_
        refine jr_goto 200 dX6_help_196 (by decide) ?_
        exact jh_iret rfl dX6_help_200 hF
    · have hF := jif_p hF c1
      refine jr_bipush (v := (-3)) dX6_help_20 (by decide) rfl ?_
      exact jh_iret rfl dX6_help_22 hF
  · have hF := jif_p hF c1
    refine jr_bipush (v := (-2)) dX6_help_10 (by decide) rfl ?_
    exact jh_iret rfl dX6_help_12 hF
set_option maxHeartbeats 4000000 in
set_option maxRecDepth 100000 in
theorem JL_X6_emptiesBy_8 {E : jx_E} (hB : jB E 8) {y1 : Int32} {y2 : Int32} {y3 : Int32} {k : jx_M → Option (Int32 × jx_M)} {r : Int32} {M' : jx_M} (hk : ∀ (M : jx_M), k M = some (r, M') → jJ E yX6_emptiesBy cX6_emptiesBy 6 (some FieldType.int) rm_X6_emptiesBy (fun x M'' => x = some (.int r) ∧ M'' = M') 62 [(0, .ref (ja E 8 0)), (1, .int y1), (2, .int y2), (3, .int y3)] [] M) : ∀ (n : Nat) (z4 : Int32) (M : jx_M), L_X6_emptiesBy_8 y1 y2 y3 k n z4 M = some (r, M') → jJ E yX6_emptiesBy cX6_emptiesBy 6 (some FieldType.int) rm_X6_emptiesBy (fun x M'' => x = some (.int r) ∧ M'' = M') 8 [(0, .ref (ja E 8 0)), (1, .int y1), (2, .int y2), (3, .int y3), (4, .int z4)] [] M := by
  intro n
  induction n with
  | zero => intro z4 M hF; exact nomatch (show (none : Option (Int32 × jx_M)) = some _ from hF)
  | succ n ih =>
    intro z4 M hF
    rw [L_X6_emptiesBy_8.eq_2] at hF
    refine jr_iload 4 dX6_emptiesBy_8 rfl rfl ?_
    refine jr_iload_n 3 dX6_emptiesBy_10 rfl rfl rfl ?_
    refine jr_icmp_ge 62 dX6_emptiesBy_11 (by decide) rfl (fun c1 => ?_) (fun c1 => ?_)
    · have hF := jif_p hF c1
      refine jr_sub [0, 1, 2, 3] rfl ?_
      exact hk M hF
    · have hF := jif_n hF c1
      refine jr_aload_n 0 dX6_emptiesBy_14 rfl rfl rfl ?_
      refine gf_X6_67 rfl rfl hB dX6_emptiesBy_15 rfl ?_
      refine jr_iload 4 dX6_emptiesBy_18 rfl rfl ?_
      refine jr_aload_n 0 dX6_emptiesBy_20 rfl rfl rfl ?_
      refine gf_X6_43 rfl rfl hB dX6_emptiesBy_21 rfl ?_
      refine jr_iload 4 dX6_emptiesBy_24 rfl rfl ?_
      obtain ⟨hb_1, hF⟩ := jck_e hF
      refine jh_iald (ci := 6) (k := 20) rfl hB (by decide) rfl rfl hb_1 dX6_emptiesBy_26 rfl ?_
      obtain ⟨hb_2, hF⟩ := jck_e hF
      refine jh_iast (ci := 6) (k := 31) rfl hB (by decide) rfl rfl hb_2 dX6_emptiesBy_27 rfl (fun M_1 eM_1 => ?_)
      have hF := jlet_e hF M_1 eM_1
      refine jr_aload_n 0 dX6_emptiesBy_28 rfl rfl rfl ?_
      refine gf_X6_70 rfl rfl hB dX6_emptiesBy_29 rfl ?_
      refine jr_iload 4 dX6_emptiesBy_32 rfl rfl ?_
      refine jr_aload_n 0 dX6_emptiesBy_34 rfl rfl rfl ?_
      refine gf_X6_46 rfl rfl hB dX6_emptiesBy_35 rfl ?_
      refine jr_iload 4 dX6_emptiesBy_38 rfl rfl ?_
      obtain ⟨hb_3, hF⟩ := jck_e hF
      refine jh_iald (ci := 6) (k := 21) rfl hB (by decide) rfl rfl hb_3 dX6_emptiesBy_40 rfl ?_
      obtain ⟨hb_4, hF⟩ := jck_e hF
      refine jh_iast (ci := 6) (k := 32) rfl hB (by decide) rfl rfl hb_4 dX6_emptiesBy_41 rfl (fun M_2 eM_2 => ?_)
      have hF := jlet_e hF M_2 eM_2
      refine jr_aload_n 0 dX6_emptiesBy_42 rfl rfl rfl ?_
      refine gf_X6_73 rfl rfl hB dX6_emptiesBy_43 rfl ?_
      refine jr_iload 4 dX6_emptiesBy_46 rfl rfl ?_
      refine jr_aload_n 0 dX6_emptiesBy_48 rfl rfl rfl ?_
      refine gf_X6_49 rfl rfl hB dX6_emptiesBy_49 rfl ?_
      refine jr_iload 4 dX6_emptiesBy_52 rfl rfl ?_
      obtain ⟨hb_5, hF⟩ := jck_e hF
      refine jh_iald (ci := 6) (k := 22) rfl hB (by decide) rfl rfl hb_5 dX6_emptiesBy_54 rfl ?_
      obtain ⟨hb_6, hF⟩ := jck_e hF
      refine jh_iast (ci := 6) (k := 33) rfl hB (by decide) rfl rfl hb_6 dX6_emptiesBy_55 rfl (fun M_3 eM_3 => ?_)
      have hF := jlet_e hF M_3 eM_3
      obtain ⟨x4_1, ex4_1⟩ : ∃ z : Int32, z = z4 + 1 := ⟨_, rfl⟩
      have hF := jlet_e hF x4_1 ex4_1
      refine jr_iinc (v := x4_1) (L' := [(4, .int x4_1), (0, .ref (ja E 8 0)), (1, .int y1), (2, .int y2), (3, .int y3)]) 4 dX6_emptiesBy_56 rfl (by rw [ex4_1]; rfl) (by decide) rfl rfl ?_
      refine jr_goto 8 dX6_emptiesBy_59 (by decide) ?_
      refine jr_sub [1, 2, 3, 4, 0] rfl ?_
      exact ih x4_1 M_3 hF
set_option maxHeartbeats 4000000 in
set_option maxRecDepth 100000 in
theorem JL_X6_emptiesBy_65 {E : jx_E} (hB : jB E 8) {y1 : Int32} {y2 : Int32} {y3 : Int32} {k : jx_M → Option (Int32 × jx_M)} {r : Int32} {M' : jx_M} (hk : ∀ (M : jx_M), k M = some (r, M') → jJ E yX6_emptiesBy cX6_emptiesBy 6 (some FieldType.int) rm_X6_emptiesBy (fun x M'' => x = some (.int r) ∧ M'' = M') 135 [(0, .ref (ja E 8 0)), (2, .int y2), (3, .int y3)] [] M) : ∀ (n : Nat) (z4 : Int32) (M : jx_M), L_X6_emptiesBy_65 y1 y2 y3 k n z4 M = some (r, M') → jJ E yX6_emptiesBy cX6_emptiesBy 6 (some FieldType.int) rm_X6_emptiesBy (fun x M'' => x = some (.int r) ∧ M'' = M') 65 [(0, .ref (ja E 8 0)), (1, .int y1), (2, .int y2), (3, .int y3), (4, .int z4)] [] M := by
  intro n
  induction n with
  | zero => intro z4 M hF; exact nomatch (show (none : Option (Int32 × jx_M)) = some _ from hF)
  | succ n ih =>
    intro z4 M hF
    rw [L_X6_emptiesBy_65.eq_2] at hF
    refine jr_iload 4 dX6_emptiesBy_65 rfl rfl ?_
    refine jr_iload_n 2 dX6_emptiesBy_67 rfl rfl rfl ?_
    refine jr_icmp_ge 135 dX6_emptiesBy_68 (by decide) rfl (fun c1 => ?_) (fun c1 => ?_)
    · have hF := jif_p hF c1
      refine jr_sub [0, 2, 3] rfl ?_
      exact hk M hF
    · have hF := jif_n hF c1
      refine jr_aload_n 0 dX6_emptiesBy_71 rfl rfl rfl ?_
      refine gf_X6_43 rfl rfl hB dX6_emptiesBy_72 rfl ?_
      refine jr_iload 4 dX6_emptiesBy_75 rfl rfl ?_
      refine jr_aload_n 0 dX6_emptiesBy_77 rfl rfl rfl ?_
      refine gf_X6_91 rfl rfl hB dX6_emptiesBy_78 rfl ?_
      refine jr_iload_n 1 dX6_emptiesBy_81 rfl rfl rfl ?_
      refine jr_iconst (v := 3) dX6_emptiesBy_82 (by decide) rfl ?_
      refine jr_iload 4 dX6_emptiesBy_83 rfl rfl ?_
      refine jr_imul dX6_emptiesBy_85 rfl ?_
      refine jr_iadd dX6_emptiesBy_86 rfl ?_
      obtain ⟨hb_7, hF⟩ := jck_e hF
      refine jh_iald (ci := 6) (k := 40) rfl hB (by decide) rfl rfl hb_7 dX6_emptiesBy_87 rfl ?_
      obtain ⟨hb_8, hF⟩ := jck_e hF
      refine jh_iast (ci := 6) (k := 20) rfl hB (by decide) rfl rfl hb_8 dX6_emptiesBy_88 rfl (fun M_5 eM_5 => ?_)
      have hF := jlet_e hF M_5 eM_5
      refine jr_aload_n 0 dX6_emptiesBy_89 rfl rfl rfl ?_
      refine gf_X6_46 rfl rfl hB dX6_emptiesBy_90 rfl ?_
      refine jr_iload 4 dX6_emptiesBy_93 rfl rfl ?_
      refine jr_aload_n 0 dX6_emptiesBy_95 rfl rfl rfl ?_
      refine gf_X6_91 rfl rfl hB dX6_emptiesBy_96 rfl ?_
      refine jr_iload_n 1 dX6_emptiesBy_99 rfl rfl rfl ?_
      refine jr_iconst (v := 3) dX6_emptiesBy_100 (by decide) rfl ?_
      refine jr_iload 4 dX6_emptiesBy_101 rfl rfl ?_
      refine jr_imul dX6_emptiesBy_103 rfl ?_
      refine jr_iadd dX6_emptiesBy_104 rfl ?_
      refine jr_iconst (v := 1) dX6_emptiesBy_105 (by decide) rfl ?_
      refine jr_iadd dX6_emptiesBy_106 rfl ?_
      obtain ⟨hb_9, hF⟩ := jck_e hF
      refine jh_iald (ci := 6) (k := 40) rfl hB (by decide) rfl rfl hb_9 dX6_emptiesBy_107 rfl ?_
      obtain ⟨hb_10, hF⟩ := jck_e hF
      refine jh_iast (ci := 6) (k := 21) rfl hB (by decide) rfl rfl hb_10 dX6_emptiesBy_108 rfl (fun M_6 eM_6 => ?_)
      have hF := jlet_e hF M_6 eM_6
      refine jr_aload_n 0 dX6_emptiesBy_109 rfl rfl rfl ?_
      refine gf_X6_49 rfl rfl hB dX6_emptiesBy_110 rfl ?_
      refine jr_iload 4 dX6_emptiesBy_113 rfl rfl ?_
      refine jr_aload_n 0 dX6_emptiesBy_115 rfl rfl rfl ?_
      refine gf_X6_91 rfl rfl hB dX6_emptiesBy_116 rfl ?_
      refine jr_iload_n 1 dX6_emptiesBy_119 rfl rfl rfl ?_
      refine jr_iconst (v := 3) dX6_emptiesBy_120 (by decide) rfl ?_
      refine jr_iload 4 dX6_emptiesBy_121 rfl rfl ?_
      refine jr_imul dX6_emptiesBy_123 rfl ?_
      refine jr_iadd dX6_emptiesBy_124 rfl ?_
      refine jr_iconst (v := 2) dX6_emptiesBy_125 (by decide) rfl ?_
      refine jr_iadd dX6_emptiesBy_126 rfl ?_
      obtain ⟨hb_11, hF⟩ := jck_e hF
      refine jh_iald (ci := 6) (k := 40) rfl hB (by decide) rfl rfl hb_11 dX6_emptiesBy_127 rfl ?_
      obtain ⟨hb_12, hF⟩ := jck_e hF
      refine jh_iast (ci := 6) (k := 22) rfl hB (by decide) rfl rfl hb_12 dX6_emptiesBy_128 rfl (fun M_7 eM_7 => ?_)
      have hF := jlet_e hF M_7 eM_7
      obtain ⟨x4_2, ex4_2⟩ : ∃ z : Int32, z = z4 + 1 := ⟨_, rfl⟩
      have hF := jlet_e hF x4_2 ex4_2
      refine jr_iinc (v := x4_2) (L' := [(4, .int x4_2), (0, .ref (ja E 8 0)), (1, .int y1), (2, .int y2), (3, .int y3)]) 4 dX6_emptiesBy_129 rfl (by rw [ex4_2]; rfl) (by decide) rfl rfl ?_
      refine jr_goto 65 dX6_emptiesBy_132 (by decide) ?_
      refine jr_sub [1, 2, 3, 4, 0] rfl ?_
      exact ih x4_2 M_7 hF
set_option maxHeartbeats 4000000 in
set_option maxRecDepth 100000 in
theorem JL_X6_emptiesBy_149 {E : jx_E} (hB : jB E 8) {y3 : Int32} {y4 : Int32} {k : jx_M → Option (Int32 × jx_M)} {r : Int32} {M' : jx_M} (hk : ∀ (M : jx_M), k M = some (r, M') → jJ E yX6_emptiesBy cX6_emptiesBy 6 (some FieldType.int) rm_X6_emptiesBy (fun x M'' => x = some (.int r) ∧ M'' = M') 203 [(0, .ref (ja E 8 0)), (3, .int y3), (4, .int y4)] [] M) : ∀ (n : Nat) (z5 : Int32) (M : jx_M), L_X6_emptiesBy_149 y3 y4 k n z5 M = some (r, M') → jJ E yX6_emptiesBy cX6_emptiesBy 6 (some FieldType.int) rm_X6_emptiesBy (fun x M'' => x = some (.int r) ∧ M'' = M') 149 [(0, .ref (ja E 8 0)), (3, .int y3), (4, .int y4), (5, .int z5)] [] M := by
  intro n
  induction n with
  | zero => intro z5 M hF; exact nomatch (show (none : Option (Int32 × jx_M)) = some _ from hF)
  | succ n ih =>
    intro z5 M hF
    rw [L_X6_emptiesBy_149.eq_2] at hF
    refine jr_iload 3 dX6_emptiesBy_149 rfl rfl ?_
    refine jr_iload_n 1 dX6_emptiesBy_151 rfl rfl rfl ?_
    refine jr_icmp_ge 203 dX6_emptiesBy_152 (by decide) rfl (fun c1 => ?_) (fun c1 => ?_)
    · have hF := jif_p hF c1
      refine jr_sub [0, 1, 2] rfl ?_
      exact hk M hF
    · have hF := jif_n hF c1
      refine jr_aload_n 0 dX6_emptiesBy_155 rfl rfl rfl ?_
      refine gf_X6_43 rfl rfl hB dX6_emptiesBy_156 rfl ?_
      refine jr_iload 3 dX6_emptiesBy_159 rfl rfl ?_
      refine jr_aload_n 0 dX6_emptiesBy_161 rfl rfl rfl ?_
      refine gf_X6_67 rfl rfl hB dX6_emptiesBy_162 rfl ?_
      refine jr_iload 3 dX6_emptiesBy_165 rfl rfl ?_
      obtain ⟨hb_13, hF⟩ := jck_e hF
      refine jh_iald (ci := 6) (k := 31) rfl hB (by decide) rfl rfl hb_13 dX6_emptiesBy_167 rfl ?_
      obtain ⟨hb_14, hF⟩ := jck_e hF
      refine jh_iast (ci := 6) (k := 20) rfl hB (by decide) rfl rfl hb_14 dX6_emptiesBy_168 rfl (fun M_11 eM_11 => ?_)
      have hF := jlet_e hF M_11 eM_11
      refine jr_aload_n 0 dX6_emptiesBy_169 rfl rfl rfl ?_
      refine gf_X6_46 rfl rfl hB dX6_emptiesBy_170 rfl ?_
      refine jr_iload 3 dX6_emptiesBy_173 rfl rfl ?_
      refine jr_aload_n 0 dX6_emptiesBy_175 rfl rfl rfl ?_
      refine gf_X6_70 rfl rfl hB dX6_emptiesBy_176 rfl ?_
      refine jr_iload 3 dX6_emptiesBy_179 rfl rfl ?_
      obtain ⟨hb_15, hF⟩ := jck_e hF
      refine jh_iald (ci := 6) (k := 32) rfl hB (by decide) rfl rfl hb_15 dX6_emptiesBy_181 rfl ?_
      obtain ⟨hb_16, hF⟩ := jck_e hF
      refine jh_iast (ci := 6) (k := 21) rfl hB (by decide) rfl rfl hb_16 dX6_emptiesBy_182 rfl (fun M_12 eM_12 => ?_)
      have hF := jlet_e hF M_12 eM_12
      refine jr_aload_n 0 dX6_emptiesBy_183 rfl rfl rfl ?_
      refine gf_X6_49 rfl rfl hB dX6_emptiesBy_184 rfl ?_
      refine jr_iload 3 dX6_emptiesBy_187 rfl rfl ?_
      refine jr_aload_n 0 dX6_emptiesBy_189 rfl rfl rfl ?_
      refine gf_X6_73 rfl rfl hB dX6_emptiesBy_190 rfl ?_
      refine jr_iload 3 dX6_emptiesBy_193 rfl rfl ?_
      obtain ⟨hb_17, hF⟩ := jck_e hF
      refine jh_iald (ci := 6) (k := 33) rfl hB (by decide) rfl rfl hb_17 dX6_emptiesBy_195 rfl ?_
      obtain ⟨hb_18, hF⟩ := jck_e hF
      refine jh_iast (ci := 6) (k := 22) rfl hB (by decide) rfl rfl hb_18 dX6_emptiesBy_196 rfl (fun M_13 eM_13 => ?_)
      have hF := jlet_e hF M_13 eM_13
      obtain ⟨x5_1, ex5_1⟩ : ∃ z : Int32, z = z5 + 1 := ⟨_, rfl⟩
      have hF := jlet_e hF x5_1 ex5_1
      refine jr_iinc (v := x5_1) (L' := [(5, .int x5_1), (0, .ref (ja E 8 0)), (3, .int y3), (4, .int y4)]) 3 dX6_emptiesBy_197 rfl (by rw [ex5_1]; rfl) (by decide) rfl rfl ?_
      refine jr_goto 149 dX6_emptiesBy_200 (by decide) ?_
      refine jr_sub [1, 2, 3, 0] rfl ?_
      exact ih x5_1 M_13 hF
set_option maxHeartbeats 4000000 in
set_option maxRecDepth 100000 in
theorem JF_X6_emptiesBy {E : jx_E} (hB : jB E 8) {a1 : Int32} {a2 : Int32} {M : jx_M} {r : Int32} {M' : jx_M} (hF : F_X6_emptiesBy a1 a2 M = some (r, M')) : jC E yX6_emptiesBy cX6_emptiesBy 6 (some FieldType.int) rm_X6_emptiesBy [.ref (ja E 8 0), .int a1, .int a2] M (fun x M'' => x = some (.int r) ∧ M'' = M') := by
  refine jC.ofJ (L := [(0, .ref (ja E 8 0)), (1, .int a1), (2, .int a2)]) (by decide +kernel) (Nat.le_of_ble_eq_true rfl) rfl ?_
  unfold F_X6_emptiesBy at hF
  refine jr_aload_n 0 dX6_emptiesBy_0 rfl rfl rfl ?_
  refine gf_X6_170 rfl rfl hB dX6_emptiesBy_1 rfl ?_
  refine jr_topi (fun x3_1 ex3_1 => ?_)
  have hF := jlet_e hF x3_1 ex3_1
  refine jr_istore_n (L' := [(3, .int x3_1), (0, .ref (ja E 8 0)), (1, .int a1), (2, .int a2)]) dX6_emptiesBy_4 rfl (by decide) rfl rfl ?_
  refine jr_iconst (v := 0) dX6_emptiesBy_5 (by decide) rfl ?_
  refine jr_istore (L' := [(4, .int 0), (3, .int x3_1), (0, .ref (ja E 8 0)), (1, .int a1), (2, .int a2)]) dX6_emptiesBy_6 (by decide) rfl rfl ?_
  refine jr_sub [2, 3, 4, 1, 0] rfl ?_
  refine JL_X6_emptiesBy_8 hB (fun M_4 hF => ?_) jfu 0 M hF
  refine jr_iconst (v := 0) dX6_emptiesBy_62 (by decide) rfl ?_
  refine jr_istore (L' := [(4, .int 0), (0, .ref (ja E 8 0)), (1, .int a1), (2, .int a2), (3, .int x3_1)]) dX6_emptiesBy_63 (by decide) rfl rfl ?_
  refine jr_sub [1, 2, 3, 4, 0] rfl ?_
  refine JL_X6_emptiesBy_65 hB (fun M_8 hF => ?_) jfu 0 M_4 hF
  refine jr_aload_n 0 dX6_emptiesBy_135 rfl rfl rfl ?_
  refine jr_iload_n 1 dX6_emptiesBy_136 rfl rfl rfl ?_
  refine pf_X6_170 rfl rfl hB dX6_emptiesBy_137 ⟨rfl, rfl⟩ rfl (fun M_9 eM_9 => ?_)
  have hF := jlet_e hF M_9 eM_9
  refine jr_aload_n 0 dX6_emptiesBy_140 rfl rfl rfl ?_
  obtain ⟨r_1, M_10, hc_1, hF⟩ := jbd_e hF
  refine jh_callV1 (v := .int r_1) (o := 8) (as := []) (st := []) (JF_X6_allEmpties hB hc_1) cw_X6_241 (iv_X6_allEmpties) ⟨rfl, rfl, by decide, by decide⟩ rfl hB rfl rfl (Nat.le_of_ble_eq_true rfl) dX6_emptiesBy_141 rfl ?_
  refine jr_istore (L' := [(4, .int r_1), (0, .ref (ja E 8 0)), (2, .int a2), (3, .int x3_1)]) dX6_emptiesBy_144 (by decide) rfl rfl ?_
  refine jr_iconst (v := 0) dX6_emptiesBy_146 (by decide) rfl ?_
  refine jr_istore (L' := [(5, .int 0), (4, .int r_1), (0, .ref (ja E 8 0)), (2, .int a2), (3, .int x3_1)]) dX6_emptiesBy_147 (by decide) rfl rfl ?_
  refine jr_sub [2, 4, 1, 0] rfl ?_
  refine JL_X6_emptiesBy_149 hB (fun M_14 hF => ?_) jfu 0 M_10 hF
  refine jr_aload_n 0 dX6_emptiesBy_203 rfl rfl rfl ?_
  refine jr_iload_n 1 dX6_emptiesBy_204 rfl rfl rfl ?_
  refine pf_X6_170 rfl rfl hB dX6_emptiesBy_205 ⟨rfl, rfl⟩ rfl (fun M_15 eM_15 => ?_)
  have hF := jlet_e hF M_15 eM_15
  refine jr_iload 2 dX6_emptiesBy_208 rfl rfl ?_
  exact jh_iret rfl dX6_emptiesBy_210 hF
set_option maxHeartbeats 4000000 in
set_option maxRecDepth 100000 in
theorem JL_X6_wills_94 {E : jx_E} (hB : jB E 8) {y4 : Int32} {y6 : Int32} {k : jx_M → Option (Int32 × jx_M)} {r : Int32} {M' : jx_M} (hk : ∀ (M : jx_M), k M = some (r, M') → jJ E yX6_wills cX6_wills 8 (some FieldType.int) rm_X6_wills (fun x M'' => x = some (.int r) ∧ M'' = M') 174 [(0, .ref (ja E 8 0)), (4, .int y4), (6, .int y6)] [] M) : ∀ (n : Nat) (z7 : Int32) (M : jx_M), L_X6_wills_94 y4 y6 k n z7 M = some (r, M') → jJ E yX6_wills cX6_wills 8 (some FieldType.int) rm_X6_wills (fun x M'' => x = some (.int r) ∧ M'' = M') 94 [(0, .ref (ja E 8 0)), (4, .int y4), (6, .int y6), (7, .int z7)] [] M := by
  intro n
  induction n with
  | zero => intro z7 M hF; exact nomatch (show (none : Option (Int32 × jx_M)) = some _ from hF)
  | succ n ih =>
    intro z7 M hF
    rw [L_X6_wills_94.eq_2] at hF
    refine jr_iload 3 dX6_wills_94 rfl rfl ?_
    refine jr_iload 1 dX6_wills_96 rfl rfl ?_
    refine jr_icmp_ge 174 dX6_wills_98 (by decide) rfl (fun c1 => ?_) (fun c1 => ?_)
    · have hF := jif_p hF c1
      refine jr_sub [0, 1, 2] rfl ?_
      exact hk M hF
    · have hF := jif_n hF c1
      refine jr_aload_n 0 dX6_wills_101 rfl rfl rfl ?_
      refine jr_aload_n 0 dX6_wills_102 rfl rfl rfl ?_
      refine gf_X6_91 rfl rfl hB dX6_wills_103 rfl ?_
      refine jr_iload 2 dX6_wills_106 rfl rfl ?_
      refine jr_iconst (v := 3) dX6_wills_108 (by decide) rfl ?_
      refine jr_iload 3 dX6_wills_109 rfl rfl ?_
      refine jr_imul dX6_wills_111 rfl ?_
      refine jr_iadd dX6_wills_112 rfl ?_
      obtain ⟨hb_1, hF⟩ := jck_e hF
      refine jh_iald (ci := 6) (k := 40) rfl hB (by decide) rfl rfl hb_1 dX6_wills_113 rfl ?_
      obtain ⟨r_6, M_6, hc_6, hF⟩ := jbd_e hF
      refine jh_callV1 (v := .int r_6) (o := 8) (as := [.int (jx_r M 8 40 (y6 + (3 * z7)))]) (st := []) (JF_X6_noPost hB hc_6) cw_X6_185 (iv_X6_noPost) ⟨rfl, rfl, by decide, by decide⟩ rfl hB rfl rfl (Nat.le_of_ble_eq_true rfl) dX6_wills_114 rfl ?_
      refine jr_if_ne 161 dX6_wills_117 (by decide) rfl (fun c1 => ?_) (fun c1 => ?_)
      · have hF := jif_n hF c1
        refine jr_aload_n 0 dX6_wills_161 rfl rfl rfl ?_
        refine jr_bipush (v := (-2)) dX6_wills_162 (by decide) rfl ?_
        obtain ⟨r_7, M_7, hc_7, hF⟩ := jbd_e hF
        refine jh_callV1 (v := .int r_7) (o := 8) (as := [.int (-2)]) (st := []) (JF_X6_refused hB hc_7) cw_X6_152 (iv_X6_refused) ⟨rfl, rfl, by decide, by decide⟩ rfl hB rfl rfl (Nat.le_of_ble_eq_true rfl) dX6_wills_164 rfl ?_
        exact jh_iret rfl dX6_wills_167 hF
      · have hF := jif_p hF c1
        refine jr_aload_n 0 dX6_wills_120 rfl rfl rfl ?_
        refine jr_aload_n 0 dX6_wills_121 rfl rfl rfl ?_
        refine gf_X6_91 rfl rfl hB dX6_wills_122 rfl ?_
        refine jr_iload 2 dX6_wills_125 rfl rfl ?_
        refine jr_iconst (v := 3) dX6_wills_127 (by decide) rfl ?_
        refine jr_iload 3 dX6_wills_128 rfl rfl ?_
        refine jr_imul dX6_wills_130 rfl ?_
        refine jr_iadd dX6_wills_131 rfl ?_
        refine jr_iconst (v := 1) dX6_wills_132 (by decide) rfl ?_
        refine jr_iadd dX6_wills_133 rfl ?_
        obtain ⟨hb_2, hF⟩ := jck_e hF
        refine jh_iald (ci := 6) (k := 40) rfl hB (by decide) rfl rfl hb_2 dX6_wills_134 rfl ?_
        obtain ⟨r_8, M_8, hc_8, hF⟩ := jbd_e hF
        refine jh_callV1 (v := .int r_8) (o := 8) (as := [.int (jx_r M_6 8 40 ((y6 + (3 * z7)) + 1))]) (st := []) (JF_X6_noPerson hB hc_8) cw_X6_176 (iv_X6_noPerson) ⟨rfl, rfl, by decide, by decide⟩ rfl hB rfl rfl (Nat.le_of_ble_eq_true rfl) dX6_wills_135 rfl ?_
        refine jr_if_ne 161 dX6_wills_138 (by decide) rfl (fun c1 => ?_) (fun c1 => ?_)
        · have hF := jif_n hF c1
          refine jr_aload_n 0 dX6_wills_161 rfl rfl rfl ?_
          refine jr_bipush (v := (-2)) dX6_wills_162 (by decide) rfl ?_
          obtain ⟨r_9, M_9, hc_9, hF⟩ := jbd_e hF
          refine jh_callV1 (v := .int r_9) (o := 8) (as := [.int (-2)]) (st := []) (JF_X6_refused hB hc_9) cw_X6_152 (iv_X6_refused) ⟨rfl, rfl, by decide, by decide⟩ rfl hB rfl rfl (Nat.le_of_ble_eq_true rfl) dX6_wills_164 rfl ?_
          exact jh_iret rfl dX6_wills_167 hF
        · have hF := jif_p hF c1
          refine jr_aload_n 0 dX6_wills_141 rfl rfl rfl ?_
          refine gf_X6_91 rfl rfl hB dX6_wills_142 rfl ?_
          refine jr_iload 2 dX6_wills_145 rfl rfl ?_
          refine jr_iconst (v := 3) dX6_wills_147 (by decide) rfl ?_
          refine jr_iload 3 dX6_wills_148 rfl rfl ?_
          refine jr_imul dX6_wills_150 rfl ?_
          refine jr_iadd dX6_wills_151 rfl ?_
          refine jr_iconst (v := 2) dX6_wills_152 (by decide) rfl ?_
          refine jr_iadd dX6_wills_153 rfl ?_
          obtain ⟨hb_3, hF⟩ := jck_e hF
          refine jh_iald (ci := 6) (k := 40) rfl hB (by decide) rfl rfl hb_3 dX6_wills_154 rfl ?_
          obtain ⟨r_10, M_10, hc_10, hF⟩ := jbd_e hF
          refine jh_callS1 (v := .int r_10) (as := [.int (jx_r M_8 8 40 ((y6 + (3 * z7)) + 2))]) (st := []) (JF_X6_isDecade hB hc_10) cw_X6_188 (iv_X6_isDecade) ⟨rfl, rfl, by decide, by decide⟩ rfl rfl (Nat.le_of_ble_eq_true rfl) dX6_wills_155 rfl ?_
          refine jr_if_ne 168 dX6_wills_158 (by decide) rfl (fun c1 => ?_) (fun c1 => ?_)
          · have hF := jif_n hF c1
            obtain ⟨x7_1, ex7_1⟩ : ∃ z : Int32, z = z7 + 1 := ⟨_, rfl⟩
            have hF := jlet_e hF x7_1 ex7_1
            refine jr_iinc (v := x7_1) (L' := [(7, .int x7_1), (0, .ref (ja E 8 0)), (4, .int y4), (6, .int y6)]) 3 dX6_wills_168 rfl (by rw [ex7_1]; rfl) (by decide) rfl rfl ?_
            refine jr_goto 94 dX6_wills_171 (by decide) ?_
            refine jr_sub [1, 2, 3, 0] rfl ?_
            exact ih x7_1 M_10 hF
          · have hF := jif_p hF c1
            refine jr_aload_n 0 dX6_wills_161 rfl rfl rfl ?_
            refine jr_bipush (v := (-2)) dX6_wills_162 (by decide) rfl ?_
            obtain ⟨r_11, M_11, hc_11, hF⟩ := jbd_e hF
            refine jh_callV1 (v := .int r_11) (o := 8) (as := [.int (-2)]) (st := []) (JF_X6_refused hB hc_11) cw_X6_152 (iv_X6_refused) ⟨rfl, rfl, by decide, by decide⟩ rfl hB rfl rfl (Nat.le_of_ble_eq_true rfl) dX6_wills_164 rfl ?_
            exact jh_iret rfl dX6_wills_167 hF
set_option maxHeartbeats 4000000 in
set_option maxRecDepth 100000 in
theorem JF_X6_wills {E : jx_E} (hB : jB E 8) {a1 : Int32} {a2 : Int32} {a3 : Int32} {a4 : Int32} {M : jx_M} {r : Int32} {M' : jx_M} (hF : F_X6_wills a1 a2 a3 a4 M = some (r, M')) : jC E yX6_wills cX6_wills 8 (some FieldType.int) rm_X6_wills [.ref (ja E 8 0), .int a1, .int a2, .int a3, .int a4] M (fun x M'' => x = some (.int r) ∧ M'' = M') := by
  refine jC.ofJ (L := [(0, .ref (ja E 8 0)), (1, .int a1), (2, .int a2), (3, .int a3), (4, .int a4)]) (by decide +kernel) (Nat.le_of_ble_eq_true rfl) rfl ?_
  unfold F_X6_wills at hF
  refine jr_iload_n 1 dX6_wills_0 rfl rfl rfl ?_
  obtain ⟨r_1, M_1, hc_1, hF⟩ := jbd_e hF
  refine jh_callS1 (v := .int r_1) (as := [.int a1]) (st := []) (JF_X6_noSheet hB hc_1) cw_X6_148 (iv_X6_noSheet) ⟨rfl, rfl, by decide, by decide⟩ rfl rfl (Nat.le_of_ble_eq_true rfl) dX6_wills_1 rfl ?_
  refine jr_if_eq 13 dX6_wills_4 (by decide) rfl (fun c1 => ?_) (fun c1 => ?_)
  · have hF := jif_p hF c1
    refine jr_iload_n 2 dX6_wills_13 rfl rfl rfl ?_
    refine jr_i2l dX6_wills_14 rfl ?_
    refine jr_lconst (v := 0) dX6_wills_15 (by decide) rfl ?_
    refine jr_ldc2 (v := 2) dX6_wills_16 (List.mem_cons_of_mem _ (lw_g_of 802 (by decide +kernel) (by decide +kernel))) rfl ?_
    obtain ⟨r_2, M_2, hc_2, hF⟩ := jbd_e hF
    refine jh_callS1 (v := .int r_2) (as := [.long a2.toInt64, .long 0, .long 2]) (st := []) (JF_X6_in hB hc_2) cw_X6_110 (iv_X6_in) ⟨rfl, rfl, by decide, by decide⟩ rfl rfl (Nat.le_of_ble_eq_true rfl) dX6_wills_19 rfl ?_
    refine jr_if_eq 38 dX6_wills_22 (by decide) rfl (fun c1 => ?_) (fun c1 => ?_)
    · have hF := jif_p hF c1
      refine jr_aload_n 0 dX6_wills_38 rfl rfl rfl ?_
      refine jr_bipush (v := (-2)) dX6_wills_39 (by decide) rfl ?_
      obtain ⟨r_3, M_3, hc_3, hF⟩ := jbd_e hF
      refine jh_callV1 (v := .int r_3) (o := 8) (as := [.int (-2)]) (st := []) (JF_X6_refused hB hc_3) cw_X6_152 (iv_X6_refused) ⟨rfl, rfl, by decide, by decide⟩ rfl hB rfl rfl (Nat.le_of_ble_eq_true rfl) dX6_wills_41 rfl ?_
      exact jh_iret rfl dX6_wills_44 hF
    · have hF := jif_n hF c1
      refine jr_iload 4 dX6_wills_25 rfl rfl ?_
      refine jr_i2l dX6_wills_27 rfl ?_
      refine jr_lconst (v := 0) dX6_wills_28 (by decide) rfl ?_
      refine jr_ldc2 (v := 6) dX6_wills_29 (List.mem_cons_of_mem _ (lw_g_of 965 (by decide +kernel) (by decide +kernel))) rfl ?_
      obtain ⟨r_4, M_4, hc_4, hF⟩ := jbd_e hF
      refine jh_callS1 (v := .int r_4) (as := [.long a4.toInt64, .long 0, .long 6]) (st := []) (JF_X6_in hB hc_4) cw_X6_110 (iv_X6_in) ⟨rfl, rfl, by decide, by decide⟩ rfl rfl (Nat.le_of_ble_eq_true rfl) dX6_wills_32 rfl ?_
      refine jr_if_ne 45 dX6_wills_35 (by decide) rfl (fun c1 => ?_) (fun c1 => ?_)
      · have hF := jif_n hF c1
        refine jr_aload_n 0 dX6_wills_45 rfl rfl rfl ?_
        refine gf_X6_107 rfl rfl hB dX6_wills_46 rfl ?_
        refine jr_if_ne 59 dX6_wills_49 (by decide) rfl (fun c1 => ?_) (fun c1 => ?_)
        · have hF := jif_n hF c1
          refine jr_aload_n 0 dX6_wills_59 rfl rfl rfl ?_
          refine jr_iload_n 1 dX6_wills_60 rfl rfl rfl ?_
          refine jr_iload_n 2 dX6_wills_61 rfl rfl rfl ?_
          refine jr_iload_n 3 dX6_wills_62 rfl rfl rfl ?_
          refine jr_ldc2 (v := 3) dX6_wills_63 (List.mem_cons_of_mem _ (lw_g_of 794 (by decide +kernel) (by decide +kernel))) rfl ?_
          refine jr_iload 4 dX6_wills_66 rfl rfl ?_
          refine jr_i2l dX6_wills_68 rfl ?_
          refine jr_lmul dX6_wills_69 rfl ?_
          obtain ⟨r_5, M_5, hc_5, hF⟩ := jbd_e hF
          refine jh_callV1 (v := .int r_5) (o := 8) (as := [.int a1, .int a2, .int a3, .long (3 * a4.toInt64)]) (st := []) (JF_X6_cellsBarred hB hc_5) cw_X6_157 (iv_X6_cellsBarred) ⟨rfl, rfl, by decide, by decide⟩ rfl hB rfl rfl (Nat.le_of_ble_eq_true rfl) dX6_wills_70 rfl ?_
          refine jr_istore (L' := [(5, .int r_5), (0, .ref (ja E 8 0)), (1, .int a1), (2, .int a2), (3, .int a3), (4, .int a4)]) dX6_wills_73 (by decide) rfl rfl ?_
          refine jr_iload 0 dX6_wills_75 rfl rfl ?_
          refine jr_if_ge 83 dX6_wills_77 (by decide) rfl (fun c1 => ?_) (fun c1 => ?_)
          · have hF := jif_p hF c1
            refine jr_bipush (v := 60) dX6_wills_83 (by decide) rfl ?_
            refine jr_iload_n 2 dX6_wills_85 rfl rfl rfl ?_
            refine jr_imul dX6_wills_86 rfl ?_
            refine jr_iload_n 4 dX6_wills_87 rfl rfl rfl ?_
            refine jr_iadd dX6_wills_88 rfl ?_
            refine jr_topi (fun x6_1 ex6_1 => ?_)
            have hF := jlet_e hF x6_1 ex6_1
            refine jr_istore (L' := [(6, .int x6_1), (5, .int r_5), (0, .ref (ja E 8 0)), (1, .int a1), (2, .int a2), (3, .int a3), (4, .int a4)]) dX6_wills_89 (by decide) rfl rfl ?_
            refine jr_iconst (v := 0) dX6_wills_91 (by decide) rfl ?_
            refine jr_istore (L' := [(7, .int 0), (6, .int x6_1), (5, .int r_5), (0, .ref (ja E 8 0)), (1, .int a1), (2, .int a2), (3, .int a3), (4, .int a4)]) dX6_wills_92 (by decide) rfl rfl ?_
            refine jr_sub [3, 7, 1, 0] rfl ?_
            refine JL_X6_wills_94 hB (fun M_12 hF => ?_) jfu 0 M_5 hF
            refine jr_aload_n 0 dX6_wills_174 rfl rfl rfl ?_
            refine jr_aload_n 0 dX6_wills_175 rfl rfl rfl ?_
            refine jr_iload 2 dX6_wills_176 rfl rfl ?_
            refine jr_iload 1 dX6_wills_178 rfl rfl ?_
            obtain ⟨r_12, M_13, hc_12, hF⟩ := jbd_e hF
            refine jh_callV1 (v := .int r_12) (o := 8) (as := [.int x6_1, .int a4]) (st := [.ref (ja E 8 0)]) (JF_X6_emptiesBy hB hc_12) cw_X6_248 (iv_X6_emptiesBy) ⟨rfl, rfl, by decide, by decide⟩ rfl hB rfl rfl (Nat.le_of_ble_eq_true rfl) dX6_wills_180 rfl ?_
            obtain ⟨r_13, M_14, hc_13, hF⟩ := jbd_e hF
            refine jh_callV1 (v := .int r_13) (o := 8) (as := [.int r_12]) (st := []) (JF_X6_refused hB hc_13) cw_X6_152 (iv_X6_refused) ⟨rfl, rfl, by decide, by decide⟩ rfl hB rfl rfl (Nat.le_of_ble_eq_true rfl) dX6_wills_183 rfl ?_
            exact jh_iret rfl dX6_wills_186 hF
          · have hF := jif_n hF c1
            refine jr_iload 0 dX6_wills_80 rfl rfl ?_
            exact jh_iret rfl dX6_wills_82 hF
        · have hF := jif_p hF c1
          refine jr_aload_n 0 dX6_wills_52 rfl rfl rfl ?_
          refine jr_bipush (v := (-3)) dX6_wills_53 (by decide) rfl ?_
          obtain ⟨r_14, M_15, hc_14, hF⟩ := jbd_e hF
          refine jh_callV1 (v := .int r_14) (o := 8) (as := [.int (-3)]) (st := []) (JF_X6_refused hB hc_14) cw_X6_152 (iv_X6_refused) ⟨rfl, rfl, by decide, by decide⟩ rfl hB rfl rfl (Nat.le_of_ble_eq_true rfl) dX6_wills_55 rfl ?_
          exact jh_iret rfl dX6_wills_58 hF
      · have hF := jif_p hF c1
        refine jr_aload_n 0 dX6_wills_38 rfl rfl rfl ?_
        refine jr_bipush (v := (-2)) dX6_wills_39 (by decide) rfl ?_
        obtain ⟨r_15, M_16, hc_15, hF⟩ := jbd_e hF
        refine jh_callV1 (v := .int r_15) (o := 8) (as := [.int (-2)]) (st := []) (JF_X6_refused hB hc_15) cw_X6_152 (iv_X6_refused) ⟨rfl, rfl, by decide, by decide⟩ rfl hB rfl rfl (Nat.le_of_ble_eq_true rfl) dX6_wills_41 rfl ?_
        exact jh_iret rfl dX6_wills_44 hF
  · have hF := jif_n hF c1
    refine jr_aload_n 0 dX6_wills_7 rfl rfl rfl ?_
    refine jr_iconst (v := (-1)) dX6_wills_8 (by decide) rfl ?_
    obtain ⟨r_16, M_17, hc_16, hF⟩ := jbd_e hF
    refine jh_callV1 (v := .int r_16) (o := 8) (as := [.int (-1)]) (st := []) (JF_X6_refused hB hc_16) cw_X6_152 (iv_X6_refused) ⟨rfl, rfl, by decide, by decide⟩ rfl hB rfl rfl (Nat.le_of_ble_eq_true rfl) dX6_wills_9 rfl ?_
    exact jh_iret rfl dX6_wills_12 hF
set_option maxHeartbeats 4000000 in
set_option maxRecDepth 100000 in
theorem JF_X6_reading {E : jx_E} (hB : jB E 8) {a1 : Int32} {a2 : Int32} {a3 : Int32} {M : jx_M} {r : Int32} {M' : jx_M} (hF : F_X6_reading a1 a2 a3 M = some (r, M')) : jC E yX6_reading cX6_reading 4 (some FieldType.int) rm_X6_reading [.ref (ja E 8 0), .int a1, .int a2, .int a3] M (fun x M'' => x = some (.int r) ∧ M'' = M') := by
  refine jC.ofJ (L := [(0, .ref (ja E 8 0)), (1, .int a1), (2, .int a2), (3, .int a3)]) (by decide +kernel) (Nat.le_of_ble_eq_true rfl) rfl ?_
  unfold F_X6_reading at hF
  refine jr_aload_n 0 dX6_reading_0 rfl rfl rfl ?_
  refine jr_iload_n 1 dX6_reading_1 rfl rfl rfl ?_
  obtain ⟨r_1, M_1, hc_1, hF⟩ := jbd_e hF
  refine jh_callV1 (v := .int r_1) (o := 8) (as := [.int a1]) (st := []) (JF_X6_noPost hB hc_1) cw_X6_185 (iv_X6_noPost) ⟨rfl, rfl, by decide, by decide⟩ rfl hB rfl rfl (Nat.le_of_ble_eq_true rfl) dX6_reading_2 rfl ?_
  refine jr_if_ne 22 dX6_reading_5 (by decide) rfl (fun c1 => ?_) (fun c1 => ?_)
  · have hF := jif_n hF c1
    refine jr_iconst (v := (-1)) dX6_reading_22 (by decide) rfl ?_
    exact jh_iret rfl dX6_reading_23 hF
  · have hF := jif_p hF c1
    refine jr_iload_n 3 dX6_reading_8 rfl rfl rfl ?_
    refine jr_bipush (v := (-9)) dX6_reading_9 (by decide) rfl ?_
    refine jr_icmp_eq 24 dX6_reading_11 (by decide) rfl (fun c1 => ?_) (fun c1 => ?_)
    · have hF := jif_p hF c1
      refine jr_iload_n 2 dX6_reading_24 rfl rfl rfl ?_
      obtain ⟨r_2, M_2, hc_2, hF⟩ := jbd_e hF
      refine jh_callS1 (v := .int r_2) (as := [.int a2]) (st := []) (JF_X6_isDecade hB hc_2) cw_X6_188 (iv_X6_isDecade) ⟨rfl, rfl, by decide, by decide⟩ rfl rfl (Nat.le_of_ble_eq_true rfl) dX6_reading_25 rfl ?_
      refine jr_if_ne 34 dX6_reading_28 (by decide) rfl (fun c1 => ?_) (fun c1 => ?_)
      · have hF := jif_n hF c1
        refine jr_aload_n 0 dX6_reading_34 rfl rfl rfl ?_
        refine gf_X6_173 rfl rfl hB dX6_reading_35 rfl ?_
        refine jr_bipush (v := 8) dX6_reading_38 (by decide) rfl ?_
        refine jr_icmp_ne 46 dX6_reading_40 (by decide) rfl (fun c1 => ?_) (fun c1 => ?_)
        · have hF := jif_n hF c1
          refine jr_aload_n 0 dX6_reading_46 rfl rfl rfl ?_
          refine gf_X6_76 rfl rfl hB dX6_reading_47 rfl ?_
          refine jr_aload_n 0 dX6_reading_50 rfl rfl rfl ?_
          refine gf_X6_173 rfl rfl hB dX6_reading_51 rfl ?_
          refine jr_iload_n 1 dX6_reading_54 rfl rfl rfl ?_
          obtain ⟨hb_1, hF⟩ := jck_e hF
          refine jh_iast (ci := 6) (k := 35) rfl hB (by decide) rfl rfl hb_1 dX6_reading_55 rfl (fun M_3 eM_3 => ?_)
          have hF := jlet_e hF M_3 eM_3
          refine jr_aload_n 0 dX6_reading_56 rfl rfl rfl ?_
          refine gf_X6_79 rfl rfl hB dX6_reading_57 rfl ?_
          refine jr_aload_n 0 dX6_reading_60 rfl rfl rfl ?_
          refine gf_X6_173 rfl rfl hB dX6_reading_61 rfl ?_
          refine jr_iload_n 2 dX6_reading_64 rfl rfl rfl ?_
          obtain ⟨hb_2, hF⟩ := jck_e hF
          refine jh_iast (ci := 6) (k := 36) rfl hB (by decide) rfl rfl hb_2 dX6_reading_65 rfl (fun M_4 eM_4 => ?_)
          have hF := jlet_e hF M_4 eM_4
          refine jr_aload_n 0 dX6_reading_66 rfl rfl rfl ?_
          refine gf_X6_82 rfl rfl hB dX6_reading_67 rfl ?_
          refine jr_aload_n 0 dX6_reading_70 rfl rfl rfl ?_
          refine gf_X6_173 rfl rfl hB dX6_reading_71 rfl ?_
          refine jr_iload_n 3 dX6_reading_74 rfl rfl rfl ?_
          obtain ⟨hb_3, hF⟩ := jck_e hF
          refine jh_iast (ci := 6) (k := 37) rfl hB (by decide) rfl rfl hb_3 dX6_reading_75 rfl (fun M_5 eM_5 => ?_)
          have hF := jlet_e hF M_5 eM_5
          refine jr_aload_n 0 dX6_reading_76 rfl rfl rfl ?_
          refine jr_dup dX6_reading_77 rfl rfl ?_
          refine gf_X6_173 rfl rfl hB dX6_reading_78 rfl ?_
          refine jr_iconst (v := 1) dX6_reading_81 (by decide) rfl ?_
          refine jr_iadd dX6_reading_82 rfl ?_
          refine pf_X6_173 rfl rfl hB dX6_reading_83 ⟨rfl, rfl⟩ rfl (fun M_6 eM_6 => ?_)
          have hF := jlet_e hF M_6 eM_6
          refine jr_aload_n 0 dX6_reading_86 rfl rfl rfl ?_
          refine gf_X6_173 rfl rfl hB dX6_reading_87 rfl ?_
          refine jr_iconst (v := 1) dX6_reading_90 (by decide) rfl ?_
          refine jr_isub dX6_reading_91 rfl ?_
          exact jh_iret rfl dX6_reading_92 hF
        · have hF := jif_p hF c1
          refine jr_bipush (v := (-4)) dX6_reading_43 (by decide) rfl ?_
          exact jh_iret rfl dX6_reading_45 hF
      · have hF := jif_p hF c1
        refine jr_bipush (v := (-2)) dX6_reading_31 (by decide) rfl ?_
        exact jh_iret rfl dX6_reading_33 hF
    · have hF := jif_n hF c1
      refine jr_aload_n 0 dX6_reading_14 rfl rfl rfl ?_
      refine jr_iload_n 3 dX6_reading_15 rfl rfl rfl ?_
      obtain ⟨r_3, M_7, hc_3, hF⟩ := jbd_e hF
      refine jh_callV1 (v := .int r_3) (o := 8) (as := [.int a3]) (st := []) (JF_X6_noPerson hB hc_3) cw_X6_176 (iv_X6_noPerson) ⟨rfl, rfl, by decide, by decide⟩ rfl hB rfl rfl (Nat.le_of_ble_eq_true rfl) dX6_reading_16 rfl ?_
      refine jr_if_eq 24 dX6_reading_19 (by decide) rfl (fun c1 => ?_) (fun c1 => ?_)
      · have hF := jif_p hF c1
        refine jr_iload_n 2 dX6_reading_24 rfl rfl rfl ?_
        obtain ⟨r_4, M_8, hc_4, hF⟩ := jbd_e hF
        refine jh_callS1 (v := .int r_4) (as := [.int a2]) (st := []) (JF_X6_isDecade hB hc_4) cw_X6_188 (iv_X6_isDecade) ⟨rfl, rfl, by decide, by decide⟩ rfl rfl (Nat.le_of_ble_eq_true rfl) dX6_reading_25 rfl ?_
        refine jr_if_ne 34 dX6_reading_28 (by decide) rfl (fun c1 => ?_) (fun c1 => ?_)
        · have hF := jif_n hF c1
          refine jr_aload_n 0 dX6_reading_34 rfl rfl rfl ?_
          refine gf_X6_173 rfl rfl hB dX6_reading_35 rfl ?_
          refine jr_bipush (v := 8) dX6_reading_38 (by decide) rfl ?_
          refine jr_icmp_ne 46 dX6_reading_40 (by decide) rfl (fun c1 => ?_) (fun c1 => ?_)
          · have hF := jif_n hF c1
            refine jr_aload_n 0 dX6_reading_46 rfl rfl rfl ?_
            refine gf_X6_76 rfl rfl hB dX6_reading_47 rfl ?_
            refine jr_aload_n 0 dX6_reading_50 rfl rfl rfl ?_
            refine gf_X6_173 rfl rfl hB dX6_reading_51 rfl ?_
            refine jr_iload_n 1 dX6_reading_54 rfl rfl rfl ?_
            obtain ⟨hb_4, hF⟩ := jck_e hF
            refine jh_iast (ci := 6) (k := 35) rfl hB (by decide) rfl rfl hb_4 dX6_reading_55 rfl (fun M_9 eM_9 => ?_)
            have hF := jlet_e hF M_9 eM_9
            refine jr_aload_n 0 dX6_reading_56 rfl rfl rfl ?_
            refine gf_X6_79 rfl rfl hB dX6_reading_57 rfl ?_
            refine jr_aload_n 0 dX6_reading_60 rfl rfl rfl ?_
            refine gf_X6_173 rfl rfl hB dX6_reading_61 rfl ?_
            refine jr_iload_n 2 dX6_reading_64 rfl rfl rfl ?_
            obtain ⟨hb_5, hF⟩ := jck_e hF
            refine jh_iast (ci := 6) (k := 36) rfl hB (by decide) rfl rfl hb_5 dX6_reading_65 rfl (fun M_10 eM_10 => ?_)
            have hF := jlet_e hF M_10 eM_10
            refine jr_aload_n 0 dX6_reading_66 rfl rfl rfl ?_
            refine gf_X6_82 rfl rfl hB dX6_reading_67 rfl ?_
            refine jr_aload_n 0 dX6_reading_70 rfl rfl rfl ?_
            refine gf_X6_173 rfl rfl hB dX6_reading_71 rfl ?_
            refine jr_iload_n 3 dX6_reading_74 rfl rfl rfl ?_
            obtain ⟨hb_6, hF⟩ := jck_e hF
            refine jh_iast (ci := 6) (k := 37) rfl hB (by decide) rfl rfl hb_6 dX6_reading_75 rfl (fun M_11 eM_11 => ?_)
            have hF := jlet_e hF M_11 eM_11
            refine jr_aload_n 0 dX6_reading_76 rfl rfl rfl ?_
            refine jr_dup dX6_reading_77 rfl rfl ?_
            refine gf_X6_173 rfl rfl hB dX6_reading_78 rfl ?_
            refine jr_iconst (v := 1) dX6_reading_81 (by decide) rfl ?_
            refine jr_iadd dX6_reading_82 rfl ?_
            refine pf_X6_173 rfl rfl hB dX6_reading_83 ⟨rfl, rfl⟩ rfl (fun M_12 eM_12 => ?_)
            have hF := jlet_e hF M_12 eM_12
            refine jr_aload_n 0 dX6_reading_86 rfl rfl rfl ?_
            refine gf_X6_173 rfl rfl hB dX6_reading_87 rfl ?_
            refine jr_iconst (v := 1) dX6_reading_90 (by decide) rfl ?_
            refine jr_isub dX6_reading_91 rfl ?_
            exact jh_iret rfl dX6_reading_92 hF
          · have hF := jif_p hF c1
            refine jr_bipush (v := (-4)) dX6_reading_43 (by decide) rfl ?_
            exact jh_iret rfl dX6_reading_45 hF
        · have hF := jif_p hF c1
          refine jr_bipush (v := (-2)) dX6_reading_31 (by decide) rfl ?_
          exact jh_iret rfl dX6_reading_33 hF
      · have hF := jif_n hF c1
        refine jr_iconst (v := (-1)) dX6_reading_22 (by decide) rfl ?_
        exact jh_iret rfl dX6_reading_23 hF
set_option maxHeartbeats 4000000 in
set_option maxRecDepth 100000 in
theorem JF_X6_back {E : jx_E} (hB : jB E 8) {a1 : Int32} {M : jx_M} {r : Int32} {M' : jx_M} (hF : F_X6_back a1 M = some (r, M')) : jC E yX6_back cX6_back 2 (some FieldType.int) rm_X6_back [.ref (ja E 8 0), .int a1] M (fun x M'' => x = some (.int r) ∧ M'' = M') := by
  refine jC.ofJ (L := [(0, .ref (ja E 8 0)), (1, .int a1)]) (by decide +kernel) (Nat.le_of_ble_eq_true rfl) rfl ?_
  unfold F_X6_back at hF
  refine jr_iload_n 1 dX6_back_0 rfl rfl rfl ?_
  refine jr_i2l dX6_back_1 rfl ?_
  refine jr_lconst (v := 0) dX6_back_2 (by decide) rfl ?_
  refine jr_aload_n 0 dX6_back_3 rfl rfl rfl ?_
  refine gf_X6_173 rfl rfl hB dX6_back_4 rfl ?_
  refine jr_i2l dX6_back_7 rfl ?_
  obtain ⟨r_1, M_1, hc_1, hF⟩ := jbd_e hF
  refine jh_callS1 (v := .int r_1) (as := [.long a1.toInt64, .long 0, .long ((M 8 34 0).toInt64)]) (st := []) (JF_X6_in hB hc_1) cw_X6_110 (iv_X6_in) ⟨rfl, rfl, by decide, by decide⟩ rfl rfl (Nat.le_of_ble_eq_true rfl) dX6_back_8 rfl ?_
  refine jr_if_ne 17 dX6_back_11 (by decide) rfl (fun c1 => ?_) (fun c1 => ?_)
  · have hF := jif_n hF c1
    refine jr_aload_n 0 dX6_back_17 rfl rfl rfl ?_
    refine jr_dup dX6_back_18 rfl rfl ?_
    refine gf_X6_173 rfl rfl hB dX6_back_19 rfl ?_
    refine jr_iload_n 1 dX6_back_22 rfl rfl rfl ?_
    refine jr_isub dX6_back_23 rfl ?_
    refine pf_X6_173 rfl rfl hB dX6_back_24 ⟨rfl, rfl⟩ rfl (fun M_2 eM_2 => ?_)
    have hF := jlet_e hF M_2 eM_2
    refine jr_aload_n 0 dX6_back_27 rfl rfl rfl ?_
    refine gf_X6_173 rfl rfl hB dX6_back_28 rfl ?_
    exact jh_iret rfl dX6_back_31 hF
  · have hF := jif_p hF c1
    refine jr_bipush (v := (-2)) dX6_back_14 (by decide) rfl ?_
    exact jh_iret rfl dX6_back_16 hF
set_option maxHeartbeats 4000000 in
set_option maxRecDepth 100000 in
theorem JL_X6_areSo_4 {E : jx_E} (hB : jB E 8) {k : Int32 → jx_M → Option (Int32 × jx_M)} {r : Int32} {M' : jx_M} (hk : ∀ (z1 : Int32) (M : jx_M), k z1 M = some (r, M') → jJ E yX6_areSo cX6_areSo 3 (some FieldType.boolean) rm_X6_areSo (fun x M'' => x = some (.int r) ∧ M'' = M') 58 [(1, .int z1)] [] M) : ∀ (n : Nat) (z1 : Int32) (z2 : Int32) (M : jx_M), L_X6_areSo_4 k n z1 z2 M = some (r, M') → jJ E yX6_areSo cX6_areSo 3 (some FieldType.boolean) rm_X6_areSo (fun x M'' => x = some (.int r) ∧ M'' = M') 4 [(0, .ref (ja E 8 0)), (1, .int z1), (2, .int z2)] [] M := by
  intro n
  induction n with
  | zero => intro z1 z2 M hF; exact nomatch (show (none : Option (Int32 × jx_M)) = some _ from hF)
  | succ n ih =>
    intro z1 z2 M hF
    rw [L_X6_areSo_4.eq_2] at hF
    refine jr_iload_n 2 dX6_areSo_4 rfl rfl rfl ?_
    refine jr_aload_n 0 dX6_areSo_5 rfl rfl rfl ?_
    refine gf_X6_173 rfl rfl hB dX6_areSo_6 rfl ?_
    refine jr_icmp_ge 58 dX6_areSo_9 (by decide) rfl (fun c1 => ?_) (fun c1 => ?_)
    · have hF := jif_p hF c1
      refine jr_sub [1] rfl ?_
      exact hk z1 M hF
    · have hF := jif_n hF c1
      refine jr_iload_n 1 dX6_areSo_12 rfl rfl rfl ?_
      refine jr_if_eq 58 dX6_areSo_13 (by decide) rfl (fun c1 => ?_) (fun c1 => ?_)
      · have hF := jif_p hF c1
        refine jr_sub [1] rfl ?_
        exact hk z1 M hF
      · have hF := jif_n hF c1
        refine jr_aload_n 0 dX6_areSo_16 rfl rfl rfl ?_
        refine jr_aload_n 0 dX6_areSo_17 rfl rfl rfl ?_
        refine gf_X6_79 rfl rfl hB dX6_areSo_18 rfl ?_
        refine jr_iload_n 2 dX6_areSo_21 rfl rfl rfl ?_
        obtain ⟨hb_1, hF⟩ := jck_e hF
        refine jh_iald (ci := 6) (k := 36) rfl hB (by decide) rfl rfl hb_1 dX6_areSo_22 rfl ?_
        obtain ⟨r_1, M_1, hc_1, hF⟩ := jbd_e hF
        refine jh_callV0 (o := 8) (as := [.int (jx_r M 8 36 z2)]) (st := []) (JF_X6_goTo hB hc_1) cw_X6_232 (iv_X6_goTo) ⟨rfl, rfl, by decide, by decide⟩ rfl hB rfl rfl (Nat.le_of_ble_eq_true rfl) dX6_areSo_23 rfl ?_
        refine jr_aload_n 0 dX6_areSo_26 rfl rfl rfl ?_
        refine gf_X6_64 rfl rfl hB dX6_areSo_27 rfl ?_
        refine jr_aload_n 0 dX6_areSo_30 rfl rfl rfl ?_
        refine gf_X6_76 rfl rfl hB dX6_areSo_31 rfl ?_
        refine jr_iload_n 2 dX6_areSo_34 rfl rfl rfl ?_
        obtain ⟨hb_2, hF⟩ := jck_e hF
        refine jh_iald (ci := 6) (k := 35) rfl hB (by decide) rfl rfl hb_2 dX6_areSo_35 rfl ?_
        obtain ⟨hb_3, hF⟩ := jck_e hF
        refine jh_iald (ci := 6) (k := 27) rfl hB (by decide) rfl rfl hb_3 dX6_areSo_36 rfl ?_
        refine jr_aload_n 0 dX6_areSo_37 rfl rfl rfl ?_
        refine gf_X6_82 rfl rfl hB dX6_areSo_38 rfl ?_
        refine jr_iload_n 2 dX6_areSo_41 rfl rfl rfl ?_
        obtain ⟨hb_4, hF⟩ := jck_e hF
        refine jh_iald (ci := 6) (k := 37) rfl hB (by decide) rfl rfl hb_4 dX6_areSo_42 rfl ?_
        refine jr_icmp_ne 50 dX6_areSo_43 (by decide) rfl (fun c1 => ?_) (fun c1 => ?_)
        · have hF := jif_n hF c1
          refine jr_iconst (v := 0) dX6_areSo_50 (by decide) rfl ?_
          refine jr_istore_n (L' := [(1, .int 0), (0, .ref (ja E 8 0)), (2, .int z2)]) dX6_areSo_51 rfl (by decide) rfl rfl ?_
          obtain ⟨x2_1, ex2_1⟩ : ∃ z : Int32, z = z2 + 1 := ⟨_, rfl⟩
          have hF := jlet_e hF x2_1 ex2_1
          refine jr_iinc (v := x2_1) (L' := [(2, .int x2_1), (1, .int 0), (0, .ref (ja E 8 0))]) 2 dX6_areSo_52 rfl (by rw [ex2_1]; rfl) (by decide) rfl rfl ?_
          refine jr_goto 4 dX6_areSo_55 (by decide) ?_
          refine jr_sub [2, 1, 0] rfl ?_
          exact ih 0 x2_1 M_1 hF
        · have hF := jif_p hF c1
          refine jr_iconst (v := 1) dX6_areSo_46 (by decide) rfl ?_
          refine jr_goto 51 dX6_areSo_47 (by decide) ?_
          refine jr_istore_n (L' := [(1, .int 1), (0, .ref (ja E 8 0)), (2, .int z2)]) dX6_areSo_51 rfl (by decide) rfl rfl ?_
          obtain ⟨x2_2, ex2_2⟩ : ∃ z : Int32, z = z2 + 1 := ⟨_, rfl⟩
          have hF := jlet_e hF x2_2 ex2_2
          refine jr_iinc (v := x2_2) (L' := [(2, .int x2_2), (1, .int 1), (0, .ref (ja E 8 0))]) 2 dX6_areSo_52 rfl (by rw [ex2_2]; rfl) (by decide) rfl rfl ?_
          refine jr_goto 4 dX6_areSo_55 (by decide) ?_
          refine jr_sub [2, 1, 0] rfl ?_
          exact ih 1 x2_2 M_1 hF
set_option maxHeartbeats 4000000 in
set_option maxRecDepth 100000 in
theorem JF_X6_areSo {E : jx_E} (hB : jB E 8) {M : jx_M} {r : Int32} {M' : jx_M} (hF : F_X6_areSo  M = some (r, M')) : jC E yX6_areSo cX6_areSo 3 (some FieldType.boolean) rm_X6_areSo [.ref (ja E 8 0)] M (fun x M'' => x = some (.int r) ∧ M'' = M') := by
  refine jC.ofJ (L := [(0, .ref (ja E 8 0))]) (by decide +kernel) (Nat.le_of_ble_eq_true rfl) rfl ?_
  unfold F_X6_areSo at hF
  refine jr_iconst (v := 1) dX6_areSo_0 (by decide) rfl ?_
  refine jr_istore_n (L' := [(1, .int 1), (0, .ref (ja E 8 0))]) dX6_areSo_1 rfl (by decide) rfl rfl ?_
  refine jr_iconst (v := 0) dX6_areSo_2 (by decide) rfl ?_
  refine jr_istore_n (L' := [(2, .int 0), (1, .int 1), (0, .ref (ja E 8 0))]) dX6_areSo_3 rfl (by decide) rfl rfl ?_
  refine jr_sub [2, 1, 0] rfl ?_
  refine JL_X6_areSo_4 hB (fun x1_1 M_2 hF => ?_) jfu 1 0 M hF
  refine jr_iload_n 0 dX6_areSo_58 rfl rfl rfl ?_
  obtain ⟨hb_5, hF⟩ := jck_e hF
  exact jh_zret rfl (jin_2 hb_5) dX6_areSo_59 hF
set_option maxHeartbeats 4000000 in
set_option maxRecDepth 100000 in
theorem JL_X6_laws_19 {E : jx_E} (hB : jB E 8) {y1 : Int32} {k : Int32 → jx_M → Option (Int32 × jx_M)} {r : Int32} {M' : jx_M} (hk : ∀ (z2 : Int32) (M : jx_M), k z2 M = some (r, M') → jJ E yX6_laws cX6_laws 4 (some FieldType.int) rm_X6_laws (fun x M'' => x = some (.int r) ∧ M'' = M') 52 [(0, .ref (ja E 8 0)), (1, .int y1), (2, .int z2)] [] M) : ∀ (n : Nat) (z2 : Int32) (z3 : Int32) (M : jx_M), L_X6_laws_19 y1 k n z2 z3 M = some (r, M') → jJ E yX6_laws cX6_laws 4 (some FieldType.int) rm_X6_laws (fun x M'' => x = some (.int r) ∧ M'' = M') 19 [(0, .ref (ja E 8 0)), (1, .int y1), (2, .int z2), (3, .int z3)] [] M := by
  intro n
  induction n with
  | zero => intro z2 z3 M hF; exact nomatch (show (none : Option (Int32 × jx_M)) = some _ from hF)
  | succ n ih =>
    intro z2 z3 M hF
    rw [L_X6_laws_19.eq_2] at hF
    refine jr_iload_n 3 dX6_laws_19 rfl rfl rfl ?_
    refine jr_iconst (v := 3) dX6_laws_20 (by decide) rfl ?_
    refine jr_icmp_ge 52 dX6_laws_21 (by decide) rfl (fun c1 => ?_) (fun c1 => ?_)
    · have hF := jif_p hF c1
      refine jr_sub [0, 1, 2] rfl ?_
      exact hk z2 M hF
    · have hF := jif_n hF c1
      refine jr_aload_n 0 dX6_laws_24 rfl rfl rfl ?_
      refine jr_iload_n 3 dX6_laws_25 rfl rfl rfl ?_
      refine pf_X6_167 rfl rfl hB dX6_laws_26 ⟨rfl, rfl⟩ rfl (fun M_1 eM_1 => ?_)
      have hF := jlet_e hF M_1 eM_1
      refine jr_iload_n 2 dX6_laws_29 rfl rfl rfl ?_
      refine jr_aload_n 0 dX6_laws_30 rfl rfl rfl ?_
      obtain ⟨r_1, M_2, hc_1, hF⟩ := jbd_e hF
      refine jh_callV1 (v := .int r_1) (o := 8) (as := []) (st := [.int z2]) (JF_X6_areSo hB hc_1) cw_X6_251 (iv_X6_areSo) ⟨rfl, rfl, by decide, by decide⟩ rfl hB rfl rfl (Nat.le_of_ble_eq_true rfl) dX6_laws_31 rfl ?_
      refine jr_if_eq 43 dX6_laws_34 (by decide) rfl (fun c1 => ?_) (fun c1 => ?_)
      · have hF := jif_p hF c1
        refine jr_iconst (v := 0) dX6_laws_43 (by decide) rfl ?_
        refine jr_ior dX6_laws_44 rfl ?_
        refine jr_topi (fun x2_1 ex2_1 => ?_)
        have hF := jlet_e hF x2_1 ex2_1
        refine jr_istore_n (L' := [(2, .int x2_1), (0, .ref (ja E 8 0)), (1, .int y1), (3, .int z3)]) dX6_laws_45 rfl (by decide) rfl rfl ?_
        obtain ⟨x3_1, ex3_1⟩ : ∃ z : Int32, z = z3 + 1 := ⟨_, rfl⟩
        have hF := jlet_e hF x3_1 ex3_1
        refine jr_iinc (v := x3_1) (L' := [(3, .int x3_1), (2, .int x2_1), (0, .ref (ja E 8 0)), (1, .int y1)]) 3 dX6_laws_46 rfl (by rw [ex3_1]; rfl) (by decide) rfl rfl ?_
        refine jr_goto 19 dX6_laws_49 (by decide) ?_
        refine jr_sub [2, 3, 1, 0] rfl ?_
        exact ih x2_1 x3_1 M_2 hF
      · have hF := jif_n hF c1
        refine jr_iconst (v := 1) dX6_laws_37 (by decide) rfl ?_
        refine jr_iload_n 3 dX6_laws_38 rfl rfl rfl ?_
        refine jr_ishl dX6_laws_39 rfl ?_
        refine jr_goto 44 dX6_laws_40 (by decide) ?_
        refine jr_ior dX6_laws_44 rfl ?_
        refine jr_topi (fun x2_2 ex2_2 => ?_)
        have hF := jlet_e hF x2_2 ex2_2
        refine jr_istore_n (L' := [(2, .int x2_2), (0, .ref (ja E 8 0)), (1, .int y1), (3, .int z3)]) dX6_laws_45 rfl (by decide) rfl rfl ?_
        obtain ⟨x3_2, ex3_2⟩ : ∃ z : Int32, z = z3 + 1 := ⟨_, rfl⟩
        have hF := jlet_e hF x3_2 ex3_2
        refine jr_iinc (v := x3_2) (L' := [(3, .int x3_2), (2, .int x2_2), (0, .ref (ja E 8 0)), (1, .int y1)]) 3 dX6_laws_46 rfl (by rw [ex3_2]; rfl) (by decide) rfl rfl ?_
        refine jr_goto 19 dX6_laws_49 (by decide) ?_
        refine jr_sub [2, 3, 1, 0] rfl ?_
        exact ih x2_2 x3_2 M_2 hF
set_option maxHeartbeats 4000000 in
set_option maxRecDepth 100000 in
theorem JF_X6_laws {E : jx_E} (hB : jB E 8) {M : jx_M} {r : Int32} {M' : jx_M} (hF : F_X6_laws  M = some (r, M')) : jC E yX6_laws cX6_laws 4 (some FieldType.int) rm_X6_laws [.ref (ja E 8 0)] M (fun x M'' => x = some (.int r) ∧ M'' = M') := by
  refine jC.ofJ (L := [(0, .ref (ja E 8 0))]) (by decide +kernel) (Nat.le_of_ble_eq_true rfl) rfl ?_
  unfold F_X6_laws at hF
  refine jr_aload_n 0 dX6_laws_0 rfl rfl rfl ?_
  refine gf_X6_107 rfl rfl hB dX6_laws_1 rfl ?_
  refine jr_if_ne 10 dX6_laws_4 (by decide) rfl (fun c1 => ?_) (fun c1 => ?_)
  · have hF := jif_n hF c1
    refine jr_aload_n 0 dX6_laws_10 rfl rfl rfl ?_
    refine gf_X6_167 rfl rfl hB dX6_laws_11 rfl ?_
    refine jr_topi (fun x1_1 ex1_1 => ?_)
    have hF := jlet_e hF x1_1 ex1_1
    refine jr_istore_n (L' := [(1, .int x1_1), (0, .ref (ja E 8 0))]) dX6_laws_14 rfl (by decide) rfl rfl ?_
    refine jr_iconst (v := 0) dX6_laws_15 (by decide) rfl ?_
    refine jr_istore_n (L' := [(2, .int 0), (1, .int x1_1), (0, .ref (ja E 8 0))]) dX6_laws_16 rfl (by decide) rfl rfl ?_
    refine jr_iconst (v := 0) dX6_laws_17 (by decide) rfl ?_
    refine jr_istore_n (L' := [(3, .int 0), (2, .int 0), (1, .int x1_1), (0, .ref (ja E 8 0))]) dX6_laws_18 rfl (by decide) rfl rfl ?_
    refine jr_sub [3, 2, 1, 0] rfl ?_
    refine JL_X6_laws_19 hB (fun x2_3 M_3 hF => ?_) jfu 0 0 M hF
    refine jr_aload_n 0 dX6_laws_52 rfl rfl rfl ?_
    refine jr_iload_n 1 dX6_laws_53 rfl rfl rfl ?_
    refine pf_X6_167 rfl rfl hB dX6_laws_54 ⟨rfl, rfl⟩ rfl (fun M_4 eM_4 => ?_)
    have hF := jlet_e hF M_4 eM_4
    refine jr_iload_n 2 dX6_laws_57 rfl rfl rfl ?_
    exact jh_iret rfl dX6_laws_58 hF
  · have hF := jif_p hF c1
    refine jr_bipush (v := (-3)) dX6_laws_7 (by decide) rfl ?_
    exact jh_iret rfl dX6_laws_9 hF
set_option maxHeartbeats 4000000 in
set_option maxRecDepth 100000 in
theorem JL_X6_stubborn_19 {E : jx_E} (hB : jB E 8) {y1 : Int32} {k : Int32 → jx_M → Option (Int32 × jx_M)} {r : Int32} {M' : jx_M} (hk : ∀ (z2 : Int32) (M : jx_M), k z2 M = some (r, M') → jJ E yX6_stubborn cX6_stubborn 4 (some FieldType.int) rm_X6_stubborn (fun x M'' => x = some (.int r) ∧ M'' = M') 59 [(0, .ref (ja E 8 0)), (1, .int y1), (2, .int z2)] [] M) : ∀ (n : Nat) (z2 : Int32) (z3 : Int32) (M : jx_M), L_X6_stubborn_19 y1 k n z2 z3 M = some (r, M') → jJ E yX6_stubborn cX6_stubborn 4 (some FieldType.int) rm_X6_stubborn (fun x M'' => x = some (.int r) ∧ M'' = M') 19 [(0, .ref (ja E 8 0)), (1, .int y1), (2, .int z2), (3, .int z3)] [] M := by
  intro n
  induction n with
  | zero => intro z2 z3 M hF; exact nomatch (show (none : Option (Int32 × jx_M)) = some _ from hF)
  | succ n ih =>
    intro z2 z3 M hF
    rw [L_X6_stubborn_19.eq_2] at hF
    refine jr_iload_n 3 dX6_stubborn_19 rfl rfl rfl ?_
    refine jr_aload_n 0 dX6_stubborn_20 rfl rfl rfl ?_
    refine gf_X6_107 rfl rfl hB dX6_stubborn_21 rfl ?_
    refine jr_icmp_ge 59 dX6_stubborn_24 (by decide) rfl (fun c1 => ?_) (fun c1 => ?_)
    · have hF := jif_p hF c1
      refine jr_sub [0, 1, 2] rfl ?_
      exact hk z2 M hF
    · have hF := jif_n hF c1
      refine jr_aload_n 0 dX6_stubborn_27 rfl rfl rfl ?_
      refine jr_iload_n 1 dX6_stubborn_28 rfl rfl rfl ?_
      refine jr_iconst (v := 1) dX6_stubborn_29 (by decide) rfl ?_
      refine jr_iload_n 3 dX6_stubborn_30 rfl rfl rfl ?_
      refine jr_ishl dX6_stubborn_31 rfl ?_
      refine jr_ior dX6_stubborn_32 rfl ?_
      refine pf_X6_164 rfl rfl hB dX6_stubborn_33 ⟨rfl, rfl⟩ rfl (fun M_1 eM_1 => ?_)
      have hF := jlet_e hF M_1 eM_1
      refine jr_iload_n 2 dX6_stubborn_36 rfl rfl rfl ?_
      refine jr_aload_n 0 dX6_stubborn_37 rfl rfl rfl ?_
      obtain ⟨r_1, M_2, hc_1, hF⟩ := jbd_e hF
      refine jh_callV1 (v := .int r_1) (o := 8) (as := []) (st := [.int z2]) (JF_X6_areSo hB hc_1) cw_X6_251 (iv_X6_areSo) ⟨rfl, rfl, by decide, by decide⟩ rfl hB rfl rfl (Nat.le_of_ble_eq_true rfl) dX6_stubborn_38 rfl ?_
      refine jr_if_eq 50 dX6_stubborn_41 (by decide) rfl (fun c1 => ?_) (fun c1 => ?_)
      · have hF := jif_p hF c1
        refine jr_iconst (v := 0) dX6_stubborn_50 (by decide) rfl ?_
        refine jr_ior dX6_stubborn_51 rfl ?_
        refine jr_topi (fun x2_1 ex2_1 => ?_)
        have hF := jlet_e hF x2_1 ex2_1
        refine jr_istore_n (L' := [(2, .int x2_1), (0, .ref (ja E 8 0)), (1, .int y1), (3, .int z3)]) dX6_stubborn_52 rfl (by decide) rfl rfl ?_
        obtain ⟨x3_1, ex3_1⟩ : ∃ z : Int32, z = z3 + 1 := ⟨_, rfl⟩
        have hF := jlet_e hF x3_1 ex3_1
        refine jr_iinc (v := x3_1) (L' := [(3, .int x3_1), (2, .int x2_1), (0, .ref (ja E 8 0)), (1, .int y1)]) 3 dX6_stubborn_53 rfl (by rw [ex3_1]; rfl) (by decide) rfl rfl ?_
        refine jr_goto 19 dX6_stubborn_56 (by decide) ?_
        refine jr_sub [2, 3, 1, 0] rfl ?_
        exact ih x2_1 x3_1 M_2 hF
      · have hF := jif_n hF c1
        refine jr_iconst (v := 1) dX6_stubborn_44 (by decide) rfl ?_
        refine jr_iload_n 3 dX6_stubborn_45 rfl rfl rfl ?_
        refine jr_ishl dX6_stubborn_46 rfl ?_
        refine jr_goto 51 dX6_stubborn_47 (by decide) ?_
        refine jr_ior dX6_stubborn_51 rfl ?_
        refine jr_topi (fun x2_2 ex2_2 => ?_)
        have hF := jlet_e hF x2_2 ex2_2
        refine jr_istore_n (L' := [(2, .int x2_2), (0, .ref (ja E 8 0)), (1, .int y1), (3, .int z3)]) dX6_stubborn_52 rfl (by decide) rfl rfl ?_
        obtain ⟨x3_2, ex3_2⟩ : ∃ z : Int32, z = z3 + 1 := ⟨_, rfl⟩
        have hF := jlet_e hF x3_2 ex3_2
        refine jr_iinc (v := x3_2) (L' := [(3, .int x3_2), (2, .int x2_2), (0, .ref (ja E 8 0)), (1, .int y1)]) 3 dX6_stubborn_53 rfl (by rw [ex3_2]; rfl) (by decide) rfl rfl ?_
        refine jr_goto 19 dX6_stubborn_56 (by decide) ?_
        refine jr_sub [2, 3, 1, 0] rfl ?_
        exact ih x2_2 x3_2 M_2 hF
set_option maxHeartbeats 4000000 in
set_option maxRecDepth 100000 in
theorem JF_X6_stubborn {E : jx_E} (hB : jB E 8) {M : jx_M} {r : Int32} {M' : jx_M} (hF : F_X6_stubborn  M = some (r, M')) : jC E yX6_stubborn cX6_stubborn 4 (some FieldType.int) rm_X6_stubborn [.ref (ja E 8 0)] M (fun x M'' => x = some (.int r) ∧ M'' = M') := by
  refine jC.ofJ (L := [(0, .ref (ja E 8 0))]) (by decide +kernel) (Nat.le_of_ble_eq_true rfl) rfl ?_
  unfold F_X6_stubborn at hF
  refine jr_aload_n 0 dX6_stubborn_0 rfl rfl rfl ?_
  refine gf_X6_107 rfl rfl hB dX6_stubborn_1 rfl ?_
  refine jr_if_ne 10 dX6_stubborn_4 (by decide) rfl (fun c1 => ?_) (fun c1 => ?_)
  · have hF := jif_n hF c1
    refine jr_aload_n 0 dX6_stubborn_10 rfl rfl rfl ?_
    refine gf_X6_164 rfl rfl hB dX6_stubborn_11 rfl ?_
    refine jr_topi (fun x1_1 ex1_1 => ?_)
    have hF := jlet_e hF x1_1 ex1_1
    refine jr_istore_n (L' := [(1, .int x1_1), (0, .ref (ja E 8 0))]) dX6_stubborn_14 rfl (by decide) rfl rfl ?_
    refine jr_iconst (v := 0) dX6_stubborn_15 (by decide) rfl ?_
    refine jr_istore_n (L' := [(2, .int 0), (1, .int x1_1), (0, .ref (ja E 8 0))]) dX6_stubborn_16 rfl (by decide) rfl rfl ?_
    refine jr_iconst (v := 0) dX6_stubborn_17 (by decide) rfl ?_
    refine jr_istore_n (L' := [(3, .int 0), (2, .int 0), (1, .int x1_1), (0, .ref (ja E 8 0))]) dX6_stubborn_18 rfl (by decide) rfl rfl ?_
    refine jr_sub [3, 2, 1, 0] rfl ?_
    refine JL_X6_stubborn_19 hB (fun x2_3 M_3 hF => ?_) jfu 0 0 M hF
    refine jr_aload_n 0 dX6_stubborn_59 rfl rfl rfl ?_
    refine jr_iload_n 1 dX6_stubborn_60 rfl rfl rfl ?_
    refine pf_X6_164 rfl rfl hB dX6_stubborn_61 ⟨rfl, rfl⟩ rfl (fun M_4 eM_4 => ?_)
    have hF := jlet_e hF M_4 eM_4
    refine jr_iload_n 2 dX6_stubborn_64 rfl rfl rfl ?_
    exact jh_iret rfl dX6_stubborn_65 hF
  · have hF := jif_p hF c1
    refine jr_bipush (v := (-3)) dX6_stubborn_7 (by decide) rfl ?_
    exact jh_iret rfl dX6_stubborn_9 hF
set_option maxHeartbeats 4000000 in
set_option maxRecDepth 100000 in
theorem JL_X6_named_59 {E : jx_E} (hB : jB E 8) {k : Int32 → jx_M → Option (Int32 × jx_M)} {r : Int32} {M' : jx_M} (hk : ∀ (z3 : Int32) (M : jx_M), k z3 M = some (r, M') → jJ E yX6_named cX6_named 5 (some FieldType.int) rm_X6_named (fun x M'' => x = some (.int r) ∧ M'' = M') 105 [(0, .ref (ja E 8 0)), (3, .int z3)] [] M) : ∀ (n : Nat) (z3 : Int32) (z4 : Int32) (M : jx_M), L_X6_named_59 k n z3 z4 M = some (r, M') → jJ E yX6_named cX6_named 5 (some FieldType.int) rm_X6_named (fun x M'' => x = some (.int r) ∧ M'' = M') 59 [(0, .ref (ja E 8 0)), (3, .int z3), (4, .int z4)] [] M := by
  intro n
  induction n with
  | zero => intro z3 z4 M hF; exact nomatch (show (none : Option (Int32 × jx_M)) = some _ from hF)
  | succ n ih =>
    intro z3 z4 M hF
    rw [L_X6_named_59.eq_2] at hF
    refine jr_iload 2 dX6_named_59 rfl rfl ?_
    refine jr_aload_n 0 dX6_named_61 rfl rfl rfl ?_
    refine gf_X6_107 rfl rfl hB dX6_named_62 rfl ?_
    refine jr_icmp_ge 105 dX6_named_65 (by decide) rfl (fun c1 => ?_) (fun c1 => ?_)
    · have hF := jif_p hF c1
      refine jr_sub [0, 1] rfl ?_
      exact hk z3 M hF
    · have hF := jif_n hF c1
      refine jr_aload_n 0 dX6_named_68 rfl rfl rfl ?_
      refine gf_X6_46 rfl rfl hB dX6_named_69 rfl ?_
      refine jr_aload_n 0 dX6_named_72 rfl rfl rfl ?_
      refine gf_X6_170 rfl rfl hB dX6_named_73 rfl ?_
      refine jr_iconst (v := 1) dX6_named_76 (by decide) rfl ?_
      refine jr_isub dX6_named_77 rfl ?_
      refine jr_iload 2 dX6_named_78 rfl rfl ?_
      obtain ⟨hb_3, hF⟩ := jck_e hF
      refine jh_iast (ci := 6) (k := 21) rfl hB (by decide) rfl rfl hb_3 dX6_named_80 rfl (fun M_6 eM_6 => ?_)
      have hF := jlet_e hF M_6 eM_6
      refine jr_iload_n 1 dX6_named_81 rfl rfl rfl ?_
      refine jr_aload_n 0 dX6_named_82 rfl rfl rfl ?_
      obtain ⟨r_3, M_7, hc_3, hF⟩ := jbd_e hF
      refine jh_callV1 (v := .int r_3) (o := 8) (as := []) (st := [.int z3]) (JF_X6_areSo hB hc_3) cw_X6_251 (iv_X6_areSo) ⟨rfl, rfl, by decide, by decide⟩ rfl hB rfl rfl (Nat.le_of_ble_eq_true rfl) dX6_named_83 rfl ?_
      refine jr_if_eq 96 dX6_named_86 (by decide) rfl (fun c1 => ?_) (fun c1 => ?_)
      · have hF := jif_p hF c1
        refine jr_iconst (v := 0) dX6_named_96 (by decide) rfl ?_
        refine jr_ior dX6_named_97 rfl ?_
        refine jr_topi (fun x3_1 ex3_1 => ?_)
        have hF := jlet_e hF x3_1 ex3_1
        refine jr_istore_n (L' := [(3, .int x3_1), (0, .ref (ja E 8 0)), (4, .int z4)]) dX6_named_98 rfl (by decide) rfl rfl ?_
        obtain ⟨x4_1, ex4_1⟩ : ∃ z : Int32, z = z4 + 1 := ⟨_, rfl⟩
        have hF := jlet_e hF x4_1 ex4_1
        refine jr_iinc (v := x4_1) (L' := [(4, .int x4_1), (3, .int x3_1), (0, .ref (ja E 8 0))]) 2 dX6_named_99 rfl (by rw [ex4_1]; rfl) (by decide) rfl rfl ?_
        refine jr_goto 59 dX6_named_102 (by decide) ?_
        refine jr_sub [2, 1, 0] rfl ?_
        exact ih x3_1 x4_1 M_7 hF
      · have hF := jif_n hF c1
        refine jr_iconst (v := 1) dX6_named_89 (by decide) rfl ?_
        refine jr_iload 2 dX6_named_90 rfl rfl ?_
        refine jr_ishl dX6_named_92 rfl ?_
        refine jr_goto 97 dX6_named_93 (by decide) ?_
        refine jr_ior dX6_named_97 rfl ?_
        refine jr_topi (fun x3_2 ex3_2 => ?_)
        have hF := jlet_e hF x3_2 ex3_2
        refine jr_istore_n (L' := [(3, .int x3_2), (0, .ref (ja E 8 0)), (4, .int z4)]) dX6_named_98 rfl (by decide) rfl rfl ?_
        obtain ⟨x4_2, ex4_2⟩ : ∃ z : Int32, z = z4 + 1 := ⟨_, rfl⟩
        have hF := jlet_e hF x4_2 ex4_2
        refine jr_iinc (v := x4_2) (L' := [(4, .int x4_2), (3, .int x3_2), (0, .ref (ja E 8 0))]) 2 dX6_named_99 rfl (by rw [ex4_2]; rfl) (by decide) rfl rfl ?_
        refine jr_goto 59 dX6_named_102 (by decide) ?_
        refine jr_sub [2, 1, 0] rfl ?_
        exact ih x3_2 x4_2 M_7 hF
set_option maxHeartbeats 4000000 in
set_option maxRecDepth 100000 in
theorem JF_X6_named {E : jx_E} (hB : jB E 8) {a1 : Int32} {a2 : Int32} {M : jx_M} {r : Int32} {M' : jx_M} (hF : F_X6_named a1 a2 M = some (r, M')) : jC E yX6_named cX6_named 5 (some FieldType.int) rm_X6_named [.ref (ja E 8 0), .int a1, .int a2] M (fun x M'' => x = some (.int r) ∧ M'' = M') := by
  refine jC.ofJ (L := [(0, .ref (ja E 8 0)), (1, .int a1), (2, .int a2)]) (by decide +kernel) (Nat.le_of_ble_eq_true rfl) rfl ?_
  unfold F_X6_named at hF
  refine jr_aload_n 0 dX6_named_0 rfl rfl rfl ?_
  refine jr_iload_n 1 dX6_named_1 rfl rfl rfl ?_
  obtain ⟨r_1, M_1, hc_1, hF⟩ := jbd_e hF
  refine jh_callV1 (v := .int r_1) (o := 8) (as := [.int a1]) (st := []) (JF_X6_noPost hB hc_1) cw_X6_185 (iv_X6_noPost) ⟨rfl, rfl, by decide, by decide⟩ rfl hB rfl rfl (Nat.le_of_ble_eq_true rfl) dX6_named_2 rfl ?_
  refine jr_if_eq 10 dX6_named_5 (by decide) rfl (fun c1 => ?_) (fun c1 => ?_)
  · have hF := jif_p hF c1
    refine jr_iload_n 2 dX6_named_10 rfl rfl rfl ?_
    obtain ⟨r_2, M_2, hc_2, hF⟩ := jbd_e hF
    refine jh_callS1 (v := .int r_2) (as := [.int a2]) (st := []) (JF_X6_isDecade hB hc_2) cw_X6_188 (iv_X6_isDecade) ⟨rfl, rfl, by decide, by decide⟩ rfl rfl (Nat.le_of_ble_eq_true rfl) dX6_named_11 rfl ?_
    refine jr_if_ne 20 dX6_named_14 (by decide) rfl (fun c1 => ?_) (fun c1 => ?_)
    · have hF := jif_n hF c1
      refine jr_iconst (v := 0) dX6_named_20 (by decide) rfl ?_
      refine jr_istore_n (L' := [(3, .int 0), (0, .ref (ja E 8 0)), (1, .int a1), (2, .int a2)]) dX6_named_21 rfl (by decide) rfl rfl ?_
      refine jr_aload_n 1 dX6_named_22 rfl rfl rfl ?_
      refine jr_dup dX6_named_23 rfl rfl ?_
      refine gf_X6_170 rfl rfl hB dX6_named_24 rfl ?_
      refine jr_iconst (v := 1) dX6_named_27 (by decide) rfl ?_
      refine jr_iadd dX6_named_28 rfl ?_
      refine pf_X6_170 rfl rfl hB dX6_named_29 ⟨rfl, rfl⟩ rfl (fun M_3 eM_3 => ?_)
      have hF := jlet_e hF M_3 eM_3
      refine jr_aload_n 1 dX6_named_32 rfl rfl rfl ?_
      refine gf_X6_43 rfl rfl hB dX6_named_33 rfl ?_
      refine jr_aload_n 1 dX6_named_36 rfl rfl rfl ?_
      refine gf_X6_170 rfl rfl hB dX6_named_37 rfl ?_
      refine jr_iconst (v := 1) dX6_named_40 (by decide) rfl ?_
      refine jr_isub dX6_named_41 rfl ?_
      refine jr_iload_n 2 dX6_named_42 rfl rfl rfl ?_
      obtain ⟨hb_1, hF⟩ := jck_e hF
      refine jh_iast (ci := 6) (k := 20) rfl hB (by decide) rfl rfl hb_1 dX6_named_43 rfl (fun M_4 eM_4 => ?_)
      have hF := jlet_e hF M_4 eM_4
      refine jr_aload_n 1 dX6_named_44 rfl rfl rfl ?_
      refine gf_X6_49 rfl rfl hB dX6_named_45 rfl ?_
      refine jr_aload_n 1 dX6_named_48 rfl rfl rfl ?_
      refine gf_X6_170 rfl rfl hB dX6_named_49 rfl ?_
      refine jr_iconst (v := 1) dX6_named_52 (by decide) rfl ?_
      refine jr_isub dX6_named_53 rfl ?_
      refine jr_iload_n 3 dX6_named_54 rfl rfl rfl ?_
      obtain ⟨hb_2, hF⟩ := jck_e hF
      refine jh_iast (ci := 6) (k := 22) rfl hB (by decide) rfl rfl hb_2 dX6_named_55 rfl (fun M_5 eM_5 => ?_)
      have hF := jlet_e hF M_5 eM_5
      refine jr_iconst (v := 0) dX6_named_56 (by decide) rfl ?_
      refine jr_istore (L' := [(4, .int 0), (3, .int 0), (0, .ref (ja E 8 0)), (1, .int a1), (2, .int a2)]) dX6_named_57 (by decide) rfl rfl ?_
      refine jr_sub [2, 1, 0] rfl ?_
      refine JL_X6_named_59 hB (fun x3_3 M_8 hF => ?_) jfu 0 0 M_5 hF
      refine jr_aload_n 0 dX6_named_105 rfl rfl rfl ?_
      refine jr_dup dX6_named_106 rfl rfl ?_
      refine gf_X6_170 rfl rfl hB dX6_named_107 rfl ?_
      refine jr_iconst (v := 1) dX6_named_110 (by decide) rfl ?_
      refine jr_isub dX6_named_111 rfl ?_
      refine pf_X6_170 rfl rfl hB dX6_named_112 ⟨rfl, rfl⟩ rfl (fun M_9 eM_9 => ?_)
      have hF := jlet_e hF M_9 eM_9
      refine jr_iload_n 1 dX6_named_115 rfl rfl rfl ?_
      exact jh_iret rfl dX6_named_116 hF
    · have hF := jif_p hF c1
      refine jr_bipush (v := (-2)) dX6_named_17 (by decide) rfl ?_
      exact jh_iret rfl dX6_named_19 hF
  · have hF := jif_n hF c1
    refine jr_iconst (v := (-1)) dX6_named_8 (by decide) rfl ?_
    exact jh_iret rfl dX6_named_9 hF
set_option maxHeartbeats 4000000 in
set_option maxRecDepth 100000 in
theorem JL_X6_opened_14 {E : jx_E} (hB : jB E 8) {k : Int32 → jx_M → Option (Int32 × jx_M)} {r : Int32} {M' : jx_M} (hk : ∀ (z1 : Int32) (M : jx_M), k z1 M = some (r, M') → jJ E yX6_opened cX6_opened 4 (some FieldType.int) rm_X6_opened (fun x M'' => x = some (.int r) ∧ M'' = M') 67 [(1, .int z1)] [] M) : ∀ (n : Nat) (z1 : Int32) (z2 : Int32) (M : jx_M), L_X6_opened_14 k n z1 z2 M = some (r, M') → jJ E yX6_opened cX6_opened 4 (some FieldType.int) rm_X6_opened (fun x M'' => x = some (.int r) ∧ M'' = M') 14 [(0, .ref (ja E 8 0)), (1, .int z1), (2, .int z2)] [] M := by
  intro n
  induction n with
  | zero => intro z1 z2 M hF; exact nomatch (show (none : Option (Int32 × jx_M)) = some _ from hF)
  | succ n ih =>
    intro z1 z2 M hF
    rw [L_X6_opened_14.eq_2] at hF
    refine jr_iload_n 2 dX6_opened_14 rfl rfl rfl ?_
    refine jr_aload_n 0 dX6_opened_15 rfl rfl rfl ?_
    refine gf_X6_114 rfl rfl hB dX6_opened_16 rfl ?_
    refine jr_icmp_ge 67 dX6_opened_19 (by decide) rfl (fun c1 => ?_) (fun c1 => ?_)
    · have hF := jif_p hF c1
      refine jr_sub [1] rfl ?_
      exact hk z1 M hF
    · have hF := jif_n hF c1
      refine jr_aload_n 0 dX6_opened_22 rfl rfl rfl ?_
      refine gf_X6_25 rfl rfl hB dX6_opened_23 rfl ?_
      refine jr_iload_n 2 dX6_opened_26 rfl rfl rfl ?_
      obtain ⟨hb_1, hF⟩ := jck_e hF
      refine jh_iald (ci := 6) (k := 10) rfl hB (by decide) rfl rfl hb_1 dX6_opened_27 rfl ?_
      refine jr_topi (fun x3_1 ex3_1 => ?_)
      have hF := jlet_e hF x3_1 ex3_1
      refine jr_istore_n (L' := [(3, .int x3_1), (0, .ref (ja E 8 0)), (1, .int z1), (2, .int z2)]) dX6_opened_28 rfl (by decide) rfl rfl ?_
      refine jr_aload_n 1 dX6_opened_29 rfl rfl rfl ?_
      refine gf_X6_25 rfl rfl hB dX6_opened_30 rfl ?_
      refine jr_iload_n 3 dX6_opened_33 rfl rfl rfl ?_
      refine jr_bipush (v := 40) dX6_opened_34 (by decide) rfl ?_
      obtain ⟨hb_2, hF⟩ := jck_e hF
      refine jh_iast (ci := 6) (k := 10) rfl hB (by decide) rfl rfl hb_2 dX6_opened_36 rfl (fun M_1 eM_1 => ?_)
      have hF := jlet_e hF M_1 eM_1
      refine jr_iload_n 2 dX6_opened_37 rfl rfl rfl ?_
      refine jr_aload_n 1 dX6_opened_38 rfl rfl rfl ?_
      obtain ⟨r_1, M_2, hc_1, hF⟩ := jbd_e hF
      refine jh_callV1 (v := .int r_1) (o := 8) (as := []) (st := [.int z1]) (JF_X6_areSo hB hc_1) cw_X6_251 (iv_X6_areSo) ⟨rfl, rfl, by decide, by decide⟩ rfl hB rfl rfl (Nat.le_of_ble_eq_true rfl) dX6_opened_39 rfl ?_
      refine jr_if_eq 51 dX6_opened_42 (by decide) rfl (fun c1 => ?_) (fun c1 => ?_)
      · have hF := jif_p hF c1
        refine jr_iconst (v := 0) dX6_opened_51 (by decide) rfl ?_
        refine jr_ior dX6_opened_52 rfl ?_
        refine jr_topi (fun x1_1 ex1_1 => ?_)
        have hF := jlet_e hF x1_1 ex1_1
        refine jr_istore_n (L' := [(1, .int x1_1), (3, .int x3_1), (0, .ref (ja E 8 0)), (2, .int z2)]) dX6_opened_53 rfl (by decide) rfl rfl ?_
        refine jr_aload_n 2 dX6_opened_54 rfl rfl rfl ?_
        refine gf_X6_25 rfl rfl hB dX6_opened_55 rfl ?_
        refine jr_iload_n 3 dX6_opened_58 rfl rfl rfl ?_
        refine jr_iload_n 1 dX6_opened_59 rfl rfl rfl ?_
        obtain ⟨hb_3, hF⟩ := jck_e hF
        refine jh_iast (ci := 6) (k := 10) rfl hB (by decide) rfl rfl hb_3 dX6_opened_60 rfl (fun M_3 eM_3 => ?_)
        have hF := jlet_e hF M_3 eM_3
        obtain ⟨x2_1, ex2_1⟩ : ∃ z : Int32, z = z2 + 1 := ⟨_, rfl⟩
        have hF := jlet_e hF x2_1 ex2_1
        refine jr_iinc (v := x2_1) (L' := [(2, .int x2_1), (1, .int x1_1), (3, .int x3_1), (0, .ref (ja E 8 0))]) 3 dX6_opened_61 rfl (by rw [ex2_1]; rfl) (by decide) rfl rfl ?_
        refine jr_goto 14 dX6_opened_64 (by decide) ?_
        refine jr_sub [3, 1, 0] rfl ?_
        exact ih x1_1 x2_1 M_3 hF
      · have hF := jif_n hF c1
        refine jr_iconst (v := 1) dX6_opened_45 (by decide) rfl ?_
        refine jr_iload_n 3 dX6_opened_46 rfl rfl rfl ?_
        refine jr_ishl dX6_opened_47 rfl ?_
        refine jr_goto 52 dX6_opened_48 (by decide) ?_
        refine jr_ior dX6_opened_52 rfl ?_
        refine jr_topi (fun x1_2 ex1_2 => ?_)
        have hF := jlet_e hF x1_2 ex1_2
        refine jr_istore_n (L' := [(1, .int x1_2), (3, .int x3_1), (0, .ref (ja E 8 0)), (2, .int z2)]) dX6_opened_53 rfl (by decide) rfl rfl ?_
        refine jr_aload_n 2 dX6_opened_54 rfl rfl rfl ?_
        refine gf_X6_25 rfl rfl hB dX6_opened_55 rfl ?_
        refine jr_iload_n 3 dX6_opened_58 rfl rfl rfl ?_
        refine jr_iload_n 1 dX6_opened_59 rfl rfl rfl ?_
        obtain ⟨hb_4, hF⟩ := jck_e hF
        refine jh_iast (ci := 6) (k := 10) rfl hB (by decide) rfl rfl hb_4 dX6_opened_60 rfl (fun M_4 eM_4 => ?_)
        have hF := jlet_e hF M_4 eM_4
        obtain ⟨x2_2, ex2_2⟩ : ∃ z : Int32, z = z2 + 1 := ⟨_, rfl⟩
        have hF := jlet_e hF x2_2 ex2_2
        refine jr_iinc (v := x2_2) (L' := [(2, .int x2_2), (1, .int x1_2), (3, .int x3_1), (0, .ref (ja E 8 0))]) 3 dX6_opened_61 rfl (by rw [ex2_2]; rfl) (by decide) rfl rfl ?_
        refine jr_goto 14 dX6_opened_64 (by decide) ?_
        refine jr_sub [3, 1, 0] rfl ?_
        exact ih x1_2 x2_2 M_4 hF
set_option maxHeartbeats 4000000 in
set_option maxRecDepth 100000 in
theorem JF_X6_opened {E : jx_E} (hB : jB E 8) {M : jx_M} {r : Int32} {M' : jx_M} (hF : F_X6_opened  M = some (r, M')) : jC E yX6_opened cX6_opened 4 (some FieldType.int) rm_X6_opened [.ref (ja E 8 0)] M (fun x M'' => x = some (.int r) ∧ M'' = M') := by
  refine jC.ofJ (L := [(0, .ref (ja E 8 0))]) (by decide +kernel) (Nat.le_of_ble_eq_true rfl) rfl ?_
  unfold F_X6_opened at hF
  refine jr_aload_n 0 dX6_opened_0 rfl rfl rfl ?_
  refine gf_X6_107 rfl rfl hB dX6_opened_1 rfl ?_
  refine jr_if_ne 10 dX6_opened_4 (by decide) rfl (fun c1 => ?_) (fun c1 => ?_)
  · have hF := jif_n hF c1
    refine jr_iconst (v := 0) dX6_opened_10 (by decide) rfl ?_
    refine jr_istore_n (L' := [(1, .int 0), (0, .ref (ja E 8 0))]) dX6_opened_11 rfl (by decide) rfl rfl ?_
    refine jr_iconst (v := 0) dX6_opened_12 (by decide) rfl ?_
    refine jr_istore_n (L' := [(2, .int 0), (1, .int 0), (0, .ref (ja E 8 0))]) dX6_opened_13 rfl (by decide) rfl rfl ?_
    refine jr_sub [2, 1, 0] rfl ?_
    refine JL_X6_opened_14 hB (fun x1_3 M_5 hF => ?_) jfu 0 0 M hF
    refine jr_iload_n 0 dX6_opened_67 rfl rfl rfl ?_
    exact jh_iret rfl dX6_opened_68 hF
  · have hF := jif_p hF c1
    refine jr_bipush (v := (-3)) dX6_opened_7 (by decide) rfl ?_
    exact jh_iret rfl dX6_opened_9 hF
set_option maxHeartbeats 4000000 in
set_option maxRecDepth 100000 in
theorem JL_X6_odds_39 {E : jx_E} (hB : jB E 8) {y1 : Int32} {y2 : Int32} {y3 : Int32} {k : Int64 → jx_M → Option (Int64 × jx_M)} {r : Int64} {M' : jx_M} (hk : ∀ (z4 : Int64) (M : jx_M), k z4 M = some (r, M') → jJ E yX6_odds cX6_odds 7 (some FieldType.long) rm_X6_odds (fun x M'' => x = some (.long r) ∧ M'' = M') 78 [(0, .ref (ja E 8 0)), (2, .int y2), (3, .int y3), (4, .long z4)] [] M) : ∀ (n : Nat) (z4 : Int64) (z6 : Int32) (M : jx_M), L_X6_odds_39 y1 y2 y3 k n z4 z6 M = some (r, M') → jJ E yX6_odds cX6_odds 7 (some FieldType.long) rm_X6_odds (fun x M'' => x = some (.long r) ∧ M'' = M') 39 [(0, .ref (ja E 8 0)), (1, .int y1), (2, .int y2), (3, .int y3), (4, .long z4), (6, .int z6)] [] M := by
  intro n
  induction n with
  | zero => intro z4 z6 M hF; exact nomatch (show (none : Option (Int64 × jx_M)) = some _ from hF)
  | succ n ih =>
    intro z4 z6 M hF
    rw [L_X6_odds_39.eq_2] at hF
    refine jr_iload 5 dX6_odds_39 rfl rfl ?_
    refine jr_aload_n 0 dX6_odds_41 rfl rfl rfl ?_
    obtain ⟨r_5, M_5, hc_5, hF⟩ := jbd_e hF
    refine jh_callV1 (v := .int r_5) (o := 8) (as := []) (st := [.int z6]) (JF_X6_all hB hc_5) cw_X6_206 (iv_X6_all) ⟨rfl, rfl, by decide, by decide⟩ rfl hB rfl rfl (Nat.le_of_ble_eq_true rfl) dX6_odds_42 rfl ?_
    refine jr_icmp_gt 78 dX6_odds_45 (by decide) rfl (fun c1 => ?_) (fun c1 => ?_)
    · have hF := jif_p hF c1
      refine jr_sub [0, 2, 3, 4] rfl ?_
      exact hk z4 M_5 hF
    · have hF := jif_n hF c1
      refine jr_aload_n 0 dX6_odds_48 rfl rfl rfl ?_
      refine jr_iload 5 dX6_odds_49 rfl rfl ?_
      refine pf_X6_164 rfl rfl hB dX6_odds_51 ⟨rfl, rfl⟩ rfl (fun M_6 eM_6 => ?_)
      have hF := jlet_e hF M_6 eM_6
      refine jr_lload 4 dX6_odds_54 rfl rfl ?_
      refine jr_aload_n 0 dX6_odds_56 rfl rfl rfl ?_
      refine jr_iload_n 1 dX6_odds_57 rfl rfl rfl ?_
      obtain ⟨r_6, M_7, hc_6, hF⟩ := jbd_e hF
      refine jh_callV1 (v := .int r_6) (o := 8) (as := [.int y1]) (st := [.long z4]) (JF_X6_noneEmpty hB hc_6) cw_X6_238 (iv_X6_noneEmpty) ⟨rfl, rfl, by decide, by decide⟩ rfl hB rfl rfl (Nat.le_of_ble_eq_true rfl) dX6_odds_58 rfl ?_
      refine jr_if_eq 68 dX6_odds_61 (by decide) rfl (fun c1 => ?_) (fun c1 => ?_)
      · have hF := jif_p hF c1
        refine jr_lconst (v := 0) dX6_odds_68 (by decide) rfl ?_
        refine jr_ladd dX6_odds_69 rfl ?_
        refine jr_topl (fun x4_1 ex4_1 => ?_)
        have hF := jlet_e hF x4_1 ex4_1
        refine jr_lstore (L' := [(4, .long x4_1), (0, .ref (ja E 8 0)), (1, .int y1), (2, .int y2), (3, .int y3), (6, .int z6)]) dX6_odds_70 (by decide) rfl rfl ?_
        obtain ⟨x6_1, ex6_1⟩ : ∃ z : Int32, z = z6 + 1 := ⟨_, rfl⟩
        have hF := jlet_e hF x6_1 ex6_1
        refine jr_iinc (v := x6_1) (L' := [(6, .int x6_1), (4, .long x4_1), (0, .ref (ja E 8 0)), (1, .int y1), (2, .int y2), (3, .int y3)]) 5 dX6_odds_72 rfl (by rw [ex6_1]; rfl) (by decide) rfl rfl ?_
        refine jr_goto 39 dX6_odds_75 (by decide) ?_
        refine jr_sub [2, 3, 4, 5, 1, 0] rfl ?_
        exact ih x4_1 x6_1 M_7 hF
      · have hF := jif_n hF c1
        refine jr_lconst (v := 1) dX6_odds_64 (by decide) rfl ?_
        refine jr_goto 69 dX6_odds_65 (by decide) ?_
        refine jr_ladd dX6_odds_69 rfl ?_
        refine jr_topl (fun x4_2 ex4_2 => ?_)
        have hF := jlet_e hF x4_2 ex4_2
        refine jr_lstore (L' := [(4, .long x4_2), (0, .ref (ja E 8 0)), (1, .int y1), (2, .int y2), (3, .int y3), (6, .int z6)]) dX6_odds_70 (by decide) rfl rfl ?_
        obtain ⟨x6_2, ex6_2⟩ : ∃ z : Int32, z = z6 + 1 := ⟨_, rfl⟩
        have hF := jlet_e hF x6_2 ex6_2
        refine jr_iinc (v := x6_2) (L' := [(6, .int x6_2), (4, .long x4_2), (0, .ref (ja E 8 0)), (1, .int y1), (2, .int y2), (3, .int y3)]) 5 dX6_odds_72 rfl (by rw [ex6_2]; rfl) (by decide) rfl rfl ?_
        refine jr_goto 39 dX6_odds_75 (by decide) ?_
        refine jr_sub [2, 3, 4, 5, 1, 0] rfl ?_
        exact ih x4_2 x6_2 M_7 hF
set_option maxHeartbeats 4000000 in
set_option maxRecDepth 100000 in
theorem JF_X6_odds {E : jx_E} (hB : jB E 8) {a1 : Int32} {a2 : Int32} {M : jx_M} {r : Int64} {M' : jx_M} (hF : F_X6_odds a1 a2 M = some (r, M')) : jC E yX6_odds cX6_odds 7 (some FieldType.long) rm_X6_odds [.ref (ja E 8 0), .int a1, .int a2] M (fun x M'' => x = some (.long r) ∧ M'' = M') := by
  refine jC.ofJ (L := [(0, .ref (ja E 8 0)), (1, .int a1), (2, .int a2)]) (by decide +kernel) (Nat.le_of_ble_eq_true rfl) rfl ?_
  unfold F_X6_odds at hF
  refine jr_iload_n 1 dX6_odds_0 rfl rfl rfl ?_
  obtain ⟨r_1, M_1, hc_1, hF⟩ := jbd_e hF
  refine jh_callS1 (v := .int r_1) (as := [.int a1]) (st := []) (JF_X6_isDecade hB hc_1) cw_X6_188 (iv_X6_isDecade) ⟨rfl, rfl, by decide, by decide⟩ rfl rfl (Nat.le_of_ble_eq_true rfl) dX6_odds_1 rfl ?_
  refine jr_if_eq 24 dX6_odds_4 (by decide) rfl (fun c1 => ?_) (fun c1 => ?_)
  · have hF := jif_p hF c1
    obtain ⟨r_2, M_2, hc_2, hF⟩ := jbd_e hF
    refine jh_callS1 (v := .long r_2) (as := []) (st := []) (JF_X6_lost hB hc_2) cw_X6_103 (iv_X6_lost) ⟨rfl, rfl, by decide, by decide⟩ rfl rfl (Nat.le_of_ble_eq_true rfl) dX6_odds_24 rfl ?_
    exact jh_lret rfl dX6_odds_27 hF
  · have hF := jif_n hF c1
    refine jr_iload_n 2 dX6_odds_7 rfl rfl rfl ?_
    refine jr_i2l dX6_odds_8 rfl ?_
    refine jr_lconst (v := 0) dX6_odds_9 (by decide) rfl ?_
    refine jr_lconst (v := 1) dX6_odds_10 (by decide) rfl ?_
    obtain ⟨r_3, M_3, hc_3, hF⟩ := jbd_e hF
    refine jh_callS1 (v := .int r_3) (as := [.long a2.toInt64, .long 0, .long 1]) (st := []) (JF_X6_in hB hc_3) cw_X6_110 (iv_X6_in) ⟨rfl, rfl, by decide, by decide⟩ rfl rfl (Nat.le_of_ble_eq_true rfl) dX6_odds_11 rfl ?_
    refine jr_if_eq 24 dX6_odds_14 (by decide) rfl (fun c1 => ?_) (fun c1 => ?_)
    · have hF := jif_p hF c1
      obtain ⟨r_4, M_4, hc_4, hF⟩ := jbd_e hF
      refine jh_callS1 (v := .long r_4) (as := []) (st := []) (JF_X6_lost hB hc_4) cw_X6_103 (iv_X6_lost) ⟨rfl, rfl, by decide, by decide⟩ rfl rfl (Nat.le_of_ble_eq_true rfl) dX6_odds_24 rfl ?_
      exact jh_lret rfl dX6_odds_27 hF
    · have hF := jif_n hF c1
      refine jr_aload_n 0 dX6_odds_17 rfl rfl rfl ?_
      refine gf_X6_107 rfl rfl hB dX6_odds_18 rfl ?_
      refine jr_if_ne 28 dX6_odds_21 (by decide) rfl (fun c1 => ?_) (fun c1 => ?_)
      · have hF := jif_n hF c1
        refine jr_aload_n 0 dX6_odds_28 rfl rfl rfl ?_
        refine gf_X6_164 rfl rfl hB dX6_odds_29 rfl ?_
        refine jr_topi (fun x3_1 ex3_1 => ?_)
        have hF := jlet_e hF x3_1 ex3_1
        refine jr_istore_n (L' := [(3, .int x3_1), (0, .ref (ja E 8 0)), (1, .int a1), (2, .int a2)]) dX6_odds_32 rfl (by decide) rfl rfl ?_
        refine jr_lconst (v := 0) dX6_odds_33 (by decide) rfl ?_
        refine jr_lstore (L' := [(4, .long 0), (3, .int x3_1), (0, .ref (ja E 8 0)), (1, .int a1), (2, .int a2)]) dX6_odds_34 (by decide) rfl rfl ?_
        refine jr_iconst (v := 0) dX6_odds_36 (by decide) rfl ?_
        refine jr_istore (L' := [(6, .int 0), (4, .long 0), (3, .int x3_1), (0, .ref (ja E 8 0)), (1, .int a1), (2, .int a2)]) dX6_odds_37 (by decide) rfl rfl ?_
        refine jr_sub [3, 4, 5, 2, 1, 0] rfl ?_
        refine JL_X6_odds_39 hB (fun x4_3 M_8 hF => ?_) jfu 0 0 M_3 hF
        refine jr_aload_n 0 dX6_odds_78 rfl rfl rfl ?_
        refine jr_iload_n 2 dX6_odds_79 rfl rfl rfl ?_
        refine pf_X6_164 rfl rfl hB dX6_odds_80 ⟨rfl, rfl⟩ rfl (fun M_9 eM_9 => ?_)
        have hF := jlet_e hF M_9 eM_9
        refine jr_lload 3 dX6_odds_83 rfl rfl ?_
        refine jr_aload_n 0 dX6_odds_85 rfl rfl rfl ?_
        obtain ⟨r_7, M_10, hc_7, hF⟩ := jbd_e hF
        refine jh_callV1 (v := .int r_7) (o := 8) (as := []) (st := [.long x4_3]) (JF_X6_all hB hc_7) cw_X6_206 (iv_X6_all) ⟨rfl, rfl, by decide, by decide⟩ rfl hB rfl rfl (Nat.le_of_ble_eq_true rfl) dX6_odds_86 rfl ?_
        refine jr_i2l dX6_odds_89 rfl ?_
        refine jr_lconst (v := 1) dX6_odds_90 (by decide) rfl ?_
        refine jr_ladd dX6_odds_91 rfl ?_
        refine jr_iload_n 1 dX6_odds_92 rfl rfl rfl ?_
        obtain ⟨r_8, M_11, hc_8, hF⟩ := jbd_e hF
        refine jh_callS1 (v := .long r_8) (as := [.long x4_3, .long (r_7.toInt64 + 1), .int a2]) (st := []) (JF_X6_told hB hc_8) cw_X6_255 (iv_X6_told) ⟨rfl, rfl, by decide, by decide⟩ rfl rfl (Nat.le_of_ble_eq_true rfl) dX6_odds_93 rfl ?_
        exact jh_lret rfl dX6_odds_96 hF
      · have hF := jif_p hF c1
        obtain ⟨r_9, M_12, hc_9, hF⟩ := jbd_e hF
        refine jh_callS1 (v := .long r_9) (as := []) (st := []) (JF_X6_lost hB hc_9) cw_X6_103 (iv_X6_lost) ⟨rfl, rfl, by decide, by decide⟩ rfl rfl (Nat.le_of_ble_eq_true rfl) dX6_odds_24 rfl ?_
        exact jh_lret rfl dX6_odds_27 hF
set_option maxHeartbeats 4000000 in
set_option maxRecDepth 100000 in
theorem JL_X6_sheet_65 {E : jx_E} (hB : jB E 8) {y1 : Int32} {y3 : Int32} {k : jx_M → Option (Int32 × jx_M)} {r : Int32} {M' : jx_M} (hk : ∀ (M : jx_M), k M = some (r, M') → jJ E yX6_sheet cX6_sheet 5 (some FieldType.int) rm_X6_sheet (fun x M'' => x = some (.int r) ∧ M'' = M') 90 [(0, .ref (ja E 8 0))] [] M) : ∀ (n : Nat) (z4 : Int32) (M : jx_M), L_X6_sheet_65 y1 y3 k n z4 M = some (r, M') → jJ E yX6_sheet cX6_sheet 5 (some FieldType.int) rm_X6_sheet (fun x M'' => x = some (.int r) ∧ M'' = M') 65 [(0, .ref (ja E 8 0)), (1, .int y1), (3, .int y3), (4, .int z4)] [] M := by
  intro n
  induction n with
  | zero => intro z4 M hF; exact nomatch (show (none : Option (Int32 × jx_M)) = some _ from hF)
  | succ n ih =>
    intro z4 M hF
    rw [L_X6_sheet_65.eq_2] at hF
    refine jr_iload 3 dX6_sheet_65 rfl rfl ?_
    refine jr_iload_n 2 dX6_sheet_67 rfl rfl rfl ?_
    refine jr_icmp_ge 90 dX6_sheet_68 (by decide) rfl (fun c1 => ?_) (fun c1 => ?_)
    · have hF := jif_p hF c1
      refine jr_sub [0] rfl ?_
      exact hk M hF
    · have hF := jif_n hF c1
      refine jr_aload_n 0 dX6_sheet_71 rfl rfl rfl ?_
      refine gf_X6_91 rfl rfl hB dX6_sheet_72 rfl ?_
      refine jr_bipush (v := 60) dX6_sheet_75 (by decide) rfl ?_
      refine jr_iload_n 1 dX6_sheet_77 rfl rfl rfl ?_
      refine jr_imul dX6_sheet_78 rfl ?_
      refine jr_iload 3 dX6_sheet_79 rfl rfl ?_
      refine jr_iadd dX6_sheet_81 rfl ?_
      refine jr_iconst (v := 0) dX6_sheet_82 (by decide) rfl ?_
      obtain ⟨hb_3, hF⟩ := jck_e hF
      refine jh_iast (ci := 6) (k := 40) rfl hB (by decide) rfl rfl hb_3 dX6_sheet_83 rfl (fun M_6 eM_6 => ?_)
      have hF := jlet_e hF M_6 eM_6
      obtain ⟨x4_1, ex4_1⟩ : ∃ z : Int32, z = z4 + 1 := ⟨_, rfl⟩
      have hF := jlet_e hF x4_1 ex4_1
      refine jr_iinc (v := x4_1) (L' := [(4, .int x4_1), (0, .ref (ja E 8 0)), (1, .int y1), (3, .int y3)]) 3 dX6_sheet_84 rfl (by rw [ex4_1]; rfl) (by decide) rfl rfl ?_
      refine jr_goto 65 dX6_sheet_87 (by decide) ?_
      refine jr_sub [1, 2, 3, 0] rfl ?_
      exact ih x4_1 M_6 hF
set_option maxHeartbeats 4000000 in
set_option maxRecDepth 100000 in
theorem JF_X6_sheet {E : jx_E} (hB : jB E 8) {a1 : Int32} {a2 : Int32} {a3 : Int32} {M : jx_M} {r : Int32} {M' : jx_M} (hF : F_X6_sheet a1 a2 a3 M = some (r, M')) : jC E yX6_sheet cX6_sheet 5 (some FieldType.int) rm_X6_sheet [.ref (ja E 8 0), .int a1, .int a2, .int a3] M (fun x M'' => x = some (.int r) ∧ M'' = M') := by
  refine jC.ofJ (L := [(0, .ref (ja E 8 0)), (1, .int a1), (2, .int a2), (3, .int a3)]) (by decide +kernel) (Nat.le_of_ble_eq_true rfl) rfl ?_
  unfold F_X6_sheet at hF
  refine jr_iload_n 1 dX6_sheet_0 rfl rfl rfl ?_
  obtain ⟨r_1, M_1, hc_1, hF⟩ := jbd_e hF
  refine jh_callS1 (v := .int r_1) (as := [.int a1]) (st := []) (JF_X6_noSheet hB hc_1) cw_X6_148 (iv_X6_noSheet) ⟨rfl, rfl, by decide, by decide⟩ rfl rfl (Nat.le_of_ble_eq_true rfl) dX6_sheet_1 rfl ?_
  refine jr_if_eq 13 dX6_sheet_4 (by decide) rfl (fun c1 => ?_) (fun c1 => ?_)
  · have hF := jif_p hF c1
    refine jr_iload_n 2 dX6_sheet_13 rfl rfl rfl ?_
    refine jr_i2l dX6_sheet_14 rfl ?_
    refine jr_lconst (v := 0) dX6_sheet_15 (by decide) rfl ?_
    refine jr_ldc2 (v := 2) dX6_sheet_16 (List.mem_cons_of_mem _ (lw_g_of 802 (by decide +kernel) (by decide +kernel))) rfl ?_
    obtain ⟨r_2, M_2, hc_2, hF⟩ := jbd_e hF
    refine jh_callS1 (v := .int r_2) (as := [.long a2.toInt64, .long 0, .long 2]) (st := []) (JF_X6_in hB hc_2) cw_X6_110 (iv_X6_in) ⟨rfl, rfl, by decide, by decide⟩ rfl rfl (Nat.le_of_ble_eq_true rfl) dX6_sheet_19 rfl ?_
    refine jr_if_eq 31 dX6_sheet_22 (by decide) rfl (fun c1 => ?_) (fun c1 => ?_)
    · have hF := jif_p hF c1
      refine jr_aload_n 0 dX6_sheet_31 rfl rfl rfl ?_
      refine jr_bipush (v := (-2)) dX6_sheet_32 (by decide) rfl ?_
      obtain ⟨r_3, M_3, hc_3, hF⟩ := jbd_e hF
      refine jh_callV1 (v := .int r_3) (o := 8) (as := [.int (-2)]) (st := []) (JF_X6_refused hB hc_3) cw_X6_152 (iv_X6_refused) ⟨rfl, rfl, by decide, by decide⟩ rfl hB rfl rfl (Nat.le_of_ble_eq_true rfl) dX6_sheet_34 rfl ?_
      exact jh_iret rfl dX6_sheet_37 hF
    · have hF := jif_n hF c1
      refine jr_iload_n 3 dX6_sheet_25 rfl rfl rfl ?_
      refine jr_bipush (v := 60) dX6_sheet_26 (by decide) rfl ?_
      refine jr_icmp_le 38 dX6_sheet_28 (by decide) rfl (fun c1 => ?_) (fun c1 => ?_)
      · have hF := jif_p hF c1
        refine jr_iload_n 3 dX6_sheet_38 rfl rfl rfl ?_
        refine jr_if_ge 48 dX6_sheet_39 (by decide) rfl (fun c1 => ?_) (fun c1 => ?_)
        · have hF := jif_p hF c1
          refine jr_aload_n 0 dX6_sheet_48 rfl rfl rfl ?_
          refine gf_X6_85 rfl rfl hB dX6_sheet_49 rfl ?_
          refine jr_iload_n 1 dX6_sheet_52 rfl rfl rfl ?_
          refine jr_iload_n 3 dX6_sheet_53 rfl rfl rfl ?_
          obtain ⟨hb_1, hF⟩ := jck_e hF
          refine jh_iast (ci := 6) (k := 38) rfl hB (by decide) rfl rfl hb_1 dX6_sheet_54 rfl (fun M_4 eM_4 => ?_)
          have hF := jlet_e hF M_4 eM_4
          refine jr_aload_n 0 dX6_sheet_55 rfl rfl rfl ?_
          refine gf_X6_88 rfl rfl hB dX6_sheet_56 rfl ?_
          refine jr_iload_n 1 dX6_sheet_59 rfl rfl rfl ?_
          refine jr_iload_n 2 dX6_sheet_60 rfl rfl rfl ?_
          obtain ⟨hb_2, hF⟩ := jck_e hF
          refine jh_iast (ci := 6) (k := 39) rfl hB (by decide) rfl rfl hb_2 dX6_sheet_61 rfl (fun M_5 eM_5 => ?_)
          have hF := jlet_e hF M_5 eM_5
          refine jr_iconst (v := 0) dX6_sheet_62 (by decide) rfl ?_
          refine jr_istore (L' := [(4, .int 0), (0, .ref (ja E 8 0)), (1, .int a1), (2, .int a2), (3, .int a3)]) dX6_sheet_63 (by decide) rfl rfl ?_
          refine jr_sub [1, 2, 4, 0] rfl ?_
          refine JL_X6_sheet_65 hB (fun M_7 hF => ?_) jfu 0 M_5 hF
          refine jr_aload_n 0 dX6_sheet_90 rfl rfl rfl ?_
          refine jr_iconst (v := 1) dX6_sheet_91 (by decide) rfl ?_
          obtain ⟨r_4, M_8, hc_4, hF⟩ := jbd_e hF
          refine jh_callV1 (v := .int r_4) (o := 8) (as := [.int 1]) (st := []) (JF_X6_refused hB hc_4) cw_X6_152 (iv_X6_refused) ⟨rfl, rfl, by decide, by decide⟩ rfl hB rfl rfl (Nat.le_of_ble_eq_true rfl) dX6_sheet_92 rfl ?_
          exact jh_iret rfl dX6_sheet_95 hF
        · have hF := jif_n hF c1
          refine jr_aload_n 0 dX6_sheet_42 rfl rfl rfl ?_
          refine jr_iconst (v := 4) dX6_sheet_43 (by decide) rfl ?_
          obtain ⟨r_5, M_9, hc_5, hF⟩ := jbd_e hF
          refine jh_callV1 (v := .int r_5) (o := 8) (as := [.int 4]) (st := []) (JF_X6_failed hB hc_5) cw_X6_140 (iv_X6_failed) ⟨rfl, rfl, by decide, by decide⟩ rfl hB rfl rfl (Nat.le_of_ble_eq_true rfl) dX6_sheet_44 rfl ?_
          exact jh_iret rfl dX6_sheet_47 hF
      · have hF := jif_n hF c1
        refine jr_aload_n 0 dX6_sheet_31 rfl rfl rfl ?_
        refine jr_bipush (v := (-2)) dX6_sheet_32 (by decide) rfl ?_
        obtain ⟨r_6, M_10, hc_6, hF⟩ := jbd_e hF
        refine jh_callV1 (v := .int r_6) (o := 8) (as := [.int (-2)]) (st := []) (JF_X6_refused hB hc_6) cw_X6_152 (iv_X6_refused) ⟨rfl, rfl, by decide, by decide⟩ rfl hB rfl rfl (Nat.le_of_ble_eq_true rfl) dX6_sheet_34 rfl ?_
        exact jh_iret rfl dX6_sheet_37 hF
  · have hF := jif_n hF c1
    refine jr_aload_n 0 dX6_sheet_7 rfl rfl rfl ?_
    refine jr_iconst (v := (-1)) dX6_sheet_8 (by decide) rfl ?_
    obtain ⟨r_7, M_11, hc_7, hF⟩ := jbd_e hF
    refine jh_callV1 (v := .int r_7) (o := 8) (as := [.int (-1)]) (st := []) (JF_X6_refused hB hc_7) cw_X6_152 (iv_X6_refused) ⟨rfl, rfl, by decide, by decide⟩ rfl hB rfl rfl (Nat.le_of_ble_eq_true rfl) dX6_sheet_9 rfl ?_
    exact jh_iret rfl dX6_sheet_12 hF
set_option maxHeartbeats 4000000 in
set_option maxRecDepth 100000 in
theorem JF_X6_lose {E : jx_E} (hB : jB E 8) {a1 : Int32} {M : jx_M} {r : Int32} {M' : jx_M} (hF : F_X6_lose a1 M = some (r, M')) : jC E yX6_lose cX6_lose 3 (some FieldType.int) rm_X6_lose [.ref (ja E 8 0), .int a1] M (fun x M'' => x = some (.int r) ∧ M'' = M') := by
  refine jC.ofJ (L := [(0, .ref (ja E 8 0)), (1, .int a1)]) (by decide +kernel) (Nat.le_of_ble_eq_true rfl) rfl ?_
  unfold F_X6_lose at hF
  refine jr_iload_n 1 dX6_lose_0 rfl rfl rfl ?_
  obtain ⟨r_1, M_1, hc_1, hF⟩ := jbd_e hF
  refine jh_callS1 (v := .int r_1) (as := [.int a1]) (st := []) (JF_X6_noSheet hB hc_1) cw_X6_148 (iv_X6_noSheet) ⟨rfl, rfl, by decide, by decide⟩ rfl rfl (Nat.le_of_ble_eq_true rfl) dX6_lose_1 rfl ?_
  refine jr_if_eq 9 dX6_lose_4 (by decide) rfl (fun c1 => ?_) (fun c1 => ?_)
  · have hF := jif_p hF c1
    refine jr_aload_n 0 dX6_lose_9 rfl rfl rfl ?_
    refine gf_X6_85 rfl rfl hB dX6_lose_10 rfl ?_
    refine jr_iload_n 1 dX6_lose_13 rfl rfl rfl ?_
    obtain ⟨hb_1, hF⟩ := jck_e hF
    refine jh_iald (ci := 6) (k := 38) rfl hB (by decide) rfl rfl hb_1 dX6_lose_14 rfl ?_
    refine jr_if_ge 22 dX6_lose_15 (by decide) rfl (fun c1 => ?_) (fun c1 => ?_)
    · have hF := jif_p hF c1
      refine jr_iconst (v := 1) dX6_lose_22 (by decide) rfl ?_
      refine jr_istore_n (L' := [(2, .int 1), (0, .ref (ja E 8 0)), (1, .int a1)]) dX6_lose_23 rfl (by decide) rfl rfl ?_
      refine jr_aload_n 1 dX6_lose_24 rfl rfl rfl ?_
      refine gf_X6_85 rfl rfl hB dX6_lose_25 rfl ?_
      refine jr_iload_n 2 dX6_lose_28 rfl rfl rfl ?_
      refine jr_iconst (v := (-1)) dX6_lose_29 (by decide) rfl ?_
      obtain ⟨hb_2, hF⟩ := jck_e hF
      refine jh_iast (ci := 6) (k := 38) rfl hB (by decide) rfl rfl hb_2 dX6_lose_30 rfl (fun M_2 eM_2 => ?_)
      have hF := jlet_e hF M_2 eM_2
      refine jr_iload_n 0 dX6_lose_31 rfl rfl rfl ?_
      exact jh_iret rfl dX6_lose_32 hF
    · have hF := jif_n hF c1
      refine jr_iconst (v := 0) dX6_lose_18 (by decide) rfl ?_
      refine jr_goto 23 dX6_lose_19 (by decide) ?_
      refine jr_istore_n (L' := [(2, .int 0), (0, .ref (ja E 8 0)), (1, .int a1)]) dX6_lose_23 rfl (by decide) rfl rfl ?_
      refine jr_aload_n 1 dX6_lose_24 rfl rfl rfl ?_
      refine gf_X6_85 rfl rfl hB dX6_lose_25 rfl ?_
      refine jr_iload_n 2 dX6_lose_28 rfl rfl rfl ?_
      refine jr_iconst (v := (-1)) dX6_lose_29 (by decide) rfl ?_
      obtain ⟨hb_3, hF⟩ := jck_e hF
      refine jh_iast (ci := 6) (k := 38) rfl hB (by decide) rfl rfl hb_3 dX6_lose_30 rfl (fun M_3 eM_3 => ?_)
      have hF := jlet_e hF M_3 eM_3
      refine jr_iload_n 0 dX6_lose_31 rfl rfl rfl ?_
      exact jh_iret rfl dX6_lose_32 hF
  · have hF := jif_n hF c1
    refine jr_iconst (v := (-1)) dX6_lose_7 (by decide) rfl ?_
    exact jh_iret rfl dX6_lose_8 hF
set_option maxHeartbeats 4000000 in
set_option maxRecDepth 100000 in
theorem JF_X6_noCell {E : jx_E} (hB : jB E 8) {a1 : Int32} {a2 : Int32} {M : jx_M} {r : Int32} {M' : jx_M} (hF : F_X6_noCell a1 a2 M = some (r, M')) : jC E yX6_noCell cX6_noCell 3 (some FieldType.int) rm_X6_noCell [.ref (ja E 8 0), .int a1, .int a2] M (fun x M'' => x = some (.int r) ∧ M'' = M') := by
  refine jC.ofJ (L := [(0, .ref (ja E 8 0)), (1, .int a1), (2, .int a2)]) (by decide +kernel) (Nat.le_of_ble_eq_true rfl) rfl ?_
  unfold F_X6_noCell at hF
  refine jr_aload_n 0 dX6_noCell_0 rfl rfl rfl ?_
  refine gf_X6_85 rfl rfl hB dX6_noCell_1 rfl ?_
  refine jr_iload_n 1 dX6_noCell_4 rfl rfl rfl ?_
  obtain ⟨hb_1, hF⟩ := jck_e hF
  refine jh_iald (ci := 6) (k := 38) rfl hB (by decide) rfl rfl hb_1 dX6_noCell_5 rfl ?_
  refine jr_if_ge 13 dX6_noCell_6 (by decide) rfl (fun c1 => ?_) (fun c1 => ?_)
  · have hF := jif_p hF c1
    refine jr_iload_n 2 dX6_noCell_13 rfl rfl rfl ?_
    refine jr_i2l dX6_noCell_14 rfl ?_
    refine jr_lconst (v := 0) dX6_noCell_15 (by decide) rfl ?_
    refine jr_aload_n 0 dX6_noCell_16 rfl rfl rfl ?_
    refine gf_X6_85 rfl rfl hB dX6_noCell_17 rfl ?_
    refine jr_iload_n 1 dX6_noCell_20 rfl rfl rfl ?_
    obtain ⟨hb_2, hF⟩ := jck_e hF
    refine jh_iald (ci := 6) (k := 38) rfl hB (by decide) rfl rfl hb_2 dX6_noCell_21 rfl ?_
    refine jr_i2l dX6_noCell_22 rfl ?_
    refine jr_lconst (v := 1) dX6_noCell_23 (by decide) rfl ?_
    refine jr_lsub dX6_noCell_24 rfl ?_
    obtain ⟨r_1, M_1, hc_1, hF⟩ := jbd_e hF
    refine jh_callS1 (v := .int r_1) (as := [.long a2.toInt64, .long 0, .long (((jx_r M 8 38 a1).toInt64) - 1)]) (st := []) (JF_X6_in hB hc_1) cw_X6_110 (iv_X6_in) ⟨rfl, rfl, by decide, by decide⟩ rfl rfl (Nat.le_of_ble_eq_true rfl) dX6_noCell_25 rfl ?_
    refine jr_if_eq 35 dX6_noCell_28 (by decide) rfl (fun c1 => ?_) (fun c1 => ?_)
    · have hF := jif_p hF c1
      refine jr_iconst (v := 3) dX6_noCell_35 (by decide) rfl ?_
      exact jh_iret rfl dX6_noCell_36 hF
    · have hF := jif_n hF c1
      refine jr_iconst (v := 0) dX6_noCell_31 (by decide) rfl ?_
      refine jr_goto 36 dX6_noCell_32 (by decide) ?_
      exact jh_iret rfl dX6_noCell_36 hF
  · have hF := jif_n hF c1
    refine jr_iconst (v := 1) dX6_noCell_9 (by decide) rfl ?_
    refine jr_goto 36 dX6_noCell_10 (by decide) ?_
    exact jh_iret rfl dX6_noCell_36 hF
set_option maxHeartbeats 4000000 in
set_option maxRecDepth 100000 in
theorem JF_X6_put {E : jx_E} (hB : jB E 8) {a1 : Int32} {a2 : Int32} {a3 : Int32} {M : jx_M} {r : Int32} {M' : jx_M} (hF : F_X6_put a1 a2 a3 M = some (r, M')) : jC E yX6_put cX6_put 4 (some FieldType.int) rm_X6_put [.ref (ja E 8 0), .int a1, .int a2, .int a3] M (fun x M'' => x = some (.int r) ∧ M'' = M') := by
  refine jC.ofJ (L := [(0, .ref (ja E 8 0)), (1, .int a1), (2, .int a2), (3, .int a3)]) (by decide +kernel) (Nat.le_of_ble_eq_true rfl) rfl ?_
  unfold F_X6_put at hF
  refine jr_iload_n 1 dX6_put_0 rfl rfl rfl ?_
  obtain ⟨r_1, M_1, hc_1, hF⟩ := jbd_e hF
  refine jh_callS1 (v := .int r_1) (as := [.int a1]) (st := []) (JF_X6_noSheet hB hc_1) cw_X6_148 (iv_X6_noSheet) ⟨rfl, rfl, by decide, by decide⟩ rfl rfl (Nat.le_of_ble_eq_true rfl) dX6_put_1 rfl ?_
  refine jr_if_eq 13 dX6_put_4 (by decide) rfl (fun c1 => ?_) (fun c1 => ?_)
  · have hF := jif_p hF c1
    refine jr_aload_n 0 dX6_put_13 rfl rfl rfl ?_
    refine jr_iload_n 1 dX6_put_14 rfl rfl rfl ?_
    refine jr_iload_n 2 dX6_put_15 rfl rfl rfl ?_
    obtain ⟨r_2, M_2, hc_2, hF⟩ := jbd_e hF
    refine jh_callV1 (v := .int r_2) (o := 8) (as := [.int a1, .int a2]) (st := []) (JF_X6_noCell hB hc_2) cw_X6_259 (iv_X6_noCell) ⟨rfl, rfl, by decide, by decide⟩ rfl hB rfl rfl (Nat.le_of_ble_eq_true rfl) dX6_put_16 rfl ?_
    refine jr_if_le 33 dX6_put_19 (by decide) rfl (fun c1 => ?_) (fun c1 => ?_)
    · have hF := jif_p hF c1
      refine jr_aload_n 0 dX6_put_33 rfl rfl rfl ?_
      refine gf_X6_91 rfl rfl hB dX6_put_34 rfl ?_
      refine jr_bipush (v := 60) dX6_put_37 (by decide) rfl ?_
      refine jr_iload_n 1 dX6_put_39 rfl rfl rfl ?_
      refine jr_imul dX6_put_40 rfl ?_
      refine jr_iload_n 2 dX6_put_41 rfl rfl rfl ?_
      refine jr_iadd dX6_put_42 rfl ?_
      refine jr_aload_n 0 dX6_put_43 rfl rfl rfl ?_
      refine gf_X6_88 rfl rfl hB dX6_put_44 rfl ?_
      refine jr_iload_n 1 dX6_put_47 rfl rfl rfl ?_
      obtain ⟨hb_1, hF⟩ := jck_e hF
      refine jh_iald (ci := 6) (k := 39) rfl hB (by decide) rfl rfl hb_1 dX6_put_48 rfl ?_
      refine jr_if_ne 57 dX6_put_49 (by decide) rfl (fun c1 => ?_) (fun c1 => ?_)
      · have hF := jif_n hF c1
        refine jr_aload_n 0 dX6_put_57 rfl rfl rfl ?_
        refine gf_X6_88 rfl rfl hB dX6_put_58 rfl ?_
        refine jr_iload_n 1 dX6_put_61 rfl rfl rfl ?_
        obtain ⟨hb_2, hF⟩ := jck_e hF
        refine jh_iald (ci := 6) (k := 39) rfl hB (by decide) rfl rfl hb_2 dX6_put_62 rfl ?_
        refine jr_iconst (v := 1) dX6_put_63 (by decide) rfl ?_
        refine jr_icmp_ne 72 dX6_put_64 (by decide) rfl (fun c1 => ?_) (fun c1 => ?_)
        · have hF := jif_n hF c1
          refine jr_iload_n 3 dX6_put_72 rfl rfl rfl ?_
          obtain ⟨hb_3, hF⟩ := jck_e hF
          refine jh_iast (ci := 6) (k := 40) rfl hB (by decide) rfl rfl hb_3 dX6_put_73 rfl (fun M_3 eM_3 => ?_)
          have hF := jlet_e hF M_3 eM_3
          refine jr_aload_n 0 dX6_put_74 rfl rfl rfl ?_
          refine jr_iconst (v := 1) dX6_put_75 (by decide) rfl ?_
          obtain ⟨r_3, M_4, hc_3, hF⟩ := jbd_e hF
          refine jh_callV1 (v := .int r_3) (o := 8) (as := [.int 1]) (st := []) (JF_X6_refused hB hc_3) cw_X6_152 (iv_X6_refused) ⟨rfl, rfl, by decide, by decide⟩ rfl hB rfl rfl (Nat.le_of_ble_eq_true rfl) dX6_put_76 rfl ?_
          exact jh_iret rfl dX6_put_79 hF
        · have hF := jif_p hF c1
          refine jr_iload_n 3 dX6_put_67 rfl rfl rfl ?_
          refine jr_i2s dX6_put_68 rfl ?_
          refine jr_goto 73 dX6_put_69 (by decide) ?_
          obtain ⟨hb_4, hF⟩ := jck_e hF
          refine jh_iast (ci := 6) (k := 40) rfl hB (by decide) rfl rfl hb_4 dX6_put_73 rfl (fun M_5 eM_5 => ?_)
          have hF := jlet_e hF M_5 eM_5
          refine jr_aload_n 0 dX6_put_74 rfl rfl rfl ?_
          refine jr_iconst (v := 1) dX6_put_75 (by decide) rfl ?_
          obtain ⟨r_4, M_6, hc_4, hF⟩ := jbd_e hF
          refine jh_callV1 (v := .int r_4) (o := 8) (as := [.int 1]) (st := []) (JF_X6_refused hB hc_4) cw_X6_152 (iv_X6_refused) ⟨rfl, rfl, by decide, by decide⟩ rfl hB rfl rfl (Nat.le_of_ble_eq_true rfl) dX6_put_76 rfl ?_
          exact jh_iret rfl dX6_put_79 hF
      · have hF := jif_p hF c1
        refine jr_iload_n 3 dX6_put_52 rfl rfl rfl ?_
        refine jr_i2b dX6_put_53 rfl ?_
        refine jr_goto 73 dX6_put_54 (by decide) ?_
        obtain ⟨hb_5, hF⟩ := jck_e hF
        refine jh_iast (ci := 6) (k := 40) rfl hB (by decide) rfl rfl hb_5 dX6_put_73 rfl (fun M_7 eM_7 => ?_)
        have hF := jlet_e hF M_7 eM_7
        refine jr_aload_n 0 dX6_put_74 rfl rfl rfl ?_
        refine jr_iconst (v := 1) dX6_put_75 (by decide) rfl ?_
        obtain ⟨r_5, M_8, hc_5, hF⟩ := jbd_e hF
        refine jh_callV1 (v := .int r_5) (o := 8) (as := [.int 1]) (st := []) (JF_X6_refused hB hc_5) cw_X6_152 (iv_X6_refused) ⟨rfl, rfl, by decide, by decide⟩ rfl hB rfl rfl (Nat.le_of_ble_eq_true rfl) dX6_put_76 rfl ?_
        exact jh_iret rfl dX6_put_79 hF
    · have hF := jif_n hF c1
      refine jr_aload_n 0 dX6_put_22 rfl rfl rfl ?_
      refine jr_aload_n 0 dX6_put_23 rfl rfl rfl ?_
      refine jr_iload_n 1 dX6_put_24 rfl rfl rfl ?_
      refine jr_iload_n 2 dX6_put_25 rfl rfl rfl ?_
      obtain ⟨r_6, M_9, hc_6, hF⟩ := jbd_e hF
      refine jh_callV1 (v := .int r_6) (o := 8) (as := [.int a1, .int a2]) (st := [.ref (ja E 8 0)]) (JF_X6_noCell hB hc_6) cw_X6_259 (iv_X6_noCell) ⟨rfl, rfl, by decide, by decide⟩ rfl hB rfl rfl (Nat.le_of_ble_eq_true rfl) dX6_put_26 rfl ?_
      obtain ⟨r_7, M_10, hc_7, hF⟩ := jbd_e hF
      refine jh_callV1 (v := .int r_7) (o := 8) (as := [.int r_6]) (st := []) (JF_X6_failed hB hc_7) cw_X6_140 (iv_X6_failed) ⟨rfl, rfl, by decide, by decide⟩ rfl hB rfl rfl (Nat.le_of_ble_eq_true rfl) dX6_put_29 rfl ?_
      exact jh_iret rfl dX6_put_32 hF
  · have hF := jif_n hF c1
    refine jr_aload_n 0 dX6_put_7 rfl rfl rfl ?_
    refine jr_iconst (v := (-1)) dX6_put_8 (by decide) rfl ?_
    obtain ⟨r_8, M_11, hc_8, hF⟩ := jbd_e hF
    refine jh_callV1 (v := .int r_8) (o := 8) (as := [.int (-1)]) (st := []) (JF_X6_refused hB hc_8) cw_X6_152 (iv_X6_refused) ⟨rfl, rfl, by decide, by decide⟩ rfl hB rfl rfl (Nat.le_of_ble_eq_true rfl) dX6_put_9 rfl ?_
    exact jh_iret rfl dX6_put_12 hF
set_option maxHeartbeats 4000000 in
set_option maxRecDepth 100000 in
theorem JF_X6_cell {E : jx_E} (hB : jB E 8) {a1 : Int32} {a2 : Int32} {a3 : Int32} {M : jx_M} {r : Int64} {M' : jx_M} (hF : F_X6_cell a1 a2 a3 M = some (r, M')) : jC E yX6_cell cX6_cell 4 (some FieldType.long) rm_X6_cell [.ref (ja E 8 0), .int a1, .int a2, .int a3] M (fun x M'' => x = some (.long r) ∧ M'' = M') := by
  refine jC.ofJ (L := [(0, .ref (ja E 8 0)), (1, .int a1), (2, .int a2), (3, .int a3)]) (by decide +kernel) (Nat.le_of_ble_eq_true rfl) rfl ?_
  unfold F_X6_cell at hF
  refine jr_aload_n 0 dX6_cell_0 rfl rfl rfl ?_
  refine jr_iconst (v := 0) dX6_cell_1 (by decide) rfl ?_
  refine pf_X6_99 rfl rfl hB dX6_cell_2 ⟨rfl, rfl⟩ rfl (fun M_1 eM_1 => ?_)
  have hF := jlet_e hF M_1 eM_1
  refine jr_iload_n 1 dX6_cell_5 rfl rfl rfl ?_
  obtain ⟨r_1, M_2, hc_1, hF⟩ := jbd_e hF
  refine jh_callS1 (v := .int r_1) (as := [.int a1]) (st := []) (JF_X6_noSheet hB hc_1) cw_X6_148 (iv_X6_noSheet) ⟨rfl, rfl, by decide, by decide⟩ rfl rfl (Nat.le_of_ble_eq_true rfl) dX6_cell_6 rfl ?_
  refine jr_if_ne 24 dX6_cell_9 (by decide) rfl (fun c1 => ?_) (fun c1 => ?_)
  · have hF := jif_n hF c1
    obtain ⟨r_2, M_3, hc_2, hF⟩ := jbd_e hF
    refine jh_callS1 (v := .long r_2) (as := []) (st := []) (JF_X6_lost hB hc_2) cw_X6_103 (iv_X6_lost) ⟨rfl, rfl, by decide, by decide⟩ rfl rfl (Nat.le_of_ble_eq_true rfl) dX6_cell_24 rfl ?_
    exact jh_lret rfl dX6_cell_27 hF
  · have hF := jif_p hF c1
    refine jr_iload_n 3 dX6_cell_12 rfl rfl rfl ?_
    refine jr_i2l dX6_cell_13 rfl ?_
    refine jr_lconst (v := 0) dX6_cell_14 (by decide) rfl ?_
    refine jr_ldc2 (v := 2) dX6_cell_15 (List.mem_cons_of_mem _ (lw_g_of 802 (by decide +kernel) (by decide +kernel))) rfl ?_
    obtain ⟨r_3, M_4, hc_3, hF⟩ := jbd_e hF
    refine jh_callS1 (v := .int r_3) (as := [.long a3.toInt64, .long 0, .long 2]) (st := []) (JF_X6_in hB hc_3) cw_X6_110 (iv_X6_in) ⟨rfl, rfl, by decide, by decide⟩ rfl rfl (Nat.le_of_ble_eq_true rfl) dX6_cell_18 rfl ?_
    refine jr_if_ne 28 dX6_cell_21 (by decide) rfl (fun c1 => ?_) (fun c1 => ?_)
    · have hF := jif_n hF c1
      refine jr_aload_n 0 dX6_cell_28 rfl rfl rfl ?_
      refine gf_X6_85 rfl rfl hB dX6_cell_29 rfl ?_
      refine jr_iload_n 1 dX6_cell_32 rfl rfl rfl ?_
      obtain ⟨hb_1, hF⟩ := jck_e hF
      refine jh_iald (ci := 6) (k := 38) rfl hB (by decide) rfl rfl hb_1 dX6_cell_33 rfl ?_
      refine jr_if_lt 53 dX6_cell_34 (by decide) rfl (fun c1 => ?_) (fun c1 => ?_)
      · have hF := jif_p hF c1
        refine jr_aload_n 0 dX6_cell_53 rfl rfl rfl ?_
        refine jr_iload_n 1 dX6_cell_54 rfl rfl rfl ?_
        refine jr_iload_n 2 dX6_cell_55 rfl rfl rfl ?_
        obtain ⟨r_4, M_5, hc_4, hF⟩ := jbd_e hF
        refine jh_callV1 (v := .int r_4) (o := 8) (as := [.int a1, .int a2]) (st := []) (JF_X6_noCell hB hc_4) cw_X6_259 (iv_X6_noCell) ⟨rfl, rfl, by decide, by decide⟩ rfl hB rfl rfl (Nat.le_of_ble_eq_true rfl) dX6_cell_56 rfl ?_
        refine jr_if_le 75 dX6_cell_59 (by decide) rfl (fun c1 => ?_) (fun c1 => ?_)
        · have hF := jif_p hF c1
          refine jr_aload_n 0 dX6_cell_75 rfl rfl rfl ?_
          refine gf_X6_91 rfl rfl hB dX6_cell_76 rfl ?_
          refine jr_bipush (v := 60) dX6_cell_79 (by decide) rfl ?_
          refine jr_iload_n 1 dX6_cell_81 rfl rfl rfl ?_
          refine jr_imul dX6_cell_82 rfl ?_
          refine jr_iload_n 2 dX6_cell_83 rfl rfl rfl ?_
          refine jr_iadd dX6_cell_84 rfl ?_
          obtain ⟨hb_2, hF⟩ := jck_e hF
          refine jh_iald (ci := 6) (k := 40) rfl hB (by decide) rfl rfl hb_2 dX6_cell_85 rfl ?_
          refine jr_i2l dX6_cell_86 rfl ?_
          exact jh_lret rfl dX6_cell_87 hF
        · have hF := jif_n hF c1
          refine jr_aload_n 0 dX6_cell_62 rfl rfl rfl ?_
          refine jr_aload_n 0 dX6_cell_63 rfl rfl rfl ?_
          refine jr_iload_n 1 dX6_cell_64 rfl rfl rfl ?_
          refine jr_iload_n 2 dX6_cell_65 rfl rfl rfl ?_
          obtain ⟨r_5, M_6, hc_5, hF⟩ := jbd_e hF
          refine jh_callV1 (v := .int r_5) (o := 8) (as := [.int a1, .int a2]) (st := [.ref (ja E 8 0)]) (JF_X6_noCell hB hc_5) cw_X6_259 (iv_X6_noCell) ⟨rfl, rfl, by decide, by decide⟩ rfl hB rfl rfl (Nat.le_of_ble_eq_true rfl) dX6_cell_66 rfl ?_
          obtain ⟨r_6, M_7, hc_6, hF⟩ := jbd_e hF
          refine jh_callV1 (v := .long r_6) (o := 8) (as := [.int r_5]) (st := []) (JF_X6_failedLong hB hc_6) cw_X6_262 (iv_X6_failedLong) ⟨rfl, rfl, by decide, by decide⟩ rfl hB rfl rfl (Nat.le_of_ble_eq_true rfl) dX6_cell_69 rfl ?_
          refine jr_goto 87 dX6_cell_72 (by decide) ?_
          exact jh_lret rfl dX6_cell_87 hF
      · have hF := jif_n hF c1
        refine jr_aload_n 0 dX6_cell_37 rfl rfl rfl ?_
        refine gf_X6_88 rfl rfl hB dX6_cell_38 rfl ?_
        refine jr_iload_n 1 dX6_cell_41 rfl rfl rfl ?_
        obtain ⟨hb_3, hF⟩ := jck_e hF
        refine jh_iald (ci := 6) (k := 39) rfl hB (by decide) rfl rfl hb_3 dX6_cell_42 rfl ?_
        refine jr_iload_n 3 dX6_cell_43 rfl rfl rfl ?_
        refine jr_icmp_eq 53 dX6_cell_44 (by decide) rfl (fun c1 => ?_) (fun c1 => ?_)
        · have hF := jif_p hF c1
          refine jr_aload_n 0 dX6_cell_53 rfl rfl rfl ?_
          refine jr_iload_n 1 dX6_cell_54 rfl rfl rfl ?_
          refine jr_iload_n 2 dX6_cell_55 rfl rfl rfl ?_
          obtain ⟨r_7, M_8, hc_7, hF⟩ := jbd_e hF
          refine jh_callV1 (v := .int r_7) (o := 8) (as := [.int a1, .int a2]) (st := []) (JF_X6_noCell hB hc_7) cw_X6_259 (iv_X6_noCell) ⟨rfl, rfl, by decide, by decide⟩ rfl hB rfl rfl (Nat.le_of_ble_eq_true rfl) dX6_cell_56 rfl ?_
          refine jr_if_le 75 dX6_cell_59 (by decide) rfl (fun c1 => ?_) (fun c1 => ?_)
          · have hF := jif_p hF c1
            refine jr_aload_n 0 dX6_cell_75 rfl rfl rfl ?_
            refine gf_X6_91 rfl rfl hB dX6_cell_76 rfl ?_
            refine jr_bipush (v := 60) dX6_cell_79 (by decide) rfl ?_
            refine jr_iload_n 1 dX6_cell_81 rfl rfl rfl ?_
            refine jr_imul dX6_cell_82 rfl ?_
            refine jr_iload_n 2 dX6_cell_83 rfl rfl rfl ?_
            refine jr_iadd dX6_cell_84 rfl ?_
            obtain ⟨hb_4, hF⟩ := jck_e hF
            refine jh_iald (ci := 6) (k := 40) rfl hB (by decide) rfl rfl hb_4 dX6_cell_85 rfl ?_
            refine jr_i2l dX6_cell_86 rfl ?_
            exact jh_lret rfl dX6_cell_87 hF
          · have hF := jif_n hF c1
            refine jr_aload_n 0 dX6_cell_62 rfl rfl rfl ?_
            refine jr_aload_n 0 dX6_cell_63 rfl rfl rfl ?_
            refine jr_iload_n 1 dX6_cell_64 rfl rfl rfl ?_
            refine jr_iload_n 2 dX6_cell_65 rfl rfl rfl ?_
            obtain ⟨r_8, M_9, hc_8, hF⟩ := jbd_e hF
            refine jh_callV1 (v := .int r_8) (o := 8) (as := [.int a1, .int a2]) (st := [.ref (ja E 8 0)]) (JF_X6_noCell hB hc_8) cw_X6_259 (iv_X6_noCell) ⟨rfl, rfl, by decide, by decide⟩ rfl hB rfl rfl (Nat.le_of_ble_eq_true rfl) dX6_cell_66 rfl ?_
            obtain ⟨r_9, M_10, hc_9, hF⟩ := jbd_e hF
            refine jh_callV1 (v := .long r_9) (o := 8) (as := [.int r_8]) (st := []) (JF_X6_failedLong hB hc_9) cw_X6_262 (iv_X6_failedLong) ⟨rfl, rfl, by decide, by decide⟩ rfl hB rfl rfl (Nat.le_of_ble_eq_true rfl) dX6_cell_69 rfl ?_
            refine jr_goto 87 dX6_cell_72 (by decide) ?_
            exact jh_lret rfl dX6_cell_87 hF
        · have hF := jif_n hF c1
          refine jr_aload_n 0 dX6_cell_47 rfl rfl rfl ?_
          refine jr_iconst (v := 2) dX6_cell_48 (by decide) rfl ?_
          obtain ⟨r_10, M_11, hc_10, hF⟩ := jbd_e hF
          refine jh_callV1 (v := .long r_10) (o := 8) (as := [.int 2]) (st := []) (JF_X6_failedLong hB hc_10) cw_X6_262 (iv_X6_failedLong) ⟨rfl, rfl, by decide, by decide⟩ rfl hB rfl rfl (Nat.le_of_ble_eq_true rfl) dX6_cell_49 rfl ?_
          exact jh_lret rfl dX6_cell_52 hF
    · have hF := jif_p hF c1
      obtain ⟨r_11, M_12, hc_11, hF⟩ := jbd_e hF
      refine jh_callS1 (v := .long r_11) (as := []) (st := []) (JF_X6_lost hB hc_11) cw_X6_103 (iv_X6_lost) ⟨rfl, rfl, by decide, by decide⟩ rfl rfl (Nat.le_of_ble_eq_true rfl) dX6_cell_24 rfl ?_
      exact jh_lret rfl dX6_cell_27 hF
set_option maxHeartbeats 4000000 in
set_option maxRecDepth 100000 in
theorem JL_X6_copy_107 {E : jx_E} (hB : jB E 8) {y1 : Int32} {y2 : Int32} {y3 : Int32} {y4 : Int32} {y5 : Int32} {k : jx_M → Option (Int32 × jx_M)} {r : Int32} {M' : jx_M} (hk : ∀ (M : jx_M), k M = some (r, M') → jJ E yX6_copy cX6_copy 7 (some FieldType.int) rm_X6_copy (fun x M'' => x = some (.int r) ∧ M'' = M') 141 [(0, .ref (ja E 8 0)), (3, .int y3), (4, .int y4), (5, .int y5)] [] M) : ∀ (n : Nat) (z6 : Int32) (M : jx_M), L_X6_copy_107 y1 y2 y3 y4 y5 k n z6 M = some (r, M') → jJ E yX6_copy cX6_copy 7 (some FieldType.int) rm_X6_copy (fun x M'' => x = some (.int r) ∧ M'' = M') 107 [(0, .ref (ja E 8 0)), (1, .int y1), (2, .int y2), (3, .int y3), (4, .int y4), (5, .int y5), (6, .int z6)] [] M := by
  intro n
  induction n with
  | zero => intro z6 M hF; exact nomatch (show (none : Option (Int32 × jx_M)) = some _ from hF)
  | succ n ih =>
    intro z6 M hF
    rw [L_X6_copy_107.eq_2] at hF
    refine jr_iload 6 dX6_copy_107 rfl rfl ?_
    refine jr_iload 5 dX6_copy_109 rfl rfl ?_
    refine jr_icmp_ge 141 dX6_copy_111 (by decide) rfl (fun c1 => ?_) (fun c1 => ?_)
    · have hF := jif_p hF c1
      refine jr_sub [0, 3, 4, 5] rfl ?_
      exact hk M hF
    · have hF := jif_n hF c1
      refine jr_aload_n 0 dX6_copy_114 rfl rfl rfl ?_
      refine gf_X6_94 rfl rfl hB dX6_copy_115 rfl ?_
      refine jr_iload 6 dX6_copy_118 rfl rfl ?_
      refine jr_aload_n 0 dX6_copy_120 rfl rfl rfl ?_
      refine gf_X6_91 rfl rfl hB dX6_copy_121 rfl ?_
      refine jr_bipush (v := 60) dX6_copy_124 (by decide) rfl ?_
      refine jr_iload_n 1 dX6_copy_126 rfl rfl rfl ?_
      refine jr_imul dX6_copy_127 rfl ?_
      refine jr_iload_n 2 dX6_copy_128 rfl rfl rfl ?_
      refine jr_iadd dX6_copy_129 rfl ?_
      refine jr_iload 6 dX6_copy_130 rfl rfl ?_
      refine jr_iadd dX6_copy_132 rfl ?_
      obtain ⟨hb_7, hF⟩ := jck_e hF
      refine jh_iald (ci := 6) (k := 40) rfl hB (by decide) rfl rfl hb_7 dX6_copy_133 rfl ?_
      obtain ⟨hb_8, hF⟩ := jck_e hF
      refine jh_iast (ci := 6) (k := 41) rfl hB (by decide) rfl rfl hb_8 dX6_copy_134 rfl (fun M_8 eM_8 => ?_)
      have hF := jlet_e hF M_8 eM_8
      obtain ⟨x6_1, ex6_1⟩ : ∃ z : Int32, z = z6 + 1 := ⟨_, rfl⟩
      have hF := jlet_e hF x6_1 ex6_1
      refine jr_iinc (v := x6_1) (L' := [(6, .int x6_1), (0, .ref (ja E 8 0)), (1, .int y1), (2, .int y2), (3, .int y3), (4, .int y4), (5, .int y5)]) 6 dX6_copy_135 rfl (by rw [ex6_1]; rfl) (by decide) rfl rfl ?_
      refine jr_goto 107 dX6_copy_138 (by decide) ?_
      refine jr_sub [1, 2, 3, 4, 5, 6, 0] rfl ?_
      exact ih x6_1 M_8 hF
set_option maxHeartbeats 4000000 in
set_option maxRecDepth 100000 in
theorem JL_X6_copy_144 {E : jx_E} (hB : jB E 8) {y3 : Int32} {y4 : Int32} {y5 : Int32} {k : jx_M → Option (Int32 × jx_M)} {r : Int32} {M' : jx_M} (hk : ∀ (M : jx_M), k M = some (r, M') → jJ E yX6_copy cX6_copy 7 (some FieldType.int) rm_X6_copy (fun x M'' => x = some (.int r) ∧ M'' = M') 179 [(0, .ref (ja E 8 0)), (5, .int y5)] [] M) : ∀ (n : Nat) (z6 : Int32) (M : jx_M), L_X6_copy_144 y3 y4 y5 k n z6 M = some (r, M') → jJ E yX6_copy cX6_copy 7 (some FieldType.int) rm_X6_copy (fun x M'' => x = some (.int r) ∧ M'' = M') 144 [(0, .ref (ja E 8 0)), (3, .int y3), (4, .int y4), (5, .int y5), (6, .int z6)] [] M := by
  intro n
  induction n with
  | zero => intro z6 M hF; exact nomatch (show (none : Option (Int32 × jx_M)) = some _ from hF)
  | succ n ih =>
    intro z6 M hF
    rw [L_X6_copy_144.eq_2] at hF
    refine jr_iload 4 dX6_copy_144 rfl rfl ?_
    refine jr_iload 3 dX6_copy_146 rfl rfl ?_
    refine jr_icmp_ge 179 dX6_copy_148 (by decide) rfl (fun c1 => ?_) (fun c1 => ?_)
    · have hF := jif_p hF c1
      refine jr_sub [0, 3] rfl ?_
      exact hk M hF
    · have hF := jif_n hF c1
      refine jr_aload_n 0 dX6_copy_151 rfl rfl rfl ?_
      refine gf_X6_91 rfl rfl hB dX6_copy_152 rfl ?_
      refine jr_bipush (v := 60) dX6_copy_155 (by decide) rfl ?_
      refine jr_iload_n 1 dX6_copy_157 rfl rfl rfl ?_
      refine jr_imul dX6_copy_158 rfl ?_
      refine jr_iload 2 dX6_copy_159 rfl rfl ?_
      refine jr_iadd dX6_copy_161 rfl ?_
      refine jr_iload 4 dX6_copy_162 rfl rfl ?_
      refine jr_iadd dX6_copy_164 rfl ?_
      refine jr_aload_n 0 dX6_copy_165 rfl rfl rfl ?_
      refine gf_X6_94 rfl rfl hB dX6_copy_166 rfl ?_
      refine jr_iload 4 dX6_copy_169 rfl rfl ?_
      obtain ⟨hb_9, hF⟩ := jck_e hF
      refine jh_iald (ci := 6) (k := 41) rfl hB (by decide) rfl rfl hb_9 dX6_copy_171 rfl ?_
      obtain ⟨hb_10, hF⟩ := jck_e hF
      refine jh_iast (ci := 6) (k := 40) rfl hB (by decide) rfl rfl hb_10 dX6_copy_172 rfl (fun M_10 eM_10 => ?_)
      have hF := jlet_e hF M_10 eM_10
      obtain ⟨x6_2, ex6_2⟩ : ∃ z : Int32, z = z6 + 1 := ⟨_, rfl⟩
      have hF := jlet_e hF x6_2 ex6_2
      refine jr_iinc (v := x6_2) (L' := [(6, .int x6_2), (0, .ref (ja E 8 0)), (3, .int y3), (4, .int y4), (5, .int y5)]) 4 dX6_copy_173 rfl (by rw [ex6_2]; rfl) (by decide) rfl rfl ?_
      refine jr_goto 144 dX6_copy_176 (by decide) ?_
      refine jr_sub [1, 2, 3, 4, 0] rfl ?_
      exact ih x6_2 M_10 hF
set_option maxHeartbeats 4000000 in
set_option maxRecDepth 100000 in
theorem JF_X6_copy {E : jx_E} (hB : jB E 8) {a1 : Int32} {a2 : Int32} {a3 : Int32} {a4 : Int32} {a5 : Int32} {M : jx_M} {r : Int32} {M' : jx_M} (hF : F_X6_copy a1 a2 a3 a4 a5 M = some (r, M')) : jC E yX6_copy cX6_copy 7 (some FieldType.int) rm_X6_copy [.ref (ja E 8 0), .int a1, .int a2, .int a3, .int a4, .int a5] M (fun x M'' => x = some (.int r) ∧ M'' = M') := by
  refine jC.ofJ (L := [(0, .ref (ja E 8 0)), (1, .int a1), (2, .int a2), (3, .int a3), (4, .int a4), (5, .int a5)]) (by decide +kernel) (Nat.le_of_ble_eq_true rfl) rfl ?_
  unfold F_X6_copy at hF
  refine jr_iload_n 1 dX6_copy_0 rfl rfl rfl ?_
  obtain ⟨r_1, M_1, hc_1, hF⟩ := jbd_e hF
  refine jh_callS1 (v := .int r_1) (as := [.int a1]) (st := []) (JF_X6_noSheet hB hc_1) cw_X6_148 (iv_X6_noSheet) ⟨rfl, rfl, by decide, by decide⟩ rfl rfl (Nat.le_of_ble_eq_true rfl) dX6_copy_1 rfl ?_
  refine jr_if_ne 14 dX6_copy_4 (by decide) rfl (fun c1 => ?_) (fun c1 => ?_)
  · have hF := jif_n hF c1
    refine jr_aload_n 0 dX6_copy_14 rfl rfl rfl ?_
    refine jr_iconst (v := (-1)) dX6_copy_15 (by decide) rfl ?_
    obtain ⟨r_2, M_2, hc_2, hF⟩ := jbd_e hF
    refine jh_callV1 (v := .int r_2) (o := 8) (as := [.int (-1)]) (st := []) (JF_X6_refused hB hc_2) cw_X6_152 (iv_X6_refused) ⟨rfl, rfl, by decide, by decide⟩ rfl hB rfl rfl (Nat.le_of_ble_eq_true rfl) dX6_copy_16 rfl ?_
    exact jh_iret rfl dX6_copy_19 hF
  · have hF := jif_p hF c1
    refine jr_iload_n 3 dX6_copy_7 rfl rfl rfl ?_
    obtain ⟨r_3, M_3, hc_3, hF⟩ := jbd_e hF
    refine jh_callS1 (v := .int r_3) (as := [.int a3]) (st := []) (JF_X6_noSheet hB hc_3) cw_X6_148 (iv_X6_noSheet) ⟨rfl, rfl, by decide, by decide⟩ rfl rfl (Nat.le_of_ble_eq_true rfl) dX6_copy_8 rfl ?_
    refine jr_if_eq 20 dX6_copy_11 (by decide) rfl (fun c1 => ?_) (fun c1 => ?_)
    · have hF := jif_p hF c1
      refine jr_aload_n 0 dX6_copy_20 rfl rfl rfl ?_
      refine gf_X6_85 rfl rfl hB dX6_copy_21 rfl ?_
      refine jr_iload_n 1 dX6_copy_24 rfl rfl rfl ?_
      obtain ⟨hb_1, hF⟩ := jck_e hF
      refine jh_iald (ci := 6) (k := 38) rfl hB (by decide) rfl rfl hb_1 dX6_copy_25 rfl ?_
      refine jr_if_lt 38 dX6_copy_26 (by decide) rfl (fun c1 => ?_) (fun c1 => ?_)
      · have hF := jif_p hF c1
        refine jr_aload_n 0 dX6_copy_38 rfl rfl rfl ?_
        refine jr_iconst (v := 1) dX6_copy_39 (by decide) rfl ?_
        obtain ⟨r_4, M_4, hc_4, hF⟩ := jbd_e hF
        refine jh_callV1 (v := .int r_4) (o := 8) (as := [.int 1]) (st := []) (JF_X6_failed hB hc_4) cw_X6_140 (iv_X6_failed) ⟨rfl, rfl, by decide, by decide⟩ rfl hB rfl rfl (Nat.le_of_ble_eq_true rfl) dX6_copy_40 rfl ?_
        exact jh_iret rfl dX6_copy_43 hF
      · have hF := jif_n hF c1
        refine jr_aload_n 0 dX6_copy_29 rfl rfl rfl ?_
        refine gf_X6_85 rfl rfl hB dX6_copy_30 rfl ?_
        refine jr_iload_n 3 dX6_copy_33 rfl rfl rfl ?_
        obtain ⟨hb_2, hF⟩ := jck_e hF
        refine jh_iald (ci := 6) (k := 38) rfl hB (by decide) rfl rfl hb_2 dX6_copy_34 rfl ?_
        refine jr_if_ge 44 dX6_copy_35 (by decide) rfl (fun c1 => ?_) (fun c1 => ?_)
        · have hF := jif_p hF c1
          refine jr_aload_n 0 dX6_copy_44 rfl rfl rfl ?_
          refine gf_X6_88 rfl rfl hB dX6_copy_45 rfl ?_
          refine jr_iload_n 1 dX6_copy_48 rfl rfl rfl ?_
          obtain ⟨hb_3, hF⟩ := jck_e hF
          refine jh_iald (ci := 6) (k := 39) rfl hB (by decide) rfl rfl hb_3 dX6_copy_49 rfl ?_
          refine jr_aload_n 0 dX6_copy_50 rfl rfl rfl ?_
          refine gf_X6_88 rfl rfl hB dX6_copy_51 rfl ?_
          refine jr_iload_n 3 dX6_copy_54 rfl rfl rfl ?_
          obtain ⟨hb_4, hF⟩ := jck_e hF
          refine jh_iald (ci := 6) (k := 39) rfl hB (by decide) rfl rfl hb_4 dX6_copy_55 rfl ?_
          refine jr_icmp_eq 65 dX6_copy_56 (by decide) rfl (fun c1 => ?_) (fun c1 => ?_)
          · have hF := jif_p hF c1
            refine jr_iload_n 2 dX6_copy_65 rfl rfl rfl ?_
            refine jr_iload 5 dX6_copy_66 rfl rfl ?_
            refine jr_i2l dX6_copy_68 rfl ?_
            refine jr_aload_n 0 dX6_copy_69 rfl rfl rfl ?_
            refine gf_X6_85 rfl rfl hB dX6_copy_70 rfl ?_
            refine jr_iload_n 1 dX6_copy_73 rfl rfl rfl ?_
            obtain ⟨hb_5, hF⟩ := jck_e hF
            refine jh_iald (ci := 6) (k := 38) rfl hB (by decide) rfl rfl hb_5 dX6_copy_74 rfl ?_
            obtain ⟨r_5, M_5, hc_5, hF⟩ := jbd_e hF
            refine jh_callS1 (v := .int r_5) (as := [.int a2, .long a5.toInt64, .int (jx_r M_3 8 38 a1)]) (st := []) (JF_X6_isBeyond hB hc_5) cw_X6_144 (iv_X6_isBeyond) ⟨rfl, rfl, by decide, by decide⟩ rfl rfl (Nat.le_of_ble_eq_true rfl) dX6_copy_75 rfl ?_
            refine jr_if_ne 98 dX6_copy_78 (by decide) rfl (fun c1 => ?_) (fun c1 => ?_)
            · have hF := jif_n hF c1
              refine jr_aload_n 0 dX6_copy_98 rfl rfl rfl ?_
              refine jr_iconst (v := 3) dX6_copy_99 (by decide) rfl ?_
              obtain ⟨r_6, M_6, hc_6, hF⟩ := jbd_e hF
              refine jh_callV1 (v := .int r_6) (o := 8) (as := [.int 3]) (st := []) (JF_X6_failed hB hc_6) cw_X6_140 (iv_X6_failed) ⟨rfl, rfl, by decide, by decide⟩ rfl hB rfl rfl (Nat.le_of_ble_eq_true rfl) dX6_copy_100 rfl ?_
              exact jh_iret rfl dX6_copy_103 hF
            · have hF := jif_p hF c1
              refine jr_iload 4 dX6_copy_81 rfl rfl ?_
              refine jr_iload 5 dX6_copy_83 rfl rfl ?_
              refine jr_i2l dX6_copy_85 rfl ?_
              refine jr_aload_n 0 dX6_copy_86 rfl rfl rfl ?_
              refine gf_X6_85 rfl rfl hB dX6_copy_87 rfl ?_
              refine jr_iload_n 3 dX6_copy_90 rfl rfl rfl ?_
              obtain ⟨hb_6, hF⟩ := jck_e hF
              refine jh_iald (ci := 6) (k := 38) rfl hB (by decide) rfl rfl hb_6 dX6_copy_91 rfl ?_
              obtain ⟨r_7, M_7, hc_7, hF⟩ := jbd_e hF
              refine jh_callS1 (v := .int r_7) (as := [.int a4, .long a5.toInt64, .int (jx_r M_5 8 38 a3)]) (st := []) (JF_X6_isBeyond hB hc_7) cw_X6_144 (iv_X6_isBeyond) ⟨rfl, rfl, by decide, by decide⟩ rfl rfl (Nat.le_of_ble_eq_true rfl) dX6_copy_92 rfl ?_
              refine jr_if_eq 104 dX6_copy_95 (by decide) rfl (fun c1 => ?_) (fun c1 => ?_)
              · have hF := jif_p hF c1
                refine jr_iconst (v := 0) dX6_copy_104 (by decide) rfl ?_
                refine jr_istore (L' := [(6, .int 0), (0, .ref (ja E 8 0)), (1, .int a1), (2, .int a2), (3, .int a3), (4, .int a4), (5, .int a5)]) dX6_copy_105 (by decide) rfl rfl ?_
                refine jr_sub [1, 2, 3, 4, 5, 6, 0] rfl ?_
                refine JL_X6_copy_107 hB (fun M_9 hF => ?_) jfu 0 M_7 hF
                refine jr_iconst (v := 0) dX6_copy_141 (by decide) rfl ?_
                refine jr_istore (L' := [(6, .int 0), (0, .ref (ja E 8 0)), (3, .int a3), (4, .int a4), (5, .int a5)]) dX6_copy_142 (by decide) rfl rfl ?_
                refine jr_sub [1, 2, 3, 4, 0] rfl ?_
                refine JL_X6_copy_144 hB (fun M_11 hF => ?_) jfu 0 M_9 hF
                refine jr_aload_n 0 dX6_copy_179 rfl rfl rfl ?_
                refine jr_iload 1 dX6_copy_180 rfl rfl ?_
                obtain ⟨r_8, M_12, hc_8, hF⟩ := jbd_e hF
                refine jh_callV1 (v := .int r_8) (o := 8) (as := [.int a5]) (st := []) (JF_X6_refused hB hc_8) cw_X6_152 (iv_X6_refused) ⟨rfl, rfl, by decide, by decide⟩ rfl hB rfl rfl (Nat.le_of_ble_eq_true rfl) dX6_copy_182 rfl ?_
                exact jh_iret rfl dX6_copy_185 hF
              · have hF := jif_n hF c1
                refine jr_aload_n 0 dX6_copy_98 rfl rfl rfl ?_
                refine jr_iconst (v := 3) dX6_copy_99 (by decide) rfl ?_
                obtain ⟨r_9, M_13, hc_9, hF⟩ := jbd_e hF
                refine jh_callV1 (v := .int r_9) (o := 8) (as := [.int 3]) (st := []) (JF_X6_failed hB hc_9) cw_X6_140 (iv_X6_failed) ⟨rfl, rfl, by decide, by decide⟩ rfl hB rfl rfl (Nat.le_of_ble_eq_true rfl) dX6_copy_100 rfl ?_
                exact jh_iret rfl dX6_copy_103 hF
          · have hF := jif_n hF c1
            refine jr_aload_n 0 dX6_copy_59 rfl rfl rfl ?_
            refine jr_iconst (v := 2) dX6_copy_60 (by decide) rfl ?_
            obtain ⟨r_10, M_14, hc_10, hF⟩ := jbd_e hF
            refine jh_callV1 (v := .int r_10) (o := 8) (as := [.int 2]) (st := []) (JF_X6_failed hB hc_10) cw_X6_140 (iv_X6_failed) ⟨rfl, rfl, by decide, by decide⟩ rfl hB rfl rfl (Nat.le_of_ble_eq_true rfl) dX6_copy_61 rfl ?_
            exact jh_iret rfl dX6_copy_64 hF
        · have hF := jif_n hF c1
          refine jr_aload_n 0 dX6_copy_38 rfl rfl rfl ?_
          refine jr_iconst (v := 1) dX6_copy_39 (by decide) rfl ?_
          obtain ⟨r_11, M_15, hc_11, hF⟩ := jbd_e hF
          refine jh_callV1 (v := .int r_11) (o := 8) (as := [.int 1]) (st := []) (JF_X6_failed hB hc_11) cw_X6_140 (iv_X6_failed) ⟨rfl, rfl, by decide, by decide⟩ rfl hB rfl rfl (Nat.le_of_ble_eq_true rfl) dX6_copy_40 rfl ?_
          exact jh_iret rfl dX6_copy_43 hF
    · have hF := jif_n hF c1
      refine jr_aload_n 0 dX6_copy_14 rfl rfl rfl ?_
      refine jr_iconst (v := (-1)) dX6_copy_15 (by decide) rfl ?_
      obtain ⟨r_12, M_16, hc_12, hF⟩ := jbd_e hF
      refine jh_callV1 (v := .int r_12) (o := 8) (as := [.int (-1)]) (st := []) (JF_X6_refused hB hc_12) cw_X6_152 (iv_X6_refused) ⟨rfl, rfl, by decide, by decide⟩ rfl hB rfl rfl (Nat.le_of_ble_eq_true rfl) dX6_copy_16 rfl ?_
      exact jh_iret rfl dX6_copy_19 hF
set_option maxHeartbeats 4000000 in
set_option maxRecDepth 100000 in
theorem JF_X6_traced {E : jx_E} (hB : jB E 8) {a1 : Int32} {M : jx_M} {r : Unit} {M' : jx_M} (hF : F_X6_traced a1 M = some (r, M')) : jC E yX6_traced cX6_traced 2 none rm_X6_traced [.ref (ja E 8 0), .int a1] M (fun x M'' => x = none ∧ M'' = M') := by
  refine jC.ofJ (L := [(0, .ref (ja E 8 0)), (1, .int a1)]) (by decide +kernel) (Nat.le_of_ble_eq_true rfl) rfl ?_
  unfold F_X6_traced at hF
  refine jr_aload_n 0 dX6_traced_0 rfl rfl rfl ?_
  refine jr_bipush (v := 31) dX6_traced_1 (by decide) rfl ?_
  refine jr_aload_n 0 dX6_traced_3 rfl rfl rfl ?_
  refine gf_X6_266 rfl rfl hB dX6_traced_4 rfl ?_
  refine jr_imul dX6_traced_7 rfl ?_
  refine jr_iload_n 1 dX6_traced_8 rfl rfl rfl ?_
  refine jr_iadd dX6_traced_9 rfl ?_
  refine pf_X6_266 rfl rfl hB dX6_traced_10 ⟨rfl, rfl⟩ rfl (fun M_1 eM_1 => ?_)
  have hF := jlet_e hF M_1 eM_1
  exact jh_vret rfl dX6_traced_13 hF
set_option maxHeartbeats 4000000 in
set_option maxRecDepth 100000 in
theorem JF_X6_tell {E : jx_E} (hB : jB E 8) {a1 : Int32} {M : jx_M} {r : Int32} {M' : jx_M} (hF : F_X6_tell a1 M = some (r, M')) : jC E yX6_tell cX6_tell 4 (some FieldType.int) rm_X6_tell [.ref (ja E 8 0), .int a1] M (fun x M'' => x = some (.int r) ∧ M'' = M') := by
  refine jC.ofJ (L := [(0, .ref (ja E 8 0)), (1, .int a1)]) (by decide +kernel) (Nat.le_of_ble_eq_true rfl) rfl ?_
  unfold F_X6_tell at hF
  refine jr_aload_n 0 dX6_tell_0 rfl rfl rfl ?_
  refine jr_iload_n 1 dX6_tell_1 rfl rfl rfl ?_
  obtain ⟨r_1, M_1, hc_1, hF⟩ := jbd_e hF
  refine jh_callV1 (v := .int r_1) (o := 8) (as := [.int a1]) (st := []) (JF_X6_noPerson hB hc_1) cw_X6_176 (iv_X6_noPerson) ⟨rfl, rfl, by decide, by decide⟩ rfl hB rfl rfl (Nat.le_of_ble_eq_true rfl) dX6_tell_2 rfl ?_
  refine jr_if_eq 10 dX6_tell_5 (by decide) rfl (fun c1 => ?_) (fun c1 => ?_)
  · have hF := jif_p hF c1
    refine jr_aload_n 0 dX6_tell_10 rfl rfl rfl ?_
    refine gf_X6_7 rfl rfl hB dX6_tell_11 rfl ?_
    refine jr_iload_n 1 dX6_tell_14 rfl rfl rfl ?_
    obtain ⟨hb_1, hF⟩ := jck_e hF
    refine jh_iald (ci := 6) (k := 3) rfl hB (by decide) rfl rfl hb_1 dX6_tell_15 rfl ?_
    refine jr_topi (fun x2_1 ex2_1 => ?_)
    have hF := jlet_e hF x2_1 ex2_1
    refine jr_istore_n (L' := [(2, .int x2_1), (0, .ref (ja E 8 0)), (1, .int a1)]) dX6_tell_16 rfl (by decide) rfl rfl ?_
    refine jr_iload_n 0 dX6_tell_17 rfl rfl rfl ?_
    refine jr_iconst (v := 2) dX6_tell_18 (by decide) rfl ?_
    refine jr_icmp_ne 27 dX6_tell_19 (by decide) rfl (fun c1 => ?_) (fun c1 => ?_)
    · have hF := jif_n hF c1
      refine jr_iload_n 0 dX6_tell_27 rfl rfl rfl ?_
      refine jr_if_le 36 dX6_tell_28 (by decide) rfl (fun c1 => ?_) (fun c1 => ?_)
      · have hF := jif_p hF c1
        refine jr_aload_n 1 dX6_tell_36 rfl rfl rfl ?_
        refine jr_iconst (v := 1) dX6_tell_37 (by decide) rfl ?_
        obtain ⟨r_2, M_2, hc_2, hF⟩ := jbd_e hF
        refine jh_callV0 (o := 8) (as := [.int 1]) (st := []) (JF_X6_traced hB hc_2) cw_X6_269 (iv_X6_traced) ⟨rfl, rfl, by decide, by decide⟩ rfl hB rfl rfl (Nat.le_of_ble_eq_true rfl) dX6_tell_38 rfl ?_
        refine jr_iload_n 0 dX6_tell_41 rfl rfl rfl ?_
        refine jr_iconst (v := 2) dX6_tell_42 (by decide) rfl ?_
        refine jr_icmp_ne 51 dX6_tell_43 (by decide) rfl (fun c1 => ?_) (fun c1 => ?_)
        · have hF := jif_n hF c1
          refine jr_aload_n 1 dX6_tell_51 rfl rfl rfl ?_
          refine gf_X6_22 rfl rfl hB dX6_tell_52 rfl ?_
          refine jr_iload_n 2 dX6_tell_55 rfl rfl rfl ?_
          obtain ⟨hb_2, hF⟩ := jck_e hF
          refine jh_iald (ci := 6) (k := 7) rfl hB (by decide) rfl rfl hb_2 dX6_tell_56 rfl ?_
          refine jr_topi (fun x3_1 ex3_1 => ?_)
          have hF := jlet_e hF x3_1 ex3_1
          refine jr_istore_n (L' := [(3, .int x3_1), (2, .int x2_1), (0, .ref (ja E 8 0)), (1, .int a1)]) dX6_tell_57 rfl (by decide) rfl rfl ?_
          refine jr_iload_n 1 dX6_tell_58 rfl rfl rfl ?_
          refine jr_if_ne 66 dX6_tell_59 (by decide) rfl (fun c1 => ?_) (fun c1 => ?_)
          · have hF := jif_n hF c1
            refine jr_iload_n 1 dX6_tell_66 rfl rfl rfl ?_
            refine jr_iconst (v := 1) dX6_tell_67 (by decide) rfl ?_
            refine jr_icmp_ne 78 dX6_tell_68 (by decide) rfl (fun c1 => ?_) (fun c1 => ?_)
            · have hF := jif_n hF c1
              refine jr_iconst (v := 2) dX6_tell_78 (by decide) rfl ?_
              refine jr_iload_n 0 dX6_tell_79 rfl rfl rfl ?_
              refine jr_imul dX6_tell_80 rfl ?_
              refine jr_bipush (v := 100) dX6_tell_81 (by decide) rfl ?_
              refine jr_iadd dX6_tell_83 rfl ?_
              exact jh_iret rfl dX6_tell_84 hF
            · have hF := jif_p hF c1
              refine jr_iload_n 0 dX6_tell_71 rfl rfl rfl ?_
              refine jr_bipush (v := 100) dX6_tell_72 (by decide) rfl ?_
              refine jr_iadd dX6_tell_74 rfl ?_
              refine jr_goto 84 dX6_tell_75 (by decide) ?_
              exact jh_iret rfl dX6_tell_84 hF
          · have hF := jif_p hF c1
            refine jr_iload_n 0 dX6_tell_62 rfl rfl rfl ?_
            refine jr_goto 84 dX6_tell_63 (by decide) ?_
            exact jh_iret rfl dX6_tell_84 hF
        · have hF := jif_p hF c1
          refine jr_aload_n 1 dX6_tell_46 rfl rfl rfl ?_
          refine jr_iconst (v := 1) dX6_tell_47 (by decide) rfl ?_
          obtain ⟨r_3, M_3, hc_3, hF⟩ := jbd_e hF
          refine jh_callV0 (o := 8) (as := [.int 1]) (st := []) (JF_X6_traced hB hc_3) cw_X6_269 (iv_X6_traced) ⟨rfl, rfl, by decide, by decide⟩ rfl hB rfl rfl (Nat.le_of_ble_eq_true rfl) dX6_tell_48 rfl ?_
          refine jr_aload_n 1 dX6_tell_51 rfl rfl rfl ?_
          refine gf_X6_22 rfl rfl hB dX6_tell_52 rfl ?_
          refine jr_iload_n 2 dX6_tell_55 rfl rfl rfl ?_
          obtain ⟨hb_3, hF⟩ := jck_e hF
          refine jh_iald (ci := 6) (k := 7) rfl hB (by decide) rfl rfl hb_3 dX6_tell_56 rfl ?_
          refine jr_topi (fun x3_2 ex3_2 => ?_)
          have hF := jlet_e hF x3_2 ex3_2
          refine jr_istore_n (L' := [(3, .int x3_2), (2, .int x2_1), (0, .ref (ja E 8 0)), (1, .int a1)]) dX6_tell_57 rfl (by decide) rfl rfl ?_
          refine jr_iload_n 1 dX6_tell_58 rfl rfl rfl ?_
          refine jr_if_ne 66 dX6_tell_59 (by decide) rfl (fun c1 => ?_) (fun c1 => ?_)
          · have hF := jif_n hF c1
            refine jr_iload_n 1 dX6_tell_66 rfl rfl rfl ?_
            refine jr_iconst (v := 1) dX6_tell_67 (by decide) rfl ?_
            refine jr_icmp_ne 78 dX6_tell_68 (by decide) rfl (fun c1 => ?_) (fun c1 => ?_)
            · have hF := jif_n hF c1
              refine jr_iconst (v := 2) dX6_tell_78 (by decide) rfl ?_
              refine jr_iload_n 0 dX6_tell_79 rfl rfl rfl ?_
              refine jr_imul dX6_tell_80 rfl ?_
              refine jr_bipush (v := 100) dX6_tell_81 (by decide) rfl ?_
              refine jr_iadd dX6_tell_83 rfl ?_
              exact jh_iret rfl dX6_tell_84 hF
            · have hF := jif_p hF c1
              refine jr_iload_n 0 dX6_tell_71 rfl rfl rfl ?_
              refine jr_bipush (v := 100) dX6_tell_72 (by decide) rfl ?_
              refine jr_iadd dX6_tell_74 rfl ?_
              refine jr_goto 84 dX6_tell_75 (by decide) ?_
              exact jh_iret rfl dX6_tell_84 hF
          · have hF := jif_p hF c1
            refine jr_iload_n 0 dX6_tell_62 rfl rfl rfl ?_
            refine jr_goto 84 dX6_tell_63 (by decide) ?_
            exact jh_iret rfl dX6_tell_84 hF
      · have hF := jif_n hF c1
        refine jr_aload_n 1 dX6_tell_31 rfl rfl rfl ?_
        refine jr_iconst (v := 2) dX6_tell_32 (by decide) rfl ?_
        obtain ⟨r_4, M_4, hc_4, hF⟩ := jbd_e hF
        refine jh_callV0 (o := 8) (as := [.int 2]) (st := []) (JF_X6_traced hB hc_4) cw_X6_269 (iv_X6_traced) ⟨rfl, rfl, by decide, by decide⟩ rfl hB rfl rfl (Nat.le_of_ble_eq_true rfl) dX6_tell_33 rfl ?_
        refine jr_aload_n 1 dX6_tell_36 rfl rfl rfl ?_
        refine jr_iconst (v := 1) dX6_tell_37 (by decide) rfl ?_
        obtain ⟨r_5, M_5, hc_5, hF⟩ := jbd_e hF
        refine jh_callV0 (o := 8) (as := [.int 1]) (st := []) (JF_X6_traced hB hc_5) cw_X6_269 (iv_X6_traced) ⟨rfl, rfl, by decide, by decide⟩ rfl hB rfl rfl (Nat.le_of_ble_eq_true rfl) dX6_tell_38 rfl ?_
        refine jr_iload_n 0 dX6_tell_41 rfl rfl rfl ?_
        refine jr_iconst (v := 2) dX6_tell_42 (by decide) rfl ?_
        refine jr_icmp_ne 51 dX6_tell_43 (by decide) rfl (fun c1 => ?_) (fun c1 => ?_)
        · have hF := jif_n hF c1
          refine jr_aload_n 1 dX6_tell_51 rfl rfl rfl ?_
          refine gf_X6_22 rfl rfl hB dX6_tell_52 rfl ?_
          refine jr_iload_n 2 dX6_tell_55 rfl rfl rfl ?_
          obtain ⟨hb_4, hF⟩ := jck_e hF
          refine jh_iald (ci := 6) (k := 7) rfl hB (by decide) rfl rfl hb_4 dX6_tell_56 rfl ?_
          refine jr_topi (fun x3_3 ex3_3 => ?_)
          have hF := jlet_e hF x3_3 ex3_3
          refine jr_istore_n (L' := [(3, .int x3_3), (2, .int x2_1), (0, .ref (ja E 8 0)), (1, .int a1)]) dX6_tell_57 rfl (by decide) rfl rfl ?_
          refine jr_iload_n 1 dX6_tell_58 rfl rfl rfl ?_
          refine jr_if_ne 66 dX6_tell_59 (by decide) rfl (fun c1 => ?_) (fun c1 => ?_)
          · have hF := jif_n hF c1
            refine jr_iload_n 1 dX6_tell_66 rfl rfl rfl ?_
            refine jr_iconst (v := 1) dX6_tell_67 (by decide) rfl ?_
            refine jr_icmp_ne 78 dX6_tell_68 (by decide) rfl (fun c1 => ?_) (fun c1 => ?_)
            · have hF := jif_n hF c1
              refine jr_iconst (v := 2) dX6_tell_78 (by decide) rfl ?_
              refine jr_iload_n 0 dX6_tell_79 rfl rfl rfl ?_
              refine jr_imul dX6_tell_80 rfl ?_
              refine jr_bipush (v := 100) dX6_tell_81 (by decide) rfl ?_
              refine jr_iadd dX6_tell_83 rfl ?_
              exact jh_iret rfl dX6_tell_84 hF
            · have hF := jif_p hF c1
              refine jr_iload_n 0 dX6_tell_71 rfl rfl rfl ?_
              refine jr_bipush (v := 100) dX6_tell_72 (by decide) rfl ?_
              refine jr_iadd dX6_tell_74 rfl ?_
              refine jr_goto 84 dX6_tell_75 (by decide) ?_
              exact jh_iret rfl dX6_tell_84 hF
          · have hF := jif_p hF c1
            refine jr_iload_n 0 dX6_tell_62 rfl rfl rfl ?_
            refine jr_goto 84 dX6_tell_63 (by decide) ?_
            exact jh_iret rfl dX6_tell_84 hF
        · have hF := jif_p hF c1
          refine jr_aload_n 1 dX6_tell_46 rfl rfl rfl ?_
          refine jr_iconst (v := 1) dX6_tell_47 (by decide) rfl ?_
          obtain ⟨r_6, M_6, hc_6, hF⟩ := jbd_e hF
          refine jh_callV0 (o := 8) (as := [.int 1]) (st := []) (JF_X6_traced hB hc_6) cw_X6_269 (iv_X6_traced) ⟨rfl, rfl, by decide, by decide⟩ rfl hB rfl rfl (Nat.le_of_ble_eq_true rfl) dX6_tell_48 rfl ?_
          refine jr_aload_n 1 dX6_tell_51 rfl rfl rfl ?_
          refine gf_X6_22 rfl rfl hB dX6_tell_52 rfl ?_
          refine jr_iload_n 2 dX6_tell_55 rfl rfl rfl ?_
          obtain ⟨hb_5, hF⟩ := jck_e hF
          refine jh_iald (ci := 6) (k := 7) rfl hB (by decide) rfl rfl hb_5 dX6_tell_56 rfl ?_
          refine jr_topi (fun x3_4 ex3_4 => ?_)
          have hF := jlet_e hF x3_4 ex3_4
          refine jr_istore_n (L' := [(3, .int x3_4), (2, .int x2_1), (0, .ref (ja E 8 0)), (1, .int a1)]) dX6_tell_57 rfl (by decide) rfl rfl ?_
          refine jr_iload_n 1 dX6_tell_58 rfl rfl rfl ?_
          refine jr_if_ne 66 dX6_tell_59 (by decide) rfl (fun c1 => ?_) (fun c1 => ?_)
          · have hF := jif_n hF c1
            refine jr_iload_n 1 dX6_tell_66 rfl rfl rfl ?_
            refine jr_iconst (v := 1) dX6_tell_67 (by decide) rfl ?_
            refine jr_icmp_ne 78 dX6_tell_68 (by decide) rfl (fun c1 => ?_) (fun c1 => ?_)
            · have hF := jif_n hF c1
              refine jr_iconst (v := 2) dX6_tell_78 (by decide) rfl ?_
              refine jr_iload_n 0 dX6_tell_79 rfl rfl rfl ?_
              refine jr_imul dX6_tell_80 rfl ?_
              refine jr_bipush (v := 100) dX6_tell_81 (by decide) rfl ?_
              refine jr_iadd dX6_tell_83 rfl ?_
              exact jh_iret rfl dX6_tell_84 hF
            · have hF := jif_p hF c1
              refine jr_iload_n 0 dX6_tell_71 rfl rfl rfl ?_
              refine jr_bipush (v := 100) dX6_tell_72 (by decide) rfl ?_
              refine jr_iadd dX6_tell_74 rfl ?_
              refine jr_goto 84 dX6_tell_75 (by decide) ?_
              exact jh_iret rfl dX6_tell_84 hF
          · have hF := jif_p hF c1
            refine jr_iload_n 0 dX6_tell_62 rfl rfl rfl ?_
            refine jr_goto 84 dX6_tell_63 (by decide) ?_
            exact jh_iret rfl dX6_tell_84 hF
    · have hF := jif_p hF c1
      refine jr_aload_n 1 dX6_tell_22 rfl rfl rfl ?_
      refine jr_iconst (v := 3) dX6_tell_23 (by decide) rfl ?_
      obtain ⟨r_7, M_7, hc_7, hF⟩ := jbd_e hF
      refine jh_callV0 (o := 8) (as := [.int 3]) (st := []) (JF_X6_traced hB hc_7) cw_X6_269 (iv_X6_traced) ⟨rfl, rfl, by decide, by decide⟩ rfl hB rfl rfl (Nat.le_of_ble_eq_true rfl) dX6_tell_24 rfl ?_
      refine jr_iload_n 0 dX6_tell_27 rfl rfl rfl ?_
      refine jr_if_le 36 dX6_tell_28 (by decide) rfl (fun c1 => ?_) (fun c1 => ?_)
      · have hF := jif_p hF c1
        refine jr_aload_n 1 dX6_tell_36 rfl rfl rfl ?_
        refine jr_iconst (v := 1) dX6_tell_37 (by decide) rfl ?_
        obtain ⟨r_8, M_8, hc_8, hF⟩ := jbd_e hF
        refine jh_callV0 (o := 8) (as := [.int 1]) (st := []) (JF_X6_traced hB hc_8) cw_X6_269 (iv_X6_traced) ⟨rfl, rfl, by decide, by decide⟩ rfl hB rfl rfl (Nat.le_of_ble_eq_true rfl) dX6_tell_38 rfl ?_
        refine jr_iload_n 0 dX6_tell_41 rfl rfl rfl ?_
        refine jr_iconst (v := 2) dX6_tell_42 (by decide) rfl ?_
        refine jr_icmp_ne 51 dX6_tell_43 (by decide) rfl (fun c1 => ?_) (fun c1 => ?_)
        · have hF := jif_n hF c1
          refine jr_aload_n 1 dX6_tell_51 rfl rfl rfl ?_
          refine gf_X6_22 rfl rfl hB dX6_tell_52 rfl ?_
          refine jr_iload_n 2 dX6_tell_55 rfl rfl rfl ?_
          obtain ⟨hb_6, hF⟩ := jck_e hF
          refine jh_iald (ci := 6) (k := 7) rfl hB (by decide) rfl rfl hb_6 dX6_tell_56 rfl ?_
          refine jr_topi (fun x3_5 ex3_5 => ?_)
          have hF := jlet_e hF x3_5 ex3_5
          refine jr_istore_n (L' := [(3, .int x3_5), (2, .int x2_1), (0, .ref (ja E 8 0)), (1, .int a1)]) dX6_tell_57 rfl (by decide) rfl rfl ?_
          refine jr_iload_n 1 dX6_tell_58 rfl rfl rfl ?_
          refine jr_if_ne 66 dX6_tell_59 (by decide) rfl (fun c1 => ?_) (fun c1 => ?_)
          · have hF := jif_n hF c1
            refine jr_iload_n 1 dX6_tell_66 rfl rfl rfl ?_
            refine jr_iconst (v := 1) dX6_tell_67 (by decide) rfl ?_
            refine jr_icmp_ne 78 dX6_tell_68 (by decide) rfl (fun c1 => ?_) (fun c1 => ?_)
            · have hF := jif_n hF c1
              refine jr_iconst (v := 2) dX6_tell_78 (by decide) rfl ?_
              refine jr_iload_n 0 dX6_tell_79 rfl rfl rfl ?_
              refine jr_imul dX6_tell_80 rfl ?_
              refine jr_bipush (v := 100) dX6_tell_81 (by decide) rfl ?_
              refine jr_iadd dX6_tell_83 rfl ?_
              exact jh_iret rfl dX6_tell_84 hF
            · have hF := jif_p hF c1
              refine jr_iload_n 0 dX6_tell_71 rfl rfl rfl ?_
              refine jr_bipush (v := 100) dX6_tell_72 (by decide) rfl ?_
              refine jr_iadd dX6_tell_74 rfl ?_
              refine jr_goto 84 dX6_tell_75 (by decide) ?_
              exact jh_iret rfl dX6_tell_84 hF
          · have hF := jif_p hF c1
            refine jr_iload_n 0 dX6_tell_62 rfl rfl rfl ?_
            refine jr_goto 84 dX6_tell_63 (by decide) ?_
            exact jh_iret rfl dX6_tell_84 hF
        · have hF := jif_p hF c1
          refine jr_aload_n 1 dX6_tell_46 rfl rfl rfl ?_
          refine jr_iconst (v := 1) dX6_tell_47 (by decide) rfl ?_
          obtain ⟨r_9, M_9, hc_9, hF⟩ := jbd_e hF
          refine jh_callV0 (o := 8) (as := [.int 1]) (st := []) (JF_X6_traced hB hc_9) cw_X6_269 (iv_X6_traced) ⟨rfl, rfl, by decide, by decide⟩ rfl hB rfl rfl (Nat.le_of_ble_eq_true rfl) dX6_tell_48 rfl ?_
          refine jr_aload_n 1 dX6_tell_51 rfl rfl rfl ?_
          refine gf_X6_22 rfl rfl hB dX6_tell_52 rfl ?_
          refine jr_iload_n 2 dX6_tell_55 rfl rfl rfl ?_
          obtain ⟨hb_7, hF⟩ := jck_e hF
          refine jh_iald (ci := 6) (k := 7) rfl hB (by decide) rfl rfl hb_7 dX6_tell_56 rfl ?_
          refine jr_topi (fun x3_6 ex3_6 => ?_)
          have hF := jlet_e hF x3_6 ex3_6
          refine jr_istore_n (L' := [(3, .int x3_6), (2, .int x2_1), (0, .ref (ja E 8 0)), (1, .int a1)]) dX6_tell_57 rfl (by decide) rfl rfl ?_
          refine jr_iload_n 1 dX6_tell_58 rfl rfl rfl ?_
          refine jr_if_ne 66 dX6_tell_59 (by decide) rfl (fun c1 => ?_) (fun c1 => ?_)
          · have hF := jif_n hF c1
            refine jr_iload_n 1 dX6_tell_66 rfl rfl rfl ?_
            refine jr_iconst (v := 1) dX6_tell_67 (by decide) rfl ?_
            refine jr_icmp_ne 78 dX6_tell_68 (by decide) rfl (fun c1 => ?_) (fun c1 => ?_)
            · have hF := jif_n hF c1
              refine jr_iconst (v := 2) dX6_tell_78 (by decide) rfl ?_
              refine jr_iload_n 0 dX6_tell_79 rfl rfl rfl ?_
              refine jr_imul dX6_tell_80 rfl ?_
              refine jr_bipush (v := 100) dX6_tell_81 (by decide) rfl ?_
              refine jr_iadd dX6_tell_83 rfl ?_
              exact jh_iret rfl dX6_tell_84 hF
            · have hF := jif_p hF c1
              refine jr_iload_n 0 dX6_tell_71 rfl rfl rfl ?_
              refine jr_bipush (v := 100) dX6_tell_72 (by decide) rfl ?_
              refine jr_iadd dX6_tell_74 rfl ?_
              refine jr_goto 84 dX6_tell_75 (by decide) ?_
              exact jh_iret rfl dX6_tell_84 hF
          · have hF := jif_p hF c1
            refine jr_iload_n 0 dX6_tell_62 rfl rfl rfl ?_
            refine jr_goto 84 dX6_tell_63 (by decide) ?_
            exact jh_iret rfl dX6_tell_84 hF
      · have hF := jif_n hF c1
        refine jr_aload_n 1 dX6_tell_31 rfl rfl rfl ?_
        refine jr_iconst (v := 2) dX6_tell_32 (by decide) rfl ?_
        obtain ⟨r_10, M_10, hc_10, hF⟩ := jbd_e hF
        refine jh_callV0 (o := 8) (as := [.int 2]) (st := []) (JF_X6_traced hB hc_10) cw_X6_269 (iv_X6_traced) ⟨rfl, rfl, by decide, by decide⟩ rfl hB rfl rfl (Nat.le_of_ble_eq_true rfl) dX6_tell_33 rfl ?_
        refine jr_aload_n 1 dX6_tell_36 rfl rfl rfl ?_
        refine jr_iconst (v := 1) dX6_tell_37 (by decide) rfl ?_
        obtain ⟨r_11, M_11, hc_11, hF⟩ := jbd_e hF
        refine jh_callV0 (o := 8) (as := [.int 1]) (st := []) (JF_X6_traced hB hc_11) cw_X6_269 (iv_X6_traced) ⟨rfl, rfl, by decide, by decide⟩ rfl hB rfl rfl (Nat.le_of_ble_eq_true rfl) dX6_tell_38 rfl ?_
        refine jr_iload_n 0 dX6_tell_41 rfl rfl rfl ?_
        refine jr_iconst (v := 2) dX6_tell_42 (by decide) rfl ?_
        refine jr_icmp_ne 51 dX6_tell_43 (by decide) rfl (fun c1 => ?_) (fun c1 => ?_)
        · have hF := jif_n hF c1
          refine jr_aload_n 1 dX6_tell_51 rfl rfl rfl ?_
          refine gf_X6_22 rfl rfl hB dX6_tell_52 rfl ?_
          refine jr_iload_n 2 dX6_tell_55 rfl rfl rfl ?_
          obtain ⟨hb_8, hF⟩ := jck_e hF
          refine jh_iald (ci := 6) (k := 7) rfl hB (by decide) rfl rfl hb_8 dX6_tell_56 rfl ?_
          refine jr_topi (fun x3_7 ex3_7 => ?_)
          have hF := jlet_e hF x3_7 ex3_7
          refine jr_istore_n (L' := [(3, .int x3_7), (2, .int x2_1), (0, .ref (ja E 8 0)), (1, .int a1)]) dX6_tell_57 rfl (by decide) rfl rfl ?_
          refine jr_iload_n 1 dX6_tell_58 rfl rfl rfl ?_
          refine jr_if_ne 66 dX6_tell_59 (by decide) rfl (fun c1 => ?_) (fun c1 => ?_)
          · have hF := jif_n hF c1
            refine jr_iload_n 1 dX6_tell_66 rfl rfl rfl ?_
            refine jr_iconst (v := 1) dX6_tell_67 (by decide) rfl ?_
            refine jr_icmp_ne 78 dX6_tell_68 (by decide) rfl (fun c1 => ?_) (fun c1 => ?_)
            · have hF := jif_n hF c1
              refine jr_iconst (v := 2) dX6_tell_78 (by decide) rfl ?_
              refine jr_iload_n 0 dX6_tell_79 rfl rfl rfl ?_
              refine jr_imul dX6_tell_80 rfl ?_
              refine jr_bipush (v := 100) dX6_tell_81 (by decide) rfl ?_
              refine jr_iadd dX6_tell_83 rfl ?_
              exact jh_iret rfl dX6_tell_84 hF
            · have hF := jif_p hF c1
              refine jr_iload_n 0 dX6_tell_71 rfl rfl rfl ?_
              refine jr_bipush (v := 100) dX6_tell_72 (by decide) rfl ?_
              refine jr_iadd dX6_tell_74 rfl ?_
              refine jr_goto 84 dX6_tell_75 (by decide) ?_
              exact jh_iret rfl dX6_tell_84 hF
          · have hF := jif_p hF c1
            refine jr_iload_n 0 dX6_tell_62 rfl rfl rfl ?_
            refine jr_goto 84 dX6_tell_63 (by decide) ?_
            exact jh_iret rfl dX6_tell_84 hF
        · have hF := jif_p hF c1
          refine jr_aload_n 1 dX6_tell_46 rfl rfl rfl ?_
          refine jr_iconst (v := 1) dX6_tell_47 (by decide) rfl ?_
          obtain ⟨r_12, M_12, hc_12, hF⟩ := jbd_e hF
          refine jh_callV0 (o := 8) (as := [.int 1]) (st := []) (JF_X6_traced hB hc_12) cw_X6_269 (iv_X6_traced) ⟨rfl, rfl, by decide, by decide⟩ rfl hB rfl rfl (Nat.le_of_ble_eq_true rfl) dX6_tell_48 rfl ?_
          refine jr_aload_n 1 dX6_tell_51 rfl rfl rfl ?_
          refine gf_X6_22 rfl rfl hB dX6_tell_52 rfl ?_
          refine jr_iload_n 2 dX6_tell_55 rfl rfl rfl ?_
          obtain ⟨hb_9, hF⟩ := jck_e hF
          refine jh_iald (ci := 6) (k := 7) rfl hB (by decide) rfl rfl hb_9 dX6_tell_56 rfl ?_
          refine jr_topi (fun x3_8 ex3_8 => ?_)
          have hF := jlet_e hF x3_8 ex3_8
          refine jr_istore_n (L' := [(3, .int x3_8), (2, .int x2_1), (0, .ref (ja E 8 0)), (1, .int a1)]) dX6_tell_57 rfl (by decide) rfl rfl ?_
          refine jr_iload_n 1 dX6_tell_58 rfl rfl rfl ?_
          refine jr_if_ne 66 dX6_tell_59 (by decide) rfl (fun c1 => ?_) (fun c1 => ?_)
          · have hF := jif_n hF c1
            refine jr_iload_n 1 dX6_tell_66 rfl rfl rfl ?_
            refine jr_iconst (v := 1) dX6_tell_67 (by decide) rfl ?_
            refine jr_icmp_ne 78 dX6_tell_68 (by decide) rfl (fun c1 => ?_) (fun c1 => ?_)
            · have hF := jif_n hF c1
              refine jr_iconst (v := 2) dX6_tell_78 (by decide) rfl ?_
              refine jr_iload_n 0 dX6_tell_79 rfl rfl rfl ?_
              refine jr_imul dX6_tell_80 rfl ?_
              refine jr_bipush (v := 100) dX6_tell_81 (by decide) rfl ?_
              refine jr_iadd dX6_tell_83 rfl ?_
              exact jh_iret rfl dX6_tell_84 hF
            · have hF := jif_p hF c1
              refine jr_iload_n 0 dX6_tell_71 rfl rfl rfl ?_
              refine jr_bipush (v := 100) dX6_tell_72 (by decide) rfl ?_
              refine jr_iadd dX6_tell_74 rfl ?_
              refine jr_goto 84 dX6_tell_75 (by decide) ?_
              exact jh_iret rfl dX6_tell_84 hF
          · have hF := jif_p hF c1
            refine jr_iload_n 0 dX6_tell_62 rfl rfl rfl ?_
            refine jr_goto 84 dX6_tell_63 (by decide) ?_
            exact jh_iret rfl dX6_tell_84 hF
  · have hF := jif_n hF c1
    refine jr_iconst (v := (-1)) dX6_tell_8 (by decide) rfl ?_
    exact jh_iret rfl dX6_tell_9 hF
set_option maxHeartbeats 4000000 in
set_option maxRecDepth 100000 in
theorem JF_X6_rouse {E : jx_E} (hB : jB E 8) {a1 : Int32} {M : jx_M} {r : Int32} {M' : jx_M} (hF : F_X6_rouse a1 M = some (r, M')) : jC E yX6_rouse cX6_rouse 2 (some FieldType.int) rm_X6_rouse [.ref (ja E 8 0), .int a1] M (fun x M'' => x = some (.int r) ∧ M'' = M') := by
  refine jC.ofJ (L := [(0, .ref (ja E 8 0)), (1, .int a1)]) (by decide +kernel) (Nat.le_of_ble_eq_true rfl) rfl ?_
  unfold F_X6_rouse at hF
  refine jr_aload_n 0 dX6_rouse_0 rfl rfl rfl ?_
  refine jr_iload_n 1 dX6_rouse_1 rfl rfl rfl ?_
  obtain ⟨r_1, M_1, hc_1, hF⟩ := jbd_e hF
  refine jh_callV1 (v := .int r_1) (o := 8) (as := [.int a1]) (st := []) (JF_X6_noPerson hB hc_1) cw_X6_176 (iv_X6_noPerson) ⟨rfl, rfl, by decide, by decide⟩ rfl hB rfl rfl (Nat.le_of_ble_eq_true rfl) dX6_rouse_2 rfl ?_
  refine jr_if_eq 10 dX6_rouse_5 (by decide) rfl (fun c1 => ?_) (fun c1 => ?_)
  · have hF := jif_p hF c1
    refine jr_aload_n 0 dX6_rouse_10 rfl rfl rfl ?_
    refine jr_aload_n 0 dX6_rouse_11 rfl rfl rfl ?_
    refine gf_X6_7 rfl rfl hB dX6_rouse_12 rfl ?_
    refine jr_iload_n 1 dX6_rouse_15 rfl rfl rfl ?_
    obtain ⟨hb_1, hF⟩ := jck_e hF
    refine jh_iald (ci := 6) (k := 3) rfl hB (by decide) rfl rfl hb_1 dX6_rouse_16 rfl ?_
    refine jr_iconst (v := 2) dX6_rouse_17 (by decide) rfl ?_
    refine jr_icmp_ne 25 dX6_rouse_18 (by decide) rfl (fun c1 => ?_) (fun c1 => ?_)
    · have hF := jif_n hF c1
      refine jr_iconst (v := 4) dX6_rouse_25 (by decide) rfl ?_
      obtain ⟨r_2, M_2, hc_2, hF⟩ := jbd_e hF
      refine jh_callV0 (o := 8) (as := [.int 4]) (st := []) (JF_X6_traced hB hc_2) cw_X6_269 (iv_X6_traced) ⟨rfl, rfl, by decide, by decide⟩ rfl hB rfl rfl (Nat.le_of_ble_eq_true rfl) dX6_rouse_26 rfl ?_
      refine jr_aload_n 0 dX6_rouse_29 rfl rfl rfl ?_
      refine gf_X6_7 rfl rfl hB dX6_rouse_30 rfl ?_
      refine jr_iload_n 1 dX6_rouse_33 rfl rfl rfl ?_
      obtain ⟨hb_2, hF⟩ := jck_e hF
      refine jh_iald (ci := 6) (k := 3) rfl hB (by decide) rfl rfl hb_2 dX6_rouse_34 rfl ?_
      refine jr_iconst (v := 2) dX6_rouse_35 (by decide) rfl ?_
      refine jr_icmp_ne 44 dX6_rouse_36 (by decide) rfl (fun c1 => ?_) (fun c1 => ?_)
      · have hF := jif_n hF c1
        refine jr_iload_n 1 dX6_rouse_44 rfl rfl rfl ?_
        exact jh_iret rfl dX6_rouse_45 hF
      · have hF := jif_p hF c1
        refine jr_bipush (v := 70) dX6_rouse_39 (by decide) rfl ?_
        refine jr_goto 45 dX6_rouse_41 (by decide) ?_
        exact jh_iret rfl dX6_rouse_45 hF
    · have hF := jif_p hF c1
      refine jr_iconst (v := 5) dX6_rouse_21 (by decide) rfl ?_
      refine jr_goto 26 dX6_rouse_22 (by decide) ?_
      obtain ⟨r_3, M_3, hc_3, hF⟩ := jbd_e hF
      refine jh_callV0 (o := 8) (as := [.int 5]) (st := []) (JF_X6_traced hB hc_3) cw_X6_269 (iv_X6_traced) ⟨rfl, rfl, by decide, by decide⟩ rfl hB rfl rfl (Nat.le_of_ble_eq_true rfl) dX6_rouse_26 rfl ?_
      refine jr_aload_n 0 dX6_rouse_29 rfl rfl rfl ?_
      refine gf_X6_7 rfl rfl hB dX6_rouse_30 rfl ?_
      refine jr_iload_n 1 dX6_rouse_33 rfl rfl rfl ?_
      obtain ⟨hb_3, hF⟩ := jck_e hF
      refine jh_iald (ci := 6) (k := 3) rfl hB (by decide) rfl rfl hb_3 dX6_rouse_34 rfl ?_
      refine jr_iconst (v := 2) dX6_rouse_35 (by decide) rfl ?_
      refine jr_icmp_ne 44 dX6_rouse_36 (by decide) rfl (fun c1 => ?_) (fun c1 => ?_)
      · have hF := jif_n hF c1
        refine jr_iload_n 1 dX6_rouse_44 rfl rfl rfl ?_
        exact jh_iret rfl dX6_rouse_45 hF
      · have hF := jif_p hF c1
        refine jr_bipush (v := 70) dX6_rouse_39 (by decide) rfl ?_
        refine jr_goto 45 dX6_rouse_41 (by decide) ?_
        exact jh_iret rfl dX6_rouse_45 hF
  · have hF := jif_n hF c1
    refine jr_iconst (v := (-1)) dX6_rouse_8 (by decide) rfl ?_
    exact jh_iret rfl dX6_rouse_9 hF
set_option maxHeartbeats 4000000 in
set_option maxRecDepth 100000 in
theorem JF_X6_as {E : jx_E} (hB : jB E 8) {a1 : Int32} {a2 : Int32} {M : jx_M} {r : Int32} {M' : jx_M} (hF : F_X6_as a1 a2 M = some (r, M')) : jC E yX6_as cX6_as 3 (some FieldType.int) rm_X6_as [.ref (ja E 8 0), .int a1, .int a2] M (fun x M'' => x = some (.int r) ∧ M'' = M') := by
  refine jC.ofJ (L := [(0, .ref (ja E 8 0)), (1, .int a1), (2, .int a2)]) (by decide +kernel) (Nat.le_of_ble_eq_true rfl) rfl ?_
  unfold F_X6_as at hF
  refine jr_aload_n 0 dX6_as_0 rfl rfl rfl ?_
  refine jr_iload_n 1 dX6_as_1 rfl rfl rfl ?_
  obtain ⟨r_1, M_1, hc_1, hF⟩ := jbd_e hF
  refine jh_callV1 (v := .int r_1) (o := 8) (as := [.int a1]) (st := []) (JF_X6_noPerson hB hc_1) cw_X6_176 (iv_X6_noPerson) ⟨rfl, rfl, by decide, by decide⟩ rfl hB rfl rfl (Nat.le_of_ble_eq_true rfl) dX6_as_2 rfl ?_
  refine jr_if_eq 14 dX6_as_5 (by decide) rfl (fun c1 => ?_) (fun c1 => ?_)
  · have hF := jif_p hF c1
    refine jr_iload_n 2 dX6_as_14 rfl rfl rfl ?_
    refine jr_i2l dX6_as_15 rfl ?_
    refine jr_lconst (v := 0) dX6_as_16 (by decide) rfl ?_
    refine jr_ldc2 (v := 2) dX6_as_17 (List.mem_cons_of_mem _ (lw_g_of 802 (by decide +kernel) (by decide +kernel))) rfl ?_
    obtain ⟨r_2, M_2, hc_2, hF⟩ := jbd_e hF
    refine jh_callS1 (v := .int r_2) (as := [.long a2.toInt64, .long 0, .long 2]) (st := []) (JF_X6_in hB hc_2) cw_X6_110 (iv_X6_in) ⟨rfl, rfl, by decide, by decide⟩ rfl rfl (Nat.le_of_ble_eq_true rfl) dX6_as_20 rfl ?_
    refine jr_if_ne 33 dX6_as_23 (by decide) rfl (fun c1 => ?_) (fun c1 => ?_)
    · have hF := jif_n hF c1
      refine jr_aload_n 0 dX6_as_33 rfl rfl rfl ?_
      refine gf_X6_7 rfl rfl hB dX6_as_34 rfl ?_
      refine jr_iload_n 1 dX6_as_37 rfl rfl rfl ?_
      obtain ⟨hb_1, hF⟩ := jck_e hF
      refine jh_iald (ci := 6) (k := 3) rfl hB (by decide) rfl rfl hb_1 dX6_as_38 rfl ?_
      refine jr_iload_n 2 dX6_as_39 rfl rfl rfl ?_
      refine jr_icmp_lt 51 dX6_as_40 (by decide) rfl (fun c1 => ?_) (fun c1 => ?_)
      · have hF := jif_p hF c1
        refine jr_aload_n 0 dX6_as_51 rfl rfl rfl ?_
        refine jr_iconst (v := 2) dX6_as_52 (by decide) rfl ?_
        obtain ⟨r_3, M_3, hc_3, hF⟩ := jbd_e hF
        refine jh_callV1 (v := .int r_3) (o := 8) (as := [.int 2]) (st := []) (JF_X6_failed hB hc_3) cw_X6_140 (iv_X6_failed) ⟨rfl, rfl, by decide, by decide⟩ rfl hB rfl rfl (Nat.le_of_ble_eq_true rfl) dX6_as_53 rfl ?_
        exact jh_iret rfl dX6_as_56 hF
      · have hF := jif_n hF c1
        refine jr_aload_n 0 dX6_as_43 rfl rfl rfl ?_
        refine jr_iconst (v := 1) dX6_as_44 (by decide) rfl ?_
        obtain ⟨r_4, M_4, hc_4, hF⟩ := jbd_e hF
        refine jh_callV1 (v := .int r_4) (o := 8) (as := [.int 1]) (st := []) (JF_X6_refused hB hc_4) cw_X6_152 (iv_X6_refused) ⟨rfl, rfl, by decide, by decide⟩ rfl hB rfl rfl (Nat.le_of_ble_eq_true rfl) dX6_as_45 rfl ?_
        refine jr_goto 56 dX6_as_48 (by decide) ?_
        exact jh_iret rfl dX6_as_56 hF
    · have hF := jif_p hF c1
      refine jr_aload_n 0 dX6_as_26 rfl rfl rfl ?_
      refine jr_bipush (v := (-2)) dX6_as_27 (by decide) rfl ?_
      obtain ⟨r_5, M_5, hc_5, hF⟩ := jbd_e hF
      refine jh_callV1 (v := .int r_5) (o := 8) (as := [.int (-2)]) (st := []) (JF_X6_refused hB hc_5) cw_X6_152 (iv_X6_refused) ⟨rfl, rfl, by decide, by decide⟩ rfl hB rfl rfl (Nat.le_of_ble_eq_true rfl) dX6_as_29 rfl ?_
      exact jh_iret rfl dX6_as_32 hF
  · have hF := jif_n hF c1
    refine jr_aload_n 0 dX6_as_8 rfl rfl rfl ?_
    refine jr_iconst (v := (-1)) dX6_as_9 (by decide) rfl ?_
    obtain ⟨r_6, M_6, hc_6, hF⟩ := jbd_e hF
    refine jh_callV1 (v := .int r_6) (o := 8) (as := [.int (-1)]) (st := []) (JF_X6_refused hB hc_6) cw_X6_152 (iv_X6_refused) ⟨rfl, rfl, by decide, by decide⟩ rfl hB rfl rfl (Nat.le_of_ble_eq_true rfl) dX6_as_10 rfl ?_
    exact jh_iret rfl dX6_as_13 hF
set_option maxHeartbeats 4000000 in
set_option maxRecDepth 100000 in
theorem JF_X6_trace {E : jx_E} (hB : jB E 8) {M : jx_M} {r : Int32} {M' : jx_M} (hF : F_X6_trace  M = some (r, M')) : jC E yX6_trace cX6_trace 1 (some FieldType.int) rm_X6_trace [.ref (ja E 8 0)] M (fun x M'' => x = some (.int r) ∧ M'' = M') := by
  refine jC.ofJ (L := [(0, .ref (ja E 8 0))]) (by decide +kernel) (Nat.le_of_ble_eq_true rfl) rfl ?_
  unfold F_X6_trace at hF
  refine jr_aload_n 0 dX6_trace_0 rfl rfl rfl ?_
  refine gf_X6_266 rfl rfl hB dX6_trace_1 rfl ?_
  exact jh_iret rfl dX6_trace_4 hF
set_option maxHeartbeats 4000000 in
set_option maxRecDepth 100000 in
theorem JF_X6_fault {E : jx_E} (hB : jB E 8) {M : jx_M} {r : Int32} {M' : jx_M} (hF : F_X6_fault  M = some (r, M')) : jC E yX6_fault cX6_fault 1 (some FieldType.int) rm_X6_fault [.ref (ja E 8 0)] M (fun x M'' => x = some (.int r) ∧ M'' = M') := by
  refine jC.ofJ (L := [(0, .ref (ja E 8 0))]) (by decide +kernel) (Nat.le_of_ble_eq_true rfl) rfl ?_
  unfold F_X6_fault at hF
  refine jr_aload_n 0 dX6_fault_0 rfl rfl rfl ?_
  refine gf_X6_99 rfl rfl hB dX6_fault_1 rfl ?_
  exact jh_iret rfl dX6_fault_4 hF
set_option maxHeartbeats 4000000 in
set_option maxRecDepth 100000 in
theorem JF_X6_many {E : jx_E} (hB : jB E 8) {a1 : Int32} {M : jx_M} {r : Int32} {M' : jx_M} (hF : F_X6_many a1 M = some (r, M')) : jC E yX6_many cX6_many 2 (some FieldType.int) rm_X6_many [.ref (ja E 8 0), .int a1] M (fun x M'' => x = some (.int r) ∧ M'' = M') := by
  refine jC.ofJ (L := [(0, .ref (ja E 8 0)), (1, .int a1)]) (by decide +kernel) (Nat.le_of_ble_eq_true rfl) rfl ?_
  unfold F_X6_many at hF
  refine jr_iload_n 1 dX6_many_0 rfl rfl rfl ?_
  by_cases s0 : a1 = 0
  · have hF := jif_p hF s0
    refine jr_tabIn (v := 0) (off := 35) 36 dX6_many_1 s0 (by decide) (by decide) ?_
    refine jr_aload_n 0 dX6_many_36 rfl rfl rfl ?_
    refine gf_X6_107 rfl rfl hB dX6_many_37 rfl ?_
    exact jh_iret rfl dX6_many_40 hF
  · have hF := jif_n hF s0
    by_cases s1 : a1 = 1
    · have hF := jif_p hF s1
      refine jr_tabIn (v := 1) (off := 40) 41 dX6_many_1 s1 (by decide) (by decide) ?_
      refine jr_aload_n 0 dX6_many_41 rfl rfl rfl ?_
      refine gf_X6_114 rfl rfl hB dX6_many_42 rfl ?_
      exact jh_iret rfl dX6_many_45 hF
    · have hF := jif_n hF s1
      by_cases s2 : a1 = 2
      · have hF := jif_p hF s2
        refine jr_tabIn (v := 2) (off := 45) 46 dX6_many_1 s2 (by decide) (by decide) ?_
        refine jr_aload_n 0 dX6_many_46 rfl rfl rfl ?_
        refine gf_X6_170 rfl rfl hB dX6_many_47 rfl ?_
        exact jh_iret rfl dX6_many_50 hF
      · have hF := jif_n hF s2
        by_cases s3 : a1 = 3
        · have hF := jif_p hF s3
          refine jr_tabIn (v := 3) (off := 50) 51 dX6_many_1 s3 (by decide) (by decide) ?_
          refine jr_aload_n 0 dX6_many_51 rfl rfl rfl ?_
          refine gf_X6_173 rfl rfl hB dX6_many_52 rfl ?_
          exact jh_iret rfl dX6_many_55 hF
        · have hF := jif_n hF s3
          by_cases s4 : a1 = 4
          · have hF := jif_p hF s4
            refine jr_tabIn (v := 4) (off := 55) 56 dX6_many_1 s4 (by decide) (by decide) ?_
            refine jr_aload_n 0 dX6_many_56 rfl rfl rfl ?_
            refine gf_X6_167 rfl rfl hB dX6_many_57 rfl ?_
            exact jh_iret rfl dX6_many_60 hF
          · have hF := jif_n hF s4
            refine jr_tabOut 4 61 dX6_many_1 (by decide) (fun j hj => ?_) (by decide) ?_
            · rcases (show j = 0 ∨ j = 1 ∨ j = 2 ∨ j = 3 ∨ j = 4 by omega) with rfl | rfl | rfl | rfl | rfl
              · exact s0
              · exact s1
              · exact s2
              · exact s3
              · exact s4
            refine jr_bipush (v := (-2)) dX6_many_61 (by decide) rfl ?_
            exact jh_iret rfl dX6_many_63 hF
